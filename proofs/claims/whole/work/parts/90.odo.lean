/-! PARTS: the model goes through all ways, one behind the other. -/
section ODO
variable {U : Nat → Nat → Prop} {u : Nat → Nat} {K : Nat}
def mxc (c : Nat → Nat) : Nat → Nat
  | 0 => 0
  | L + 1 => max (mxc c L) (c L + 1)
theorem mxc_lt {c : Nat → Nat} : ∀ {L j : Nat}, j < L → c j < mxc c L
  | 0, j, h => absurd h (by omega)
  | L + 1, j, h => by
    rw [mxc]
    by_cases q : j = L
    · rw [q]; omega
    · have := mxc_lt (c := c) (L := L) (j := j) (by omega)
      omega
theorem mxc_le {c : Nat → Nat} {B : Nat} : ∀ {L : Nat}, (∀ j, j < L → c j < B) → mxc c L ≤ B
  | 0, _ => Nat.zero_le _
  | L + 1, h => by
    rw [mxc]
    have := mxc_le (c := c) (B := B) (L := L) (fun j hj => h j (by omega))
    have := h L (by omega)
    omega
theorem mx_m {t : MM} (hM : SM t) {c : Nat → Nat} {L : Nat} (hL : L ≤ 16) (hc : ∀ j, j < L → gN t 130 0 j = c j ∧ c j < 16) (a : Int) : lpb (fun s : Int × Int => b_X12_canPart_42 t 0 a (L : Int) s.1 s.2) (-1, 0) = some ((mxc c L : Int) - 1) := by
  have key : ∀ d p, L - p = d → p ≤ L → lpb (fun s : Int × Int => b_X12_canPart_42 t 0 a (L : Int) s.1 s.2) ((mxc c p : Int) - 1, (p : Int)) = some ((mxc c L : Int) - 1) := by
    intro d
    induction d with
    | zero =>
      intro p hd hp
      obtain rfl : p = L := by omega
      rw [lpb_eq]
      simp only
      unfold b_X12_canPart_42
      rw [if_pos (Int.le_refl _), Option.bind_some, Sum.elim_inr]
    | succ d ih =>
      intro p hd hp
      obtain ⟨h1, h2⟩ := hc p (by omega)
      have h3 := mxc_le (c := c) (B := 16) (L := p) (fun j hj => (hc j (by omega)).2)
      have ep : ((p + 1 : Nat) : Int) = (p : Int) + 1 := by omega
      have z := ih (p + 1) (by omega) (by omega)
      rw [lpb_eq]
      simp only
      unfold b_X12_canPart_42
      rw [if_neg (show ¬ (L : Int) ≤ (p : Int) by omega), nk_of hM.r81, ldN_of hM.z130 (by omega), tnc, h1]
      by_cases q : (c p : Int) ≤ (mxc c p : Int) - 1
      · rw [if_pos q, ck_of ⟨by omega, by omega⟩, Option.bind_some, Sum.elim_inl]
        rw [show mxc c (p + 1) = mxc c p from by rw [mxc]; omega, ep] at z
        exact z
      · rw [if_neg q, nk_of hM.r81, ldN_of hM.z130 (by omega), tnc, h1, ck_of ⟨by omega, by omega⟩, Option.bind_some, Sum.elim_inl]
        rw [show ((mxc c (p + 1) : Nat) : Int) - 1 = (c p : Int) by rw [mxc]; omega, ep] at z
        exact z
  have := key _ 0 rfl (by omega)
  exact this
theorem chk_m {t : MM} (hM : SM t) (hu : UR U u K) {c : Nat → Nat} {L x : Nat} (hL : L < K) (hw : gN t 129 0 L = u L) (hc : ∀ j, j < L → gN t 130 0 j = c j) (hx : gN t 130 0 L = x) (a : Int) {s0 : Int} (h0 : s0 = 0 ∨ s0 = 1) :
    ∃ r, lpb (fun s : Int × Int => b_X12_canPart_123 t 0 a (L : Int) s0 s.1 s.2) (s0, 0) = some r ∧ (r = 0 ∨ r = 1) ∧ (r = 1 ↔ s0 = 1 ∧ ∀ j, j < L → U L j → c j ≠ x) := by
  have hk := hu.k
  have hul := hu.b L hL
  have run : Ev (lpb (fun s : Int × Int => b_X12_canPart_123 t 0 a (L : Int) s0 s.1 s.2) (s0, 0)) (fun r => (r = 0 ∨ r = 1) ∧ (r = 1 ↔ s0 = 1 ∧ ∀ j, j < L → U L j → c j ≠ x)) := by
    refine lpb_run (Φ := fun r : Int => (r = 0 ∨ r = 1) ∧ (r = 1 ↔ s0 = 1 ∧ ∀ j, j < L → U L j → c j ≠ x)) (fun s : Int × Int => ∃ (r : Int) (p : Nat), s = (r, (p : Int)) ∧ p ≤ L ∧ (r = 0 ∨ r = 1) ∧ (r = 1 ↔ s0 = 1 ∧ ∀ j, j < p → U L j → c j ≠ x)) (fun s => L - s.2.toNat) ?_ _ ⟨s0, 0, rfl, by omega, h0, ⟨fun h => ⟨h, fun j hj => absurd hj (by omega)⟩, fun h => h.1⟩⟩
    rintro _ ⟨r, p, rfl, hp, hr, hr1⟩
    unfold b_X12_canPart_123
    simp only
    by_cases hpL : p = L
    · rw [if_pos (show (L : Int) ≤ (p : Int) by omega)]
      rw [hpL] at hr1
      exact ⟨_, rfl, hr, hr1⟩
    · have hpl : p < L := by omega
      rw [if_neg (show ¬ (L : Int) ≤ (p : Int) by omega)]
      have hdec : L - ((p : Int) + 1).toNat < L - (p : Int).toNat := by omega
      have ep : ((p + 1 : Nat) : Int) = (p : Int) + 1 := by omega
      by_cases q0 : r = 0
      · rw [if_pos q0, ck_of ⟨by omega, by omega⟩]
        refine ⟨_, rfl, ⟨0, p + 1, by rw [ep], by omega, Or.inl rfl, ⟨fun h => absurd h (by decide), fun ⟨h1, h2⟩ => ?_⟩⟩, hdec⟩
        have := hr1.mpr ⟨h1, fun j hj => h2 j (by omega)⟩
        omega
      · have hr1' : r = 1 := by omega
        obtain ⟨k1, k2⟩ := hr1.mp hr1'
        rw [if_neg q0, nk_of hM.r80, ldN_of hM.z129 (by omega), tnc, hw, bit16 (by omega) (by omega)]
        by_cases hb : (u L).testBit p = true
        · have hU := (hu.t L p hL).mp hb
          rw [if_pos hb, if_neg (show ¬ (1 : Int) = 0 by decide), nk_of hM.r81, ldN_of hM.z130 (by omega), tnc, hc p hpl, nk_of hM.r81, ldN_of hM.z130 (by omega), tnc, hx]
          by_cases q : (c p : Int) = (x : Int)
          · rw [if_pos q, ck_of ⟨by omega, by omega⟩]
            exact ⟨_, rfl, ⟨0, p + 1, by rw [ep], by omega, Or.inl rfl, ⟨fun h => absurd h (by decide), fun ⟨_, h2⟩ => absurd (show c p = x by omega) (h2 p (by omega) hU)⟩⟩, hdec⟩
          · rw [if_neg q, ck_of ⟨by omega, by omega⟩]
            exact ⟨_, rfl, ⟨1, p + 1, by rw [ep], by omega, Or.inr rfl, ⟨fun _ => ⟨k1, fun j hj hUj => by
              by_cases qj : j = p
              · rw [qj]; omega
              · exact k2 j (by omega) hUj⟩, fun _ => rfl⟩⟩, hdec⟩
        · rw [if_neg hb, if_pos rfl, ck_of ⟨by omega, by omega⟩]
          exact ⟨_, rfl, ⟨1, p + 1, by rw [ep], by omega, Or.inr rfl, ⟨fun _ => ⟨k1, fun j hj hUj => by
            by_cases qj : j = p
            · rw [qj] at hUj
              exact absurd ((hu.t L p hL).mpr hUj) hb
            · exact k2 j (by omega) hUj⟩, fun _ => rfl⟩⟩, hdec⟩
  exact run
abbrev F130 (s s' : MM) : Prop := FrC (fun K i _ => K = 130 ∧ i = 0) s s'
/-- a page finds room from a part on -/
def Gs (U : Nat → Nat → Prop) (K most : Nat) (c : Nat → Nat) (L x : Nat) : Prop := ∃ y, x ≤ y ∧ y ≤ mxc c L ∧ y < most ∧ (∀ j, j < L → c j = y → ¬ U L j) ∧ Qc U (fun _ => True) most K (L + 1) (addP (fun k j => j < L ∧ c j = k) y L)
theorem Gs.zero (hu : UR U u K) {c : Nat → Nat} {L most : Nat} (hL : L < K) : Gs U K most c L 0 ↔ Qc U (fun _ => True) most K L (fun k j => j < L ∧ c j = k) := by
  rw [Qc.step hu.s hu.i trivial hL (used := mxc c L) (fun k j hk hj => by have := mxc_lt (c := c) hj.1; omega)]
  exact ⟨fun ⟨y, _, h2, h3, h4, h5⟩ => ⟨y, h2, h3, fun j hj => h4 j hj.1 hj.2, h5⟩, fun ⟨y, h2, h3, h4, h5⟩ => ⟨y, Nat.zero_le _, h2, h3, fun j h6 h7 => h4 j ⟨h6, h7⟩, h5⟩⟩
theorem odo_m {t0 : MM} (hM0 : SM t0) (hu : UR U u K) (hK : gN t0 12 0 79 = K) (hrow : ∀ p, p < K → gN t0 129 0 p = u p) {most : Nat} (hmost : most ≤ 16) :
    ∀ (a L : Nat) (c : Nat → Nat), K - L = a → L < K → ∀ (b x : Nat) (t : MM), most + 1 - x = b → x ≤ most → F130 t0 t → (∀ j, j < L → gN t 130 0 j = c j ∧ c j < most) → gN t 130 0 L = (x : Int) - 1 → (∀ j, L < j → j < K → gN t 130 0 j = -1) →
      (Gs U K most c L x ∧ ∃ t', lpb (fun s : Int × MM => b_X12_canPart_25 0 (most : Int) s.1 s.2) ((L : Int), t) = some ((K : Int), t') ∧ F130 t0 t') ∨
      (¬ Gs U K most c L x ∧ ∃ t', lpb (fun s : Int × MM => b_X12_canPart_25 0 (most : Int) s.1 s.2) ((L : Int), t) = lpb (fun s : Int × MM => b_X12_canPart_25 0 (most : Int) s.1 s.2) ((L : Int) + (-1), t') ∧ F130 t0 t' ∧ (∀ j, j < L → gN t' 130 0 j = c j) ∧ ∀ j, L ≤ j → j < K → gN t' 130 0 j = -1) := by
  have hk := hu.k
  intro a
  induction a with
  | zero => intro L c h1 h2; omega
  | succ a iha =>
    intro L c ha hL b
    induction b with
    | zero => intro x t h1 h2; omega
    | succ b ihb =>
      intro x t hb hx hF hc hv hrest
      have hM : SM t := hF.SM hM0 (fun s q => by have := q.1; omega)
      have t79 : gN t 12 0 79 = K := by rw [(hF.1 12 0 79 (fun q => absurd q.1 (by decide))).1, hK]
      have ewalk : lpb (fun s : Int × MM => b_X12_canPart_25 0 (most : Int) s.1 s.2) ((L : Int), t) = (j_X12_canPart_25_77 t 0 (most : Int) (L : Int) ((mxc c L : Int) - 1)).bind (Sum.elim (lpb (fun s : Int × MM => b_X12_canPart_25 0 (most : Int) s.1 s.2)) some) := by
        rw [lpb_eq]
        simp only
        rw [show b_X12_canPart_25 0 (most : Int) (L : Int) t = j_X12_canPart_25_77 t 0 (most : Int) (L : Int) ((mxc c L : Int) - 1) from by
          unfold b_X12_canPart_25
          rw [if_neg (show ¬ (L : Int) < 0 by omega), t79, if_neg (show ¬ (K : Int) ≤ (L : Int) by omega), mx_m hM (by omega) (fun j hj => ⟨(hc j hj).1, by have := (hc j hj).2; omega⟩), Option.bind_some]]
      have hmx := mxc_le (c := c) (B := most) (L := L) (fun j hj => (hc j hj).2)
      -- the next part is tried
      have hM9 : SM (sN t 130 0 L (x : Int)) := hM.mv (fun _ => rfl) (fun _ _ _ q => q)
      have hF9 : F130 t0 (sN t 130 0 L (x : Int)) := hF.sN ⟨rfl, rfl⟩
      have v9 : gN (sN t 130 0 L (x : Int)) 130 0 L = x := by rw [gN_sN, if_pos ⟨rfl, rfl, rfl⟩]
      have c9 : ∀ j, j < L → gN (sN t 130 0 L (x : Int)) 130 0 j = c j := fun j hj => by rw [gN_sN, if_neg (by omega)]; exact (hc j hj).1
      have r9 : ∀ j, L < j → j < K → gN (sN t 130 0 L (x : Int)) 130 0 j = -1 := fun j h1 h2 => by rw [gN_sN, if_neg (by omega)]; exact hrest j h1 h2
      have w9 : gN (sN t 130 0 L (x : Int)) 129 0 L = u L := by rw [(hF9.1 129 0 L (fun q => absurd q.1 (by decide))).1]; exact hrow L hL
      have e114 : ∀ s0 : Int, (s0 = 0 ∨ s0 = 1) → ∃ r, j_X12_canPart_25_114 (sN t 130 0 L (x : Int)) 0 (most : Int) (L : Int) s0 = j_X12_canPart_25_177 (sN t 130 0 L (x : Int)) 0 (most : Int) (L : Int) s0 r ∧ (r = 0 ∨ r = 1) ∧ (r = 1 ↔ s0 = 1 ∧ ∀ j, j < L → U L j → c j ≠ x) := fun s0 h0 => by
        obtain ⟨r, e1, e2, e3⟩ := chk_m hM9 hu hL w9 c9 v9 (most : Int) h0
        refine ⟨r, ?_, e2, e3⟩
        unfold j_X12_canPart_25_114
        rw [e1, Option.bind_some]
      have e77 : j_X12_canPart_25_77 t 0 (most : Int) (L : Int) ((mxc c L : Int) - 1) = if x < most ∧ x ≤ mxc c L then j_X12_canPart_25_114 (sN t 130 0 L (x : Int)) 0 (most : Int) (L : Int) 1 else j_X12_canPart_25_114 (sN t 130 0 L (x : Int)) 0 (most : Int) (L : Int) 0 := by
        unfold j_X12_canPart_25_77 j_X12_canPart_25_113
        rw [nk_of hM.r81, ldN_of hM.z130 (by omega), tnc, hv, ck_of ⟨by omega, by omega⟩, show (x : Int) - 1 + 1 = (x : Int) by omega, stN_of hM.z130 (by omega), tnc, nk_of hM9.r81, ldN_of hM9.z130 (by omega), tnc, v9]
        by_cases q1 : (most : Int) ≤ (x : Int)
        · rw [if_pos q1, if_neg (by omega)]
        · rw [if_neg q1, nk_of hM9.r81, ldN_of hM9.z130 (by omega), tnc, v9, ck_of ⟨by omega, by omega⟩]
          by_cases q2 : (mxc c L : Int) - 1 + 1 < (x : Int)
          · rw [if_pos q2, if_neg (by omega)]
          · rw [if_neg q2, if_pos (by omega)]
      rw [ewalk, e77]
      by_cases hin : x < most ∧ x ≤ mxc c L
      · rw [if_pos hin]
        obtain ⟨r, e1, e2, e3⟩ := e114 1 (Or.inr rfl)
        rw [e1]
        unfold j_X12_canPart_25_177
        rw [if_pos (show ¬ (1 : Int) = 0 by decide)]
        by_cases hr : r = 0
        · -- a page that is unlike lies there
          rw [if_pos hr, Option.bind_some, Sum.elim_inl]
          have hno : ¬ ∀ j, j < L → U L j → c j ≠ x := fun h => by have := e3.mpr ⟨rfl, h⟩; omega
          have hG : Gs U K most c L x ↔ Gs U K most c L (x + 1) := ⟨fun ⟨y, h1, h2, h3, h4, h5⟩ => ⟨y, by
            by_cases q : y = x
            · rw [q] at h4
              exact absurd (fun j hj hU hcj => h4 j hj hcj hU) hno
            · omega, h2, h3, h4, h5⟩, fun ⟨y, h1, h2⟩ => ⟨y, by omega, h2⟩⟩
          rw [hG]
          exact ihb (x + 1) _ (by omega) (by omega) hF9 (fun j hj => ⟨c9 j hj, (hc j hj).2⟩) (by rw [v9]; omega) r9
        · have hr1 : r = 1 := by omega
          have hok := (e3.mp hr1).2
          rw [if_neg hr, ck_of ⟨by omega, by omega⟩, Option.bind_some, Sum.elim_inl]
          obtain ⟨c', hc'⟩ : ∃ c' : Nat → Nat, ∀ j, c' j = if j = L then x else c j := ⟨_, fun _ => rfl⟩
          have hc'L : ∀ j, j < L → c' j = c j := fun j hj => by rw [hc', if_neg (by omega)]
          have hc'x : c' L = x := by rw [hc', if_pos rfl]
          have eq1 : Qc U (fun _ => True) most K (L + 1) (fun k j => j < L + 1 ∧ c' j = k) ↔ Qc U (fun _ => True) most K (L + 1) (addP (fun k j => j < L ∧ c j = k) x L) := Qc.iff (fun _ _ => Iff.rfl) (fun k j => by
            unfold addP
            constructor
            · rintro ⟨h1, h2⟩
              by_cases q : j = L
              · exact Or.inr ⟨by rw [q, hc'x] at h2; exact h2.symm, q⟩
              · exact Or.inl ⟨by omega, by rw [hc'L j (by omega)] at h2; exact h2⟩
            · rintro (⟨h1, h2⟩ | ⟨h1, h2⟩)
              · exact ⟨by omega, by rw [hc'L j h1]; exact h2⟩
              · exact ⟨by omega, by rw [h2, hc'x, h1]⟩)
          have eL : (L : Int) + 1 = ((L + 1 : Nat) : Int) := by omega
          rw [eL]
          by_cases hlast : L + 1 = K
          · -- all pages lie in parts
            refine Or.inl ⟨⟨x, Nat.le_refl _, hin.2, hin.1, fun j hj hcj hU => hok j hj hU hcj, Qc.done (by omega)⟩, sN t 130 0 L (x : Int), ?_, hF9⟩
            rw [lpb_eq]
            simp only
            unfold b_X12_canPart_25
            rw [if_neg (show ¬ ((L + 1 : Nat) : Int) < 0 by omega), (hF9.1 12 0 79 (fun q => absurd q.1 (by decide))).1, hK, if_pos (by omega), Option.bind_some, Sum.elim_inr, hlast]
          · have z := iha (L + 1) c' (by omega) (by omega) (most + 1) 0 (sN t 130 0 L (x : Int)) rfl (by omega) hF9 (fun j hj => by
              by_cases q : j = L
              · rw [q, v9, hc'x]; exact ⟨rfl, hin.1⟩
              · rw [c9 j (by omega), hc'L j (by omega)]; exact ⟨rfl, (hc j (by omega)).2⟩) (by rw [r9 (L + 1) (by omega) (by omega)]; rfl) (fun j h1 h2 => r9 j (by omega) h2)
            rw [Gs.zero hu (by omega), eq1] at z
            rcases z with ⟨z1, t', z2, z3⟩ | ⟨z1, t', z2, z3, z4, z5⟩
            · exact Or.inl ⟨⟨x, Nat.le_refl _, hin.2, hin.1, fun j hj hcj hU => hok j hj hU hcj, z1⟩, t', z2, z3⟩
            · have hG : Gs U K most c L x ↔ Gs U K most c L (x + 1) := ⟨fun ⟨y, h1, h2, h3, h4, h5⟩ => ⟨y, by
                by_cases q : y = x
                · rw [q] at h5
                  exact absurd h5 z1
                · omega, h2, h3, h4, h5⟩, fun ⟨y, h1, h2⟩ => ⟨y, by omega, h2⟩⟩
              rw [hG, z2, show ((L + 1 : Nat) : Int) + (-1) = (L : Int) by omega]
              exact ihb (x + 1) t' (by omega) (by omega) z3 (fun j hj => ⟨by rw [z4 j (by omega), hc'L j hj], (hc j hj).2⟩) (by rw [z4 L (by omega), hc'x]; omega) (fun j h1 h2 => z5 j (by omega) h2)
      · -- no part is left
        rw [if_neg hin]
        obtain ⟨r, e1, e2, e3⟩ := e114 0 (Or.inl rfl)
        rw [e1]
        unfold j_X12_canPart_25_177
        rw [if_neg (show ¬ ¬ (0 : Int) = 0 from fun q => q rfl), nk_of hM9.r81, stN_of hM9.z130 (by omega), tnc, ck_of ⟨by omega, by omega⟩, Option.bind_some, Sum.elim_inl]
        refine Or.inr ⟨fun ⟨y, h1, h2, h3, _⟩ => hin ⟨by omega, by omega⟩, _, rfl, hF9.sN ⟨rfl, rfl⟩, fun j hj => by rw [gN_sN, if_neg (by omega)]; exact c9 j hj, fun j h1 h2 => ?_⟩
        by_cases q : j = L
        · rw [q, gN_sN, if_pos ⟨rfl, rfl, rfl⟩]
        · rw [gN_sN, if_neg (by omega)]; exact r9 j (by omega) h2
theorem canPart_m {t0 : MM} (hM0 : SM t0) (hu : UR U u K) (hK0 : 0 < K) (hK : gN t0 12 0 79 = K) (hrow : ∀ p, p < K → gN t0 129 0 p = u p) {most : Nat} (hmost : most ≤ 16) :
    ∃ (r : Int) (t' : MM), f_X12_canPart t0 0 (most : Int) = some (.inl (some (aI r)), t') ∧ (r = 0 ∨ r = 1) ∧ (r = 1 ↔ Qc U (fun _ => True) most K 0 (fun _ _ => False)) ∧ F130 t0 t' := by
  have hk := hu.k
  have ini : ∀ d p (t : MM), K - p = d → p ≤ K → F130 t0 t → (∀ j, j < p → gN t 130 0 j = -1) → ∃ t', lpb (fun s : Int × MM => b_X12_canPart_4 0 (most : Int) 0 s.1 s.2) ((p : Int), t) = some t' ∧ F130 t0 t' ∧ ∀ j, j < K → gN t' 130 0 j = -1 := by
    intro d
    induction d with
    | zero =>
      intro p t hd hp hF h1
      obtain rfl : p = K := by omega
      rw [lpb_eq]
      simp only
      unfold b_X12_canPart_4
      rw [(hF.1 12 0 79 (fun q => absurd q.1 (by decide))).1, hK, if_pos (Int.le_refl _), Option.bind_some, Sum.elim_inr]
      exact ⟨t, rfl, hF, h1⟩
    | succ d ih =>
      intro p t hd hp hF h1
      have hM : SM t := hF.SM hM0 (fun s q => by have := q.1; omega)
      rw [lpb_eq]
      simp only
      unfold b_X12_canPart_4
      rw [(hF.1 12 0 79 (fun q => absurd q.1 (by decide))).1, hK, if_neg (show ¬ (K : Int) ≤ (p : Int) by omega), nk_of hM.r81, stN_of hM.z130 (by omega), tnc, ck_of ⟨by omega, by omega⟩, Option.bind_some, Sum.elim_inl, show (p : Int) + 1 = ((p + 1 : Nat) : Int) by omega]
      exact ih (p + 1) _ (by omega) (by omega) (hF.sN ⟨rfl, rfl⟩) (fun j hj => by
        rw [gN_sN]
        by_cases q : j = p
        · rw [if_pos ⟨rfl, rfl, q⟩]
        · rw [if_neg (fun z => q z.2.2)]; exact h1 j (by omega))
  obtain ⟨t1, e1, f1, a1⟩ := ini _ 0 t0 rfl (by omega) FrC.rf (fun j hj => absurd hj (by omega))
  have e1' : lpb (fun s : Int × MM => b_X12_canPart_4 0 (most : Int) 0 s.1 s.2) (0, t0) = some t1 := e1
  have hz := odo_m hM0 hu hK hrow hmost _ 0 (fun _ => 0) rfl hK0 _ 0 t1 rfl (by omega) f1 (fun j hj => absurd hj (by omega)) (by rw [a1 0 hK0]; rfl) (fun j _ h2 => a1 j h2)
  have eq0 : Qc U (fun _ => True) most K 0 (fun k j => j < 0 ∧ (fun _ : Nat => 0) j = k) ↔ Qc U (fun _ => True) most K 0 (fun _ _ => False) := Qc.iff (fun _ _ => Iff.rfl) (fun k j => ⟨fun h => absurd h.1 (by omega), fun h => h.elim⟩)
  rw [Gs.zero hu hK0, eq0] at hz
  unfold f_X12_canPart j_X12_canPart_0_25
  rw [e1', Option.bind_some]
  rcases hz with ⟨z1, t', z2, z3⟩ | ⟨z1, t', z2, z3, -⟩
  · have z2' : lpb (fun s : Int × MM => b_X12_canPart_25 0 (most : Int) s.1 s.2) (0, t1) = some ((K : Int), t') := z2
    rw [z2', Option.bind_some]
    unfold j_X12_canPart_0_206
    rw [(z3.1 12 0 79 (fun q => absurd q.1 (by decide))).1, hK, if_neg (show ¬ ¬ (K : Int) = (K : Int) from fun q => q rfl)]
    exact ⟨1, t', rfl, Or.inr rfl, ⟨fun _ => z1, fun _ => rfl⟩, z3⟩
  · have z2' : lpb (fun s : Int × MM => b_X12_canPart_25 0 (most : Int) s.1 s.2) (0, t1) = some (-1, t') := by
      have z4 : lpb (fun s : Int × MM => b_X12_canPart_25 0 (most : Int) s.1 s.2) (0, t1) = lpb (fun s : Int × MM => b_X12_canPart_25 0 (most : Int) s.1 s.2) (0 + (-1), t') := z2
      rw [z4, lpb_eq]
      simp only
      unfold b_X12_canPart_25
      rw [if_pos (by decide), Option.bind_some, Sum.elim_inr]
      rfl
    rw [z2', Option.bind_some]
    unfold j_X12_canPart_0_206
    rw [(z3.1 12 0 79 (fun q => absurd q.1 (by decide))).1, hK, if_pos (show ¬ (-1 : Int) = (K : Int) by omega)]
    exact ⟨0, t', rfl, Or.inl rfl, ⟨fun h => absurd h (by decide), fun h => absurd h z1⟩, z3⟩
end ODO
