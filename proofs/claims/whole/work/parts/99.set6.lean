/-! SET: lines are filled out by blanks. -/
section SET
variable {N : Nat} {mc mm : MM} {b F n M Ln E d : Nat}
/-- blanks of a line in a round -/
def BlR (s t : MM) (q T C r k : Nat) (rho : Int) : Prop := ∀ i, T ≤ i → i + 1 < T + C → gN t 97 0 (60 * q + (i + 1)) = gN s 29 q i ∧ (1 ≤ gN s 29 q i ∧ gN s 29 q i ≤ (r : Int) + 1) ∧ (0 < rho → gN s 29 q i = if i < k then (r : Int) + 1 else (r : Int))
abbrev Fb (q T C : Nat) (s s' : MM) : Prop := FrC (fun K i k => K = 29 ∧ i = q ∧ T ≤ k ∧ k + 1 < T + C) s s'
abbrev Gb (q T C l : Nat) (t t' : MM) : Prop := FrC (fun K i k => (K = 97 ∧ i = 0 ∧ 60 * q + T < k ∧ k < 60 * q + (T + C)) ∨ (K = 93 ∧ i = 0 ∧ k = 6 * q + l)) t t'
theorem round_eq (h : RR N mc mm) (hB : RBk mc mm b F n M Ln E) {p : Nat} (hp : p < 2 * (F * n)) {l T C : Nat} (hl : l < 6) (hC : 1 ≤ C ∧ T + C ≤ 60) {r : Nat} (hr : r ≤ 2) {l1 : Nat} {l2 l3 l5 : Int} :
    ∀ (e k : Nat) (rho : Int) (s t : MM), T + C - 1 - k = e → T ≤ k → k + 1 ≤ T + C → 0 ≤ rho ∧ rho ≤ 1000 → Fsc (16 * b + p) d mc s → Fsm (16 * b + p) d mm t → gN t 93 0 (6 * (16 * b + p) + l) = rho → BlR s t (16 * b + p) T C r k rho →
      ∃ (rho' : Int) (s' t' : MM), lpb (fun z : Int × Int × MM => b_X4_fillOut_41 (16 * b + p) l1 l2 ((T + C : Nat) : Int) l5 z.1 z.2.1 z.2.2) (rho, (k : Int), s) = some (rho', s') ∧ lpb (fun z : Int × MM => b_X12_fillsOut_39 0 ((6 * (16 * b + p) + l : Nat) : Int) l3 ((60 * (16 * b + p) + T : Nat) : Int) ((60 * (16 * b + p) + (T + C) : Nat) : Int) ((r : Int) + 1) z.1 z.2) (((60 * (16 * b + p) + (k + 1) : Nat) : Int), t) = some t' ∧ (0 ≤ rho' ∧ rho' ≤ rho) ∧ Fb (16 * b + p) T C s s' ∧ Gb (16 * b + p) T C l t t' ∧ gN t' 93 0 (6 * (16 * b + p) + l) = rho' ∧ BlR s' t' (16 * b + p) T C r (T + C) rho' := by
  have hP := hB.hP
  have q0 := hP.hb
  have q1 := hP.hn
  -- when no room is left the model goes on without a change
  have idle : ∀ (e k : Nat) (t : MM), T + C - k = e → k ≤ T + C → SM t → gN t 93 0 (6 * (16 * b + p) + l) = 0 → lpb (fun z : Int × MM => b_X12_fillsOut_39 0 ((6 * (16 * b + p) + l : Nat) : Int) l3 ((60 * (16 * b + p) + T : Nat) : Int) ((60 * (16 * b + p) + (T + C) : Nat) : Int) ((r : Int) + 1) z.1 z.2) (((60 * (16 * b + p) + k : Nat) : Int), t) = some t := by
    intro e
    induction e with
    | zero =>
      intro k t he hk hM h0
      rw [lpb_eq]
      simp only
      unfold b_X12_fillsOut_39
      rw [if_pos (by omega), Option.bind_some, Sum.elim_inr]
    | succ e ih =>
      intro k t he hk hM h0
      have z := ih (k + 1) t (by omega) (by omega) hM h0
      rw [lpb_eq]
      simp only
      unfold b_X12_fillsOut_39
      rw [if_neg (by omega), nk_of hM.r40, ldN_of hM.z93 (by omega), tnc, h0, if_pos (Int.le_refl _), ck_of ⟨by omega, by omega⟩, Option.bind_some, Sum.elim_inl, show ((60 * (16 * b + p) + k : Nat) : Int) + 1 = ((60 * (16 * b + p) + (k + 1) : Nat) : Int) by omega]
      exact z
  intro e
  induction e with
  | zero =>
    intro k rho s t he hk1 hk2 hrho hFs hFt h93 hBl
    refine ⟨rho, s, t, ?_, ?_, by omega, FrC.rf, FrC.rf, h93, fun i h1 h2 => ?_⟩
    · rw [lpb_eq]
      simp only
      unfold b_X4_fillOut_41
      rw [ck_of ⟨by omega, by omega⟩, if_pos (by omega), Option.bind_some, Sum.elim_inr]
    · rw [lpb_eq]
      simp only
      unfold b_X12_fillsOut_39
      rw [if_pos (by omega), Option.bind_some, Sum.elim_inr]
    · obtain ⟨a1, a2, a3⟩ := hBl i h1 h2
      refine ⟨a1, a2, fun z => ?_⟩
      have := a3 z
      rw [if_pos (by omega)] at this
      rw [if_pos (by omega)]
      exact this
  | succ e ih =>
    intro k rho s t he hk1 hk2 hrho hFs hFt h93 hBl
    have hM := hFt.Md h.M
    have hS := hFs.S hB
    by_cases h0 : rho = 0
    · refine ⟨0, s, t, ?_, ?_, by omega, FrC.rf, FrC.rf, by rw [h93, h0], fun i h1 h2 => ?_⟩
      · rw [lpb_eq]
        simp only
        unfold b_X4_fillOut_41
        rw [ck_of ⟨by omega, by omega⟩, if_neg (by omega), if_pos (by omega), Option.bind_some, Sum.elim_inr, h0]
      · exact idle _ (k + 1) t rfl (by omega) hM (by rw [h93, h0])
      · obtain ⟨a1, a2, a3⟩ := hBl i h1 h2
        exact ⟨a1, a2, fun z => absurd z (by decide)⟩
    · obtain ⟨a1, a2, a3⟩ := hBl k hk1 (by omega)
      have hk29 := a3 (by omega)
      rw [if_neg (by omega)] at hk29
      have hM1 : SM (sN t 97 0 (60 * (16 * b + p) + (k + 1)) ((r : Int) + 1)) := hM.mv (fun _ => rfl) (fun _ _ _ z => z)
      have v93 : gN (sN t 97 0 (60 * (16 * b + p) + (k + 1)) ((r : Int) + 1)) 93 0 (6 * (16 * b + p) + l) = rho := by rw [gN_sN, if_neg (by omega), h93]
      obtain ⟨rho', s', t', e1, e2, e3, e4, e5, e6, e7⟩ := ih (k + 1) (rho - 1) (sN s 29 (16 * b + p) k ((r : Int) + 1)) (sN (sN t 97 0 (60 * (16 * b + p) + (k + 1)) ((r : Int) + 1)) 93 0 (6 * (16 * b + p) + l) (rho - 1)) (by omega) (by omega) (by omega) (by omega) (hFs.sN (Or.inr (Or.inl ⟨by omega, by omega, rfl⟩))) ((hFt.sN (Or.inr (Or.inr (Or.inr (Or.inl ⟨by omega, by omega, rfl, by omega, by omega⟩))))).sN (Or.inr (Or.inr (Or.inl ⟨by omega, by omega, rfl, by omega, by omega⟩)))) (by rw [gN_sN, if_pos ⟨rfl, rfl, rfl⟩]) (fun i h1 h2 => by
        obtain ⟨b1, b2, b3⟩ := hBl i h1 h2
        have hb3 := b3 (by omega)
        rw [gN_sN, if_neg (by omega)]
        by_cases z : i = k
        · rw [z, gN_sN, if_pos ⟨rfl, rfl, rfl⟩, gN_sN, if_pos ⟨rfl, rfl, rfl⟩]
          exact ⟨rfl, by omega, fun _ => by rw [if_pos (by omega)]⟩
        · rw [gN_sN, if_neg (by omega), gN_sN, if_neg (by omega)]
          refine ⟨b1, b2, fun _ => ?_⟩
          rw [hb3]
          by_cases y : i < k
          · rw [if_pos y, if_pos (by omega)]
          · rw [if_neg y, if_neg (by omega)])
      refine ⟨rho', s', t', ?_, ?_, by omega, (FrC.rf.sN ⟨rfl, rfl, hk1, by omega⟩).tr e4, ((FrC.rf.sN (Or.inl ⟨rfl, rfl, by omega, by omega⟩)).sN (Or.inr ⟨rfl, rfl, rfl⟩)).tr e5, e6, e7⟩
      · rw [lpb_eq]
        simp only
        unfold b_X4_fillOut_41
        rw [ck_of ⟨by omega, by omega⟩, if_neg (by omega), if_neg (by omega), nk_of (hS.p3 p hp), ldN_of (hS.z29 p hp) (by omega), tnc, hk29, ck_of ⟨by omega, by omega⟩, stN_of (hS.z29 p hp) (by omega), tnc, ck_of ⟨by omega, by omega⟩, ck_of ⟨by omega, by omega⟩, Option.bind_some, Sum.elim_inl, show (k : Int) + 1 = ((k + 1 : Nat) : Int) by omega, show rho + (-1) = rho - 1 by omega]
        exact e1
      · rw [lpb_eq]
        simp only
        unfold b_X12_fillsOut_39
        rw [if_neg (by omega), nk_of hM.r40, ldN_of hM.z93 (by omega), tnc, h93, if_neg (by omega), nk_of hM.r44, stN_of hM.z97 (by omega), tnc, nk_of hM1.r40, ldN_of hM1.z93 (by omega), tnc, v93, ck_of ⟨by omega, by omega⟩, stN_of hM1.z93 (by omega), tnc, ck_of ⟨by omega, by omega⟩, Option.bind_some, Sum.elim_inl, show ((60 * (16 * b + p) + (k + 1) : Nat) : Int) + 1 = ((60 * (16 * b + p) + (k + 1 + 1) : Nat) : Int) by omega]
        exact e2
/-- both rounds -/
theorem rounds_eq (h : RR N mc mm) (hB : RBk mc mm b F n M Ln E) {p : Nat} (hp : p < 2 * (F * n)) {l T C : Nat} (hl : l < 6) (hC : 1 ≤ C ∧ T + C ≤ 60) {l1 : Nat} {l3 : Int} {s t : MM} {rho : Int} (hrho : 0 ≤ rho ∧ rho ≤ 1000) (hFs : Fsc (16 * b + p) d mc s) (hFt : Fsm (16 * b + p) d mm t) (h31 : gN s 31 (16 * b + p) l = T) (hlL : l < Ln) (h93 : gN t 93 0 (6 * (16 * b + p) + l) = rho) (hBl : BlR s t (16 * b + p) T C 1 T rho) :
    ∃ (rho' : Int) (s' t' : MM), lpb (fun z : Int × Int × MM => b_X4_fillOut_27 (16 * b + p) l1 (l : Int) ((T + C : Nat) : Int) z.1 z.2.1 z.2.2) (rho, 1, s) = some (rho', s') ∧ lpb (fun z : Int × MM => b_X12_fillsOut_27 0 ((6 * (16 * b + p) + l : Nat) : Int) l3 ((60 * (16 * b + p) + T : Nat) : Int) ((60 * (16 * b + p) + (T + C) : Nat) : Int) z.1 z.2) (2, t) = some t' ∧ (0 ≤ rho' ∧ rho' ≤ rho) ∧ Fb (16 * b + p) T C s s' ∧ Gb (16 * b + p) T C l t t' ∧ gN t' 93 0 (6 * (16 * b + p) + l) = rho' ∧ BlR s' t' (16 * b + p) T C 2 (T + C) rho' := by
  have hP := hB.hP
  have q0 := hP.hb
  have q1 := hP.hn
  have hS := hFs.S hB
  obtain ⟨r1, s1, t1, a1, a2, a3, a4, a5, a6, a7⟩ := round_eq (d := d) h hB hp hl hC (r := 1) (by omega) (l1 := l1) (l2 := (l : Int)) (l3 := l3) (l5 := 1) _ T rho s t rfl (Nat.le_refl _) (by omega) hrho hFs hFt h93 hBl
  have hFs1 : Fsc (16 * b + p) d mc s1 := hFs.tr (a4.sub (fun K i k z => Or.inr (Or.inl ⟨by omega, by omega, z.2.1⟩)))
  have hFt1 : Fsm (16 * b + p) d mm t1 := hFt.tr (a5.sub (fun K i k z => by unfold SmW; omega))
  have hS1 := hFs1.S hB
  have h311 : gN s1 31 (16 * b + p) l = T := by rw [(a4.1 31 _ l (by omega)).1, h31]
  obtain ⟨r2, s2, t2, c1, c2, c3, c4, c5, c6, c7⟩ := round_eq (d := d) h hB hp hl hC (r := 2) (by omega) (l1 := l1) (l2 := (l : Int)) (l3 := l3) (l5 := 2) _ T r1 s1 t1 rfl (Nat.le_refl _) (by omega) (by omega) hFs1 hFt1 a6 (fun i h1 h2 => by
    obtain ⟨x1, x2, x3⟩ := a7 i h1 h2
    refine ⟨x1, by omega, fun z => ?_⟩
    have := x3 z
    rw [if_pos (by omega)] at this
    rw [if_neg (by omega), this]
    rfl)
  refine ⟨r2, s2, t2, ?_, ?_, by omega, a4.tr c4, a5.tr c5, c6, c7⟩
  · rw [lpb_eq]
    simp only
    unfold b_X4_fillOut_27
    rw [if_neg (by decide), nk_of (hS.p5 p hp), ldN_of (hS.z31 p hp) (by omega), tnc, h31, a1, Option.bind_some]
    unfold j_X4_fillOut_27_74
    rw [ck_of ⟨by omega, by omega⟩, Option.bind_some, Sum.elim_inl, lpb_eq]
    simp only
    rw [if_neg (by decide), nk_of (hS1.p5 p hp), ldN_of (hS1.z31 p hp) (by omega), tnc, h311, show (1 : Int) + 1 = 2 from rfl, c1, Option.bind_some, ck_of ⟨by omega, by omega⟩, Option.bind_some, Sum.elim_inl, lpb_eq]
    simp only
    rw [if_pos (by decide), Option.bind_some, Sum.elim_inr]
  · have e1 : ((60 * (16 * b + p) + T : Nat) : Int) + 1 = ((60 * (16 * b + p) + (T + 1) : Nat) : Int) := by omega
    rw [lpb_eq]
    simp only
    unfold b_X12_fillsOut_27
    rw [if_neg (by decide), ck_of ⟨by omega, by omega⟩, e1]
    have a2' : lpb (fun z : Int × MM => b_X12_fillsOut_39 0 ((6 * (16 * b + p) + l : Nat) : Int) l3 ((60 * (16 * b + p) + T : Nat) : Int) ((60 * (16 * b + p) + (T + C) : Nat) : Int) 2 z.1 z.2) (((60 * (16 * b + p) + (T + 1) : Nat) : Int), t) = some t1 := a2
    have c2' : lpb (fun z : Int × MM => b_X12_fillsOut_39 0 ((6 * (16 * b + p) + l : Nat) : Int) l3 ((60 * (16 * b + p) + T : Nat) : Int) ((60 * (16 * b + p) + (T + C) : Nat) : Int) 3 z.1 z.2) (((60 * (16 * b + p) + (T + 1) : Nat) : Int), t1) = some t2 := c2
    rw [a2', Option.bind_some]
    unfold j_X12_fillsOut_27_80
    rw [ck_of ⟨by omega, by omega⟩, Option.bind_some, Sum.elim_inl, lpb_eq]
    simp only
    rw [if_neg (by decide), ck_of ⟨by omega, by omega⟩, show (2 : Int) + 1 = 3 from rfl, c2', Option.bind_some, ck_of ⟨by omega, by omega⟩, Option.bind_some, Sum.elim_inl, lpb_eq]
    simp only
    rw [if_pos (by decide), Option.bind_some, Sum.elim_inr]
end SET
