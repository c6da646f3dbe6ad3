/-! ORDERS ANEW. -/
theorem sumF_upd {v w : Nat → Int} {j : Nat} : ∀ k, j < k → (∀ l, l < k → l ≠ j → w l = v l) → sumF w k = sumF v k + (w j - v j)
  | 0, h, _ => absurd h (by omega)
  | k + 1, h, hv => by
    rw [sumF, sumF]
    by_cases q : k = j
    · subst q
      rw [sumF_congr (v := w) (w := v) k (fun l hl => hv l (by omega) (by omega))]
      omega
    · rw [sumF_upd k (by omega) (fun l hl hlj => hv l (by omega) hlj), hv k (by omega) q]
      omega
theorem sumF_bd {v : Nat → Int} {B : Nat} : ∀ k, (∀ l, l < k → 0 ≤ v l ∧ 8 * v l ≤ B) → 0 ≤ sumF v k ∧ 8 * sumF v k ≤ ((k * B : Nat) : Int)
  | 0, _ => by rw [sumF]; omega
  | k + 1, h => by
    have h1 := sumF_bd k (fun l hl => h l (by omega))
    have h2 := h k (by omega)
    rw [sumF, Nat.succ_mul]
    omega
theorem wB_pos (S : Nat) : 1 ≤ wB S := Nat.pow_pos (by decide)
/-- what has come to a set T when S is at hand, up to j -/
def tmP (A : Nat → Nat) (s : MM) (S j T l : Nat) : Int := if T.testBit l = true ∧ cA A l (del T l) = true ∧ (del T l < S ∨ (del T l = S ∧ l < j)) then gN s 40 0 (del T l) else 0
def PvI (A : Nat → Nat) (m P : Nat) (s : MM) (S j : Nat) : Prop := ∀ T, T < P → (0 ≤ gN s 40 0 T ∧ gN s 40 0 T ≤ (wB T : Nat)) ∧ gN s 40 0 T = (if T = 0 then 1 else 0) + sumF (tmP A s S j T) m
section ANEW
variable {A : Nat → Nat} {m P : Nat} {s : MM} {S j : Nat}
theorem PvI.iff {S' j' : Nat} (h : PvI A m P s S j) (hq : ∀ T l, T < P → l < m → T.testBit l = true → cA A l (del T l) = true → ((del T l < S ∨ (del T l = S ∧ l < j)) ↔ (del T l < S' ∨ (del T l = S' ∧ l < j')))) : PvI A m P s S' j' := fun T hT => by
  obtain ⟨h1, h2⟩ := h T hT
  refine ⟨h1, ?_⟩
  rw [h2]
  congr 1
  refine sumF_congr m fun l hl => ?_
  unfold tmP
  by_cases q : T.testBit l = true ∧ cA A l (del T l) = true
  · have := hq T l hT hl q.1 q.2
    by_cases z : del T l < S ∨ (del T l = S ∧ l < j)
    · rw [if_pos ⟨q.1, q.2, z⟩, if_pos ⟨q.1, q.2, this.mp z⟩]
    · rw [if_neg (fun w => z w.2.2), if_neg (fun w => z (this.mpr w.2.2))]
  · rw [if_neg (fun w => q ⟨w.1, w.2.1⟩), if_neg (fun w => q ⟨w.1, w.2.1⟩)]
theorem PvI.add (h : PvI A m P s S j) (hP : P = 2 ^ m) (hm : m ≤ 8) (hj : j < m) (hSP : S < P) (hb : S.testBit j = false) (hc : cA A j S = true) : PvI A m P (sN s 40 0 (S ||| 2 ^ j) (gN s 40 0 (S ||| 2 ^ j) + gN s 40 0 S)) S (j + 1) ∧ S ||| 2 ^ j < P ∧ 0 ≤ gN s 40 0 (S ||| 2 ^ j) + gN s 40 0 S ∧ gN s 40 0 (S ||| 2 ^ j) + gN s 40 0 S ≤ 100000000 := by
  have hP256 : P ≤ 256 := by rw [hP]; exact Nat.le_trans (Nat.pow_le_pow_right (by omega) hm) (by decide)
  have hT0P : S ||| 2 ^ j < P := by rw [hP] at hSP ⊢; exact Nat.or_lt_two_pow hSP (Nat.pow_lt_pow_right (by omega) hj)
  have hbit : (S ||| 2 ^ j).testBit j = true := by rw [Nat.testBit_or, Nat.testBit_two_pow_self, Bool.or_true]
  have hdel : ∀ T, T.testBit j = true → del T j = S → T = S ||| 2 ^ j := fun T h1 h2 => by
    apply Nat.eq_of_testBit_eq
    intro g
    rw [← h2, Nat.testBit_or, del_bit, Nat.testBit_two_pow]
    by_cases q : j = g
    · subst q; rw [h1]; simp
    · simp [q]
  have hd0 : del (S ||| 2 ^ j) j = S := by
    apply Nat.eq_of_testBit_eq
    intro g
    rw [del_bit, Nat.testBit_or, Nat.testBit_two_pow]
    by_cases q : j = g
    · subst q; rw [hb]; simp
    · simp [q]
  have hlt : S < S ||| 2 ^ j := by have := del_lt hbit; rw [hd0] at this; exact this
  obtain ⟨T0, hT0⟩ : ∃ T0, T0 = S ||| 2 ^ j := ⟨_, rfl⟩
  rw [← hT0] at hT0P hbit hd0 hlt ⊢
  have e0 : gN (sN s 40 0 T0 (gN s 40 0 T0 + gN s 40 0 S)) 40 0 T0 = gN s 40 0 T0 + gN s 40 0 S := by rw [gN_sN, if_pos ⟨rfl, rfl, rfl⟩]
  have e : ∀ T, T ≠ T0 → gN (sN s 40 0 T0 (gN s 40 0 T0 + gN s 40 0 S)) 40 0 T = gN s 40 0 T := fun T hT => by rw [gN_sN, if_neg (fun z => hT z.2.2)]
  have hterm : ∀ T l, T < P → ¬ (T = T0 ∧ l = j) → tmP A (sN s 40 0 T0 (gN s 40 0 T0 + gN s 40 0 S)) S (j + 1) T l = tmP A s S j T l := fun T l hT hn => by
    unfold tmP
    by_cases q : T.testBit l = true ∧ cA A l (del T l) = true ∧ (del T l < S ∨ (del T l = S ∧ l < j))
    · rw [if_pos q, if_pos ⟨q.1, q.2.1, by omega⟩, e _ (by omega)]
    · rw [if_neg q, if_neg]
      rintro ⟨q1, q2, q3⟩
      by_cases z : del T l = S ∧ l = j
      · obtain ⟨z1, rfl⟩ := z
        exact hn ⟨by rw [hT0]; exact hdel T q1 z1, rfl⟩
      · exact q ⟨q1, q2, by omega⟩
  have hnew : tmP A (sN s 40 0 T0 (gN s 40 0 T0 + gN s 40 0 S)) S (j + 1) T0 j = gN s 40 0 S := by
    unfold tmP
    rw [hd0, if_pos ⟨hbit, hc, Or.inr ⟨rfl, by omega⟩⟩, e _ (by omega)]
  have hold : tmP A s S j T0 j = 0 := by
    unfold tmP
    rw [hd0, if_neg (fun z => by omega)]
  have hsum : sumF (tmP A (sN s 40 0 T0 (gN s 40 0 T0 + gN s 40 0 S)) S (j + 1) T0) m = sumF (tmP A s S j T0) m + gN s 40 0 S := by
    rw [sumF_upd (v := tmP A s S j T0) m hj (fun l hl hlj => hterm T0 l hT0P (fun z => hlj z.2)), hnew, hold]
    omega
  have hT00 : T0 ≠ 0 := by omega
  have h0 := (h T0 hT0P).2
  rw [if_neg hT00] at h0
  have hbd := sumF_bd (v := tmP A (sN s 40 0 T0 (gN s 40 0 T0 + gN s 40 0 S)) S (j + 1) T0) (B := wB T0) m (fun l hl => by
    unfold tmP
    by_cases q : T0.testBit l = true ∧ cA A l (del T0 l) = true ∧ (del T0 l < S ∨ (del T0 l = S ∧ l < j + 1))
    · have h3 := (h (del T0 l) (by have := del_lt q.1; omega)).1
      have h4 := wB_del (S := T0) (by omega) (by omega) q.1
      rw [if_pos q, e _ (by omega)]
      omega
    · rw [if_neg q]; omega)
  have hmw : m * wB T0 ≤ 8 * wB T0 := Nat.mul_le_mul_right _ hm
  have hw := wB_le (S := T0) (by omega)
  refine ⟨fun T hT => ?_, hT0P, by omega, by omega⟩
  by_cases q : T = T0
  · subst q
    rw [e0, if_neg hT00, hsum]
    omega
  · rw [e T q]
    refine ⟨(h T hT).1, ?_⟩
    rw [(h T hT).2]
    congr 1
    exact sumF_congr m fun l hl => (hterm T l hT (fun z => q z.1)).symm
theorem PvI.isV (h : PvI A m P s (P - 1) 0) (hP : P = 2 ^ m) : IsV (cA A) m (fun T => gN s 40 0 T) := by
  have hP1 : 1 ≤ P := by rw [hP]; exact Nat.two_pow_pos m
  have key : ∀ T, T < P → ∀ l, l < m → tmP A s (P - 1) 0 T l = if T.testBit l = true ∧ cA A l (del T l) = true then gN s 40 0 (del T l) else 0 := fun T hT l hl => by
    unfold tmP
    by_cases q : T.testBit l = true ∧ cA A l (del T l) = true
    · have := del_lt q.1
      rw [if_pos q, if_pos ⟨q.1, q.2, by omega⟩]
    · rw [if_neg q, if_neg (fun w => q ⟨w.1, w.2.1⟩)]
  refine ⟨?_, fun T h0 hT => ?_⟩
  · show gN s 40 0 0 = 1
    rw [(h 0 (by omega)).2, if_pos rfl, sumF_zero m fun l hl => by rw [key 0 (by omega) l hl, if_neg (by simp)]]
    rfl
  · show gN s 40 0 T = _
    rw [← hP] at hT
    rw [(h T hT).2, if_neg (by omega), sumF_congr m (key T hT), Int.zero_add]
theorem countByPlace_c {s0 : MM} (hC : SC s0) (hm : 1 ≤ m ∧ m ≤ 8) (hA : ∀ f, f < m → A f < 256 ∧ gN s0 39 0 f = A f) :
    Ev (f_X7_countByPlace s0 0 (m : Int)) (fun r => ∃ v, r.1 = .inl (some (aI v)) ∧ FrC (fun K i _ => K = 40 ∧ i = 0) s0 r.2 ∧ ∃ V, IsV (cA A) m V ∧ v = V (2 ^ m - 1)) := by
  have hp : 2 ^ m ≤ 2 ^ 8 := Nat.pow_le_pow_right (by omega) hm.2
  have hsh : ishl 1 (m : Int) = ((2 ^ m : Nat) : Int) := ishl_nat (by omega)
  obtain ⟨P, hP⟩ : ∃ P, P = 2 ^ m := ⟨_, rfl⟩
  have hP256 : P ≤ 256 := by rw [hP]; exact Nat.le_trans hp (by decide)
  have hP1 : 1 ≤ P := by rw [hP]; exact Nat.two_pow_pos m
  unfold f_X7_countByPlace
  rw [hsh, ← hP, ck_of ⟨by omega, by omega⟩]
  refine ev_lp (fun x => FrC (fun K i _ => K = 40 ∧ i = 0) s0 x ∧ ∀ T, T < P → gN x 40 0 T = if T = 0 then 1 else 0) (fun s : Int × MM => ∃ S : Nat, s.1 = S ∧ S ≤ P ∧ FrC (fun K i _ => K = 40 ∧ i = 0) s0 s.2 ∧ ∀ T, T < S → gN s.2 40 0 T = if T = 0 then 1 else 0) (fun s => P - s.1.toNat) ⟨0, rfl, by omega, FrC.rf, fun T hT => absurd hT (by omega)⟩ ?_ ?_
  · rintro ⟨_, m1⟩ ⟨S, rfl, hSP, hF1, hz⟩
    simp only at hF1 hz
    show Ev (b_X7_countByPlace_8 0 (m : Int) ((P : Int) - 1) (S : Int) m1) _
    have hC1 : SC m1 := hC.mv2 (fun K i s hk => (hF1.1 K i s (by omega)).2.2) (fun K i k hk => by rw [hF1.2.1]; exact hk)
    unfold b_X7_countByPlace_8
    refine ev_if (fun hc => ev_exit ⟨hF1, fun T hT => hz T (by omega)⟩) fun hc => ?_
    have go : ∀ v : Int, v = (if S = 0 then 1 else 0) → Ev (j_X7_countByPlace_8_27 m1 0 (m : Int) ((P : Int) - 1) (S : Int) 0 (S : Int) v) (fun z => Sum.elim (fun s' : Int × MM => (∃ S : Nat, s'.1 = S ∧ S ≤ P ∧ FrC (fun K i _ => K = 40 ∧ i = 0) s0 s'.2 ∧ ∀ T, T < S → gN s'.2 40 0 T = if T = 0 then 1 else 0) ∧ P - s'.1.toNat < P - (S : Int).toNat) (fun x => FrC (fun K i _ => K = 40 ∧ i = 0) s0 x ∧ ∀ T, T < P → gN x 40 0 T = if T = 0 then 1 else 0) z) := fun v hv => by
      unfold j_X7_countByPlace_8_27
      rw [stN_of hC1.z40 (by omega), tnc, ck_of ⟨by omega, by omega⟩]
      refine ⟨_, rfl, ⟨S + 1, by simp, by omega, hF1.sN ⟨rfl, rfl⟩, fun T hT => ?_⟩, by simp only; omega⟩
      simp only
      rw [gN_sN]
      by_cases q : T = S
      · rw [if_pos ⟨rfl, rfl, q⟩, q]; exact hv
      · rw [if_neg (fun z => q z.2.2)]; exact hz T (by omega)
    rw [nk_of hC1.s1]
    exact ev_if (fun hd => go 0 (by rw [if_neg (by omega)])) fun hd => go 1 (by rw [if_pos (by omega)])
  · rintro m1 ⟨hF1, hz⟩
    unfold j_X7_countByPlace_0_34
    refine ev_lp (fun x => FrC (fun K i _ => K = 40 ∧ i = 0) s0 x ∧ PvI A m P x (P - 1) 0) (fun s : Int × MM => ∃ S : Nat, s.1 = S ∧ S ≤ P - 1 ∧ FrC (fun K i _ => K = 40 ∧ i = 0) s0 s.2 ∧ PvI A m P s.2 S 0) (fun s => P - s.1.toNat) ⟨0, rfl, by omega, hF1, fun T hT => ?_⟩ ?_ ?_
    · have hw := wB_pos T
      simp only
      rw [hz T hT, sumF_zero m fun l hl => by unfold tmP; rw [if_neg (fun w => by omega)]]
      split <;> omega
    · rintro ⟨_, m2⟩ ⟨S, rfl, hSP, hF2, hI2⟩
      simp only at hF2 hI2
      show Ev (b_X7_countByPlace_36 0 (m : Int) ((P : Int) - 1) (S : Int) m2) _
      unfold b_X7_countByPlace_36
      refine ev_if (fun hc => ev_exit ⟨hF2, by rw [show P - 1 = S by omega]; exact hI2⟩) fun hc => ?_
      refine ev_lp (fun x => FrC (fun K i _ => K = 40 ∧ i = 0) s0 x ∧ PvI A m P x (S + 1) 0) (fun s : Int × MM => ∃ j : Nat, s.1 = j ∧ j ≤ m ∧ FrC (fun K i _ => K = 40 ∧ i = 0) s0 s.2 ∧ PvI A m P s.2 S j) (fun s => m - s.1.toNat) ⟨0, rfl, by omega, hF2, hI2⟩ ?_ ?_
      · rintro ⟨_, m3⟩ ⟨j, rfl, hj, hF3, hI3⟩
        simp only at hF3 hI3
        show Ev (b_X7_countByPlace_44 0 (m : Int) ((P : Int) - 1) (S : Int) (j : Int) m3) _
        have hC3 : SC m3 := hC.mv2 (fun K i s hk => (hF3.1 K i s (by omega)).2.2) (fun K i k hk => by rw [hF3.2.1]; exact hk)
        unfold b_X7_countByPlace_44
        refine ev_if (fun hd => ev_exit ⟨hF3, hI3.iff fun T l hT hl h1 h2 => by omega⟩) fun hd => ?_
        have hjm : j < m := by omega
        have h2j : 2 ^ j < 2 ^ 31 := Nat.pow_lt_pow_right (by omega) (by omega)
        have hskip : ¬ (S.testBit j = false ∧ cA A j S = true) → Ev (j_X7_countByPlace_44_77 m3 0 (m : Int) ((P : Int) - 1) (S : Int) (j : Int)) (fun z => Sum.elim (fun s' : Int × MM => (∃ j : Nat, s'.1 = j ∧ j ≤ m ∧ FrC (fun K i _ => K = 40 ∧ i = 0) s0 s'.2 ∧ PvI A m P s'.2 S j) ∧ m - s'.1.toNat < m - (j : Int).toNat) (fun x => FrC (fun K i _ => K = 40 ∧ i = 0) s0 x ∧ PvI A m P x (S + 1) 0) z) := fun hno => by
          unfold j_X7_countByPlace_44_77 j_X7_countByPlace_44_78
          rw [if_pos rfl, ck_of ⟨by omega, by omega⟩]
          refine ⟨_, rfl, ⟨j + 1, by simp, by omega, hF3, hI3.iff fun T l hT hl h1 h2 => ?_⟩, by simp only; omega⟩
          by_cases q : del T l = S ∧ l = j
          · obtain ⟨z1, rfl⟩ := q
            refine absurd ⟨?_, by rw [← z1]; exact h2⟩ hno
            rw [← z1, del_bit]; simp
          · omega
        rw [ishl_nat (by omega), iand_nat (by omega) h2j]
        refine ev_if (fun he => hskip fun q => he ?_) fun he => ?_
        · have : S &&& 2 ^ j = 0 := by
            apply Nat.eq_of_testBit_eq
            intro g
            rw [Nat.testBit_and, Nat.testBit_two_pow, Nat.zero_testBit]
            by_cases z : j = g
            · subst z; rw [q.1]; rfl
            · simp [z]
          rw [this]; rfl
        have hb : S.testBit j = false := by
          have : S &&& 2 ^ j = 0 := by omega
          have := congrArg (fun x => x.testBit j) this
          simp only [Nat.testBit_and, Nat.testBit_two_pow_self, Nat.zero_testBit, Bool.and_true] at this
          exact this
        obtain ⟨hA1, hA2⟩ := hA j hjm
        rw [nk_of hC3.s0, ldN_of hC3.z39 (by omega), tnc, (hF3.1 39 0 j (by omega)).1, hA2, iandn_nat (by omega) (by omega)]
        refine ev_if (fun hf => hskip fun q => hf ?_) fun hf => ?_
        · have := q.2
          unfold cA at this
          rw [decide_eq_true_iff] at this
          rw [this]; rfl
        have hcA : cA A j S = true := by
          unfold cA
          rw [decide_eq_true_iff]
          omega
        obtain ⟨k1, k2, k3, k4⟩ := hI3.add hP hm.2 hjm (by omega) hb hcA
        unfold j_X7_countByPlace_44_78
        rw [if_neg (show ¬ (1 : Int) = 0 by decide), ishl_nat (by omega), ior_nat (by omega) h2j, nk_of hC3.s1, ldN_of hC3.z40 (by omega), tnc, nk_of hC3.s1, ldN_of hC3.z40 (by omega), tnc, ck_of ⟨by omega, by omega⟩, stN_of hC3.z40 (by omega), tnc, ck_of ⟨by omega, by omega⟩]
        exact ⟨_, rfl, ⟨j + 1, by simp, by omega, hF3.sN ⟨rfl, rfl⟩, k1⟩, by simp only; omega⟩
      · rintro m3 ⟨hF3, hI3⟩
        unfold j_X7_countByPlace_36_111
        exact ev_ck (by omega) (ev_back ⟨S + 1, by simp, by omega, hF3, hI3⟩ (by simp only; omega))
    · rintro m2 ⟨hF2, hI2⟩
      have hC2 : SC m2 := hC.mv2 (fun K i s hk => (hF2.1 K i s (by omega)).2.2) (fun K i k hk => by rw [hF2.2.1]; exact hk)
      unfold j_X7_countByPlace_0_117
      rw [nk_of hC2.s1, ldN_of hC2.z40 (by omega), show ((P : Int) - 1).toNat = P - 1 by omega]
      refine ev_some ⟨_, rfl, hF2, fun S => gN m2 40 0 S, hI2.isV hP, ?_⟩
      rw [hP]
end ANEW
section ANEW2
variable {N : Nat} {mc mm : MM}
theorem call_ordersAnew (h : RR N mc mm) (a : Int) : CalI N (f_X11_ordersAnew mc 0 a) (f_X12_ordersAnew mm 0 a) [0] := by
  unfold f_X11_ordersAnew f_X12_ordersAnew f_X12_orders
  by_cases hb : 0 ≤ a ∧ a < gN mm 12 0 19
  · obtain ⟨b, rfl⟩ := Int.ex hb.1
    obtain ⟨F, n, M, Ln, E, hB⟩ := h.Bk b hb.2
    have hP := hB.hP
    have hS := hB.hS
    have q1 := hP.hn
    rw [bookAt_ok h.Nb h.C hb.2, bR_ok, nk_some, isBook_ok h.Nb hb.2, Option.bind_some, if_neg (show ¬ (1 : Int) = 0 by decide)]
    obtain ⟨⟨r, m1⟩, e1, e2, hF1, hQ1⟩ := readFormes_c h hB
    simp only at e2 hF1 hQ1
    subst e2
    have hC1 : SC m1 := h.C.mv2 (fun K i s hk => (hF1.1 K i s (by omega)).2.2) (fun K i k hk => by rw [hF1.2.1]; exact hk)
    have hS1 := hF1.BS hS hP (fun K i s hk => by unfold CBS at hk; omega)
    have hA : ∀ f, f < 2 * n → (if f < 2 * n then (gN m1 39 0 f).toNat else 0) < 256 ∧ gN m1 39 0 f = (if f < 2 * n then (gN m1 39 0 f).toNat else 0 : Nat) := fun f hf => by
      obtain ⟨a, a1, a2, a3⟩ := hQ1 f hf
      rw [if_pos hf, a2, tnc]
      exact ⟨a1, rfl⟩
    have hAq : ∀ f, f < 2 * n → ∀ g, (if f < 2 * n then (gN m1 39 0 f).toNat else 0).testBit g = true ↔ Qs (PrS mc b) (2 * n) (gN mm 12 0 6).toNat 0 0 f g := fun f hf g => by
      obtain ⟨a, a1, a2, a3⟩ := hQ1 f hf
      rw [if_pos hf, a2, tnc]
      exact a3 g
    obtain ⟨A, hAd⟩ : ∃ A : Nat → Nat, A = fun f => if f < 2 * n then (gN m1 39 0 f).toNat else 0 := ⟨_, rfl⟩
    have hA' : ∀ f, f < 2 * n → A f < 256 ∧ gN m1 39 0 f = A f := by rw [hAd]; exact hA
    have hAq' : ∀ f, f < 2 * n → ∀ g, (A f).testBit g = true ↔ Qs (PrS mc b) (2 * n) (gN mm 12 0 6).toNat 0 0 f g := by rw [hAd]; exact hAq
    have hAz : ∀ f, 2 * n ≤ f → A f = 0 := by rw [hAd]; exact fun f hf => if_neg (by omega)
    obtain ⟨⟨r, m2⟩, f1, v, f2, hF2, V, hV, hv⟩ := countByPlace_c hC1 (m := 2 * n) (by omega) hA'
    simp only at f2 hF2
    subst f2
    have h0 := h.thr 0
    have hB0 := hB.thr 0
    obtain ⟨⟨r, m4⟩, g1, w, g2, hF4, Bm, W, hBq, hBz, hW, hw⟩ := ordersOf_m h0.M h0.Ca hB0
    simp only at g2 hF4
    subst g2
    have h126 : gN (sN mm 12 0 0 0) 12 0 6 = gN mm 12 0 6 := gthr' _ _ (by omega)
    rw [h126] at hBq
    have hbits : ∀ l g, (Bm l).testBit g = (A g).testBit l := fun l g => by
      have e : (Bm l).testBit g = true ↔ (A g).testBit l = true := by
        by_cases hl : l < 2 * n
        · rw [hBq l hl g, Qs.fin]
          by_cases hg : g < 2 * n
          · rw [hAq' g hg l, Qs.fin]
            exact ⟨fun z => ⟨hl, z.2⟩, fun z => ⟨hg, z.2⟩⟩
          · rw [hAz g (by omega)]
            exact ⟨fun z => absurd z.1 hg, fun z => absurd z (by simp)⟩
        · rw [hBz l (by omega)]
          by_cases hg : g < 2 * n
          · rw [hAq' g hg l, Qs.fin]
            exact ⟨fun z => absurd z (by simp), fun z => absurd z.1 hl⟩
          · rw [hAz g (by omega)]
            simp
      revert e
      cases (Bm l).testBit g <;> cases (A g).testBit l <;> simp
    have hirr : ∀ l, (A l).testBit l = false := fun l => by
      cases e : (A l).testBit l
      · rfl
      · by_cases hl : l < 2 * n
        · rw [hAq' l hl l, Qs.fin] at e
          obtain ⟨-, x, -, z1, z2⟩ := e
          omega
        · rw [hAz l (by omega)] at e
          simp at e
    have hfull : Down A (2 ^ (2 * n) - 1) := fun l g h1 h2 => by
      have hl : l < 2 * n := by
        by_cases hl : l < 2 * n
        · exact hl
        · rw [hAz l (by omega)] at h2
          simp at h2
      rw [hAq' l hl g, Qs.fin] at h2
      rw [Nat.testBit_two_pow_sub_one]
      exact decide_eq_true h2.1
    have hpos := Nat.two_pow_pos (2 * n)
    have hvw : v = w := by
      rw [hv, hw]
      exact ways_eq hirr (fun l S => cA_iff) (fun l S => by rw [dB_iff]; exact ⟨fun z g hg => by rw [← hbits]; exact z g hg, fun z g hg => by rw [hbits]; exact z g hg⟩) hV hW _ _ (Nat.le_refl _) (by omega) hfull
    rw [nk_of h.C.r6, nk_of h.C.r1, e1, bV_ok, nk_of hC1.r6, nk_of hS1.r6, lenI_of hS1.z14, f1, bI_ok]
    unfold j_X12_orders_0_14
    rw [holds0, bI_ok, if_neg (show ¬ (1 : Int) = 0 by decide), g1, bI_ok, bI_ok]
    refine ⟨_, _, _, _, rfl, rfl, Or.inl ⟨by rw [hvw], by rw [(hF4.1 12 0 0 (by omega)).1, gthr]⟩, h.scr (Nat.le_succ N) (fun K i => (hF2.2.1 K i).trans (hF1.2.1 K i)) (fun K i k hk => by rw [hF4.2.1]; exact hk) (fun K => (hF2.2.2 K).trans (hF1.2.2 K)) (fun K i s h1 h2 => (hF1.1 K i s (fun q => h2 (by unfold scC; omega))).tr (hF2.1 K i s (fun q => h2 (by unfold scC; omega)))) (fun K i s h1 h2 => (eq3.sN (fun q => h2 (by unfold scM; omega))).tr (hF4.1 K i s (fun q => h2 (by unfold scM; omega))))⟩
  · rw [bookAt_bad h.Nb h.C hb, bR_ex, isBook_bad h.Nb hb, Option.bind_some, if_pos rfl]
    unfold j_X12_orders_0_14
    rw [holds1 _ (by decide), bI_ok, if_pos rfl, bI_ok]
    exact CalI.bad (k := 0) h rfl rfl rfl
end ANEW2
