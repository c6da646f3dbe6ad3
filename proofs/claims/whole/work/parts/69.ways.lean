/-! THE ROWS OF COUNTS. -/
/-- a bound on the ways -/
def wB (S : Nat) : Nat := 8 ^ ((List.range 8).filter (fun l => S.testBit l)).length
theorem wB_del {S l : Nat} (hS : S < 256) (hl : l < 8) (h : S.testBit l = true) : 8 * wB (del S l) = wB S := by
  have k : ∀ S : Fin 256, ∀ l : Fin 8, S.val.testBit l.val = true → 8 * wB (del S.val l.val) = wB S.val := by decide +kernel
  exact k ⟨S, hS⟩ ⟨l, hl⟩ h
theorem wB_le {S : Nat} (hS : S < 256) : wB S ≤ 16777216 := by
  have k : ∀ S : Fin 256, wB S.val ≤ 16777216 := by decide +kernel
  exact k ⟨S, hS⟩
/-- the values below k are right -/
def CvI (K m : Nat) (c : Nat → Nat → Bool) (s : MM) (k : Nat) : Prop := gN s K 0 0 = 1 ∧ (∀ S, S < k → 0 ≤ gN s K 0 S ∧ gN s K 0 S ≤ (wB S : Nat)) ∧ ∀ S, 0 < S → S < k → gN s K 0 S = sumF (fun l => if S.testBit l = true ∧ c l (del S l) = true then gN s K 0 (del S l) else 0) m
/-- of the value S the first j terms are in -/
def CvJ (K m : Nat) (c : Nat → Nat → Bool) (s : MM) (S j : Nat) : Prop := CvI K m c s S ∧ gN s K 0 S = sumF (fun l => if S.testBit l = true ∧ c l (del S l) = true then gN s K 0 (del S l) else 0) j ∧ 0 ≤ gN s K 0 S ∧ 8 * gN s K 0 S ≤ ((j * wB S : Nat) : Int)
section CV
variable {K m : Nat} {c : Nat → Nat → Bool} {s : MM}
theorem CvI.set {S : Nat} (h : CvI K m c s S) (hS : 0 < S) (v : Int) : CvI K m c (sN s K 0 S v) S := by
  obtain ⟨h1, h2, h3⟩ := h
  have e : ∀ T, T < S → gN (sN s K 0 S v) K 0 T = gN s K 0 T := fun T hT => by rw [gN_sN, if_neg (by omega)]
  refine ⟨by rw [e 0 hS]; exact h1, fun T hT => by rw [e T hT]; exact h2 T hT, fun T h0 hT => ?_⟩
  rw [e T hT, h3 T h0 hT]
  refine sumF_congr m fun l hl => ?_
  by_cases q : T.testBit l = true ∧ c l (del T l) = true
  · have := del_lt q.1
    rw [if_pos q, if_pos q, e _ (by omega)]
  · rw [if_neg q, if_neg q]
theorem CvI.start (hK : gN s K 0 0 = 1) : CvI K m c s 1 := ⟨hK, fun S hS => by
  obtain rfl : S = 0 := by omega
  rw [hK]
  have : wB 0 = 1 := by decide
  omega, fun S h0 hS => by omega⟩
theorem CvI.zero {S : Nat} (h : CvI K m c s S) (hS : 0 < S) : CvJ K m c (sN s K 0 S 0) S 0 := by
  have e : gN (sN s K 0 S 0) K 0 S = 0 := by rw [gN_sN, if_pos ⟨rfl, rfl, rfl⟩]
  exact ⟨h.set hS 0, by rw [e]; rfl, by rw [e]; omega, by rw [e]; omega⟩
theorem CvJ.skip {S j : Nat} (h : CvJ K m c s S j) (hq : ¬ (S.testBit j = true ∧ c j (del S j) = true)) : CvJ K m c s S (j + 1) := by
  obtain ⟨h1, h2, h3, h4⟩ := h
  refine ⟨h1, ?_, h3, ?_⟩
  · rw [sumF, if_neg hq, Int.add_zero]; exact h2
  · rw [Nat.succ_mul]; omega
theorem CvJ.add {S j : Nat} (h : CvJ K m c s S j) (hS : 0 < S) (hS2 : S < 256) (hj : j < 8) (hq : S.testBit j = true ∧ c j (del S j) = true) : CvJ K m c (sN s K 0 S (gN s K 0 S + gN s K 0 (del S j))) S (j + 1) ∧ 0 ≤ gN s K 0 S + gN s K 0 (del S j) ∧ gN s K 0 S + gN s K 0 (del S j) ≤ 100000000 := by
  obtain ⟨h1, h2, h3, h4⟩ := h
  have hlt := del_lt hq.1
  have hb := h1.2.1 _ hlt
  have hw := wB_del hS2 hj hq.1
  have hw2 := wB_le hS2
  have hjw : j * wB S ≤ 8 * wB S := Nat.mul_le_mul_right _ (by omega)
  have e : gN (sN s K 0 S (gN s K 0 S + gN s K 0 (del S j))) K 0 S = gN s K 0 S + gN s K 0 (del S j) := by rw [gN_sN, if_pos ⟨rfl, rfl, rfl⟩]
  have e2 : ∀ T, T < S → gN (sN s K 0 S (gN s K 0 S + gN s K 0 (del S j))) K 0 T = gN s K 0 T := fun T hT => by rw [gN_sN, if_neg (by omega)]
  refine ⟨⟨h1.set hS _, ?_, by rw [e]; omega, by rw [e, Nat.succ_mul]; omega⟩, by omega, by omega⟩
  rw [e, sumF, if_pos hq, e2 _ hlt]
  congr 1
  refine h2.trans (sumF_congr j fun l hl => ?_)
  by_cases q : S.testBit l = true ∧ c l (del S l) = true
  · have := del_lt q.1
    rw [if_pos q, if_pos q, e2 _ this]
  · rw [if_neg q, if_neg q]
theorem CvJ.done {S : Nat} (h : CvJ K m c s S m) (hm : m ≤ 8) : CvI K m c s (S + 1) := by
  obtain ⟨h1, h2, h3, h4⟩ := h
  have hjw : m * wB S ≤ 8 * wB S := Nat.mul_le_mul_right _ hm
  refine ⟨h1.1, fun T hT => ?_, fun T h0 hT => ?_⟩
  · by_cases q : T = S
    · rw [q]; omega
    · exact h1.2.1 T (by omega)
  · by_cases q : T = S
    · rw [q]; exact h2
    · exact h1.2.2 T h0 (by omega)
theorem CvI.isV (h : CvI K m c s (2 ^ m)) : IsV c m (fun S => gN s K 0 S) := ⟨h.1, fun S h0 hS => h.2.2 S h0 hS⟩
end CV
section ORDERS
variable {N : Nat} {mc mm : MM} {b F n M Ln E : Nat}
/-- all that lies ahead of l lies in T -/
def cA (A : Nat → Nat) (l T : Nat) : Bool := decide (A l ^^^ (A l &&& T) = 0)
theorem cA_iff {A : Nat → Nat} {l T : Nat} : cA A l T = true ↔ ∀ g, (A l).testBit g = true → T.testBit g = true := by
  unfold cA
  rw [decide_eq_true_iff]
  constructor
  · intro h g hg
    have := congrArg (fun x => x.testBit g) h
    simp only [Nat.testBit_xor, Nat.testBit_and, hg, Nat.zero_testBit] at this
    revert this
    cases T.testBit g <;> simp
  · intro h
    apply Nat.eq_of_testBit_eq
    intro g
    rw [Nat.testBit_xor, Nat.testBit_and, Nat.zero_testBit]
    cases e : (A l).testBit g
    · simp
    · rw [h g e]; rfl
/-- none of T lies behind l -/
def dB (B : Nat → Nat) (l T : Nat) : Bool := decide (B l &&& T = 0)
theorem dB_iff {B : Nat → Nat} {l T : Nat} : dB B l T = true ↔ ∀ g, T.testBit g = true → (B l).testBit g = false := by
  unfold dB
  rw [decide_eq_true_iff]
  constructor
  · intro h g hg
    have := congrArg (fun x => x.testBit g) h
    simp only [Nat.testBit_and, hg, Nat.zero_testBit, Bool.and_true] at this
    exact this
  · intro h
    apply Nat.eq_of_testBit_eq
    intro g
    rw [Nat.testBit_and, Nat.zero_testBit]
    cases e : T.testBit g
    · simp
    · rw [h g e]; rfl
theorem countByLast_c {s0 : MM} (hC : SC s0) {m : Nat} (hm : 1 ≤ m ∧ m ≤ 8) {A : Nat → Nat} (hA : ∀ f, f < m → A f < 256 ∧ gN s0 39 0 f = A f) :
    Ev (f_X7_countByLast s0 0 (m : Int)) (fun r => ∃ v, r.1 = .inl (some (aI v)) ∧ FrC (fun K i _ => K = 40 ∧ i = 0) s0 r.2 ∧ ∃ V, IsV (cA A) m V ∧ v = V (2 ^ m - 1)) := by
  have hp : 2 ^ m ≤ 2 ^ 8 := Nat.pow_le_pow_right (by omega) hm.2
  have hp1 : 0 < 2 ^ m := Nat.two_pow_pos m
  have hsh : ishl 1 (m : Int) = ((2 ^ m : Nat) : Int) := ishl_nat (by omega)
  obtain ⟨P, hP⟩ : ∃ P, P = 2 ^ m := ⟨_, rfl⟩
  have hP256 : P ≤ 256 := by rw [hP]; exact Nat.le_trans hp (by decide)
  have hP1 : 1 ≤ P := by rw [hP]; exact hp1
  unfold f_X7_countByLast
  rw [hsh, ← hP]
  rw [ck_of ⟨by omega, by omega⟩, nk_of hC.s1, stN_of hC.z40 (by omega), show (0 : Int).toNat = 0 from rfl]
  refine ev_lp (fun x => FrC (fun K i _ => K = 40 ∧ i = 0) s0 x ∧ CvI 40 m (cA A) x P) (fun s : Int × MM => ∃ S : Nat, s.1 = S ∧ 1 ≤ S ∧ S ≤ P ∧ FrC (fun K i _ => K = 40 ∧ i = 0) s0 s.2 ∧ CvI 40 m (cA A) s.2 S) (fun s => P - s.1.toNat) ⟨1, rfl, by omega, by omega, FrC.rf.sN ⟨rfl, rfl⟩, CvI.start (by rw [gN_sN, if_pos ⟨rfl, rfl, rfl⟩])⟩ ?_ ?_
  · rintro ⟨_, m1⟩ ⟨S, rfl, hS1, hSP, hF1, hI1⟩
    simp only at hF1 hI1
    show Ev (b_X7_countByLast_15 0 (m : Int) ((P : Int) - 1) (S : Int) m1) _
    have hC1 : SC m1 := hC.mv2 (fun K i s hk => (hF1.1 K i s (by omega)).2.2) (fun K i k hk => by rw [hF1.2.1]; exact hk)
    unfold b_X7_countByLast_15
    refine ev_if (fun hc => ev_exit ⟨hF1, by rw [show P = S by omega]; exact hI1⟩) fun hc => ?_
    have hS256 : S < 256 := by omega
    rw [nk_of hC1.s1, stN_of hC1.z40 (by omega), tnc]
    refine ev_lp (fun x => FrC (fun K i _ => K = 40 ∧ i = 0) s0 x ∧ CvI 40 m (cA A) x (S + 1)) (fun s : Int × MM => ∃ j : Nat, s.1 = j ∧ j ≤ m ∧ FrC (fun K i _ => K = 40 ∧ i = 0) s0 s.2 ∧ CvJ 40 m (cA A) s.2 S j) (fun s => m - s.1.toNat) ⟨0, rfl, by omega, hF1.sN ⟨rfl, rfl⟩, hI1.zero (by omega)⟩ ?_ ?_
    · rintro ⟨_, m2⟩ ⟨j, rfl, hj, hF2, hJ2⟩
      simp only at hF2 hJ2
      show Ev (b_X7_countByLast_30 0 (m : Int) ((P : Int) - 1) (S : Int) (j : Int) m2) _
      have hC2 : SC m2 := hC.mv2 (fun K i s hk => (hF2.1 K i s (by omega)).2.2) (fun K i k hk => by rw [hF2.2.1]; exact hk)
      unfold b_X7_countByLast_30
      refine ev_if (fun hd => ev_exit ⟨hF2, by rw [show j = m by omega] at hJ2; exact hJ2.done hm.2⟩) fun hd => ?_
      have hj8 : j < 8 := by omega
      have h2j : 2 ^ j < 2 ^ 31 := Nat.pow_lt_pow_right (by omega) (by omega)
      have hdel : iand (S : Int) (ixor' (ishl 1 (j : Int)) (-1)) = ((del S j : Nat) : Int) := by rw [ishl_nat (by omega), iandn_nat (by omega) h2j]; rfl
      rw [lt0_eq, hdel]
      obtain ⟨hA1, hA2⟩ := hA j (by omega)
      refine ev_if (fun he => ev_ck (by omega) (ev_back ⟨j + 1, by simp, by omega, hF2, hJ2.skip fun q => ?_⟩ (by simp only; omega))) fun he => ?_
      · have := del_lt q.1; omega
      have hbit : S.testBit j = true := Classical.byContradiction fun q => he (by rw [del_no (by simpa using q)])
      have hdlt := del_lt hbit
      rw [nk_of hC2.s0, ldN_of hC2.z39 (by omega), tnc, (hF2.1 39 0 j (by omega)).1, hA2, iandn_nat (by omega) (by omega)]
      refine ev_if (fun hf => ev_ck (by omega) (ev_back ⟨j + 1, by simp, by omega, hF2, hJ2.skip fun q => hf ?_⟩ (by simp only; omega))) fun hf => ?_
      · have := q.2
        unfold cA at this
        rw [decide_eq_true_iff] at this
        rw [this]; rfl
      have hcA : cA A j (del S j) = true := by
        unfold cA
        rw [decide_eq_true_iff]
        omega
      obtain ⟨k1, k2, k3⟩ := hJ2.add (by omega) hS256 hj8 ⟨hbit, hcA⟩
      rw [nk_of hC2.s1, ldN_of hC2.z40 (by omega), tnc, nk_of hC2.s1, ldN_of hC2.z40 (by omega), tnc, ck_of ⟨by omega, by omega⟩, stN_of hC2.z40 (by omega), tnc]
      exact ev_ck (by omega) (ev_back ⟨j + 1, by simp, by omega, hF2.sN ⟨rfl, rfl⟩, k1⟩ (by simp only; omega))
    · rintro m2 ⟨hF2, hI2⟩
      unfold j_X7_countByLast_15_89
      exact ev_ck (by omega) (ev_back ⟨S + 1, by simp, by omega, by omega, hF2, hI2⟩ (by simp only; omega))
  · rintro m1 ⟨hF1, hI1⟩
    have hC1 : SC m1 := hC.mv2 (fun K i s hk => (hF1.1 K i s (by omega)).2.2) (fun K i k hk => by rw [hF1.2.1]; exact hk)
    unfold j_X7_countByLast_0_95
    rw [nk_of hC1.s1, ldN_of hC1.z40 (by omega), show ((P : Int) - 1).toNat = P - 1 by omega]
    refine ev_some ⟨_, rfl, hF1, fun S => gN m1 40 0 S, ?_, ?_⟩
    · rw [hP] at hI1
      exact hI1.isV
    · rw [hP]
end ORDERS
