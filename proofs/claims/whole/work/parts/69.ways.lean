/-! THE ROWS OF COUNTS. -/
/-- a bound on the ways -/
def wB (S : Nat) : Nat := 8 ^ ((List.range 8).filter (fun l => S.testBit l)).length
theorem wB_del {S l : Nat} (hS : S < 256) (hl : l < 8) (h : S.testBit l = true) : 8 * wB (del S l) = wB S := by
  have k : ∀ S : Fin 256, ∀ l : Fin 8, S.val.testBit l.val = true → 8 * wB (del S.val l.val) = wB S.val := by decide +kernel
  exact k ⟨S, hS⟩ ⟨l, hl⟩ h
theorem wB_le {S : Nat} (hS : S < 256) : wB S ≤ 16777216 := by
  have k : ∀ S : Fin 256, wB S.val ≤ 16777216 := by decide +kernel
  exact k ⟨S, hS⟩
/-- the values below k are right -/
def CvI (K m : Nat) (c : Nat → Nat → Bool) (s : MM) (k : Nat) : Prop := gN s K 0 0 = 1 ∧ (∀ S, S < k → 0 ≤ gN s K 0 S ∧ gN s K 0 S ≤ (wB S : Nat)) ∧ ∀ S, 0 < S → S < k → gN s K 0 S = sumF (fun l => if S.testBit l = true ∧ c l (del S l) = true then gN s K 0 (del S l) else 0) m
/-- of the value S the first j terms are in -/
def CvJ (K m : Nat) (c : Nat → Nat → Bool) (s : MM) (S j : Nat) : Prop := CvI K m c s S ∧ gN s K 0 S = sumF (fun l => if S.testBit l = true ∧ c l (del S l) = true then gN s K 0 (del S l) else 0) j ∧ 0 ≤ gN s K 0 S ∧ 8 * gN s K 0 S ≤ ((j * wB S : Nat) : Int)
section CV
variable {K m : Nat} {c : Nat → Nat → Bool} {s : MM}
theorem CvI.set {S : Nat} (h : CvI K m c s S) (hS : 0 < S) (v : Int) : CvI K m c (sN s K 0 S v) S := by
  obtain ⟨h1, h2, h3⟩ := h
  have e : ∀ T, T < S → gN (sN s K 0 S v) K 0 T = gN s K 0 T := fun T hT => by rw [gN_sN, if_neg (by omega)]
  refine ⟨by rw [e 0 hS]; exact h1, fun T hT => by rw [e T hT]; exact h2 T hT, fun T h0 hT => ?_⟩
  rw [e T hT, h3 T h0 hT]
  refine sumF_congr m fun l hl => ?_
  by_cases q : T.testBit l = true ∧ c l (del T l) = true
  · have := del_lt q.1
    rw [if_pos q, if_pos q, e _ (by omega)]
  · rw [if_neg q, if_neg q]
theorem CvI.start (hK : gN s K 0 0 = 1) : CvI K m c s 1 := ⟨hK, fun S hS => by
  obtain rfl : S = 0 := by omega
  rw [hK]
  have : wB 0 = 1 := by decide
  omega, fun S h0 hS => by omega⟩
theorem CvI.zero {S : Nat} (h : CvI K m c s S) (hS : 0 < S) : CvJ K m c (sN s K 0 S 0) S 0 := by
  have e : gN (sN s K 0 S 0) K 0 S = 0 := by rw [gN_sN, if_pos ⟨rfl, rfl, rfl⟩]
  exact ⟨h.set hS 0, by rw [e]; rfl, by rw [e]; omega, by rw [e]; omega⟩
theorem CvJ.skip {S j : Nat} (h : CvJ K m c s S j) (hq : ¬ (S.testBit j = true ∧ c j (del S j) = true)) : CvJ K m c s S (j + 1) := by
  obtain ⟨h1, h2, h3, h4⟩ := h
  refine ⟨h1, ?_, h3, ?_⟩
  · rw [sumF, if_neg hq, Int.add_zero]; exact h2
  · rw [Nat.succ_mul]; omega
theorem CvJ.add {S j : Nat} (h : CvJ K m c s S j) (hS : 0 < S) (hS2 : S < 256) (hj : j < 8) (hq : S.testBit j = true ∧ c j (del S j) = true) : CvJ K m c (sN s K 0 S (gN s K 0 S + gN s K 0 (del S j))) S (j + 1) ∧ 0 ≤ gN s K 0 S + gN s K 0 (del S j) ∧ gN s K 0 S + gN s K 0 (del S j) ≤ 100000000 := by
  obtain ⟨h1, h2, h3, h4⟩ := h
  have hlt := del_lt hq.1
  have hb := h1.2.1 _ hlt
  have hw := wB_del hS2 hj hq.1
  have hw2 := wB_le hS2
  have hjw : j * wB S ≤ 8 * wB S := Nat.mul_le_mul_right _ (by omega)
  have e : gN (sN s K 0 S (gN s K 0 S + gN s K 0 (del S j))) K 0 S = gN s K 0 S + gN s K 0 (del S j) := by rw [gN_sN, if_pos ⟨rfl, rfl, rfl⟩]
  have e2 : ∀ T, T < S → gN (sN s K 0 S (gN s K 0 S + gN s K 0 (del S j))) K 0 T = gN s K 0 T := fun T hT => by rw [gN_sN, if_neg (by omega)]
  refine ⟨⟨h1.set hS _, ?_, by rw [e]; omega, by rw [e, Nat.succ_mul]; omega⟩, by omega, by omega⟩
  rw [e, sumF, if_pos hq, e2 _ hlt]
  congr 1
  refine h2.trans (sumF_congr j fun l hl => ?_)
  by_cases q : S.testBit l = true ∧ c l (del S l) = true
  · have := del_lt q.1
    rw [if_pos q, if_pos q, e2 _ this]
  · rw [if_neg q, if_neg q]
theorem CvJ.done {S : Nat} (h : CvJ K m c s S m) (hm : m ≤ 8) : CvI K m c s (S + 1) := by
  obtain ⟨h1, h2, h3, h4⟩ := h
  have hjw : m * wB S ≤ 8 * wB S := Nat.mul_le_mul_right _ hm
  refine ⟨h1.1, fun T hT => ?_, fun T h0 hT => ?_⟩
  · by_cases q : T = S
    · rw [q]; omega
    · exact h1.2.1 T (by omega)
  · by_cases q : T = S
    · rw [q]; exact h2
    · exact h1.2.2 T h0 (by omega)
theorem CvI.isV (h : CvI K m c s (2 ^ m)) : IsV c m (fun S => gN s K 0 S) := ⟨h.1, fun S h0 hS => h.2.2 S h0 hS⟩
end CV
section ORDERS
variable {N : Nat} {mc mm : MM} {b F n M Ln E : Nat}
/-- all that lies ahead of l lies in T -/
def cA (A : Nat → Nat) (l T : Nat) : Bool := decide (A l ^^^ (A l &&& T) = 0)
theorem cA_iff {A : Nat → Nat} {l T : Nat} : cA A l T = true ↔ ∀ g, (A l).testBit g = true → T.testBit g = true := by
  unfold cA
  rw [decide_eq_true_iff]
  constructor
  · intro h g hg
    have := congrArg (fun x => x.testBit g) h
    simp only [Nat.testBit_xor, Nat.testBit_and, hg, Nat.zero_testBit] at this
    revert this
    cases T.testBit g <;> simp
  · intro h
    apply Nat.eq_of_testBit_eq
    intro g
    rw [Nat.testBit_xor, Nat.testBit_and, Nat.zero_testBit]
    cases e : (A l).testBit g
    · simp
    · rw [h g e]; rfl
/-- none of T lies behind l -/
def dB (B : Nat → Nat) (l T : Nat) : Bool := decide (B l &&& T = 0)
theorem dB_iff {B : Nat → Nat} {l T : Nat} : dB B l T = true ↔ ∀ g, T.testBit g = true → (B l).testBit g = false := by
  unfold dB
  rw [decide_eq_true_iff]
  constructor
  · intro h g hg
    have := congrArg (fun x => x.testBit g) h
    simp only [Nat.testBit_and, hg, Nat.zero_testBit, Bool.and_true] at this
    exact this
  · intro h
    apply Nat.eq_of_testBit_eq
    intro g
    rw [Nat.testBit_and, Nat.zero_testBit]
    cases e : T.testBit g
    · simp
    · rw [h g e]; rfl
theorem countByLast_c {s0 : MM} (hC : SC s0) {m : Nat} (hm : 1 ≤ m ∧ m ≤ 8) {A : Nat → Nat} (hA : ∀ f, f < m → A f < 256 ∧ gN s0 39 0 f = A f) :
    Ev (f_X7_countByLast s0 0 (m : Int)) (fun r => ∃ v, r.1 = .inl (some (aI v)) ∧ FrC (fun K i _ => K = 40 ∧ i = 0) s0 r.2 ∧ ∃ V, IsV (cA A) m V ∧ v = V (2 ^ m - 1)) := by
  have hp : 2 ^ m ≤ 2 ^ 8 := Nat.pow_le_pow_right (by omega) hm.2
  have hp1 : 0 < 2 ^ m := Nat.two_pow_pos m
  have hsh : ishl 1 (m : Int) = ((2 ^ m : Nat) : Int) := ishl_nat (by omega)
  obtain ⟨P, hP⟩ : ∃ P, P = 2 ^ m := ⟨_, rfl⟩
  have hP256 : P ≤ 256 := by rw [hP]; exact Nat.le_trans hp (by decide)
  have hP1 : 1 ≤ P := by rw [hP]; exact hp1
  unfold f_X7_countByLast
  rw [hsh, ← hP]
  rw [ck_of ⟨by omega, by omega⟩, nk_of hC.s1, stN_of hC.z40 (by omega), show (0 : Int).toNat = 0 from rfl]
  refine ev_lp (fun x => FrC (fun K i _ => K = 40 ∧ i = 0) s0 x ∧ CvI 40 m (cA A) x P) (fun s : Int × MM => ∃ S : Nat, s.1 = S ∧ 1 ≤ S ∧ S ≤ P ∧ FrC (fun K i _ => K = 40 ∧ i = 0) s0 s.2 ∧ CvI 40 m (cA A) s.2 S) (fun s => P - s.1.toNat) ⟨1, rfl, by omega, by omega, FrC.rf.sN ⟨rfl, rfl⟩, CvI.start (by rw [gN_sN, if_pos ⟨rfl, rfl, rfl⟩])⟩ ?_ ?_
  · rintro ⟨_, m1⟩ ⟨S, rfl, hS1, hSP, hF1, hI1⟩
    simp only at hF1 hI1
    show Ev (b_X7_countByLast_15 0 (m : Int) ((P : Int) - 1) (S : Int) m1) _
    have hC1 : SC m1 := hC.mv2 (fun K i s hk => (hF1.1 K i s (by omega)).2.2) (fun K i k hk => by rw [hF1.2.1]; exact hk)
    unfold b_X7_countByLast_15
    refine ev_if (fun hc => ev_exit ⟨hF1, by rw [show P = S by omega]; exact hI1⟩) fun hc => ?_
    have hS256 : S < 256 := by omega
    rw [nk_of hC1.s1, stN_of hC1.z40 (by omega), tnc]
    refine ev_lp (fun x => FrC (fun K i _ => K = 40 ∧ i = 0) s0 x ∧ CvI 40 m (cA A) x (S + 1)) (fun s : Int × MM => ∃ j : Nat, s.1 = j ∧ j ≤ m ∧ FrC (fun K i _ => K = 40 ∧ i = 0) s0 s.2 ∧ CvJ 40 m (cA A) s.2 S j) (fun s => m - s.1.toNat) ⟨0, rfl, by omega, hF1.sN ⟨rfl, rfl⟩, hI1.zero (by omega)⟩ ?_ ?_
    · rintro ⟨_, m2⟩ ⟨j, rfl, hj, hF2, hJ2⟩
      simp only at hF2 hJ2
      show Ev (b_X7_countByLast_30 0 (m : Int) ((P : Int) - 1) (S : Int) (j : Int) m2) _
      have hC2 : SC m2 := hC.mv2 (fun K i s hk => (hF2.1 K i s (by omega)).2.2) (fun K i k hk => by rw [hF2.2.1]; exact hk)
      unfold b_X7_countByLast_30
      refine ev_if (fun hd => ev_exit ⟨hF2, by rw [show j = m by omega] at hJ2; exact hJ2.done hm.2⟩) fun hd => ?_
      have hj8 : j < 8 := by omega
      have h2j : 2 ^ j < 2 ^ 31 := Nat.pow_lt_pow_right (by omega) (by omega)
      have hdel : iand (S : Int) (ixor' (ishl 1 (j : Int)) (-1)) = ((del S j : Nat) : Int) := by rw [ishl_nat (by omega), iandn_nat (by omega) h2j]; rfl
      rw [lt0_eq, hdel]
      obtain ⟨hA1, hA2⟩ := hA j (by omega)
      refine ev_if (fun he => ev_ck (by omega) (ev_back ⟨j + 1, by simp, by omega, hF2, hJ2.skip fun q => ?_⟩ (by simp only; omega))) fun he => ?_
      · have := del_lt q.1; omega
      have hbit : S.testBit j = true := Classical.byContradiction fun q => he (by rw [del_no (by simpa using q)])
      have hdlt := del_lt hbit
      rw [nk_of hC2.s0, ldN_of hC2.z39 (by omega), tnc, (hF2.1 39 0 j (by omega)).1, hA2, iandn_nat (by omega) (by omega)]
      refine ev_if (fun hf => ev_ck (by omega) (ev_back ⟨j + 1, by simp, by omega, hF2, hJ2.skip fun q => hf ?_⟩ (by simp only; omega))) fun hf => ?_
      · have := q.2
        unfold cA at this
        rw [decide_eq_true_iff] at this
        rw [this]; rfl
      have hcA : cA A j (del S j) = true := by
        unfold cA
        rw [decide_eq_true_iff]
        omega
      obtain ⟨k1, k2, k3⟩ := hJ2.add (by omega) hS256 hj8 ⟨hbit, hcA⟩
      rw [nk_of hC2.s1, ldN_of hC2.z40 (by omega), tnc, nk_of hC2.s1, ldN_of hC2.z40 (by omega), tnc, ck_of ⟨by omega, by omega⟩, stN_of hC2.z40 (by omega), tnc]
      exact ev_ck (by omega) (ev_back ⟨j + 1, by simp, by omega, hF2.sN ⟨rfl, rfl⟩, k1⟩ (by simp only; omega))
    · rintro m2 ⟨hF2, hI2⟩
      unfold j_X7_countByLast_15_89
      exact ev_ck (by omega) (ev_back ⟨S + 1, by simp, by omega, by omega, hF2, hI2⟩ (by simp only; omega))
  · rintro m1 ⟨hF1, hI1⟩
    have hC1 : SC m1 := hC.mv2 (fun K i s hk => (hF1.1 K i s (by omega)).2.2) (fun K i k hk => by rw [hF1.2.1]; exact hk)
    unfold j_X7_countByLast_0_95
    rw [nk_of hC1.s1, ldN_of hC1.z40 (by omega), show ((P : Int) - 1).toNat = P - 1 by omega]
    refine ev_some ⟨_, rfl, hF1, fun S => gN m1 40 0 S, ?_, ?_⟩
    · rw [hP] at hI1
      exact hI1.isV
    · rw [hP]
theorem CvJ.same {K m : Nat} {c : Nat → Nat → Bool} {s : MM} {S j : Nat} (h : CvJ K m c s S j) (hS : 0 < S) : CvJ K m c (sN s K 0 S (gN s K 0 S + 0)) S j := by
  obtain ⟨h1, h2, h3, h4⟩ := h
  have e : ∀ T, gN (sN s K 0 S (gN s K 0 S + 0)) K 0 T = gN s K 0 T := fun T => by
    rw [gN_sN]
    by_cases q : T = S
    · rw [if_pos ⟨rfl, rfl, q⟩, q, Int.add_zero]
    · rw [if_neg (fun z => q z.2.2)]
  refine ⟨h1.set hS _, ?_, by rw [e]; exact h3, by rw [e]; exact h4⟩
  rw [e]
  refine h2.trans (sumF_congr j fun l hl => ?_)
  rw [e]
theorem ordersOf_m (hM : SM mm) (hCa : RC mc mm) (hB : RBk mc mm b F n M Ln E) :
    Ev (f_X12_ordersOf mm 0 (b : Int)) (fun r => ∃ v, r.1 = .inl (some (aI v)) ∧ FrC (fun K i _ => (K = 127 ∨ K = 128) ∧ i = 0) mm r.2 ∧ ∃ (Bm : Nat → Nat) (V : Nat → Int), (∀ f, f < 2 * n → ∀ g, (Bm f).testBit g = true ↔ Qs (PrT mc b) (2 * n) (gN mm 12 0 6).toNat 0 0 f g) ∧ (∀ f, 2 * n ≤ f → Bm f = 0) ∧ IsV (dB Bm) (2 * n) V ∧ v = V (2 ^ (2 * n) - 1)) := by
  have hP := hB.hP
  have q0 := hP.hb
  have q1 := hP.hn
  have k2n : -2147483648 ≤ 2 * (n : Int) ∧ 2 * (n : Int) < 2147483648 := by omega
  have hp : 2 ^ (2 * n) ≤ 2 ^ 8 := Nat.pow_le_pow_right (by omega) (by omega)
  obtain ⟨m, hm⟩ : ∃ m, m = 2 * n := ⟨_, rfl⟩
  obtain ⟨P, hPP⟩ : ∃ P, P = 2 ^ m := ⟨_, rfl⟩
  have hP256 : P ≤ 256 := by rw [hPP, hm]; exact Nat.le_trans hp (by decide)
  have hP1 : 1 ≤ P := by rw [hPP]; exact Nat.two_pow_pos m
  have hm8 : m ≤ 8 := by omega
  have hsh : ishl 1 (2 * (n : Int)) = (P : Int) := by rw [show 2 * (n : Int) = ((m : Nat) : Int) by omega, ishl_nat (by omega), hPP]
  obtain ⟨⟨r, s0⟩, e1, e2, hF0, hQ0⟩ := findSure_m hM hCa hB
  simp only at e2 hF0 hQ0
  subst e2
  rw [← hm] at hQ0
  have hM0 := hF0.SM hM (fun s hs => by omega)
  unfold f_X12_ordersOf
  rw [nk_of hM.r21, ldN_of hM.z74 (by omega), tnc, hP.n, ck_of k2n, e1, bV_ok, nk_of hM0.r78, stN_of hM0.z128 (by omega), show (0 : Int).toNat = 0 from rfl]
  have hBm : ∀ f, f < m → (if f < m then (gN s0 127 0 f).toNat else 0) < 256 ∧ gN s0 127 0 f = (if f < m then (gN s0 127 0 f).toNat else 0 : Nat) := fun f hf => by
    obtain ⟨a, a1, a2, a3⟩ := hQ0 f hf
    rw [if_pos hf, a2, tnc]
    exact ⟨a1, rfl⟩
  have hBq : ∀ f, f < m → ∀ g, (if f < m then (gN s0 127 0 f).toNat else 0).testBit g = true ↔ Qs (PrT mc b) m (gN mm 12 0 6).toNat 0 0 f g := fun f hf g => by
    obtain ⟨a, a1, a2, a3⟩ := hQ0 f hf
    rw [if_pos hf, a2, tnc]
    exact a3 g
  have hBz : ∀ f, m ≤ f → (if f < m then (gN s0 127 0 f).toNat else 0) = 0 := fun f hf => if_neg (by omega)
  obtain ⟨Bm, hBmd⟩ : ∃ Bm : Nat → Nat, Bm = fun f => if f < m then (gN s0 127 0 f).toNat else 0 := ⟨_, rfl⟩
  have hA : ∀ f, f < m → Bm f < 256 ∧ gN s0 127 0 f = Bm f := by rw [hBmd]; exact hBm
  refine ev_lp (fun x => FrC (fun K i _ => K = 128 ∧ i = 0) s0 x ∧ CvI 128 m (dB Bm) x P) (fun s : Int × MM => ∃ S : Nat, s.1 = S ∧ 1 ≤ S ∧ S ≤ P ∧ FrC (fun K i _ => K = 128 ∧ i = 0) s0 s.2 ∧ CvI 128 m (dB Bm) s.2 S) (fun s => P - s.1.toNat) ⟨1, rfl, by omega, by omega, FrC.rf.sN ⟨rfl, rfl⟩, CvI.start (by rw [gN_sN, if_pos ⟨rfl, rfl, rfl⟩])⟩ ?_ ?_
  · rintro ⟨_, m1⟩ ⟨S, rfl, hS1, hSP, hF1, hI1⟩
    simp only at hF1 hI1
    show Ev (b_X12_ordersOf_23 0 (2 * (n : Int)) (S : Int) m1) _
    have hM1 := hF1.SM hM0 (fun s hs => by omega)
    unfold b_X12_ordersOf_23
    rw [hsh]
    refine ev_if (fun hc => ev_exit ⟨hF1, by rw [show P = S by omega]; exact hI1⟩) fun hc => ?_
    have hS256 : S < 256 := by omega
    rw [nk_of hM1.r78, stN_of hM1.z128 (by omega), tnc]
    refine ev_lp (fun x => FrC (fun K i _ => K = 128 ∧ i = 0) s0 x ∧ CvI 128 m (dB Bm) x (S + 1)) (fun s : Int × MM => ∃ j : Nat, s.1 = j ∧ j ≤ m ∧ FrC (fun K i _ => K = 128 ∧ i = 0) s0 s.2 ∧ CvJ 128 m (dB Bm) s.2 S j) (fun s => m - s.1.toNat) ⟨0, rfl, by omega, hF1.sN ⟨rfl, rfl⟩, hI1.zero (by omega)⟩ ?_ ?_
    · rintro ⟨_, m2⟩ ⟨j, rfl, hj, hF2, hJ2⟩
      simp only at hF2 hJ2
      show Ev (b_X12_ordersOf_40 0 (2 * (n : Int)) (S : Int) (j : Int) m2) _
      have hM2 := hF2.SM hM0 (fun s hs => by omega)
      unfold b_X12_ordersOf_40
      refine ev_if (fun hd => ev_exit ⟨hF2, by rw [show j = m by omega] at hJ2; exact hJ2.done hm8⟩) fun hd => ?_
      have hj8 : j < 8 := by omega
      have hjm : j < m := by omega
      have h2j : 2 ^ j < 2 ^ 31 := Nat.pow_lt_pow_right (by omega) (by omega)
      have hdel : iand (S : Int) (ixor' (ishl 1 (j : Int)) (-1)) = ((del S j : Nat) : Int) := by rw [ishl_nat (by omega), iandn_nat (by omega) h2j]; rfl
      rw [lt0_eq, hdel]
      obtain ⟨hA1, hA2⟩ := hA j hjm
      rw [nk_of hM2.r78, ldN_of hM2.z128 (by omega), tnc]
      have hbd : 0 ≤ gN m2 128 0 S ∧ gN m2 128 0 S ≤ 100000000 := by
        obtain ⟨-, -, z3, z4⟩ := hJ2
        have hw := wB_le hS256
        have hjw : j * wB S ≤ 8 * wB S := Nat.mul_le_mul_right _ (by omega)
        omega
      have hsame : ¬ (S.testBit j = true ∧ dB Bm j (del S j) = true) → Ev (j_X12_ordersOf_40_92 m2 0 (2 * (n : Int)) (S : Int) (j : Int) 0 (S : Int) (gN m2 128 0 S)) (fun z => Sum.elim (fun s' : Int × MM => (∃ j : Nat, s'.1 = j ∧ j ≤ m ∧ FrC (fun K i _ => K = 128 ∧ i = 0) s0 s'.2 ∧ CvJ 128 m (dB Bm) s'.2 S j) ∧ m - s'.1.toNat < m - (j : Int).toNat) (fun x => FrC (fun K i _ => K = 128 ∧ i = 0) s0 x ∧ CvI 128 m (dB Bm) x (S + 1)) z) := fun hno => by
        unfold j_X12_ordersOf_40_92 j_X12_ordersOf_40_93
        rw [ck_of ⟨by omega, by omega⟩, stN_of hM2.z128 (by omega), tnc, ck_of ⟨by omega, by omega⟩]
        exact ⟨_, rfl, ⟨j + 1, by simp, by omega, hF2.sN ⟨rfl, rfl⟩, (hJ2.same (by omega)).skip hno⟩, by simp only; omega⟩
      refine ev_if (fun he => hsame fun q => ?_) fun he => ?_
      · have := del_lt q.1; omega
      have hbit : S.testBit j = true := Classical.byContradiction fun q => he (by rw [del_no (by simpa using q)])
      have hdlt := del_lt hbit
      rw [nk_of hM2.r77, ldN_of hM2.z127 (by omega), tnc, (hF2.1 127 0 j (by omega)).1, hA2, iand_nat (by omega) (by omega)]
      refine ev_if (fun hf => hsame fun q => hf ?_) fun hf => ?_
      · have := q.2
        unfold dB at this
        rw [decide_eq_true_iff] at this
        rw [this]; rfl
      have hcA : dB Bm j (del S j) = true := by
        unfold dB
        rw [decide_eq_true_iff]
        omega
      obtain ⟨k1, k2, k3⟩ := hJ2.add (by omega) hS256 hj8 ⟨hbit, hcA⟩
      rw [nk_of hM2.r78, ldN_of hM2.z128 (by omega), tnc]
      unfold j_X12_ordersOf_40_93
      rw [ck_of ⟨by omega, by omega⟩, stN_of hM2.z128 (by omega), tnc, ck_of ⟨by omega, by omega⟩]
      exact ⟨_, rfl, ⟨j + 1, by simp, by omega, hF2.sN ⟨rfl, rfl⟩, k1⟩, by simp only; omega⟩
    · rintro m2 ⟨hF2, hI2⟩
      unfold j_X12_ordersOf_23_101
      exact ev_ck (by omega) (ev_back ⟨S + 1, by simp, by omega, by omega, hF2, hI2⟩ (by simp only; omega))
  · rintro m1 ⟨hF1, hI1⟩
    have hM1 := hF1.SM hM0 (fun s hs => by omega)
    unfold j_X12_ordersOf_0_107
    rw [hsh, nk_of hM1.r78, ldN_of hM1.z128 (by omega), show ((P : Int) - 1).toNat = P - 1 by omega]
    refine ev_some ⟨_, rfl, (hF0.sub fun K i s hk => ⟨Or.inl hk.1, hk.2⟩).tr (hF1.sub fun K i s hk => ⟨Or.inr hk.1, hk.2⟩), Bm, fun S => gN m1 128 0 S, ?_, ?_, ?_, ?_⟩
    · rw [← hm, hBmd]; exact hBq
    · rw [← hm, hBmd]; exact hBz
    · rw [hPP] at hI1
      rw [← hm]
      exact hI1.isV
    · rw [← hm, ← hPP]
theorem call_orders (h : RR N mc mm) (a : Int) : CalI N (f_X11_orders mc 0 a) (f_X12_orders mm 0 a) [0] := by
  unfold f_X11_orders f_X12_orders
  by_cases hb : 0 ≤ a ∧ a < gN mm 12 0 19
  · obtain ⟨b, rfl⟩ := Int.ex hb.1
    obtain ⟨F, n, M, Ln, E, hB⟩ := h.Bk b hb.2
    have hP := hB.hP
    have hS := hB.hS
    have q1 := hP.hn
    rw [bookAt_ok h.Nb h.C hb.2, bR_ok, nk_some, isBook_ok h.Nb hb.2, Option.bind_some, if_neg (show ¬ (1 : Int) = 0 by decide)]
    obtain ⟨⟨r, m1⟩, e1, e2, hF1, hQ1⟩ := readFormes_c h hB
    simp only at e2 hF1 hQ1
    subst e2
    have hC1 : SC m1 := h.C.mv2 (fun K i s hk => (hF1.1 K i s (by omega)).2.2) (fun K i k hk => by rw [hF1.2.1]; exact hk)
    have hS1 := hF1.BS hS hP (fun K i s hk => by unfold CBS at hk; omega)
    have hA : ∀ f, f < 2 * n → (if f < 2 * n then (gN m1 39 0 f).toNat else 0) < 256 ∧ gN m1 39 0 f = (if f < 2 * n then (gN m1 39 0 f).toNat else 0 : Nat) := fun f hf => by
      obtain ⟨a, a1, a2, a3⟩ := hQ1 f hf
      rw [if_pos hf, a2, tnc]
      exact ⟨a1, rfl⟩
    have hAq : ∀ f, f < 2 * n → ∀ g, (if f < 2 * n then (gN m1 39 0 f).toNat else 0).testBit g = true ↔ Qs (PrS mc b) (2 * n) (gN mm 12 0 6).toNat 0 0 f g := fun f hf g => by
      obtain ⟨a, a1, a2, a3⟩ := hQ1 f hf
      rw [if_pos hf, a2, tnc]
      exact a3 g
    obtain ⟨A, hAd⟩ : ∃ A : Nat → Nat, A = fun f => if f < 2 * n then (gN m1 39 0 f).toNat else 0 := ⟨_, rfl⟩
    have hA' : ∀ f, f < 2 * n → A f < 256 ∧ gN m1 39 0 f = A f := by rw [hAd]; exact hA
    have hAq' : ∀ f, f < 2 * n → ∀ g, (A f).testBit g = true ↔ Qs (PrS mc b) (2 * n) (gN mm 12 0 6).toNat 0 0 f g := by rw [hAd]; exact hAq
    have hAz : ∀ f, 2 * n ≤ f → A f = 0 := by rw [hAd]; exact fun f hf => if_neg (by omega)
    obtain ⟨⟨r, m2⟩, f1, v, f2, hF2, V, hV, hv⟩ := countByLast_c hC1 (m := 2 * n) (by omega) hA'
    simp only at f2 hF2
    subst f2
    have h0 := h.thr 0
    have hB0 := hB.thr 0
    obtain ⟨⟨r, m4⟩, g1, w, g2, hF4, Bm, W, hBq, hBz, hW, hw⟩ := ordersOf_m h0.M h0.Ca hB0
    simp only at g2 hF4
    subst g2
    have h126 : gN (sN mm 12 0 0 0) 12 0 6 = gN mm 12 0 6 := gthr' _ _ (by omega)
    rw [h126] at hBq
    have hbits : ∀ l g, (Bm l).testBit g = (A g).testBit l := fun l g => by
      have e : (Bm l).testBit g = true ↔ (A g).testBit l = true := by
        by_cases hl : l < 2 * n
        · rw [hBq l hl g, Qs.fin]
          by_cases hg : g < 2 * n
          · rw [hAq' g hg l, Qs.fin]
            exact ⟨fun z => ⟨hl, z.2⟩, fun z => ⟨hg, z.2⟩⟩
          · rw [hAz g (by omega)]
            exact ⟨fun z => absurd z.1 hg, fun z => absurd z (by simp)⟩
        · rw [hBz l (by omega)]
          by_cases hg : g < 2 * n
          · rw [hAq' g hg l, Qs.fin]
            exact ⟨fun z => absurd z (by simp), fun z => absurd z.1 hl⟩
          · rw [hAz g (by omega)]
            simp
      revert e
      cases (Bm l).testBit g <;> cases (A g).testBit l <;> simp
    have hirr : ∀ l, (A l).testBit l = false := fun l => by
      cases e : (A l).testBit l
      · rfl
      · by_cases hl : l < 2 * n
        · rw [hAq' l hl l, Qs.fin] at e
          obtain ⟨-, x, -, z1, z2⟩ := e
          omega
        · rw [hAz l (by omega)] at e
          simp at e
    have hfull : Down A (2 ^ (2 * n) - 1) := fun l g h1 h2 => by
      have hl : l < 2 * n := by
        by_cases hl : l < 2 * n
        · exact hl
        · rw [hAz l (by omega)] at h2
          simp at h2
      rw [hAq' l hl g, Qs.fin] at h2
      rw [Nat.testBit_two_pow_sub_one]
      exact decide_eq_true h2.1
    have hpos := Nat.two_pow_pos (2 * n)
    have hvw : v = w := by
      rw [hv, hw]
      exact ways_eq hirr (fun l S => cA_iff) (fun l S => by rw [dB_iff]; exact ⟨fun z g hg => by rw [← hbits]; exact z g hg, fun z g hg => by rw [hbits]; exact z g hg⟩) hV hW _ _ (Nat.le_refl _) (by omega) hfull
    rw [nk_of h.C.r6, nk_of h.C.r1, e1, bV_ok, nk_of hC1.r6, nk_of hS1.r6, lenI_of hS1.z14, f1, bI_ok]
    unfold j_X12_orders_0_14
    rw [holds0, bI_ok, if_neg (show ¬ (1 : Int) = 0 by decide), g1, bI_ok]
    refine ⟨_, _, _, _, rfl, rfl, Or.inl ⟨by rw [hvw], by rw [(hF4.1 12 0 0 (by omega)).1, gthr]⟩, h.scr (Nat.le_succ N) (fun K i => (hF2.2.1 K i).trans (hF1.2.1 K i)) (fun K i k hk => by rw [hF4.2.1]; exact hk) (fun K => (hF2.2.2 K).trans (hF1.2.2 K)) (fun K i s h1 h2 => (hF1.1 K i s (fun q => h2 (by unfold scC; omega))).tr (hF2.1 K i s (fun q => h2 (by unfold scC; omega)))) (fun K i s h1 h2 => (eq3.sN (fun q => h2 (by unfold scM; omega))).tr (hF4.1 K i s (fun q => h2 (by unfold scM; omega))))⟩
  · rw [bookAt_bad h.Nb h.C hb, bR_ex, isBook_bad h.Nb hb, Option.bind_some, if_pos rfl]
    unfold j_X12_orders_0_14
    rw [holds1 _ (by decide), bI_ok, if_pos rfl]
    exact CalI.bad (k := 0) h rfl rfl rfl
end ORDERS
