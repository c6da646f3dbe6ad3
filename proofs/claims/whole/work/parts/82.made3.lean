/-! BOOK: all that is made. -/
section BOOK
variable {N : Nat} {mc mm : MM} {b F n M Ln E : Nat}
/-- the text of a new book -/
theorem text_c {m : MM} (h : ∀ K, 45 ≤ K → K ≤ 49 → gC m K = b) : ∃ s, f_X9_init m b = some (.inl none, s) ∧ (gR s 9 b 0 = some (45, b) ∧ gR s 9 b 1 = some (46, b) ∧ gR s 9 b 2 = some (47, b) ∧ gR s 9 b 3 = some (48, b) ∧ gR s 9 b 4 = some (49, b)) ∧ (∀ K, 45 ≤ K → K ≤ 49 → gZ s K b = some 60 ∧ gC s K = b + 1) ∧ GF (fun _ _ _ => False) (fun K i _ => K = 9 ∧ i = b) (fun K i => 45 ≤ K ∧ K ≤ 49 ∧ i = b) m s ∧ ∀ K, ¬ (45 ≤ K ∧ K ≤ 49) → gC s K = gC m K := by
  have c45 := h 45 (by omega) (by omega)
  have c46 := h 46 (by omega) (by omega)
  have c47 := h 47 (by omega) (by omega)
  have c48 := h 48 (by omega) (by omega)
  have c49 := h 49 (by omega) (by omega)
  unfold f_X9_init
  rw [newA_of (by omega), lt_eq, newA_of (by omega), lt_eq, newA_of (by omega), lt_eq, newA_of (by omega), lt_eq, newA_of (by omega), lt_eq]
  refine ⟨_, rfl, ⟨?_, ?_, ?_, ?_, ?_⟩, fun K h1 h2 => ?_, ?_, fun K hK => ?_⟩
  · simp [gR_sR, gR_nW, gC_sR, gC_nW, c45]
  · simp [gR_sR, gR_nW, gC_sR, gC_nW, c46]
  · simp [gR_sR, gR_nW, gC_sR, gC_nW, c47]
  · simp [gR_sR, gR_nW, gC_sR, gC_nW, c48]
  · simp [gR_sR, gR_nW, gC_sR, gC_nW, c49]
  · obtain rfl | rfl | rfl | rfl | rfl : K = 45 ∨ K = 46 ∨ K = 47 ∨ K = 48 ∨ K = 49 := by omega
    all_goals simp [gZ_sR, gZ_nW, gC_sR, gC_nW, c45, c46, c47, c48, c49]
  · refine GF.sR (GF.nW (GF.sR (GF.nW (GF.sR (GF.nW (GF.sR (GF.nW (GF.sR (GF.nW GF.rf ?_) ?_) ?_) ?_) ?_) ?_) ?_) ?_) ?_) ?_ <;> simp [gC_sR, gC_nW, c45, c46, c47, c48, c49]
  · have n45 : K ≠ 45 := by omega
    have n46 : K ≠ 46 := by omega
    have n47 : K ≠ 47 := by omega
    have n48 : K ≠ 48 := by omega
    have n49 : K ≠ 49 := by omega
    simp [gC_sR, gC_nW, n45, n46, n47, n48, n49]
section FR
variable {mA mB mC mD mE mF mG mH : MM}
theorem init_DG (gE0 : GF (fun _ _ _ => False) (fun K i k => K = 0 ∧ i = b ∧ k = 7) (fun K i => K = 15 ∧ i = b) mD mE) (gF : GF (fun _ _ _ => False) (shWR b) (fun K i => K = 8 ∧ 4 * b ≤ i ∧ i < 4 * b + 4) mE mF) (gG0 : GF (fun _ _ _ => False) (fun K i k => (K = 0 ∧ i = b ∧ 8 ≤ k ∧ k ≤ 9) ∨ (K = 17 ∧ i = b)) (fun K i => ((K = 16 ∨ K = 17) ∧ i = b) ∨ (K = 18 ∧ 24 * b ≤ i ∧ i < 24 * b + 24)) mF mG) (g56 : GF (fun _ _ _ => False) (fun K i k => K = 56 ∧ i = 0 ∧ k = b) (fun _ _ => False) mG mH) : GF (fun _ _ _ => False) (fun K i k => shWR b K i k ∨ (K = 0 ∧ i = b ∧ 7 ≤ k ∧ k ≤ 9) ∨ (K = 17 ∧ i = b) ∨ (K = 56 ∧ i = 0 ∧ k = b)) (fun K i => ((15 ≤ K ∧ K ≤ 17) ∧ i = b) ∨ (K = 18 ∧ 24 * b ≤ i ∧ i < 24 * b + 24) ∨ (K = 8 ∧ 4 * b ≤ i ∧ i < 4 * b + 4)) mD mH :=
  (((gE0.sub (fun _ _ _ q => q) (fun K i k q => Or.inr (by omega)) (fun K i q => by omega)).tr (gF.sub (fun _ _ _ q => q) (fun _ _ _ q => Or.inl q) (fun K i q => by omega))).tr (gG0.sub (fun _ _ _ q => q) (fun K i k q => Or.inr (by omega)) (fun K i q => by omega))).tr (g56.sub (fun _ _ _ q => q) (fun K i k q => Or.inr (by omega)) (fun _ _ q => absurd q (fun z => z)))
theorem init_BG (gC0 : GF (fun _ _ _ => False) (fun K i k => K = 0 ∧ i = b ∧ k = 6) (fun K i => K = 14 ∧ i = b) mB mC) (gD : GF (fsWN b) (fsWR b) (fsWZ b) mC mD) (h : GF (fun _ _ _ => False) (fun K i k => shWR b K i k ∨ (K = 0 ∧ i = b ∧ 7 ≤ k ∧ k ≤ 9) ∨ (K = 17 ∧ i = b) ∨ (K = 56 ∧ i = 0 ∧ k = b)) (fun K i => ((15 ≤ K ∧ K ≤ 17) ∧ i = b) ∨ (K = 18 ∧ 24 * b ≤ i ∧ i < 24 * b + 24) ∨ (K = 8 ∧ 4 * b ≤ i ∧ i < 4 * b + 4)) mD mH) : GF (fsWN b) (fun K i k => fsWR b K i k ∨ shWR b K i k ∨ (K = 0 ∧ i = b ∧ 6 ≤ k ∧ k ≤ 9) ∨ (K = 17 ∧ i = b) ∨ (K = 56 ∧ i = 0 ∧ k = b)) (fun K i => fsWZ b K i ∨ ((14 ≤ K ∧ K ≤ 17) ∧ i = b) ∨ (K = 18 ∧ 24 * b ≤ i ∧ i < 24 * b + 24) ∨ (K = 8 ∧ 4 * b ≤ i ∧ i < 4 * b + 4)) mB mH :=
  ((gC0.sub (fun _ _ _ q => absurd q (fun z => z)) (fun K i k q => Or.inr (Or.inr (by omega))) (fun K i q => Or.inr (by omega))).tr (gD.sub (fun _ _ _ q => q) (fun _ _ _ q => Or.inl q) (fun _ _ q => Or.inl q))).tr (h.sub (fun _ _ _ q => absurd q (fun z => z)) (fun K i k q => by
    rcases q with q | q
    · exact Or.inr (Or.inl q)
    · exact Or.inr (Or.inr (by omega))) (fun K i q => Or.inr (by omega)))
theorem init_AG (gB : GF (psWN b) (psWR b) (psWZ b) mA mB) (h : GF (fsWN b) (fun K i k => fsWR b K i k ∨ shWR b K i k ∨ (K = 0 ∧ i = b ∧ 6 ≤ k ∧ k ≤ 9) ∨ (K = 17 ∧ i = b) ∨ (K = 56 ∧ i = 0 ∧ k = b)) (fun K i => fsWZ b K i ∨ ((14 ≤ K ∧ K ≤ 17) ∧ i = b) ∨ (K = 18 ∧ 24 * b ≤ i ∧ i < 24 * b + 24) ∨ (K = 8 ∧ 4 * b ≤ i ∧ i < 4 * b + 4)) mB mH) : GF (fun K i k => psWN b K i k ∨ fsWN b K i k) (fun K i k => psWR b K i k ∨ fsWR b K i k ∨ shWR b K i k ∨ (K = 0 ∧ i = b ∧ 6 ≤ k ∧ k ≤ 9) ∨ (K = 17 ∧ i = b) ∨ (K = 56 ∧ i = 0 ∧ k = b)) (fun K i => psWZ b K i ∨ fsWZ b K i ∨ ((14 ≤ K ∧ K ≤ 17) ∧ i = b) ∨ (K = 18 ∧ 24 * b ≤ i ∧ i < 24 * b + 24) ∨ (K = 8 ∧ 4 * b ≤ i ∧ i < 4 * b + 4)) mA mH :=
  (gB.sub (fun _ _ _ q => Or.inl q) (fun _ _ _ q => Or.inl q) (fun _ _ q => Or.inl q)).tr (h.sub (fun _ _ _ q => Or.inr q) (fun _ _ _ q => Or.inr q) (fun _ _ q => Or.inr q))
theorem init_FG (gG0 : GF (fun _ _ _ => False) (fun K i k => (K = 0 ∧ i = b ∧ 8 ≤ k ∧ k ≤ 9) ∨ (K = 17 ∧ i = b)) (fun K i => ((K = 16 ∨ K = 17) ∧ i = b) ∨ (K = 18 ∧ 24 * b ≤ i ∧ i < 24 * b + 24)) mF mG) (g56 : GF (fun _ _ _ => False) (fun K i k => K = 56 ∧ i = 0 ∧ k = b) (fun _ _ => False) mG mH) : GF (fun _ _ _ => False) (fun K i k => (K = 0 ∧ i = b ∧ 8 ≤ k ∧ k ≤ 9) ∨ (K = 17 ∧ i = b) ∨ (K = 56 ∧ i = 0 ∧ k = b)) (fun K i => ((K = 16 ∨ K = 17) ∧ i = b) ∨ (K = 18 ∧ 24 * b ≤ i ∧ i < 24 * b + 24)) mF mH :=
  (gG0.sub (fun _ _ _ q => q) (fun K i k q => by omega) (fun K i q => q)).tr (g56.sub (fun _ _ _ q => q) (fun K i k q => by omega) (fun _ _ q => absurd q (fun z => z)))
theorem init_gf {m : MM} (hA : GF (bkWN b) (bkWR b) (bkWZ b) m mA) (h : GF (fun K i k => psWN b K i k ∨ fsWN b K i k) (fun K i k => psWR b K i k ∨ fsWR b K i k ∨ shWR b K i k ∨ (K = 0 ∧ i = b ∧ 6 ≤ k ∧ k ≤ 9) ∨ (K = 17 ∧ i = b) ∨ (K = 56 ∧ i = 0 ∧ k = b)) (fun K i => psWZ b K i ∨ fsWZ b K i ∨ ((14 ≤ K ∧ K ≤ 17) ∧ i = b) ∨ (K = 18 ∧ 24 * b ≤ i ∧ i < 24 * b + 24) ∨ (K = 8 ∧ 4 * b ≤ i ∧ i < 4 * b + 4)) mA mH) : GF (bkWN b) (fun K i k => bkWR b K i k ∨ (K = 56 ∧ i = 0 ∧ k = b)) (bkWZ b) m mH := by
  refine (hA.sub (fun _ _ _ q => q) (fun _ _ _ q => Or.inl q) (fun _ _ q => q)).tr (h.sub (fun K i k q => ?_) (fun K i k q => ?_) (fun K i q => ?_))
  · rcases q with q | q
    · exact Or.inl q
    · exact Or.inr (Or.inl q)
  · rcases q with q | q | q | q | q | q
    · rcases q with q | q | q | q
      · exact Or.inl (Or.inl q)
      · exact Or.inl (Or.inr (Or.inl q))
      · exact Or.inl (Or.inr (Or.inr (Or.inl q)))
      · exact Or.inl (Or.inr (Or.inr (Or.inr (Or.inr (Or.inr ⟨by omega, q.2⟩)))))
    · rcases q with q | q
      · exact Or.inl (Or.inr (Or.inr (Or.inr (Or.inl q))))
      · exact Or.inl (Or.inr (Or.inr (Or.inr (Or.inr (Or.inr ⟨by omega, q.2⟩)))))
    · rcases q with q | q
      · exact Or.inl (Or.inr (Or.inr (Or.inr (Or.inr (Or.inl q)))))
      · exact Or.inl (Or.inr (Or.inr (Or.inr (Or.inr (Or.inr ⟨by omega, q.2⟩)))))
    · exact Or.inl (Or.inr (Or.inr (Or.inr (Or.inr (Or.inr ⟨by omega, q.2.1⟩)))))
    · exact Or.inl (Or.inr (Or.inr (Or.inr (Or.inr (Or.inr ⟨by omega, q.2⟩)))))
    · exact Or.inr q
  · unfold psWZ fsWZ at q
    rcases q with (q | q) | q | q | q | q
    · exact CBk.c (by omega) (by omega)
    · exact CBk.f q.1 (by omega)
    · exact CBk.b (by omega) (by omega)
    · exact CBk.a (by omega) q.2
    · exact CBk.e q.1 (by omega)
    · exact CBk.d q.1 (by omega)
end FR
theorem j87_c {mB : MM} (hn4 : n ≤ 4) (d : gC mB 14 = b) (F' E' : Int) : ∃ mC, j_X0_init_0_87 mB b F' (n : Int) E' = (lpb (fun s : Int × MM => b_X0_init_100 b F' (n : Int) E' s.1 s.2) (0, mC)).bind (fun z => j_X0_init_0_142 z b F' (n : Int) E') ∧ GF (fun _ _ _ => False) (fun K i k => K = 0 ∧ i = b ∧ k = 6) (fun K i => K = 14 ∧ i = b) mB mC ∧ gR mC 0 b 6 = some (14, b) ∧ gZ mC 14 b = some (2 * n) ∧ ∀ K, gC mC K = if K = 14 then b + 1 else gC mB K := by
  unfold j_X0_init_0_87
  rw [newA_of (by omega), lt_eq, show (2 * (n : Int)).toNat = 2 * n by omega, d]
  refine ⟨_, rfl, GF.sR (GF.nW GF.rf ⟨rfl, d⟩) ⟨rfl, rfl, rfl⟩, by rw [gR_sR, if_pos ⟨rfl, rfl, rfl⟩], by rw [gZ_sR, gZ_nW, if_pos ⟨rfl, d.symm⟩], fun K => ?_⟩
  show gC (nW mB 14 _) K = _
  rw [gC_nW, d]
theorem j142_c {mD : MM} (hn4 : n ≤ 4) (d : gC mD 15 = b) (F' E' : Int) : ∃ mE, j_X0_init_0_142 mD b F' (n : Int) E' = (lpb (fun s : Int × MM => b_X0_init_153 b F' (n : Int) E' s.1 s.2) (0, mE)).bind (fun z => j_X0_init_0_199 z b F' (n : Int) E') ∧ GF (fun _ _ _ => False) (fun K i k => K = 0 ∧ i = b ∧ k = 7) (fun K i => K = 15 ∧ i = b) mD mE ∧ gR mE 0 b 7 = some (15, b) ∧ gZ mE 15 b = some n ∧ ∀ K, gC mE K = if K = 15 then b + 1 else gC mD K := by
  unfold j_X0_init_0_142
  rw [newA_of (by omega), lt_eq, tnc, d]
  refine ⟨_, rfl, GF.sR (GF.nW GF.rf ⟨rfl, d⟩) ⟨rfl, rfl, rfl⟩, by rw [gR_sR, if_pos ⟨rfl, rfl, rfl⟩], by rw [gZ_sR, gZ_nW, if_pos ⟨rfl, d.symm⟩], fun K => ?_⟩
  show gC (nW mD 15 _) K = _
  rw [gC_nW, d]
theorem j199_c {mF : MM} (hE : E ≤ 24) (hFn : F * n ≤ 8) (r5 : gR mF 0 b 5 = some (13, b)) (z13 : gZ mF 13 b = some (2 * (F * n))) (d16 : gC mF 16 = b) (e17 : gC mF 17 = b) (e18 : gC mF 18 = 24 * b) : ∃ mG, j_X0_init_0_199 mF b (F : Int) (n : Int) (E : Int) = some (.inl none, mG) ∧ GF (fun _ _ _ => False) (fun K i k => (K = 0 ∧ i = b ∧ 8 ≤ k ∧ k ≤ 9) ∨ (K = 17 ∧ i = b)) (fun K i => ((K = 16 ∨ K = 17) ∧ i = b) ∨ (K = 18 ∧ 24 * b ≤ i ∧ i < 24 * b + 24)) mF mG ∧ (gR mG 0 b 8 = some (16, b) ∧ gR mG 0 b 9 = some (17, b) ∧ gZ mG 16 b = some (2 * (F * n)) ∧ gZ mG 17 b = some E ∧ (∀ c, c < E → gR mG 17 b c = some (18, 24 * b + c)) ∧ ∀ c, c < E → gZ mG 18 (24 * b + c) = some (F * n)) ∧ ∀ K, gC mG K = if K = 17 then b + 1 else if K = 18 then 24 * b + E else if K = 16 then b + 1 else gC mF K := by
  unfold j_X0_init_0_199
  rw [nk_of r5, lenI_of z13, newA_of (by omega), tnc, lt_eq, mulc, newM_of (by omega), lt_eq, tnc, tnc]
  have d17 : gC (sR (nW mF 16 (2 * (F * n))) 0 b 8 (some (16, b))) 17 = b := by
    show gC (nW mF 16 _) 17 = b
    rw [gC_nW, if_neg (by decide), e17]
  have d18 : gC (sR (nW mF 16 (2 * (F * n))) 0 b 8 (some (16, b))) 18 = 24 * b := by
    show gC (nW mF 16 _) 18 = _
    rw [gC_nW, if_neg (by decide), e18]
  rw [d16, d17]
  refine ⟨_, rfl, ?_, ⟨?_, ?_, ?_, ?_, fun c hc => ?_, fun c hc => ?_⟩, fun K => ?_⟩
  · refine GF.sR (GF.nM (GF.sR (GF.nW GF.rf (Or.inl ⟨Or.inl rfl, d16⟩)) (Or.inl ⟨rfl, rfl, by omega⟩)) (Or.inl ⟨Or.inr rfl, d17⟩) (fun i h1 h2 => Or.inr ⟨rfl, by rw [d18] at h1; exact h1, by rw [d18] at h2; omega⟩) (fun c hc => Or.inr ⟨rfl, d17⟩)) (Or.inl ⟨rfl, rfl, by omega⟩)
  · simp [gR_sR, gR_nM]
  · rw [gR_sR, if_pos ⟨rfl, rfl, rfl⟩]
  · rw [gZ_sR, gZ_nM, if_neg (by omega), if_neg (by omega), gZ_sR, gZ_nW, if_pos ⟨rfl, d16.symm⟩]
  · rw [gZ_sR, gZ_nM, if_pos ⟨rfl, d17.symm⟩]
  · rw [gR_sR, if_neg (by omega), gR_nM, if_pos ⟨rfl, d17.symm, hc⟩, d18]
  · rw [gZ_sR, gZ_nM, if_neg (by omega), if_pos ⟨rfl, by omega, by omega⟩]
  · show gC (nM _ 17 E 18 _) K = _
    rw [gC_nM, d17, d18]
    show (if K = 17 then b + 1 else if K = 18 then 24 * b + E else gC (nW mF 16 _) K) = _
    rw [gC_nW, d16]
theorem init_hd {m : MM} (hFn : 1 ≤ n ∧ F * n ≤ 8) (c9 : gC m 9 = b) (c13 : gC m 13 = b) (c45 : ∀ K, 45 ≤ K → K ≤ 49 → gC m K = b) : ∃ mA, f_X0_init m b (F : Int) (n : Int) (M : Int) (Ln : Int) (E : Int) = (lpb (fun s : Int × MM => b_X0_init_52 b (F : Int) (n : Int) (M : Int) (Ln : Int) (E : Int) s.1 s.2) (0, mA)).bind (fun z => j_X0_init_0_87 z b (F : Int) (n : Int) (E : Int)) ∧ GF (bkWN b) (bkWR b) (bkWZ b) m mA ∧ (gN mA 0 b 0 = F ∧ gN mA 0 b 1 = M ∧ gN mA 0 b 2 = Ln ∧ gN mA 0 b 3 = E) ∧ gR mA 0 b 5 = some (13, b) ∧ gR mA 0 b 4 = some (9, b) ∧ gZ mA 13 b = some (2 * (F * n)) ∧ (gR mA 9 b 0 = some (45, b) ∧ gR mA 9 b 1 = some (46, b) ∧ gR mA 9 b 2 = some (47, b) ∧ gR mA 9 b 3 = some (48, b) ∧ gR mA 9 b 4 = some (49, b)) ∧ (∀ K, 45 ≤ K → K ≤ 49 → gZ mA K b = some 60) ∧ ∀ K, gC mA K = if K = 9 ∨ K = 13 ∨ (45 ≤ K ∧ K ≤ 49) then b + 1 else gC m K := by
  have e2Fn : 2 * (F : Int) * (n : Int) = ((2 * (F * n) : Nat) : Int) := by rw [Int.mul_assoc, mulc]; omega
  obtain ⟨mt, t1, t2, t3, t4, t5⟩ := text_c (m := nW m 9 6) (b := b) (fun K h1 h2 => by rw [gC_nW, if_neg (by omega)]; exact c45 K h1 h2)
  have t0 : GF (bkWN b) (bkWR b) (bkWZ b) m mt := (GF.nW GF.rf (by rw [c9]; exact CBk.a (by omega) rfl)).tr (t4.sub (fun _ _ _ q => absurd q (fun z => z)) (fun K i k q => by unfold bkWR; omega) (fun K i q => CBk.a (by omega) q.2.2))
  have t6 : ∀ K, gC mt K = if K = 9 ∨ (45 ≤ K ∧ K ≤ 49) then b + 1 else gC m K := fun K => by
    by_cases h : 45 ≤ K ∧ K ≤ 49
    · rw [(t3 K h.1 h.2).2, if_pos (Or.inr h)]
    · rw [t5 K h, gC_nW]
      by_cases h9 : K = 9
      · rw [if_pos h9, if_pos (Or.inl h9), c9]
      · rw [if_neg h9, if_neg (by omega)]
  unfold f_X0_init
  rw [lt_eq, c9, t1, bV_ok, lt_eq, lt_eq, lt_eq, lt_eq, lt_eq, e2Fn, newA_of (by omega), tnc, lt_eq]
  have d13 : gC (sN (sN (sN (sN (sR mt 0 b 4 (some (9, b))) 0 b 0 (F : Int)) 0 b 1 (M : Int)) 0 b 2 (Ln : Int)) 0 b 3 (E : Int)) 13 = b := by
    show gC mt 13 = b
    rw [t6, if_neg (by decide), c13]
  rw [d13]
  refine ⟨_, rfl, ?_, ⟨?_, ?_, ?_, ?_⟩, ?_, ?_, ?_, ⟨?_, ?_, ?_, ?_, ?_⟩, fun K h1 h2 => ?_, fun K => ?_⟩
  · refine GF.sR (GF.nW (GF.sN (GF.sN (GF.sN (GF.sN (GF.sR t0 ?_) ?_) ?_) ?_) ?_) ?_) ?_
    · unfold bkWR; omega
    · unfold bkWN; omega
    · unfold bkWN; omega
    · unfold bkWN; omega
    · unfold bkWN; omega
    · rw [d13]; exact CBk.a (by omega) rfl
    · unfold bkWR; omega
  · simp [gN_sR, gN_nW, gN_sN]
  · simp [gN_sR, gN_nW, gN_sN]
  · simp [gN_sR, gN_nW, gN_sN]
  · simp [gN_sR, gN_nW, gN_sN]
  · rw [gR_sR, if_pos ⟨rfl, rfl, rfl⟩]
  · simp [gR_sR, gR_nW, gR_sN]
  · rw [gZ_sR, gZ_nW, if_pos ⟨rfl, d13.symm⟩]
  · simp [gR_sR, gR_nW, gR_sN, t2.1]
  · simp [gR_sR, gR_nW, gR_sN, t2.2.1]
  · simp [gR_sR, gR_nW, gR_sN, t2.2.2.1]
  · simp [gR_sR, gR_nW, gR_sN, t2.2.2.2.1]
  · simp [gR_sR, gR_nW, gR_sN, t2.2.2.2.2]
  · rw [gZ_sR, gZ_nW, if_neg (by omega)]; exact (t3 K h1 h2).1
  · show gC (nW _ 13 _) K = _
    rw [gC_nW, d13]
    by_cases h : K = 13
    · rw [if_pos h, if_pos (Or.inr (Or.inl h))]
    · rw [if_neg h]
      show gC mt K = _
      rw [t6]
      by_cases h' : K = 9 ∨ (45 ≤ K ∧ K ≤ 49)
      · rw [if_pos h', if_pos (by omega)]
      · rw [if_neg h', if_neg (by omega)]
end BOOK
