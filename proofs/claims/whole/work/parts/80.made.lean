/-! BOOK: what is made. -/
section BOOK
variable {N : Nat} {mc mm : MM} {b F n M Ln E : Nat}
theorem newA_of {X : Type} {m : MM} {K : Nat} {x : Int} {f : MM → Option X} (h : 0 ≤ x ∧ x ≤ 100000) : newA m K x f = f (nW m K x.toNat) := if_pos h
theorem newM_of {X : Type} {m : MM} {K K2 : Nat} {x y : Int} {f : MM → Option X} (h : (0 ≤ x ∧ x ≤ 100000) ∧ 0 ≤ y ∧ y ≤ 100000) : newM m K x K2 y f = f (nM m K x.toNat K2 y.toNat) := if_pos h
theorem gN_bC (m : MM) (f : Nat → Nat) (K i k : Nat) : gN (bC m f) K i k = gN m K i k := rfl
theorem gR_bC (m : MM) (f : Nat → Nat) (K i k : Nat) : gR (bC m f) K i k = gR m K i k := rfl
theorem gZ_bC (m : MM) (f : Nat → Nat) (K i : Nat) : gZ (bC m f) K i = gZ m K i := rfl
theorem gC_bC (m : MM) (f : Nat → Nat) (K : Nat) : gC (bC m f) K = max (gC m K) (f K) := rfl
/-- what differs lies in W -/
def GF (WN WR : Nat → Nat → Nat → Prop) (WZ : Nat → Nat → Prop) (m s : MM) : Prop := (∀ K i k, ¬ WN K i k → gN s K i k = gN m K i k) ∧ (∀ K i k, ¬ WR K i k → gR s K i k = gR m K i k) ∧ (∀ K i, ¬ WZ K i → gZ s K i = gZ m K i) ∧ ∀ K i k, gL s K i k = gL m K i k
section GFs
variable {WN WR : Nat → Nat → Nat → Prop} {WZ : Nat → Nat → Prop} {m s s' : MM}
theorem GF.rf : GF WN WR WZ m m := ⟨fun _ _ _ _ => rfl, fun _ _ _ _ => rfl, fun _ _ _ => rfl, fun _ _ _ => rfl⟩
theorem GF.tr (h : GF WN WR WZ m s) (h' : GF WN WR WZ s s') : GF WN WR WZ m s' := ⟨fun K i k q => (h'.1 K i k q).trans (h.1 K i k q), fun K i k q => (h'.2.1 K i k q).trans (h.2.1 K i k q), fun K i q => (h'.2.2.1 K i q).trans (h.2.2.1 K i q), fun K i k => (h'.2.2.2 K i k).trans (h.2.2.2 K i k)⟩
theorem GF.sub {WN' WR' : Nat → Nat → Nat → Prop} {WZ' : Nat → Nat → Prop} (h : GF WN WR WZ m s) (h1 : ∀ K i k, WN K i k → WN' K i k) (h2 : ∀ K i k, WR K i k → WR' K i k) (h3 : ∀ K i, WZ K i → WZ' K i) : GF WN' WR' WZ' m s := ⟨fun K i k q => h.1 K i k (fun z => q (h1 K i k z)), fun K i k q => h.2.1 K i k (fun z => q (h2 K i k z)), fun K i q => h.2.2.1 K i (fun z => q (h3 K i z)), h.2.2.2⟩
theorem GF.sN {K i k : Nat} {v : Int} (h : GF WN WR WZ m s) (hW : WN K i k) : GF WN WR WZ m (sN s K i k v) := ⟨fun K' i' k' q => by rw [gN_sN, if_neg (fun z => q (by rw [z.1, z.2.1, z.2.2]; exact hW))]; exact h.1 K' i' k' q, h.2.1, h.2.2.1, h.2.2.2⟩
theorem GF.sR {K i k : Nat} {v : Option (Nat × Nat)} (h : GF WN WR WZ m s) (hW : WR K i k) : GF WN WR WZ m (sR s K i k v) := ⟨h.1, fun K' i' k' q => by rw [gR_sR, if_neg (fun z => q (by rw [z.1, z.2.1, z.2.2]; exact hW))]; exact h.2.1 K' i' k' q, h.2.2.1, h.2.2.2⟩
theorem GF.nW {K x : Nat} (h : GF WN WR WZ m s) (hW : WZ K (gC s K)) : GF WN WR WZ m (nW s K x) := ⟨h.1, h.2.1, fun K' i' q => by rw [gZ_nW, if_neg (fun z => q (by rw [z.1, z.2]; exact hW))]; exact h.2.2.1 K' i' q, h.2.2.2⟩
theorem GF.bC {f : Nat → Nat} (h : GF WN WR WZ m s) : GF WN WR WZ m (bC s f) := h
theorem GF.nM {K K2 x y : Nat} (h : GF WN WR WZ m s) (hW : WZ K (gC s K)) (hW2 : ∀ i, gC s K2 ≤ i → i < gC s K2 + x → WZ K2 i) (hR : ∀ c, c < x → WR K (gC s K) c) : GF WN WR WZ m (nM s K x K2 y) := ⟨h.1, fun K' i' k' q => by rw [gR_nM, if_neg (fun z => q (by rw [z.1, z.2.1]; exact hR k' z.2.2))]; exact h.2.1 K' i' k' q, fun K' i' q => by
  rw [gZ_nM, if_neg (fun z => q (by rw [z.1, z.2]; exact hW)), if_neg (fun z => q (by rw [z.1]; exact hW2 i' z.2.1 z.2.2))]; exact h.2.2.1 K' i' q, h.2.2.2⟩
end GFs
/-- a page is made -/
def pgWN (q K i k : Nat) : Prop := K = 4 ∧ i = q ∧ (k = 0 ∨ k = 9)
def pgWR (q K i k : Nat) : Prop := (K = 4 ∧ i = q ∧ 1 ≤ k ∧ k ≤ 8) ∨ (K = 5 ∧ i = q ∧ k ≤ 3) ∨ (K = 37 ∧ i = q)
def pgWZ (q K i : Nat) : Prop := ((K = 5 ∨ (27 ≤ K ∧ K ≤ 37)) ∧ i = q) ∨ (K = 38 ∧ 24 * q ≤ i ∧ i < 24 * q + 24)
def PgN (s : MM) (q M Ln E : Nat) : Prop := (gN s 4 q 0 = M) ∧
  (gN s 4 q 9 = -1) ∧
  (gR s 4 q 1 = some (27, q)) ∧
  (gR s 4 q 2 = some (28, q)) ∧
  (gR s 4 q 3 = some (29, q)) ∧
  (gR s 4 q 4 = some (30, q)) ∧
  (gR s 4 q 5 = some (31, q)) ∧
  (gR s 4 q 6 = some (32, q)) ∧
  (gR s 4 q 7 = some (33, q)) ∧
  (gR s 4 q 8 = some (5, q)) ∧
  (gZ s 27 q = some 61) ∧
  (gZ s 28 q = some 61) ∧
  (gZ s 29 q = some 61) ∧
  (gZ s 30 q = some 61) ∧
  (gZ s 31 q = some Ln) ∧
  (gZ s 32 q = some Ln) ∧
  (gZ s 33 q = some Ln) ∧
  (gR s 5 q 0 = some (34, q)) ∧
  (gR s 5 q 1 = some (35, q)) ∧
  (gR s 5 q 2 = some (36, q)) ∧
  (gR s 5 q 3 = some (37, q)) ∧
  (gZ s 34 q = some (M * Ln)) ∧
  (gZ s 35 q = some (M * Ln)) ∧
  (gZ s 36 q = some (M * Ln)) ∧
  (gZ s 37 q = some E) ∧
  (∀ c, c < E → gR s 37 q c = some (38, 24 * q + c)) ∧
  (∀ c, c < E → gZ s 38 (24 * q + c) = some (M * Ln))
theorem PgN.n0 {s : MM} {q M Ln E : Nat} (h : PgN s q M Ln E) : gN s 4 q 0 = M := h.1
theorem PgN.n9 {s : MM} {q M Ln E : Nat} (h : PgN s q M Ln E) : gN s 4 q 9 = -1 := h.2.1
theorem PgN.p1 {s : MM} {q M Ln E : Nat} (h : PgN s q M Ln E) : gR s 4 q 1 = some (27, q) := h.2.2.1
theorem PgN.p2 {s : MM} {q M Ln E : Nat} (h : PgN s q M Ln E) : gR s 4 q 2 = some (28, q) := h.2.2.2.1
theorem PgN.p3 {s : MM} {q M Ln E : Nat} (h : PgN s q M Ln E) : gR s 4 q 3 = some (29, q) := h.2.2.2.2.1
theorem PgN.p4 {s : MM} {q M Ln E : Nat} (h : PgN s q M Ln E) : gR s 4 q 4 = some (30, q) := h.2.2.2.2.2.1
theorem PgN.p5 {s : MM} {q M Ln E : Nat} (h : PgN s q M Ln E) : gR s 4 q 5 = some (31, q) := h.2.2.2.2.2.2.1
theorem PgN.p6 {s : MM} {q M Ln E : Nat} (h : PgN s q M Ln E) : gR s 4 q 6 = some (32, q) := h.2.2.2.2.2.2.2.1
theorem PgN.p7 {s : MM} {q M Ln E : Nat} (h : PgN s q M Ln E) : gR s 4 q 7 = some (33, q) := h.2.2.2.2.2.2.2.2.1
theorem PgN.p8 {s : MM} {q M Ln E : Nat} (h : PgN s q M Ln E) : gR s 4 q 8 = some (5, q) := h.2.2.2.2.2.2.2.2.2.1
theorem PgN.z27 {s : MM} {q M Ln E : Nat} (h : PgN s q M Ln E) : gZ s 27 q = some 61 := h.2.2.2.2.2.2.2.2.2.2.1
theorem PgN.z28 {s : MM} {q M Ln E : Nat} (h : PgN s q M Ln E) : gZ s 28 q = some 61 := h.2.2.2.2.2.2.2.2.2.2.2.1
theorem PgN.z29 {s : MM} {q M Ln E : Nat} (h : PgN s q M Ln E) : gZ s 29 q = some 61 := h.2.2.2.2.2.2.2.2.2.2.2.2.1
theorem PgN.z30 {s : MM} {q M Ln E : Nat} (h : PgN s q M Ln E) : gZ s 30 q = some 61 := h.2.2.2.2.2.2.2.2.2.2.2.2.2.1
theorem PgN.z31 {s : MM} {q M Ln E : Nat} (h : PgN s q M Ln E) : gZ s 31 q = some Ln := h.2.2.2.2.2.2.2.2.2.2.2.2.2.2.1
theorem PgN.z32 {s : MM} {q M Ln E : Nat} (h : PgN s q M Ln E) : gZ s 32 q = some Ln := h.2.2.2.2.2.2.2.2.2.2.2.2.2.2.2.1
theorem PgN.z33 {s : MM} {q M Ln E : Nat} (h : PgN s q M Ln E) : gZ s 33 q = some Ln := h.2.2.2.2.2.2.2.2.2.2.2.2.2.2.2.2.1
theorem PgN.q0 {s : MM} {q M Ln E : Nat} (h : PgN s q M Ln E) : gR s 5 q 0 = some (34, q) := h.2.2.2.2.2.2.2.2.2.2.2.2.2.2.2.2.2.1
theorem PgN.q1 {s : MM} {q M Ln E : Nat} (h : PgN s q M Ln E) : gR s 5 q 1 = some (35, q) := h.2.2.2.2.2.2.2.2.2.2.2.2.2.2.2.2.2.2.1
theorem PgN.q2 {s : MM} {q M Ln E : Nat} (h : PgN s q M Ln E) : gR s 5 q 2 = some (36, q) := h.2.2.2.2.2.2.2.2.2.2.2.2.2.2.2.2.2.2.2.1
theorem PgN.q3 {s : MM} {q M Ln E : Nat} (h : PgN s q M Ln E) : gR s 5 q 3 = some (37, q) := h.2.2.2.2.2.2.2.2.2.2.2.2.2.2.2.2.2.2.2.2.1
theorem PgN.z34 {s : MM} {q M Ln E : Nat} (h : PgN s q M Ln E) : gZ s 34 q = some (M * Ln) := h.2.2.2.2.2.2.2.2.2.2.2.2.2.2.2.2.2.2.2.2.2.1
theorem PgN.z35 {s : MM} {q M Ln E : Nat} (h : PgN s q M Ln E) : gZ s 35 q = some (M * Ln) := h.2.2.2.2.2.2.2.2.2.2.2.2.2.2.2.2.2.2.2.2.2.2.1
theorem PgN.z36 {s : MM} {q M Ln E : Nat} (h : PgN s q M Ln E) : gZ s 36 q = some (M * Ln) := h.2.2.2.2.2.2.2.2.2.2.2.2.2.2.2.2.2.2.2.2.2.2.2.1
theorem PgN.z37 {s : MM} {q M Ln E : Nat} (h : PgN s q M Ln E) : gZ s 37 q = some E := h.2.2.2.2.2.2.2.2.2.2.2.2.2.2.2.2.2.2.2.2.2.2.2.2.1
theorem PgN.e37 {s : MM} {q M Ln E : Nat} (h : PgN s q M Ln E) : ∀ c, c < E → gR s 37 q c = some (38, 24 * q + c) := h.2.2.2.2.2.2.2.2.2.2.2.2.2.2.2.2.2.2.2.2.2.2.2.2.2.1
theorem PgN.z38 {s : MM} {q M Ln E : Nat} (h : PgN s q M Ln E) : ∀ c, c < E → gZ s 38 (24 * q + c) = some (M * Ln) := h.2.2.2.2.2.2.2.2.2.2.2.2.2.2.2.2.2.2.2.2.2.2.2.2.2.2
/-- counters of the kinds that a page has one of -/
def CnP (m : MM) (q : Nat) : Prop := gC m 5 = q ∧ ∀ K, 27 ≤ K → K ≤ 37 → gC m K = q
def pgA (m : MM) (q M Ln : Nat) : MM := sR (nW (sR (nW (sR (nW (sN (sN (sR (nW (sR (nW (sR (nW (sR (nW m 27 61) 4 q 1 (some (27, q))) 28 61) 4 q 2 (some (28, q))) 29 61) 4 q 3 (some (29, q))) 30 61) 4 q 4 (some (30, q))) 4 q 9 (-1)) 4 q 0 (M : Int)) 31 Ln) 4 q 5 (some (31, q))) 32 Ln) 4 q 6 (some (32, q))) 33 Ln) 4 q 7 (some (33, q))
def plA (m : MM) (q ML E : Nat) : MM := sR (nM (bC (sR (nW (sR (nW (sR (nW m 34 ML) 5 q 0 (some (34, q))) 35 ML) 5 q 1 (some (35, q))) 36 ML) 5 q 2 (some (36, q))) (bump1 q)) 37 E 38 ML) 5 q 3 (some (37, q))
theorem pgA_z {m : MM} {q : Nat} (c27 : gC m 27 = q) (c28 : gC m 28 = q) (c29 : gC m 29 = q) (c30 : gC m 30 = q) (c31 : gC m 31 = q) (c32 : gC m 32 = q) (c33 : gC m 33 = q) : gZ (pgA m q M Ln) 27 q = some 61 ∧ gZ (pgA m q M Ln) 28 q = some 61 ∧ gZ (pgA m q M Ln) 29 q = some 61 ∧ gZ (pgA m q M Ln) 30 q = some 61 ∧ gZ (pgA m q M Ln) 31 q = some Ln ∧ gZ (pgA m q M Ln) 32 q = some Ln ∧ gZ (pgA m q M Ln) 33 q = some Ln := by
  unfold pgA
  refine ⟨?_, ?_, ?_, ?_, ?_, ?_, ?_⟩ <;> simp [gZ_sR, gZ_sN, gZ_nW, gC_sR, gC_sN, gC_nW, c27, c28, c29, c30, c31, c32, c33]
theorem pgA_gf {m : MM} {q : Nat} (c27 : gC m 27 = q) (c28 : gC m 28 = q) (c29 : gC m 29 = q) (c30 : gC m 30 = q) (c31 : gC m 31 = q) (c32 : gC m 32 = q) (c33 : gC m 33 = q) : GF (pgWN q) (fun K i k => K = 4 ∧ i = q ∧ 1 ≤ k ∧ k ≤ 7) (fun K i => 27 ≤ K ∧ K ≤ 33 ∧ i = q) m (pgA m q M Ln) := by
  unfold pgA
  refine GF.sR (GF.nW (GF.sR (GF.nW (GF.sR (GF.nW (GF.sN (GF.sN (GF.sR (GF.nW (GF.sR (GF.nW (GF.sR (GF.nW (GF.sR (GF.nW GF.rf ?_) ?_) ?_) ?_) ?_) ?_) ?_) ?_) ?_) ?_) ?_) ?_) ?_) ?_) ?_) ?_
  all_goals simp [pgWN, gC_sR, gC_sN, gC_nW, c27, c28, c29, c30, c31, c32, c33]
theorem pgA_c {m : MM} {q : Nat} (c27 : gC m 27 = q) (c28 : gC m 28 = q) (c29 : gC m 29 = q) (c30 : gC m 30 = q) (c31 : gC m 31 = q) (c32 : gC m 32 = q) (c33 : gC m 33 = q) (K : Nat) : gC (pgA m q M Ln) K = if 27 ≤ K ∧ K ≤ 33 then q + 1 else gC m K := by
  unfold pgA
  by_cases h : 27 ≤ K ∧ K ≤ 33
  · rw [if_pos h]
    obtain rfl | rfl | rfl | rfl | rfl | rfl | rfl : K = 27 ∨ K = 28 ∨ K = 29 ∨ K = 30 ∨ K = 31 ∨ K = 32 ∨ K = 33 := by omega
    all_goals simp [gC_sR, gC_sN, gC_nW, c27, c28, c29, c30, c31, c32, c33]
  · rw [if_neg h]
    have n27 : K ≠ 27 := by omega
    have n28 : K ≠ 28 := by omega
    have n29 : K ≠ 29 := by omega
    have n30 : K ≠ 30 := by omega
    have n31 : K ≠ 31 := by omega
    have n32 : K ≠ 32 := by omega
    have n33 : K ≠ 33 := by omega
    simp [gC_sR, gC_sN, gC_nW, n27, n28, n29, n30, n31, n32, n33]
theorem pgA_eq {m : MM} {q : Nat} (c27 : gC m 27 = q) (c28 : gC m 28 = q) (c29 : gC m 29 = q) (c30 : gC m 30 = q) (c31 : gC m 31 = q) (c32 : gC m 32 = q) (c33 : gC m 33 = q) (hL : Ln ≤ 6) (hM : M * Ln ≤ 144) : f_X4_init m q (M : Int) (Ln : Int) (E : Int) = ck ((M : Int) * (Ln : Int)) (bV (f_X5_init (nW (pgA m q M Ln) 5 5) (gC (pgA m q M Ln) 5) ((M : Int) * (Ln : Int)) (E : Int)) (fun m18 => some (.inl none, sR m18 4 q 8 (some (5, gC (pgA m q M Ln) 5)))) x0) := by
  unfold f_X4_init pgA
  rw [newA_of (by omega), lt_eq, newA_of (by omega), lt_eq, newA_of (by omega), lt_eq, newA_of (by omega), lt_eq, lt_eq, lt_eq, newA_of (by omega), lt_eq, newA_of (by omega), lt_eq, newA_of (by omega), lt_eq, lt_eq]
  simp only [tnc, gC_sR, gC_sN, gC_nW, c27, c28, c29, c30, c31, c32, c33, Nat.reduceEqDiff, if_false, ite_false, reduceIte, show (61 : Int).toNat = 61 from rfl]
  rfl
theorem pgA_r {m : MM} {q : Nat} : gR (pgA m q M Ln) 4 q 1 = some (27, q) ∧ gR (pgA m q M Ln) 4 q 2 = some (28, q) ∧ gR (pgA m q M Ln) 4 q 3 = some (29, q) ∧ gR (pgA m q M Ln) 4 q 4 = some (30, q) ∧ gR (pgA m q M Ln) 4 q 5 = some (31, q) ∧ gR (pgA m q M Ln) 4 q 6 = some (32, q) ∧ gR (pgA m q M Ln) 4 q 7 = some (33, q) := by
  unfold pgA
  refine ⟨?_, ?_, ?_, ?_, ?_, ?_, ?_⟩ <;> simp [gR_sR, gR_sN, gR_nW]
theorem pgA_n {m : MM} {q : Nat} : gN (pgA m q M Ln) 4 q 0 = M ∧ gN (pgA m q M Ln) 4 q 9 = -1 := by
  unfold pgA
  refine ⟨?_, ?_⟩ <;> simp [gN_sR, gN_sN, gN_nW]
theorem plA_r {m : MM} {q ML : Nat} (c34 : gC m 34 = q) (c35 : gC m 35 = q) (c36 : gC m 36 = q) (c37 : gC m 37 = q) (c38 : gC m 38 ≤ 24 * q) : gR (plA m q ML E) 5 q 0 = some (34, q) ∧ gR (plA m q ML E) 5 q 1 = some (35, q) ∧ gR (plA m q ML E) 5 q 2 = some (36, q) ∧ gR (plA m q ML E) 5 q 3 = some (37, q) ∧ ∀ c, c < E → gR (plA m q ML E) 37 q c = some (38, 24 * q + c) := by
  have h38 : max (gC m 38) (24 * q) = 24 * q := by omega
  unfold plA
  refine ⟨?_, ?_, ?_, ?_, fun c hc => ?_⟩
  · simp [gR_sR, gR_nM, gR_bC, gR_nW]
  · simp [gR_sR, gR_nM, gR_bC, gR_nW]
  · simp [gR_sR, gR_nM, gR_bC, gR_nW]
  · simp [gR_sR]
  · simp [gR_sR, gR_nM, gC_sR, gC_nW, gC_bC, bump1, c37, h38, hc]
theorem plA_z {m : MM} {q ML : Nat} (c34 : gC m 34 = q) (c35 : gC m 35 = q) (c36 : gC m 36 = q) (c37 : gC m 37 = q) (c38 : gC m 38 ≤ 24 * q) : gZ (plA m q ML E) 34 q = some ML ∧ gZ (plA m q ML E) 35 q = some ML ∧ gZ (plA m q ML E) 36 q = some ML ∧ gZ (plA m q ML E) 37 q = some E ∧ ∀ c, c < E → gZ (plA m q ML E) 38 (24 * q + c) = some ML := by
  have h38 : max (gC m 38) (24 * q) = 24 * q := by omega
  unfold plA
  refine ⟨?_, ?_, ?_, ?_, fun c hc => ?_⟩
  · simp [gZ_sR, gZ_nM, gZ_bC, gZ_nW, gC_sR, gC_nW, gC_bC, bump1, c34, c35, c36, c37]
  · simp [gZ_sR, gZ_nM, gZ_bC, gZ_nW, gC_sR, gC_nW, gC_bC, bump1, c34, c35, c36, c37]
  · simp [gZ_sR, gZ_nM, gZ_bC, gZ_nW, gC_sR, gC_nW, gC_bC, bump1, c34, c35, c36, c37]
  · simp [gZ_sR, gZ_nM, gC_sR, gC_nW, gC_bC, bump1, c37]
  · simp [gZ_sR, gZ_nM, gC_sR, gC_nW, gC_bC, bump1, h38, hc]
theorem plA_gf {m : MM} {q ML : Nat} (c34 : gC m 34 = q) (c35 : gC m 35 = q) (c36 : gC m 36 = q) (c37 : gC m 37 = q) (c38 : gC m 38 ≤ 24 * q) (hE : E ≤ 24) : GF (fun _ _ _ => False) (fun K i k => (K = 5 ∧ i = q ∧ k ≤ 3) ∨ (K = 37 ∧ i = q)) (fun K i => (34 ≤ K ∧ K ≤ 37 ∧ i = q) ∨ (K = 38 ∧ 24 * q ≤ i ∧ i < 24 * q + 24)) m (plA m q ML E) := by
  have h38 : max (gC m 38) (24 * q) = 24 * q := by omega
  have e38 : gC (bC (sR (nW (sR (nW (sR (nW m 34 ML) 5 q 0 (some (34, q))) 35 ML) 5 q 1 (some (35, q))) 36 ML) 5 q 2 (some (36, q))) (bump1 q)) 38 = 24 * q := by simp [gC_sR, gC_nW, gC_bC, bump1, h38]
  have e37 : gC (bC (sR (nW (sR (nW (sR (nW m 34 ML) 5 q 0 (some (34, q))) 35 ML) 5 q 1 (some (35, q))) 36 ML) 5 q 2 (some (36, q))) (bump1 q)) 37 = q := by simp [gC_sR, gC_nW, gC_bC, bump1, c37]
  unfold plA
  refine GF.sR (GF.nM (GF.bC (GF.sR (GF.nW (GF.sR (GF.nW (GF.sR (GF.nW GF.rf ?_) ?_) ?_) ?_) ?_) ?_)) ?_ ?_ ?_) ?_
  all_goals first | (simp [gC_sR, gC_nW, c34, c35, c36]; done) | skip
  · rw [e37]; omega
  · intro i h1 h2
    rw [e38] at h1 h2
    omega
  · intro c hc
    rw [e37]; omega
theorem plA_c {m : MM} {q ML : Nat} (c34 : gC m 34 = q) (c35 : gC m 35 = q) (c36 : gC m 36 = q) (c37 : gC m 37 = q) (c38 : gC m 38 ≤ 24 * q) (K : Nat) : gC (plA m q ML E) K = if 34 ≤ K ∧ K ≤ 37 then q + 1 else if K = 38 then 24 * q + E else gC m K := by
  have h38 : max (gC m 38) (24 * q) = 24 * q := by omega
  unfold plA
  by_cases h : 34 ≤ K ∧ K ≤ 37
  · rw [if_pos h]
    obtain rfl | rfl | rfl | rfl : K = 34 ∨ K = 35 ∨ K = 36 ∨ K = 37 := by omega
    all_goals simp [gC_sR, gC_nM, gC_bC, gC_nW, bump1, c34, c35, c36, c37]
  · rw [if_neg h]
    have n34 : K ≠ 34 := by omega
    have n35 : K ≠ 35 := by omega
    have n36 : K ≠ 36 := by omega
    have n37 : K ≠ 37 := by omega
    by_cases h8 : K = 38
    · subst h8
      simp [gC_sR, gC_nM, gC_bC, gC_nW, bump1, h38]
    · simp [gC_sR, gC_nM, gC_bC, gC_nW, bump1, n34, n35, n36, n37, h8]
theorem plA_eq {m : MM} {q ML : Nat} (c34 : gC m 34 = q) (c35 : gC m 35 = q) (c36 : gC m 36 = q) (c37 : gC m 37 = q) (c38 : gC m 38 ≤ 24 * q) (hE : E ≤ 24) (hM : ML ≤ 144) : f_X5_init m q (ML : Int) (E : Int) = some (.inl none, plA m q ML E) := by
  unfold f_X5_init plA
  rw [newA_of (by omega), lt_eq, newA_of (by omega), lt_eq, newA_of (by omega), lt_eq, lt_eq, newM_of (by omega), lt_eq]
  simp only [tnc, gC_sR, gC_nW, gC_bC, c34, c35, c36, c37, bump1, Nat.reduceEqDiff, if_false, ite_false, reduceIte, Nat.max_zero]
theorem page_asm {m mA mP : MM} {q : Nat} (c5 : gC m 5 = q) (hE : E ≤ 24)
    (aZ : gZ mA 27 q = some 61 ∧ gZ mA 28 q = some 61 ∧ gZ mA 29 q = some 61 ∧ gZ mA 30 q = some 61 ∧ gZ mA 31 q = some Ln ∧ gZ mA 32 q = some Ln ∧ gZ mA 33 q = some Ln)
    (aG : GF (pgWN q) (fun K i k => K = 4 ∧ i = q ∧ 1 ≤ k ∧ k ≤ 7) (fun K i => 27 ≤ K ∧ K ≤ 33 ∧ i = q) m mA)
    (aC : ∀ K, gC mA K = if 27 ≤ K ∧ K ≤ 33 then q + 1 else gC m K)
    (aR : gR mA 4 q 1 = some (27, q) ∧ gR mA 4 q 2 = some (28, q) ∧ gR mA 4 q 3 = some (29, q) ∧ gR mA 4 q 4 = some (30, q) ∧ gR mA 4 q 5 = some (31, q) ∧ gR mA 4 q 6 = some (32, q) ∧ gR mA 4 q 7 = some (33, q))
    (aN : gN mA 4 q 0 = M ∧ gN mA 4 q 9 = -1)
    (pR : gR mP 5 q 0 = some (34, q) ∧ gR mP 5 q 1 = some (35, q) ∧ gR mP 5 q 2 = some (36, q) ∧ gR mP 5 q 3 = some (37, q) ∧ ∀ c, c < E → gR mP 37 q c = some (38, 24 * q + c))
    (pZ : gZ mP 34 q = some (M * Ln) ∧ gZ mP 35 q = some (M * Ln) ∧ gZ mP 36 q = some (M * Ln) ∧ gZ mP 37 q = some E ∧ ∀ c, c < E → gZ mP 38 (24 * q + c) = some (M * Ln))
    (pG : GF (fun _ _ _ => False) (fun K i k => (K = 5 ∧ i = q ∧ k ≤ 3) ∨ (K = 37 ∧ i = q)) (fun K i => (34 ≤ K ∧ K ≤ 37 ∧ i = q) ∨ (K = 38 ∧ 24 * q ≤ i ∧ i < 24 * q + 24)) (nW mA 5 5) mP)
    (pC : ∀ K, gC mP K = if 34 ≤ K ∧ K ≤ 37 then q + 1 else if K = 38 then 24 * q + E else gC (nW mA 5 5) K) :
    PgN (sR mP 4 q 8 (some (5, q))) q M Ln E ∧ GF (pgWN q) (pgWR q) (pgWZ q) m (sR mP 4 q 8 (some (5, q))) ∧ CnP (sR mP 4 q 8 (some (5, q))) (q + 1) ∧ gC (sR mP 4 q 8 (some (5, q))) 38 ≤ 24 * (q + 1) ∧ ∀ K, K ≠ 5 → ¬ (27 ≤ K ∧ K ≤ 38) → gC (sR mP 4 q 8 (some (5, q))) K = gC m K := by
  have aC5 : gC mA 5 = q := by rw [aC, if_neg (by omega), c5]
  have gA : GF (pgWN q) (pgWR q) (pgWZ q) m mA := aG.sub (fun _ _ _ z => z) (fun K i k z => by unfold pgWR; omega) (fun K i z => by unfold pgWZ; omega)
  have g0 : GF (fun _ _ _ => False) (fun K i k => (K = 5 ∧ i = q ∧ k ≤ 3) ∨ (K = 37 ∧ i = q)) (fun K i => ((K = 5 ∨ (34 ≤ K ∧ K ≤ 37)) ∧ i = q) ∨ (K = 38 ∧ 24 * q ≤ i ∧ i < 24 * q + 24)) mA (nW mA 5 5) := GF.nW GF.rf (by rw [aC5]; omega)
  have g1 : GF (fun _ _ _ => False) (fun K i k => (K = 5 ∧ i = q ∧ k ≤ 3) ∨ (K = 37 ∧ i = q)) (fun K i => ((K = 5 ∨ (34 ≤ K ∧ K ≤ 37)) ∧ i = q) ∨ (K = 38 ∧ 24 * q ≤ i ∧ i < 24 * q + 24)) mA mP := g0.tr (pG.sub (fun _ _ _ z => z) (fun _ _ _ z => z) (fun K i z => by omega))
  have g2' : GF (fun _ _ _ => False) (fun K i k => (K = 4 ∧ i = q ∧ k = 8) ∨ (K = 5 ∧ i = q ∧ k ≤ 3) ∨ (K = 37 ∧ i = q)) (fun K i => ((K = 5 ∨ (34 ≤ K ∧ K ≤ 37)) ∧ i = q) ∨ (K = 38 ∧ 24 * q ≤ i ∧ i < 24 * q + 24)) mA mP := g1.sub (fun _ _ _ z => z) (fun _ _ _ z => Or.inr z) (fun _ _ z => z)
  have g2 := g2'.sR (K := 4) (i := q) (k := 8) (v := some (5, q)) (Or.inl ⟨rfl, rfl, rfl⟩)
  have r8 : gR (sR mP 4 q 8 (some (5, q))) 4 q 8 = some (5, q) := by rw [gR_sR, if_pos ⟨rfl, rfl, rfl⟩]
  have rP : ∀ K k, K ≠ 4 → gR (sR mP 4 q 8 (some (5, q))) K q k = gR mP K q k := fun K k h => by rw [gR_sR, if_neg (fun z => h z.1)]
  have zP : ∀ K i, gZ (sR mP 4 q 8 (some (5, q))) K i = gZ mP K i := fun K i => rfl
  have cP : ∀ K, gC (sR mP 4 q 8 (some (5, q))) K = gC mP K := fun K => rfl
  generalize sR mP 4 q 8 (some (5, q)) = mF at *
  have r4 : ∀ k, k ≠ 8 → gR mF 4 q k = gR mA 4 q k := fun k hk => g2.2.1 4 q k (by omega)
  have z4 : ∀ K, 27 ≤ K → K ≤ 33 → gZ mF K q = gZ mA K q := fun K h1 h2 => g2.2.2.1 K q (by omega)
  have n4 : ∀ k, gN mF 4 q k = gN mA 4 q k := fun k => g2.1 4 q k (fun z => z)
  refine ⟨⟨by rw [n4]; exact aN.1, by rw [n4]; exact aN.2, by rw [r4 1 (by decide)]; exact aR.1, by rw [r4 2 (by decide)]; exact aR.2.1, by rw [r4 3 (by decide)]; exact aR.2.2.1, by rw [r4 4 (by decide)]; exact aR.2.2.2.1, by rw [r4 5 (by decide)]; exact aR.2.2.2.2.1, by rw [r4 6 (by decide)]; exact aR.2.2.2.2.2.1, by rw [r4 7 (by decide)]; exact aR.2.2.2.2.2.2, r8,
    by rw [z4 27 (by decide) (by decide)]; exact aZ.1, by rw [z4 28 (by decide) (by decide)]; exact aZ.2.1, by rw [z4 29 (by decide) (by decide)]; exact aZ.2.2.1, by rw [z4 30 (by decide) (by decide)]; exact aZ.2.2.2.1, by rw [z4 31 (by decide) (by decide)]; exact aZ.2.2.2.2.1, by rw [z4 32 (by decide) (by decide)]; exact aZ.2.2.2.2.2.1, by rw [z4 33 (by decide) (by decide)]; exact aZ.2.2.2.2.2.2,
    by rw [rP 5 0 (by decide)]; exact pR.1, by rw [rP 5 1 (by decide)]; exact pR.2.1, by rw [rP 5 2 (by decide)]; exact pR.2.2.1, by rw [rP 5 3 (by decide)]; exact pR.2.2.2.1, by rw [zP]; exact pZ.1, by rw [zP]; exact pZ.2.1, by rw [zP]; exact pZ.2.2.1, by rw [zP]; exact pZ.2.2.2.1, fun c hc => by rw [rP 37 c (by decide)]; exact pR.2.2.2.2 c hc, fun c hc => by rw [zP]; exact pZ.2.2.2.2 c hc⟩, gA.tr (g2.sub (fun _ _ _ z => absurd z (fun y => y)) (fun K i k z => by unfold pgWR; omega) (fun K i z => by unfold pgWZ; omega)), ⟨?_, fun K h1 h2 => ?_⟩, ?_, fun K h1 h2 => ?_⟩
  · rw [cP, pC, if_neg (by decide), if_neg (by decide), gC_nW, if_pos rfl, aC5]
  · rw [cP, pC]
    by_cases h : 34 ≤ K ∧ K ≤ 37
    · rw [if_pos h]
    · rw [if_neg h, if_neg (by omega), gC_nW, if_neg (by omega), aC, if_pos (by omega)]
  · rw [cP, pC, if_neg (by decide), if_pos rfl]; omega
  · rw [cP, pC, if_neg (by omega), if_neg (by omega), gC_nW, if_neg h1, aC, if_neg (by omega)]
theorem page_c {m : MM} {q : Nat} (hq : CnP m q) (h38 : gC m 38 ≤ 24 * q) (hE : E ≤ 24) (hM : M ≤ 24) (hL : Ln ≤ 6) :
    ∃ s, f_X4_init m q (M : Int) (Ln : Int) (E : Int) = some (.inl none, s) ∧ PgN s q M Ln E ∧ GF (pgWN q) (pgWR q) (pgWZ q) m s ∧ CnP s (q + 1) ∧ gC s 38 ≤ 24 * (q + 1) ∧ ∀ K, K ≠ 5 → ¬ (27 ≤ K ∧ K ≤ 38) → gC s K = gC m K := by
  have hml : M * Ln ≤ 24 * 6 := Nat.mul_le_mul hM hL
  obtain ⟨c5, cK⟩ := hq
  have c27 := cK 27 (by decide) (by decide)
  have c28 := cK 28 (by decide) (by decide)
  have c29 := cK 29 (by decide) (by decide)
  have c30 := cK 30 (by decide) (by decide)
  have c31 := cK 31 (by decide) (by decide)
  have c32 := cK 32 (by decide) (by decide)
  have c33 := cK 33 (by decide) (by decide)
  have e0 := pgA_eq (E := E) c27 c28 c29 c30 c31 c32 c33 hL (show M * Ln ≤ 144 by omega)
  have aZ := pgA_z (M := M) (Ln := Ln) c27 c28 c29 c30 c31 c32 c33
  have aG := pgA_gf (M := M) (Ln := Ln) c27 c28 c29 c30 c31 c32 c33
  have aC := pgA_c (M := M) (Ln := Ln) c27 c28 c29 c30 c31 c32 c33
  have aR := pgA_r (m := m) (q := q) (M := M) (Ln := Ln)
  have aN := pgA_n (m := m) (q := q) (M := M) (Ln := Ln)
  generalize pgA m q M Ln = mA at e0 aZ aG aC aR aN
  have aC5 : gC mA 5 = q := by rw [aC, if_neg (by decide), c5]
  have k34 : gC (nW mA 5 5) 34 = q := by rw [gC_nW, if_neg (by decide), aC, if_neg (by decide)]; exact cK 34 (by decide) (by decide)
  have k35 : gC (nW mA 5 5) 35 = q := by rw [gC_nW, if_neg (by decide), aC, if_neg (by decide)]; exact cK 35 (by decide) (by decide)
  have k36 : gC (nW mA 5 5) 36 = q := by rw [gC_nW, if_neg (by decide), aC, if_neg (by decide)]; exact cK 36 (by decide) (by decide)
  have k37 : gC (nW mA 5 5) 37 = q := by rw [gC_nW, if_neg (by decide), aC, if_neg (by decide)]; exact cK 37 (by decide) (by decide)
  have k38 : gC (nW mA 5 5) 38 ≤ 24 * q := by rw [gC_nW, if_neg (by decide), aC, if_neg (by decide)]; exact h38
  have pE := plA_eq (E := E) (ML := M * Ln) k34 k35 k36 k37 k38 hE (by omega)
  have pR := plA_r (E := E) (ML := M * Ln) k34 k35 k36 k37 k38
  have pZ := plA_z (E := E) (ML := M * Ln) k34 k35 k36 k37 k38
  have pG := plA_gf (E := E) (ML := M * Ln) k34 k35 k36 k37 k38 hE
  have pC := plA_c (E := E) (ML := M * Ln) k34 k35 k36 k37 k38
  generalize plA (nW mA 5 5) q (M * Ln) E = mP at pE pR pZ pG pC
  refine ⟨sR mP 4 q 8 (some (5, q)), ?_, page_asm c5 hE aZ aG aC aR aN pR pZ pG pC⟩
  rw [e0, ck_of ⟨by rw [mulc]; omega, by rw [mulc]; omega⟩, aC5, mulc, pE, bV_ok]
theorem PgN.gf {WN WR : Nat → Nat → Nat → Prop} {WZ : Nat → Nat → Prop} {s s' : MM} {q : Nat} (h : PgN s q M Ln E) (g : GF WN WR WZ s s') (h1 : ∀ k, ¬ WN 4 q k) (h4 : ∀ k, ¬ WR 4 q k) (h5 : ∀ k, ¬ WR 5 q k) (h37 : ∀ k, ¬ WR 37 q k) (hZ : ∀ K, 27 ≤ K → K ≤ 37 → ¬ WZ K q) (h38 : ∀ c, c < 24 → ¬ WZ 38 (24 * q + c)) (hE : E ≤ 24) : PgN s' q M Ln E := by
  have a1 : ∀ k, gN s' 4 q k = gN s 4 q k := fun k => g.1 4 q k (h1 k)
  have a4 : ∀ k, gR s' 4 q k = gR s 4 q k := fun k => g.2.1 4 q k (h4 k)
  have a5 : ∀ k, gR s' 5 q k = gR s 5 q k := fun k => g.2.1 5 q k (h5 k)
  have a37 : ∀ k, gR s' 37 q k = gR s 37 q k := fun k => g.2.1 37 q k (h37 k)
  have aZ : ∀ K, 27 ≤ K → K ≤ 37 → gZ s' K q = gZ s K q := fun K k1 k2 => g.2.2.1 K q (hZ K k1 k2)
  refine ⟨by rw [a1]; exact h.n0, by rw [a1]; exact h.n9, by rw [a4]; exact h.p1, by rw [a4]; exact h.p2, by rw [a4]; exact h.p3, by rw [a4]; exact h.p4, by rw [a4]; exact h.p5, by rw [a4]; exact h.p6, by rw [a4]; exact h.p7, by rw [a4]; exact h.p8, by rw [aZ 27 (by omega) (by omega)]; exact h.z27, by rw [aZ 28 (by omega) (by omega)]; exact h.z28, by rw [aZ 29 (by omega) (by omega)]; exact h.z29, by rw [aZ 30 (by omega) (by omega)]; exact h.z30, by rw [aZ 31 (by omega) (by omega)]; exact h.z31, by rw [aZ 32 (by omega) (by omega)]; exact h.z32, by rw [aZ 33 (by omega) (by omega)]; exact h.z33, by rw [a5]; exact h.q0, by rw [a5]; exact h.q1, by rw [a5]; exact h.q2, by rw [a5]; exact h.q3, by rw [aZ 34 (by omega) (by omega)]; exact h.z34, by rw [aZ 35 (by omega) (by omega)]; exact h.z35, by rw [aZ 36 (by omega) (by omega)]; exact h.z36, by rw [aZ 37 (by omega) (by omega)]; exact h.z37, fun c hc => by rw [a37]; exact h.e37 c hc, fun c hc => by rw [g.2.2.1 38 _ (h38 c (by omega))]; exact h.z38 c hc⟩
/-- the pages of a new book -/
def bkWN (b K i k : Nat) : Prop := (K = 4 ∧ 16 * b ≤ i ∧ i < 16 * b + 16 ∧ (k = 0 ∨ k = 9)) ∨ (K = 2 ∧ 8 * b ≤ i ∧ i < 8 * b + 8 ∧ (k = 1 ∨ k = 4 ∨ k = 5 ∨ k = 7 ∨ k = 8 ∨ k = 9)) ∨ (K = 0 ∧ i = b ∧ k ≤ 3)
def bkWR (b K i k : Nat) : Prop := (K = 4 ∧ 16 * b ≤ i ∧ i < 16 * b + 16 ∧ 1 ≤ k ∧ k ≤ 8) ∨ (K = 5 ∧ 16 * b ≤ i ∧ i < 16 * b + 16 ∧ k ≤ 3) ∨ (K = 37 ∧ 16 * b ≤ i ∧ i < 16 * b + 16) ∨ ((K = 2 ∨ K = 19) ∧ 8 * b ≤ i ∧ i < 8 * b + 8) ∨ (K = 8 ∧ 4 * b ≤ i ∧ i < 4 * b + 4 ∧ k ≤ 1) ∨ ((K = 0 ∨ K = 9 ∨ (13 ≤ K ∧ K ≤ 15) ∨ K = 17) ∧ i = b)
def bkWZ (b K i : Nat) : Prop := CBk b K i
def psWN (b K i k : Nat) : Prop := K = 4 ∧ 16 * b ≤ i ∧ i < 16 * b + 16 ∧ (k = 0 ∨ k = 9)
def psWR (b K i k : Nat) : Prop := (K = 4 ∧ 16 * b ≤ i ∧ i < 16 * b + 16 ∧ 1 ≤ k ∧ k ≤ 8) ∨ (K = 5 ∧ 16 * b ≤ i ∧ i < 16 * b + 16 ∧ k ≤ 3) ∨ (K = 37 ∧ 16 * b ≤ i ∧ i < 16 * b + 16) ∨ (K = 13 ∧ i = b)
def psWZ (b K i : Nat) : Prop := ((K = 4 ∨ K = 5 ∨ (27 ≤ K ∧ K ≤ 37)) ∧ 16 * b ≤ i ∧ i < 16 * b + 16) ∨ (K = 38 ∧ 384 * b ≤ i ∧ i < 384 * b + 384)
def PgI (m0 : MM) (b F n M Ln E p : Nat) (s : MM) : Prop := (∀ p', p' < p → PgN s (16 * b + p') M Ln E ∧ gR s 13 b p' = some (4, 16 * b + p')) ∧ GF (psWN b) (psWR b) (psWZ b) m0 s ∧ CnP s (16 * b + p) ∧ gC s 4 = 16 * b + p ∧ gC s 38 ≤ 24 * (16 * b + p) ∧ (∀ K, K ≠ 4 → K ≠ 5 → ¬ (27 ≤ K ∧ K ≤ 38) → gC s K = gC m0 K) ∧ gR s 0 b 5 = some (13, b) ∧ gZ s 13 b = some (2 * (F * n))
/-- the kinds that a book may reach into -/
theorem pages_c {m0 : MM} (hL : Ln ≤ 6) (hM : M ≤ 24) (hE : E ≤ 24) (hFn : F * n ≤ 8) (l1 l2 : Int) : ∀ (d p : Nat) (s : MM), 2 * (F * n) - p = d → p ≤ 2 * (F * n) → PgI m0 b F n M Ln E p s → ∃ s', lpb (fun s : Int × MM => b_X0_init_52 b l1 l2 (M : Int) (Ln : Int) (E : Int) s.1 s.2) ((p : Int), s) = some s' ∧ PgI m0 b F n M Ln E (2 * (F * n)) s' := by
  intro d
  induction d with
  | zero =>
    intro p s hd hp hI
    obtain rfl : p = 2 * (F * n) := by omega
    obtain ⟨g1, g2, g3, g4, g5, g6, g7, g8⟩ := hI
    rw [lpb_eq]
    simp only
    unfold b_X0_init_52
    rw [nk_of g7, lenI_of g8, if_pos (Int.le_refl _)]
    exact ⟨s, rfl, g1, g2, g3, g4, g5, g6, g7, g8⟩
  | succ d ih =>
    intro p s hd hp hI
    obtain ⟨g1, g2, g3, g4, g5, g6, g7, g8⟩ := hI
    have hp2 : p < 2 * (F * n) := by omega
    have g3' : CnP (nW s 4 15) (16 * b + p) := ⟨g3.1, fun K h1 h2 => by rw [gC_nW, if_neg (by omega)]; exact g3.2 K h1 h2⟩
    have g5' : gC (nW s 4 15) 38 ≤ 24 * (16 * b + p) := g5
    obtain ⟨s1, e1, e2, e3, e4, e5, e6⟩ := page_c g3' g5' hE hM hL
    have hz13 : gZ s1 13 b = some (2 * (F * n)) := by
      rw [e3.2.2.1 13 b (by unfold pgWZ; omega), gZ_nW, if_neg (by omega)]; exact g8
    rw [lpb_eq]
    simp only
    unfold b_X0_init_52
    rw [nk_of g7, lenI_of g8, if_neg (show ¬ ((2 * (F * n) : Nat) : Int) ≤ (p : Int) by omega), nk_of g7, lt_eq, g4, e1, bV_ok, stR_of hz13 (by omega), tnc, ck_of ⟨by omega, by omega⟩]
    have gg : GF (psWN b) (psWR b) (psWZ b) s (sR s1 13 b p (some (4, 16 * b + p))) := by
      refine GF.sR ?_ (by unfold psWR; omega)
      have h0 : GF (psWN b) (psWR b) (psWZ b) s (nW s 4 15) := GF.rf.nW (by rw [g4]; unfold psWZ; omega)
      refine h0.tr (e3.sub (fun K i k q => by unfold pgWN at q; unfold psWN; omega) (fun K i k q => by unfold pgWR at q; unfold psWR; omega) (fun K i q => by unfold pgWZ at q; unfold psWZ; omega))
    have z := ih (p + 1) (sR s1 13 b p (some (4, 16 * b + p))) (by omega) (by omega) ⟨fun p' hp' => ?_, g2.tr gg, ⟨e4.1, e4.2⟩, ?_, e5, fun K h1 h2 h3 => ?_, ?_, ?_⟩
    · rw [show ((p + 1 : Nat) : Int) = (p : Int) + 1 by omega] at z
      exact z
    · by_cases q : p' = p
      · rw [q]
        refine ⟨e2.gf (GF.sR (WN := fun _ _ _ => False) (WR := fun K _ _ => K = 13) (WZ := fun _ _ => False) GF.rf rfl) (fun _ q => q) (fun _ q => absurd q (by decide)) (fun _ q => absurd q (by decide)) (fun _ q => absurd q (by decide)) (fun _ _ _ q => q) (fun _ _ q => q) hE, by rw [gR_sR, if_pos ⟨rfl, rfl, rfl⟩]⟩
      · obtain ⟨k1, k2⟩ := g1 p' (by omega)
        have k3 : PgN (nW s 4 15) (16 * b + p') M Ln E := k1.gf (GF.nW (WN := fun _ _ _ => False) (WR := fun _ _ _ => False) (WZ := fun K _ => K = 4) GF.rf rfl) (fun _ q => q) (fun _ q => q) (fun _ q => q) (fun _ q => q) (fun K _ _ q => by omega) (fun _ _ q => absurd q (by decide)) hE
        have k4 := k3.gf e3 (fun k q => by unfold pgWN at q; omega) (fun k q => by unfold pgWR at q; omega) (fun k q => by unfold pgWR at q; omega) (fun k q => by unfold pgWR at q; omega) (fun K h1 h2 q => by unfold pgWZ at q; omega) (fun c hc q => by unfold pgWZ at q; omega) hE
        refine ⟨k4.gf (GF.sR (WN := fun _ _ _ => False) (WR := fun K _ _ => K = 13) (WZ := fun _ _ => False) GF.rf rfl) (fun _ q => q) (fun _ q => absurd q (by decide)) (fun _ q => absurd q (by decide)) (fun _ q => absurd q (by decide)) (fun _ _ _ q => q) (fun _ _ q => q) hE, ?_⟩
        rw [gR_sR, if_neg (by omega), e3.2.1 13 b p' (by unfold pgWR; omega)]
        exact k2
    · show gC s1 4 = _
      rw [e6 4 (by omega) (by omega), gC_nW, if_pos rfl]; omega
    · show gC s1 K = _
      rw [e6 K h2 h3, gC_nW, if_neg h1]
      exact g6 K h1 h2 h3
    · rw [gR_sR, if_neg (by omega), e3.2.1 0 b 5 (by unfold pgWR; omega)]
      exact g7
    · exact hz13
end BOOK
