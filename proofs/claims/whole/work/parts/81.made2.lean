/-! BOOK: formes and sheets. -/
section BOOK
variable {N : Nat} {mc mm : MM} {b F n M Ln E : Nat}
/-- which pages a forme has -/
theorem formePages_c {m0 : MM} {f : Nat} (hF : F = 2 ∨ F = 4 ∨ F = 8) (hFn : F * n ≤ 8) (hf : f < 2 * n) (hz : gZ m0 13 b = some (2 * (F * n))) (hr : ∀ p, p < 2 * (F * n) → gR m0 13 b p = some (4, 16 * b + p)) {w : Nat} (hw : gZ m0 19 w = some F) :
    ∀ (d p : Nat) (s : MM), 2 * (F * n) - p = d → p ≤ 2 * (F * n) → (GF (fun _ _ _ => False) (fun K i _ => K = 19 ∧ i = w) (fun _ _ => False) m0 s ∧ (∀ K, gC s K = gC m0 K) ∧ ∀ j, j < F → fpg F f j < p → gR s 19 w j = some (4, 16 * b + fpg F f j)) → ∃ s', lpb (fun s : Int × MM => b_X0_pagesOf_8 (f : Int) b (F : Int) w s.1 s.2) ((p : Int), s) = some s' ∧ GF (fun _ _ _ => False) (fun K i _ => K = 19 ∧ i = w) (fun _ _ => False) m0 s' ∧ (∀ K, gC s' K = gC m0 K) ∧ ∀ j, j < F → gR s' 19 w j = some (4, 16 * b + fpg F f j) := by
  have hn4 : n ≤ 4 := by rcases hF with z | z | z <;> subst z <;> omega
  intro d
  induction d with
  | zero =>
    intro p s hd hp hI
    obtain rfl : p = 2 * (F * n) := by omega
    obtain ⟨g1, g2, g3⟩ := hI
    have hz' : gZ s 13 b = some (2 * (F * n)) := by rw [g1.2.2.1 13 b (fun q => q)]; exact hz
    rw [lpb_eq]
    simp only
    unfold b_X0_pagesOf_8
    rw [lenI_of hz', if_pos (Int.le_refl _)]
    exact ⟨s, rfl, g1, g2, fun j hj => g3 j hj (fpg_lt hF hf hj)⟩
  | succ d ih =>
    intro p s hd hp hI
    obtain ⟨g1, g2, g3⟩ := hI
    have hp2 : p < 2 * (F * n) := by omega
    have hz' : gZ s 13 b = some (2 * (F * n)) := by rw [g1.2.2.1 13 b (fun q => q)]; exact hz
    have hw' : gZ s 19 w = some F := by rw [g1.2.2.1 19 w (fun q => q)]; exact hw
    rw [lpb_eq]
    simp only
    unfold b_X0_pagesOf_8
    rw [lenI_of hz', if_neg (show ¬ ((2 * (F * n) : Nat) : Int) ≤ (p : Int) by omega), formeOf_c hF (show p < 16 by omega), Option.bind_some]
    have ep : ((p + 1 : Nat) : Int) = (p : Int) + 1 := by omega
    by_cases q : fo F p = f
    · have e0 : f_X0_placeInForme s (p : Int) (F : Int) = some ((pif F p : Nat) : Int) := by
        unfold f_X0_placeInForme
        rcases hF with z | z | z <;> subst z <;> (rw [ck_of ⟨by omega, by omega⟩, dv_of ⟨by omega, by omega⟩, dv_of ⟨by omega, by omega⟩]; unfold pif; rfl)
      have hpl := pif_lt (p := p) hF
      rw [if_neg (show ¬ ¬ ((fo F p : Nat) : Int) = (f : Int) from fun z => z (by rw [q])), e0, Option.bind_some, ldR_of hz' (by omega), tnc, g1.2.1 13 b p (fun z => absurd z.1 (by decide)), hr p hp2, nk_some, stR_of hw' (by omega), tnc, ck_of ⟨by omega, by omega⟩]
      have z := ih (p + 1) (sR s 19 w (pif F p) (some (4, 16 * b + p))) (by omega) (by omega) ⟨g1.sR ⟨rfl, rfl⟩, g2, fun j hj hjp => ?_⟩
      · rw [ep] at z
        exact z
      · have e1 : fpg F f (pif F p) = p := by rw [← q]; exact fpg_fo hF
        by_cases qj : j = pif F p
        · rw [qj, gR_sR, if_pos ⟨rfl, rfl, rfl⟩, e1]
        · rw [gR_sR, if_neg (fun z => qj z.2.2)]
          refine g3 j hj ?_
          have : fpg F f j ≠ p := fun z => qj (by rw [← z, pif_fpg hF hj])
          omega
    · rw [if_pos (show ¬ ((fo F p : Nat) : Int) = (f : Int) by omega), ck_of ⟨by omega, by omega⟩]
      have z := ih (p + 1) s (by omega) (by omega) ⟨g1, g2, fun j hj hjp => g3 j hj (by
        have : fpg F f j ≠ p := fun z => q (by rw [← z]; exact fo_fpg hF (by omega) hj)
        omega)⟩
      rw [ep] at z
      exact z
/-- the formes of a new book -/
def FoN (s : MM) (b F E f : Nat) : Prop := (gR s 2 (8 * b + f) 0 = some (19, 8 * b + f)) ∧
  (gN s 2 (8 * b + f) 1 = E) ∧
  (gR s 2 (8 * b + f) 2 = some (26, 8 * b + f)) ∧
  (gR s 2 (8 * b + f) 3 = some (25, 8 * b + f)) ∧
  (gZ s 19 (8 * b + f) = some F) ∧
  (gZ s 26 (8 * b + f) = some E) ∧
  (gZ s 25 (8 * b + f) = some 400) ∧
  (∀ j, j < F → gR s 19 (8 * b + f) j = some (4, 16 * b + fpg F f j)) ∧
  (gN s 2 (8 * b + f) 4 = 0) ∧
  (gN s 2 (8 * b + f) 5 = -1) ∧
  (gN s 2 (8 * b + f) 7 = 1) ∧
  (gN s 2 (8 * b + f) 8 = -1) ∧
  (gN s 2 (8 * b + f) 9 = -1)
theorem FoN.r0 {s : MM} {b F E f : Nat} (h : FoN s b F E f) : gR s 2 (8 * b + f) 0 = some (19, 8 * b + f) := h.1
theorem FoN.n1 {s : MM} {b F E f : Nat} (h : FoN s b F E f) : gN s 2 (8 * b + f) 1 = E := h.2.1
theorem FoN.r2 {s : MM} {b F E f : Nat} (h : FoN s b F E f) : gR s 2 (8 * b + f) 2 = some (26, 8 * b + f) := h.2.2.1
theorem FoN.r3 {s : MM} {b F E f : Nat} (h : FoN s b F E f) : gR s 2 (8 * b + f) 3 = some (25, 8 * b + f) := h.2.2.2.1
theorem FoN.z19 {s : MM} {b F E f : Nat} (h : FoN s b F E f) : gZ s 19 (8 * b + f) = some F := h.2.2.2.2.1
theorem FoN.z26 {s : MM} {b F E f : Nat} (h : FoN s b F E f) : gZ s 26 (8 * b + f) = some E := h.2.2.2.2.2.1
theorem FoN.z25 {s : MM} {b F E f : Nat} (h : FoN s b F E f) : gZ s 25 (8 * b + f) = some 400 := h.2.2.2.2.2.2.1
theorem FoN.e19 {s : MM} {b F E f : Nat} (h : FoN s b F E f) : ∀ j, j < F → gR s 19 (8 * b + f) j = some (4, 16 * b + fpg F f j) := h.2.2.2.2.2.2.2.1
theorem FoN.n4 {s : MM} {b F E f : Nat} (h : FoN s b F E f) : gN s 2 (8 * b + f) 4 = 0 := h.2.2.2.2.2.2.2.2.1
theorem FoN.n5 {s : MM} {b F E f : Nat} (h : FoN s b F E f) : gN s 2 (8 * b + f) 5 = -1 := h.2.2.2.2.2.2.2.2.2.1
theorem FoN.n7 {s : MM} {b F E f : Nat} (h : FoN s b F E f) : gN s 2 (8 * b + f) 7 = 1 := h.2.2.2.2.2.2.2.2.2.2.1
theorem FoN.n8 {s : MM} {b F E f : Nat} (h : FoN s b F E f) : gN s 2 (8 * b + f) 8 = -1 := h.2.2.2.2.2.2.2.2.2.2.2.1
theorem FoN.n9 {s : MM} {b F E f : Nat} (h : FoN s b F E f) : gN s 2 (8 * b + f) 9 = -1 := h.2.2.2.2.2.2.2.2.2.2.2.2
def foWN (w K i k : Nat) : Prop := K = 2 ∧ i = w ∧ (k = 1 ∨ k = 4 ∨ k = 5 ∨ k = 7 ∨ k = 8 ∨ k = 9)
def foWR (w K i k : Nat) : Prop := (K = 2 ∧ i = w ∧ (k = 0 ∨ k = 2 ∨ k = 3)) ∨ (K = 19 ∧ i = w)
def foWZ (w K i : Nat) : Prop := (K = 2 ∨ K = 19 ∨ K = 25 ∨ K = 26) ∧ i = w
theorem FoN.gf {WN WR : Nat → Nat → Nat → Prop} {WZ : Nat → Nat → Prop} {s s' : MM} {f : Nat} (h : FoN s b F E f) (g : GF WN WR WZ s s') (h1 : ∀ k, ¬ WN 2 (8 * b + f) k) (h4 : ∀ k, ¬ WR 2 (8 * b + f) k) (h5 : ∀ k, ¬ WR 19 (8 * b + f) k) (hZ : ∀ K, K = 19 ∨ K = 25 ∨ K = 26 → ¬ WZ K (8 * b + f)) : FoN s' b F E f := by
  have a1 : ∀ k, gN s' 2 (8 * b + f) k = gN s 2 (8 * b + f) k := fun k => g.1 _ _ k (h1 k)
  have a4 : ∀ k, gR s' 2 (8 * b + f) k = gR s 2 (8 * b + f) k := fun k => g.2.1 _ _ k (h4 k)
  have a5 : ∀ k, gR s' 19 (8 * b + f) k = gR s 19 (8 * b + f) k := fun k => g.2.1 _ _ k (h5 k)
  have z1 := g.2.2.1 19 _ (hZ 19 (by omega))
  have z2 := g.2.2.1 25 _ (hZ 25 (by omega))
  have z3 := g.2.2.1 26 _ (hZ 26 (by omega))
  unfold FoN at h ⊢
  simp only [a1, a4, a5, z1, z2, z3]
  exact h
theorem forme_c {m : MM} {f w : Nat} (hw : w = 8 * b + f) (hE : E ≤ 24) (c25 : gC m 25 = w) (c26 : gC m 26 = w) (hz : gZ m 19 w = some F) (hr : ∀ j, j < F → gR m 19 w j = some (4, 16 * b + fpg F f j)) :
    ∃ s, f_X2_init m w w (E : Int) = some (.inl none, s) ∧ FoN s b F E f ∧ GF (foWN w) (foWR w) (foWZ w) m s ∧ gC s 25 = w + 1 ∧ gC s 26 = w + 1 ∧ ∀ K, K ≠ 25 → K ≠ 26 → gC s K = gC m K := by
  unfold f_X2_init
  rw [newA_of (by omega), lt_eq, lt_eq, lt_eq, lt_eq, lt_eq, lt_eq, lt_eq, lt_eq, newA_of (by omega), lt_eq]
  refine ⟨_, rfl, ?_, ?_, ?_, ?_, fun K h1 h2 => ?_⟩
  · subst hw
    refine ⟨?_, ?_, ?_, ?_, ?_, ?_, ?_, fun j hj => ?_, ?_, ?_, ?_, ?_, ?_⟩ <;> simp [gN_sR, gN_sN, gN_nW, gR_sR, gR_sN, gR_nW, gZ_sR, gZ_sN, gZ_nW, gC_sR, gC_sN, gC_nW, c25, c26, tnc]
    · exact hz
    · exact hr j hj
  · refine GF.sR (GF.nW (GF.sN (GF.sR (GF.sN (GF.sN (GF.sN (GF.sN (GF.sN (GF.sR (GF.nW GF.rf ?_) ?_) ?_) ?_) ?_) ?_) ?_) ?_) ?_) ?_) ?_ <;> simp [foWN, foWR, foWZ, gC_sR, gC_sN, gC_nW, c25, c26]
  · simp [gC_sR, gC_sN, gC_nW, c25]
  · simp [gC_sR, gC_sN, gC_nW, c26]
  · simp [gC_sR, gC_sN, gC_nW, h1, h2]
def fsWN (b K i k : Nat) : Prop := K = 2 ∧ 8 * b ≤ i ∧ i < 8 * b + 8 ∧ (k = 1 ∨ k = 4 ∨ k = 5 ∨ k = 7 ∨ k = 8 ∨ k = 9)
def fsWR (b K i k : Nat) : Prop := ((K = 2 ∨ K = 19) ∧ 8 * b ≤ i ∧ i < 8 * b + 8) ∨ (K = 14 ∧ i = b)
def fsWZ (b K i : Nat) : Prop := (K = 2 ∨ K = 19 ∨ K = 25 ∨ K = 26) ∧ 8 * b ≤ i ∧ i < 8 * b + 8
def FoI (m0 : MM) (b F E f : Nat) (s : MM) : Prop := (∀ f', f' < f → FoN s b F E f' ∧ gR s 14 b f' = some (2, 8 * b + f')) ∧ GF (fsWN b) (fsWR b) (fsWZ b) m0 s ∧ (gC s 2 = 8 * b + f ∧ gC s 19 = 8 * b + f ∧ gC s 25 = 8 * b + f ∧ gC s 26 = 8 * b + f) ∧ ∀ K, K ≠ 2 → K ≠ 19 → K ≠ 25 → K ≠ 26 → gC s K = gC m0 K
theorem formes_c {m0 : MM} (hF : F = 2 ∨ F = 4 ∨ F = 8) (hFn : F * n ≤ 8) (hE : E ≤ 24) (r5 : gR m0 0 b 5 = some (13, b)) (r6 : gR m0 0 b 6 = some (14, b)) (z13 : gZ m0 13 b = some (2 * (F * n))) (z14 : gZ m0 14 b = some (2 * n)) (h13 : ∀ p, p < 2 * (F * n) → gR m0 13 b p = some (4, 16 * b + p)) :
    ∀ (d f : Nat) (s : MM), 2 * n - f = d → f ≤ 2 * n → FoI m0 b F E f s → ∃ s', lpb (fun s : Int × MM => b_X0_init_100 b (F : Int) (n : Int) (E : Int) s.1 s.2) ((f : Int), s) = some s' ∧ FoI m0 b F E (2 * n) s' := by
  have hF8 : F ≤ 8 ∧ n ≤ 4 := by rcases hF with z | z | z <;> subst z <;> omega
  intro d
  induction d with
  | zero =>
    intro f s hd hf hI
    obtain rfl : f = 2 * n := by omega
    have g2 := hI.2.1
    have r6' : gR s 0 b 6 = some (14, b) := by rw [g2.2.1 0 b 6 (by unfold fsWR; omega)]; exact r6
    have z14' : gZ s 14 b = some (2 * n) := by rw [g2.2.2.1 14 b (by unfold fsWZ; omega)]; exact z14
    rw [lpb_eq]
    simp only
    unfold b_X0_init_100
    rw [nk_of r6', lenI_of z14', if_pos (Int.le_refl _)]
    exact ⟨s, rfl, hI⟩
  | succ d ih =>
    intro f s hd hf hI
    obtain ⟨g1, g2, ⟨k2, k19, k25, k26⟩, g4⟩ := hI
    have hf2 : f < 2 * n := by omega
    have r6' : gR s 0 b 6 = some (14, b) := by rw [g2.2.1 0 b 6 (by unfold fsWR; omega)]; exact r6
    have r5' : gR (nW s 2 11) 0 b 5 = some (13, b) := by rw [gR_nW, g2.2.1 0 b 5 (by unfold fsWR; omega)]; exact r5
    have z14' : gZ s 14 b = some (2 * n) := by rw [g2.2.2.1 14 b (by unfold fsWZ; omega)]; exact z14
    have e19 : gC (nW s 2 11) 19 = 8 * b + f := by rw [gC_nW, if_neg (by decide)]; exact k19
    have z13' : gZ (nW (nW s 2 11) 19 F) 13 b = some (2 * (F * n)) := by rw [gZ_nW, if_neg (by omega), gZ_nW, if_neg (by omega), g2.2.2.1 13 b (by unfold fsWZ; omega)]; exact z13
    have h13' : ∀ p, p < 2 * (F * n) → gR (nW (nW s 2 11) 19 F) 13 b p = some (4, 16 * b + p) := fun p hp => by rw [gR_nW, gR_nW, g2.2.1 13 b p (by unfold fsWR; omega)]; exact h13 p hp
    have z19' : gZ (nW (nW s 2 11) 19 F) 19 (8 * b + f) = some F := by rw [gZ_nW, if_pos ⟨rfl, e19.symm⟩]
    obtain ⟨s1, e1, e2, e3, e4⟩ := formePages_c (f := f) hF hFn hf2 z13' h13' z19' _ 0 _ rfl (by omega) ⟨GF.rf, fun _ => rfl, fun j _ h => absurd h (by omega)⟩
    have e1' : lpb (fun s : Int × MM => b_X0_pagesOf_8 (f : Int) b (F : Int) (8 * b + f) s.1 s.2) (0, nW (nW s 2 11) 19 F) = some s1 := e1
    obtain ⟨s2, d1, d2, d3, d4, d5, d6⟩ := forme_c (m := s1) (f := f) (w := 8 * b + f) (F := F) rfl hE (by rw [e3, gC_nW, if_neg (by decide), gC_nW, if_neg (by decide)]; exact k25) (by rw [e3, gC_nW, if_neg (by decide), gC_nW, if_neg (by decide)]; exact k26) (by rw [e2.2.2.1 19 _ (fun q => q)]; exact z19') e4
    have z14s : gZ s2 14 b = some (2 * n) := by
      rw [d3.2.2.1 14 b (by unfold foWZ; omega), e2.2.2.1 14 b (fun q => q), gZ_nW, if_neg (by omega), gZ_nW, if_neg (by omega)]; exact z14'
    rw [lpb_eq]
    simp only
    unfold b_X0_init_100 f_X0_pagesOf
    rw [nk_of r6', lenI_of z14', if_neg (show ¬ ((2 * n : Nat) : Int) ≤ (f : Int) by omega), nk_of r6', lt_eq, nk_of r5', newA_of (by omega), tnc, e19, e1', Option.bind_some]
    unfold j_X0_pagesOf_0_43
    rw [bR_ok, nk_some, k2, d1, bV_ok, stR_of z14s (by omega), tnc, ck_of ⟨by omega, by omega⟩]
    have ga : GF (fsWN b) (fsWR b) (fsWZ b) s (nW (nW s 2 11) 19 F) := GF.nW (GF.nW GF.rf (by rw [k2]; unfold fsWZ; omega)) (by rw [e19]; unfold fsWZ; omega)
    have gb : GF (fsWN b) (fsWR b) (fsWZ b) s s1 := ga.tr (e2.sub (fun _ _ _ q => absurd q (fun z => z)) (fun K i k q => by unfold fsWR; omega) (fun _ _ q => absurd q (fun z => z)))
    have gc : GF (fsWN b) (fsWR b) (fsWZ b) s s2 := gb.tr (d3.sub (fun K i k q => by unfold foWN at q; unfold fsWN; omega) (fun K i k q => by unfold foWR at q; unfold fsWR; omega) (fun K i q => by unfold foWZ at q; unfold fsWZ; omega))
    have z := ih (f + 1) (sR s2 14 b f (some (2, 8 * b + f))) (by omega) (by omega) ⟨fun f' hf' => ?_, g2.tr (gc.sR (by unfold fsWR; omega)), ⟨?_, ?_, ?_, ?_⟩, fun K h1 h2 h3 h4 => ?_⟩
    · rw [show ((f + 1 : Nat) : Int) = (f : Int) + 1 by omega] at z
      exact z
    · have gl : GF (fun _ _ _ => False) (fun K _ _ => K = 14) (fun _ _ => False) s2 (sR s2 14 b f (some (2, 8 * b + f))) := GF.rf.sR rfl
      by_cases q : f' = f
      · rw [q]
        exact ⟨d2.gf gl (fun _ q => q) (fun _ q => absurd q (by decide)) (fun _ q => absurd q (by decide)) (fun _ _ q => q), by rw [gR_sR, if_pos ⟨rfl, rfl, rfl⟩]⟩
      · obtain ⟨j1, j2⟩ := g1 f' (by omega)
        have t1 : GF (fun _ _ _ => False) (fun _ _ _ => False) (fun K i => (K = 2 ∨ K = 19) ∧ i = 8 * b + f) s (nW (nW s 2 11) 19 F) := GF.nW (GF.nW GF.rf ⟨Or.inl rfl, k2⟩) ⟨Or.inr rfl, e19⟩
        have j3 := j1.gf t1 (fun _ q => q) (fun _ q => q) (fun _ q => q) (fun K _ z => by omega)
        have j4 := j3.gf e2 (fun _ q => q) (fun _ z => by omega) (fun _ z => by omega) (fun _ _ q => q)
        have j5 := j4.gf d3 (fun k z => by unfold foWN at z; omega) (fun k z => by unfold foWR at z; omega) (fun k z => by unfold foWR at z; omega) (fun K _ z => by unfold foWZ at z; omega)
        refine ⟨j5.gf gl (fun _ q => q) (fun _ q => absurd q (by decide)) (fun _ q => absurd q (by decide)) (fun _ _ q => q), ?_⟩
        rw [gR_sR, if_neg (by omega), d3.2.1 14 b f' (by unfold foWR; omega), e2.2.1 14 b f' (by omega), gR_nW, gR_nW]
        exact j2
    · show gC s2 2 = _
      rw [d6 2 (by omega) (by omega), e3, gC_nW, if_neg (by decide), gC_nW, if_pos rfl]; omega
    · show gC s2 19 = _
      rw [d6 19 (by omega) (by omega), e3, gC_nW, if_pos rfl]; omega
    · show gC s2 25 = _
      rw [d4]; omega
    · show gC s2 26 = _
      rw [d5]; omega
    · show gC s2 K = _
      rw [d6 K h3 h4, e3, gC_nW, if_neg h2, gC_nW, if_neg h1]
      exact g4 K h1 h2 h3 h4
/-- the sheets of a new book -/
def shWR (b K i k : Nat) : Prop := (K = 8 ∧ 4 * b ≤ i ∧ i < 4 * b + 4 ∧ k ≤ 1) ∨ (K = 15 ∧ i = b)
def ShI (m0 : MM) (b h : Nat) (s : MM) : Prop := (∀ h', h' < h → gR s 8 (4 * b + h') 0 = some (2, 8 * b + 2 * h') ∧ gR s 8 (4 * b + h') 1 = some (2, 8 * b + (2 * h' + 1)) ∧ gR s 15 b h' = some (8, 4 * b + h')) ∧ GF (fun _ _ _ => False) (shWR b) (fun K i => K = 8 ∧ 4 * b ≤ i ∧ i < 4 * b + 4) m0 s ∧ gC s 8 = 4 * b + h ∧ ∀ K, K ≠ 8 → gC s K = gC m0 K
theorem sheets_c {m0 : MM} (hn : n ≤ 4) (r6 : gR m0 0 b 6 = some (14, b)) (r7 : gR m0 0 b 7 = some (15, b)) (z14 : gZ m0 14 b = some (2 * n)) (z15 : gZ m0 15 b = some n) (h14 : ∀ f, f < 2 * n → gR m0 14 b f = some (2, 8 * b + f)) (l1 l5 : Int) :
    ∀ (d h : Nat) (s : MM), n - h = d → h ≤ n → ShI m0 b h s → ∃ s', lpb (fun s : Int × MM => b_X0_init_153 b l1 (n : Int) l5 s.1 s.2) ((h : Int), s) = some s' ∧ ShI m0 b n s' := by
  intro d
  induction d with
  | zero =>
    intro h s hd hf hI
    obtain rfl : h = n := by omega
    rw [lpb_eq]
    simp only
    unfold b_X0_init_153
    rw [if_pos (Int.le_refl _)]
    exact ⟨s, rfl, hI⟩
  | succ d ih =>
    intro h s hd hf hI
    obtain ⟨g1, g2, g3, g4⟩ := hI
    have hh : h < n := by omega
    have r7' : gR s 0 b 7 = some (15, b) := by rw [g2.2.1 0 b 7 (by unfold shWR; omega)]; exact r7
    have r6' : gR (nW s 8 6) 0 b 6 = some (14, b) := by rw [gR_nW, g2.2.1 0 b 6 (by unfold shWR; omega)]; exact r6
    have z14' : gZ (nW s 8 6) 14 b = some (2 * n) := by rw [gZ_nW, if_neg (by omega), g2.2.2.1 14 b (by omega)]; exact z14
    have h14' : ∀ f, f < 2 * n → gR (nW s 8 6) 14 b f = some (2, 8 * b + f) := fun f hf => by rw [gR_nW, g2.2.1 14 b f (by unfold shWR; omega)]; exact h14 f hf
    have z15' : gZ (sR (sR (nW s 8 6) 8 (4 * b + h) 0 (some (2, 8 * b + 2 * h))) 8 (4 * b + h) 1 (some (2, 8 * b + (2 * h + 1)))) 15 b = some n := by rw [gZ_sR, gZ_sR, gZ_nW, if_neg (by omega), g2.2.2.1 15 b (by omega)]; exact z15
    rw [lpb_eq]
    simp only
    unfold b_X0_init_153 f_X8_init
    rw [if_neg (show ¬ (n : Int) ≤ (h : Int) by omega), nk_of r7', lt_eq, nk_of r6', ldR_of z14' (by omega), show (2 * (h : Int)).toNat = 2 * h by omega, h14' _ (by omega), nk_some, nk_of r6', ldR_of z14' (by omega), show (2 * (h : Int) + 1).toNat = 2 * h + 1 by omega, h14' _ (by omega), nk_some, g3, lt_eq, lt_eq, bV_ok, stR_of z15' (by omega), tnc, ck_of ⟨by omega, by omega⟩]
    have z := ih (h + 1) (sR (sR (sR (nW s 8 6) 8 (4 * b + h) 0 (some (2, 8 * b + 2 * h))) 8 (4 * b + h) 1 (some (2, 8 * b + (2 * h + 1)))) 15 b h (some (8, 4 * b + h))) (by omega) (by omega) ⟨fun h' hh' => ?_, g2.tr (GF.sR (GF.sR (GF.sR (GF.nW GF.rf (by rw [g3]; omega)) (by unfold shWR; omega)) (by unfold shWR; omega)) (by unfold shWR; omega)), ?_, fun K hK => ?_⟩
    · rw [show ((h + 1 : Nat) : Int) = (h : Int) + 1 by omega] at z
      exact z
    · by_cases q : h' = h
      · rw [q]
        simp [gR_sR, gR_nW]
      · obtain ⟨j1, j2, j3⟩ := g1 h' (by omega)
        have q2 : ¬ (4 * b + h' = 4 * b + h) := by omega
        refine ⟨?_, ?_, ?_⟩
        · rw [gR_sR, if_neg (by omega), gR_sR, if_neg (by omega), gR_sR, if_neg (by omega), gR_nW]; exact j1
        · rw [gR_sR, if_neg (by omega), gR_sR, if_neg (by omega), gR_sR, if_neg (by omega), gR_nW]; exact j2
        · rw [gR_sR, if_neg (by omega), gR_sR, if_neg (by omega), gR_sR, if_neg (by omega), gR_nW]; exact j3
    · show gC (nW s 8 6) 8 = _
      rw [gC_nW, if_pos rfl]; omega
    · show gC (nW s 8 6) K = _
      rw [gC_nW, if_neg hK]; exact g4 K hK
end BOOK
