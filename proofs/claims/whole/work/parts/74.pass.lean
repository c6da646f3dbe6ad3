/-! PASS. -/
section PASS
variable {N : Nat} {mc mm : MM} {b F n M Ln E : Nat}
theorem eq3_up {s s' : MM} {K i k K0 i0 k0 : Nat} {v : Int} (h : eq3 s s' K i k) : eq3 (sN s K0 i0 k0 v) (sN s' K0 i0 k0 v) K i k := ⟨by rw [gN_sN, gN_sN, h.1], h.2.1, h.2.2⟩
/-- the class takes down how worn the pieces of a forme are -/
def FwC (m0 : MM) (b F f : Nat) (K i s : Nat) : Prop := K = 25 ∧ i = 8 * b + f ∧ ∃ j k : Nat, j < F ∧ (k : Int) < gN m0 5 (16 * b + fpg F f j) 4 ∧ gN m0 35 (16 * b + fpg F f j) k = (s : Int)
def FdC (m0 : MM) (b F f j k : Nat) (s : MM) : Prop := FrC (FwC m0 b F f) m0 s ∧ ∀ j' k' x : Nat, (j' < j ∨ (j' = j ∧ k' < k)) → j' < F → (k' : Int) < gN m0 5 (16 * b + fpg F f j') 4 → gN m0 35 (16 * b + fpg F f j') k' = (x : Int) → gN s 25 (8 * b + f) x = gN m0 21 0 x
def FpC (m0 : MM) (b F n M Ln : Nat) : Prop := ∀ p, p < 2 * (F * n) → (0 ≤ gN m0 5 (16 * b + p) 4 ∧ gN m0 5 (16 * b + p) 4 ≤ ((M * Ln : Nat) : Int)) ∧ ∀ k : Nat, (k : Int) < gN m0 5 (16 * b + p) 4 → -1 ≤ gN m0 35 (16 * b + p) k ∧ gN m0 35 (16 * b + p) k < 400
theorem fin_c1 {m0 : MM} (hP : BP mm b F n M Ln E) (hS : BS m0 b F n M Ln E) (hC : SC m0) {f : Nat} (hf : f < 2 * n) (hp : FpC m0 b F n M Ln) {j : Nat} (hj : j < F) (l3 : Nat) (v4 v5 : Int) :
    ∀ (d k : Nat) (s : MM), (gN m0 5 (16 * b + fpg F f j) 4).toNat - k = d → (k : Int) ≤ gN m0 5 (16 * b + fpg F f j) 4 → FdC m0 b F f j k s → ∃ s', lpb (fun s : Int × MM => b_X2_finish_45 (8 * b + f) 0 l3 v4 v5 (16 * b + fpg F f j) s.1 s.2) ((k : Int), s) = some s' ∧ FdC m0 b F f (j + 1) 0 s' := by
  have q0 := hP.hb
  have q4 := hP.ml
  have hpl := fpg_lt (n := n) hP.hF hf hj
  have hpp := hp _ hpl
  have hpb := hpp.1
  have hpv := hpp.2
  intro d
  induction d with
  | zero =>
    intro k s hd hk hK
    obtain ⟨g1, g2⟩ := hK
    have x5 : gN s 5 (16 * b + fpg F f j) 4 = gN m0 5 (16 * b + fpg F f j) 4 := (g1.1 5 _ 4 (fun q => absurd q.1 (by decide))).1
    rw [lpb_eq]
    simp only
    unfold b_X2_finish_45
    rw [if_pos (show gN s 5 (16 * b + fpg F f j) 4 ≤ (k : Int) by rw [x5]; omega)]
    refine ⟨s, rfl, g1, fun j' k' x h1 h2 h3 h4 => ?_⟩
    rcases Nat.lt_or_ge j' j with q | q
    · exact g2 j' k' x (Or.inl q) h2 h3 h4
    · obtain rfl : j' = j := by omega
      exact g2 j' k' x (Or.inr ⟨rfl, by omega⟩) h2 h3 h4
  | succ d ih =>
    intro k s hd hk hK
    obtain ⟨g1, g2⟩ := hK
    have hkl : (k : Int) < gN m0 5 (16 * b + fpg F f j) 4 := by omega
    have x5 : gN s 5 (16 * b + fpg F f j) 4 = gN m0 5 (16 * b + fpg F f j) 4 := (g1.1 5 _ 4 (fun q => absurd q.1 (by decide))).1
    have x35 : gN s 35 (16 * b + fpg F f j) k = gN m0 35 (16 * b + fpg F f j) k := (g1.1 35 _ k (fun q => absurd q.1 (by decide))).1
    have hS' : BS s b F n M Ln E := g1.BS hS hP (fun K i s hk q => by unfold CBS at hk; have := q.1; omega)
    have hC' : SC s := hC.mv2 (fun K i s hk => (g1.1 K i s (fun q => by have := q.1; omega)).2.2) (fun K i k hk => by rw [g1.2.1]; exact hk)
    have hv := hpv k hkl
    rw [lpb_eq]
    simp only
    unfold b_X2_finish_45
    rw [if_neg (show ¬ gN s 5 (16 * b + fpg F f j) 4 ≤ (k : Int) by rw [x5]; omega), nk_of (hS'.q1 _ hpl), ldN_of (hS'.z35 _ hpl) (by omega), tnc, x35]
    by_cases hx : gN m0 35 (16 * b + fpg F f j) k = -1
    · rw [if_pos hx, ck_of ⟨by omega, by omega⟩]
      have z := ih (k + 1) s (by omega) (by omega) ⟨g1, fun j' k' x h1 h2 h3 h4 => by
        rcases h1 with h1 | ⟨rfl, h1⟩
        · exact g2 j' k' x (Or.inl h1) h2 h3 h4
        · by_cases q : k' = k
          · subst q; omega
          · exact g2 j' k' x (Or.inr ⟨rfl, by omega⟩) h2 h3 h4⟩
      rw [show ((k + 1 : Nat) : Int) = (k : Int) + 1 by omega] at z
      exact z
    · rw [if_neg hx]
      obtain ⟨x, hx'⟩ := Int.ex (show 0 ≤ gN m0 35 (16 * b + fpg F f j) k by omega)
      rw [hx', nk_of (hS'.o3 f hf), nk_of hC'.c1, ldN_of hC'.z21 (by omega), tnc, stN_of (hS'.z25 f hf) (by omega), tnc, ck_of ⟨by omega, by omega⟩]
      have x21 : gN s 21 0 x = gN m0 21 0 x := (g1.1 21 0 x (fun q => absurd q.1 (by decide))).1
      have z := ih (k + 1) (sN s 25 (8 * b + f) x (gN s 21 0 x)) (by omega) (by omega) ⟨g1.sN ⟨rfl, rfl, j, k, hj, hkl, hx'⟩, fun j' k' y h1 h2 h3 h4 => by
        by_cases qy : y = x
        · rw [qy, gN_sN, if_pos ⟨rfl, rfl, rfl⟩, x21]
        · rw [gN_sN, if_neg (fun q => qy q.2.2)]
          rcases h1 with h1 | ⟨rfl, h1⟩
          · exact g2 j' k' y (Or.inl h1) h2 h3 h4
          · by_cases q : k' = k
            · subst q; omega
            · exact g2 j' k' y (Or.inr ⟨rfl, by omega⟩) h2 h3 h4⟩
      rw [show ((k + 1 : Nat) : Int) = (k : Int) + 1 by omega] at z
      exact z
theorem fin_c2 {m0 : MM} (hP : BP mm b F n M Ln E) (hS : BS m0 b F n M Ln E) (hC : SC m0) {f : Nat} (hf : f < 2 * n) (hp : FpC m0 b F n M Ln) :
    ∀ (d j : Nat) (s : MM), F - j = d → j ≤ F → FdC m0 b F f j 0 s → ∃ s', lpb (fun s : Int × MM => b_X2_finish_22 (8 * b + f) 0 (8 * b + f) ((F : Nat) : Int) s.1 s.2) ((j : Int), s) = some s' ∧ FdC m0 b F f F 0 s' := by
  have q0 := hP.hb
  have q1 := hP.hn
  have hF8 : F ≤ 8 := by rcases hP.hF with z | z | z <;> omega
  intro d
  induction d with
  | zero =>
    intro j s hd hj hK
    obtain rfl : j = F := by omega
    rw [lpb_eq]
    simp only
    unfold b_X2_finish_22
    rw [if_pos (show ((j : Nat) : Int) ≤ (j : Int) from Int.le_refl _)]
    exact ⟨s, rfl, hK⟩
  | succ d ih =>
    intro j s hd hj hK
    have g1 := hK.1
    have hjF : j < F := by omega
    have hpl := fpg_lt (n := n) hP.hF hf hjF
    have hS' : BS s b F n M Ln E := g1.BS hS hP (fun K i s hk q => by unfold CBS at hk; have := q.1; omega)
    obtain ⟨s1, e1, e2⟩ := fin_c1 hP hS hC hf hp hjF (8 * b + f) ((F : Nat) : Int) (j : Int) _ 0 s rfl (by have := (hp _ hpl).1; omega) hK
    have e1' : lpb (fun s : Int × MM => b_X2_finish_45 (8 * b + f) 0 (8 * b + f) ((F : Nat) : Int) (j : Int) (16 * b + fpg F f j) s.1 s.2) (0, s) = some s1 := e1
    rw [lpb_eq]
    simp only
    unfold b_X2_finish_22
    rw [if_neg (show ¬ ((F : Nat) : Int) ≤ (j : Int) by omega), ldR_of (hS'.z19 f hf) (by omega), tnc, hS'.e19 f j hf hjF, nk_some, nk_of (hS'.p8 _ hpl), e1', Option.bind_some]
    unfold j_X2_finish_22_91
    rw [ck_of ⟨by omega, by omega⟩]
    have z := ih (j + 1) s1 (by omega) (by omega) e2
    rw [show ((j + 1 : Nat) : Int) = (j : Int) + 1 by omega] at z
    exact z
theorem finish_c {m : MM} (hP : BP mm b F n M Ln E) (hS : BS m b F n M Ln E) (hC : SC m) {f : Nat} (hf : f < 2 * n) (hp : FpC m b F n M Ln) (H : Int) :
    ∃ s', f_X2_finish m (8 * b + f) H 0 = some (.inl none, s') ∧ FdC (sN (sN m 2 (8 * b + f) 4 3) 2 (8 * b + f) 9 H) b F f F 0 s' := by
  have hS' : BS (sN (sN m 2 (8 * b + f) 4 3) 2 (8 * b + f) 9 H) b F n M Ln E := hS.keep hP (fun K i s hk => (eq3.sN (by unfold CBS at hk; omega)).tr (eq3.sN (by unfold CBS at hk; omega))) (fun _ _ _ q => q)
  have hC' : SC (sN (sN m 2 (8 * b + f) 4 3) 2 (8 * b + f) 9 H) := hC.mv2 (fun _ _ _ _ => rfl) (fun _ _ _ q => q)
  have hp' : FpC (sN (sN m 2 (8 * b + f) 4 3) 2 (8 * b + f) 9 H) b F n M Ln := fun p hpl => by
    have z1 : gN (sN (sN m 2 (8 * b + f) 4 3) 2 (8 * b + f) 9 H) 5 (16 * b + p) 4 = gN m 5 (16 * b + p) 4 := by rw [gN_sN, if_neg (by omega), gN_sN, if_neg (by omega)]
    have z2 : ∀ k, gN (sN (sN m 2 (8 * b + f) 4 3) 2 (8 * b + f) 9 H) 35 (16 * b + p) k = gN m 35 (16 * b + p) k := fun k => by rw [gN_sN, if_neg (by omega), gN_sN, if_neg (by omega)]
    simp only [z1, z2]
    exact hp p hpl
  obtain ⟨s', e1, e2⟩ := fin_c2 hP hS' hC' hf hp' _ 0 _ rfl (by omega) ⟨FrC.rf, fun j' k' x h1 _ _ _ => by omega⟩
  unfold f_X2_finish
  rw [lt_eq, lt_eq, nk_of (hS'.o0 f hf), lenI_of (hS'.z19 f hf)]
  have e1' : lpb (fun s : Int × MM => b_X2_finish_22 (8 * b + f) 0 (8 * b + f) ((F : Nat) : Int) s.1 s.2) (0, sN (sN m 2 (8 * b + f) 4 3) 2 (8 * b + f) 9 H) = some s' := e1
  rw [e1', Option.bind_some]
  exact ⟨s', rfl, e2⟩
/-- the model does the same, page by page -/
def FwM (t0 : MM) (b F n f : Nat) (K i s : Nat) : Prop := (K = 103 ∨ K = 104) ∧ i = 0 ∧ ∃ p k : Nat, p < 2 * (F * n) ∧ fo F p = f ∧ (k : Int) < gN t0 90 0 (16 * b + p) ∧ s = 150 * (16 * b + p) + k
def FdM (t0 : MM) (b F n f p k : Nat) (t : MM) : Prop := FrC (FwM t0 b F n f) t0 t ∧ ∀ p' k' : Nat, (p' < p ∨ (p' = p ∧ k' < k)) → p' < 2 * (F * n) → fo F p' = f → (k' : Int) < gN t0 90 0 (16 * b + p') → gN t 103 0 (150 * (16 * b + p') + k') = gN t0 100 0 (150 * (16 * b + p') + k') ∧ gN t 104 0 (150 * (16 * b + p') + k') = if gN t0 100 0 (150 * (16 * b + p') + k') = -1 then 0 else gN t0 63 0 (gN t0 100 0 (150 * (16 * b + p') + k')).toNat
def FpM (t0 : MM) (b F n M Ln : Nat) : Prop := ∀ p, p < 2 * (F * n) → (0 ≤ gN t0 90 0 (16 * b + p) ∧ gN t0 90 0 (16 * b + p) ≤ ((M * Ln : Nat) : Int)) ∧ ∀ k : Nat, (k : Int) < gN t0 90 0 (16 * b + p) → -1 ≤ gN t0 100 0 (150 * (16 * b + p) + k) ∧ gN t0 100 0 (150 * (16 * b + p) + k) < 400
theorem FwM.no {t0 : MM} {b F n f K i s : Nat} (h : K ≠ 103 ∧ K ≠ 104) : ¬ FwM t0 b F n f K i s := fun q => by have := q.1; omega
theorem fin_m1 {t0 : MM} (hP : BP t0 b F n M Ln E) (hM : SM t0) {f p : Nat} (hp : FpM t0 b F n M Ln) (hpl : p < 2 * (F * n)) :
    ∀ (d k : Nat) (t : MM), (gN t0 90 0 (16 * b + p)).toNat - k = d → (k : Int) ≤ gN t0 90 0 (16 * b + p) → (fo F p ≠ f → k = 0) → FdM t0 b F n f p k t → ∃ t', lpb (fun s : Int × MM => b_X12_keeps_27 0 (b : Int) (f : Int) (p : Int) ((16 * b + p : Nat) : Int) s.1 s.2) (((150 * (16 * b + p) + k : Nat) : Int), t) = some t' ∧ FdM t0 b F n f (p + 1) 0 t' := by
  have q0 := hP.hb
  have q1 := hP.hn
  have q4 := hP.ml
  have hpp := hp p hpl
  have hpb := hpp.1
  have hpv := hpp.2
  intro d
  induction d with
  | zero =>
    intro k t hd hk hne hK
    obtain ⟨g1, g2⟩ := hK
    have x90 : gN t 90 0 (16 * b + p) = gN t0 90 0 (16 * b + p) := (g1.1 90 0 _ (FwM.no (by decide))).1
    have hM' : SM t := g1.SM hM (fun s q => by have := q.1; omega)
    rw [lpb_eq]
    simp only
    unfold b_X12_keeps_27
    rw [nk_of hM'.r37, ldN_of hM'.z90 (by omega), tnc, x90, ck_of ⟨by omega, by omega⟩, if_pos (show 150 * ((16 * b + p : Nat) : Int) + gN t0 90 0 (16 * b + p) ≤ ((150 * (16 * b + p) + k : Nat) : Int) by omega)]
    refine ⟨t, rfl, g1, fun p' k' h1 h2 h3 h4 => ?_⟩
    rcases Nat.lt_or_ge p' p with q | q
    · exact g2 p' k' (Or.inl q) h2 h3 h4
    · obtain rfl : p' = p := by omega
      exact g2 p' k' (Or.inr ⟨rfl, by omega⟩) h2 h3 h4
  | succ d ih =>
    intro k t hd hk hne hK
    obtain ⟨g1, g2⟩ := hK
    have hkl : (k : Int) < gN t0 90 0 (16 * b + p) := by omega
    have x90 : gN t 90 0 (16 * b + p) = gN t0 90 0 (16 * b + p) := (g1.1 90 0 _ (FwM.no (by decide))).1
    have x100 : gN t 100 0 (150 * (16 * b + p) + k) = gN t0 100 0 (150 * (16 * b + p) + k) := (g1.1 100 0 _ (FwM.no (by decide))).1
    have hM' : SM t := g1.SM hM (fun s q => by have := q.1; omega)
    have hP' : BP t b F n M Ln E := g1.BP hP (fun K h1 h2 => FwM.no (by omega))
    have hv := hpv k hkl
    rw [lpb_eq]
    simp only
    unfold b_X12_keeps_27
    rw [nk_of hM'.r37, ldN_of hM'.z90 (by omega), tnc, x90, ck_of ⟨by omega, by omega⟩, if_neg (show ¬ 150 * ((16 * b + p : Nat) : Int) + gN t0 90 0 (16 * b + p) ≤ ((150 * (16 * b + p) + k : Nat) : Int) by omega), formeOf_m hM' hP' (show p < 16 by omega), Option.bind_some]
    by_cases hfo : fo F p = f
    · rw [if_neg (show ¬ ¬ ((fo F p : Nat) : Int) = (f : Int) from fun q => q (by rw [hfo])), nk_of hM'.r50, nk_of hM'.r47, ldN_of hM'.z100 (by omega), tnc, stN_of hM'.z103 (by omega), tnc, x100]
      have hM2 : SM (sN t 103 0 (150 * (16 * b + p) + k) (gN t0 100 0 (150 * (16 * b + p) + k))) := hM'.mv (fun _ => rfl) (fun _ _ _ q => q)
      have y100 : gN (sN t 103 0 (150 * (16 * b + p) + k) (gN t0 100 0 (150 * (16 * b + p) + k))) 100 0 (150 * (16 * b + p) + k) = gN t0 100 0 (150 * (16 * b + p) + k) := by rw [gN_sN, if_neg (by omega), x100]
      rw [nk_of hM2.r51, nk_of hM2.r47, ldN_of hM2.z100 (by omega), tnc, y100]
      have hb1 : FwM t0 b F n f 103 0 (150 * (16 * b + p) + k) := ⟨Or.inl rfl, rfl, p, k, hpl, hfo, hkl, rfl⟩
      have hb2 : FwM t0 b F n f 104 0 (150 * (16 * b + p) + k) := ⟨Or.inr rfl, rfl, p, k, hpl, hfo, hkl, rfl⟩
      have fin : ∀ w : Int, (w = if gN t0 100 0 (150 * (16 * b + p) + k) = -1 then 0 else gN t0 63 0 (gN t0 100 0 (150 * (16 * b + p) + k)).toNat) → FdM t0 b F n f p (k + 1) (sN (sN t 103 0 (150 * (16 * b + p) + k) (gN t0 100 0 (150 * (16 * b + p) + k))) 104 0 (150 * (16 * b + p) + k) w) := fun w hw => by
        refine ⟨(g1.sN hb1).sN hb2, fun p' k' h1 h2 h3 h4 => ?_⟩
        have hk150 := (hp p' h2).1
        by_cases q : p' = p ∧ k' = k
        · obtain ⟨rfl, rfl⟩ := q
          refine ⟨?_, ?_⟩
          · rw [gN_sN, if_neg (by omega), gN_sN, if_pos ⟨rfl, rfl, rfl⟩]
          · rw [gN_sN, if_pos ⟨rfl, rfl, rfl⟩, hw]
        · have hne' : 150 * (16 * b + p') + k' ≠ 150 * (16 * b + p) + k := by omega
          have := g2 p' k' (by omega) h2 h3 h4
          refine ⟨?_, ?_⟩
          · rw [gN_sN, if_neg (by omega), gN_sN, if_neg (fun z => hne' z.2.2)]; exact this.1
          · rw [gN_sN, if_neg (fun z => hne' z.2.2), gN_sN, if_neg (by omega)]; exact this.2
      by_cases hx : gN t0 100 0 (150 * (16 * b + p) + k) = -1
      · rw [if_neg (show ¬ ¬ gN t0 100 0 (150 * (16 * b + p) + k) = -1 from fun q => q hx)]
        unfold j_X12_keeps_27_103
        rw [stN_of hM2.z104 (by omega), tnc, ck_of ⟨by omega, by omega⟩]
        have z := ih (k + 1) _ (by omega) (by omega) (fun q => absurd hfo q) (fin 0 (by rw [if_pos hx]))
        rw [show ((150 * (16 * b + p) + (k + 1) : Nat) : Int) = ((150 * (16 * b + p) + k : Nat) : Int) + 1 by omega] at z
        exact z
      · rw [if_pos hx]
        obtain ⟨x, hx'⟩ := Int.ex (show 0 ≤ gN t0 100 0 (150 * (16 * b + p) + k) by omega)
        have y63 : gN (sN t 103 0 (150 * (16 * b + p) + k) (gN t0 100 0 (150 * (16 * b + p) + k))) 63 0 x = gN t0 63 0 x := by rw [gN_sN, if_neg (by omega), (g1.1 63 0 x (FwM.no (by decide))).1]
        rw [nk_of hM2.r8, nk_of hM2.r47, ldN_of hM2.z100 (by omega), tnc, y100, ldN_of hM2.z63 (by omega), show (gN t0 100 0 (150 * (16 * b + p) + k)).toNat = x by omega, y63]
        unfold j_X12_keeps_27_103
        rw [stN_of hM2.z104 (by omega), tnc, ck_of ⟨by omega, by omega⟩]
        have z := ih (k + 1) _ (by omega) (by omega) (fun q => absurd hfo q) (fin (gN t0 63 0 x) (by rw [if_neg hx, show (gN t0 100 0 (150 * (16 * b + p) + k)).toNat = x by omega]))
        rw [show ((150 * (16 * b + p) + (k + 1) : Nat) : Int) = ((150 * (16 * b + p) + k : Nat) : Int) + 1 by omega] at z
        exact z
    · rw [if_pos (show ¬ ((fo F p : Nat) : Int) = (f : Int) by omega)]
      refine ⟨t, rfl, g1, fun p' k' h1 h2 h3 h4 => ?_⟩
      rcases Nat.lt_or_ge p' p with q | q
      · exact g2 p' k' (Or.inl q) h2 h3 h4
      · obtain rfl : p' = p := by omega
        exact absurd h3 hfo
theorem fin_m2 {t0 : MM} (hP : BP t0 b F n M Ln E) (hM : SM t0) {f : Nat} (hp : FpM t0 b F n M Ln) :
    ∀ (d p : Nat) (t : MM), 2 * (F * n) - p = d → p ≤ 2 * (F * n) → FdM t0 b F n f p 0 t → ∃ t', lpb (fun s : Int × MM => b_X12_keeps_2 0 (b : Int) (f : Int) s.1 s.2) ((p : Int), t) = some t' ∧ FdM t0 b F n f (2 * (F * n)) 0 t' := by
  have q0 := hP.hb
  have q1 := hP.hn
  intro d
  induction d with
  | zero =>
    intro p t hd hj hK
    obtain rfl : p = 2 * (F * n) := by omega
    have g1 := hK.1
    have hM' : SM t := g1.SM hM (fun s q => by have := q.1; omega)
    have hP' : BP t b F n M Ln E := g1.BP hP (fun K h1 h2 => FwM.no (by omega))
    rw [lpb_eq]
    simp only
    unfold b_X12_keeps_2
    rw [pagesOf_m hM' hP', Option.bind_some, if_pos (Int.le_refl _)]
    exact ⟨t, rfl, hK⟩
  | succ d ih =>
    intro p t hd hj hK
    have g1 := hK.1
    have hpl : p < 2 * (F * n) := by omega
    have hM' : SM t := g1.SM hM (fun s q => by have := q.1; omega)
    have hP' : BP t b F n M Ln E := g1.BP hP (fun K h1 h2 => FwM.no (by omega))
    obtain ⟨t1, e1, e2⟩ := fin_m1 (f := f) hP hM hp hpl _ 0 t rfl (by have := (hp _ hpl).1; omega) (fun _ => rfl) hK
    rw [lpb_eq]
    simp only
    unfold b_X12_keeps_2
    rw [pagesOf_m hM' hP', Option.bind_some, if_neg (show ¬ ((2 * (F * n) : Nat) : Int) ≤ (p : Int) by omega), ck_of ⟨by omega, by omega⟩, ck_of ⟨by omega, by omega⟩, show 16 * (b : Int) + (p : Int) = ((16 * b + p : Nat) : Int) by omega, show 150 * ((16 * b + p : Nat) : Int) = ((150 * (16 * b + p) + 0 : Nat) : Int) by omega, e1, Option.bind_some]
    unfold j_X12_keeps_2_110
    rw [ck_of ⟨by omega, by omega⟩]
    have z := ih (p + 1) t1 (by omega) (by omega) e2
    rw [show ((p + 1 : Nat) : Int) = (p : Int) + 1 by omega] at z
    exact z
theorem keeps_m {t0 : MM} (hP : BP t0 b F n M Ln E) (hM : SM t0) {f : Nat} (hp : FpM t0 b F n M Ln) : ∃ t', f_X12_keeps t0 0 (b : Int) (f : Int) = some (.inl none, t') ∧ FdM t0 b F n f (2 * (F * n)) 0 t' := by
  obtain ⟨t', e1, e2⟩ := fin_m2 (f := f) hP hM hp _ 0 t0 rfl (by omega) ⟨FrC.rf, fun p' k' h1 _ _ _ => by omega⟩
  have e1' : lpb (fun s : Int × MM => b_X12_keeps_2 0 (b : Int) (f : Int) s.1 s.2) (0, t0) = some t' := e1
  unfold f_X12_keeps
  rw [e1', Option.bind_some]
  exact ⟨t', rfl, e2⟩
/-- a press has worked for an hour: the forme lies on it still -/
theorem wk_un (h : RR N mc mm) (hb : (b : Int) < gN mm 12 0 19) (hB : RBk mc mm b F n M Ln E) {f p : Nat} (hf : f < 2 * n) (hp3 : p < 3) {mc' mm' : MM} (hst : gN mm 108 0 (8 * b + f) = 2)
    (cc : ∀ K i s', ¬ (K = 6 ∧ i = p ∧ (s' = 2 ∨ s' = 3)) ∧ ¬ (K = 2 ∧ i = 8 * b + f ∧ (s' = 6 ∨ s' = 10)) → eq3 mc mc' K i s')
    (cm : ∀ K i s', ¬ ((K = 123 ∨ K = 124) ∧ s' = p) ∧ ¬ ((K = 110 ∨ K = 115) ∧ s' = 8 * b + f) → eq3 mm mm' K i s')
    (hzc : ∀ K i, gZ mc' K i = gZ mc K i) (hzm : ∀ K i k, gZ mm K i = some k → gZ mm' K i = some k) (hCC : ∀ K, gC mc' K = gC mc K)
    (w2 : gN mc' 6 p 2 = gN mm' 123 0 p) (w2' : 0 ≤ gN mm' 123 0 p ∧ gN mm' 123 0 p ≤ 2 * gN mm 12 0 69)
    (w3 : gN mc' 6 p 3 = gN mm' 124 0 p) (w3' : 0 ≤ gN mm' 124 0 p ∧ gN mm' 124 0 p ≤ gN mm 12 0 69)
    (w6 : gN mc' 2 (8 * b + f) 6 = gN mm' 110 0 (8 * b + f)) (w6' : gN mm 110 0 (8 * b + f) ≤ gN mm' 110 0 (8 * b + f) ∧ gN mm' 110 0 (8 * b + f) < (E : Int))
    (w10 : gN mc' 2 (8 * b + f) 10 = gN mm' 115 0 (8 * b + f)) (w10' : gN mm' 115 0 (8 * b + f) = 0 ∨ gN mm' 115 0 (8 * b + f) = 1) : RR N mc' mm' := by
  have hP := hB.hP
  have hS := hB.hS
  have q0 := hP.hb
  have q1 := hP.hn
  have q2 := hP.hL
  have q3 := hP.hE
  have q4 := hP.ml
  have hff := hB.ff f hf
  have hPf := h.Pf
  have hPc := h.Pc
  have cb : ∀ K i s', isBK K → ¬ CBk b K i → eq3 mc mc' K i s' := fun K i s' hK hn => cc K i s' ⟨fun q => by unfold isBK at hK; omega, fun q => hn (CBk.b (by omega) (by omega))⟩
  have mb : ∀ K s', 78 ≤ K → K ≤ 126 → K < 105 ∨ 107 < K → K < 121 ∨ 125 < K → ¬ MBk b K s' → eq3 mm mm' K 0 s' := fun K s' h1 h2 h3 h4 hn => cm K 0 s' ⟨by omega, fun q => hn (MBk.g (by omega) (by omega))⟩
  refine h.one (b0 := b) hzc hCC hb (cm 12 0 19 (by omega)).1 (h.C.mv2 (fun K i s hk => (cc K i s (by omega)).2.2) (fun K i k hk => by rw [hzc]; exact hk)) (h.M.mv2 (fun s hs => (cm 12 0 s (by omega)).2.2) hzm) (h.T.keep (cc 10 0 5 (by omega)).1 (cm 12 0 1 (by omega)).1 (fun k => (cc 50 0 k (by omega)).1) (fun k => (cm 59 0 k (by omega)).1)) (h.Sp.keep (fun K i s hk => cc K i s (by omega)) (fun K i s hk => cm K i s (by omega)))
    (h.Ca.keep (cc 1 0 5 (by omega)).1 (cm 12 0 6 (by omega)).1 (fun K h1 h2 k => (cc K 0 k (by omega)).1) (fun K h1 h2 k => (cm K 0 k (by omega)).1)) (h.H.keep (by omega) (fun K i s hk => cc K i s (by omega)) (hCC 3) (fun K i s hk => cm K i s (by omega))) (h.Mi.keep (fun K i s hk => cc K i s (by omega)) (fun K i s hk => cm K i s (by omega))) (fun p' hp' => ?_) (h.Nb.keep (cc 11 0 8 (by omega)).1 (cm 12 0 19 (by omega)).1 (fun s => (cc 56 0 s (by omega)).2.2))
    (fun K i s hk => cc K i s (by omega)) cb (fun K i s hk => cm K i s (by omega)) mb (fun b' p f hbb hb3 hp hf h90 h7 hx => hx.other hbb hp hf cb mb (fun K i s hk => cm K i s (by omega)) h90 h7) (by rw [(cm 12 0 69 (by omega)).1]; exact Int.le_refl _) (fun x => by rw [(cm 63 0 x (by omega)).1]; exact Int.le_refl _) ⟨F, n, M, Ln, E, hP.keep (fun K h1 h2 => (cm K 0 b (by omega)).1), hB.hS.keep hP (fun K i s hk => cc K i s (by unfold CBS at hk; omega)) (fun K i k hk => by rw [hzc]; exact hk), hB.tx.keep (fun K i s hk => cc K i s (by unfold CTx at hk; omega)) (fun K i s hk => cm K i s (by unfold MTx at hk; omega)), fun p hp => (hB.pg p hp).keep (by omega) (fun K i s hk => cc K i s (by unfold CPg at hk; omega)) (fun K i s hk => cm K i s (by unfold MPg at hk; omega)), fun p hp => (hB.po p hp).keep (by omega) (fun K i s hk => cc K i s (by unfold CPo at hk; omega)) (fun K i s hk => cm K i s (by unfold MPo at hk; omega)), fun p hp => (hB.pl p hp).keep (by have := (hB.pg p hp).pn; omega) (fun K i s hk => cc K i s (by unfold CPl at hk; omega)) (fun K i s hk => cm K i s (by unfold MPl at hk; omega)), fun f' hf' => ?_, fun p hp => (hB.pn p hp).keep (by have := (hB.pg p hp).pn; omega) (by have := (hB.ff _ (fo_lt hP.hF hp)).ns; omega) (fun K i s hk => cc K i s (by unfold CPn at hk; omega)) (fun K i s hk => cm K i s (by unfold MPn at hk; omega)), fun f hf => (hB.se f hf).keep (by omega) (fun p hp => by have := (hB.pg p hp).pn; omega) (fun K i s hk => cc K i s (by unfold CSe at hk; omega)) (fun K i s hk => cm K i s (by unfold MSe at hk; omega)) (fun x => by rw [(cm 63 0 x (by omega)).1]; exact Int.le_refl _), fun s hs => (hB.sh s hs).keep (by omega) (fun K i s' hk => cc K i s' (by unfold CSh at hk; omega)) (fun K i s' hk => cm K i s' (by unfold MSh at hk; omega)), hB.lv.keep (by omega) (by omega) (by omega) (fun K i s hk => cc K i s (by unfold CLv at hk; omega)) (fun K i s hk => cm K i s (by unfold MLv at hk; omega))⟩ ⟨fun p' hp' => ?_, fun p1 p2 h1 h2 h3 h4 => ?_, fun p' hp' => ?_, fun p' hp' => ?_, fun k hk => ?_, by rw [(cm 12 0 52 (by omega)).1]; exact hPf.c⟩ (hPc.keep (fun K i s' hk => cm K i s' (by omega)))
  · have hx := h.Pr p' hp'
    by_cases q : p' = p
    · subst q
      rw [(cc 6 p' 1 (by omega)).1, w2, w3, (cc 6 p' 0 (by omega)).2.2, (cm 121 0 p' (by omega)).1, (cm 122 0 p' (by omega)).1]
      exact ⟨hx.1, rfl, rfl, hx.2.2.2⟩
    · rw [(cc 6 p' 1 (by omega)).1, (cc 6 p' 2 (by omega)).1, (cc 6 p' 3 (by omega)).1, (cc 6 p' 0 (by omega)).2.2, (cm 121 0 p' (by omega)).1, (cm 122 0 p' (by omega)).1, (cm 123 0 p' (by omega)).1, (cm 124 0 p' (by omega)).1]
      exact hx
  · by_cases q : f' = f
    · subst q
      have z1 := hff.how
      have z2 := hff.dh
      have z3 := hff.pr
      have z4 := hff.sk
      have z5 := hff.ns
      have z6 := hff.oh (by omega)
      have y108 := (cm 108 0 (8 * b + f') (by omega)).1
      refine ⟨by rw [(cc 2 (8 * b + f') 4 (by omega)).1, y108]; exact z1, by rw [(cc 2 (8 * b + f') 5 (by omega)).1, (cm 109 0 (8 * b + f') (by omega)).1, y108]; omega, ?_, by rw [(cc 2 (8 * b + f') 7 (by omega)).1, (cm 111 0 (8 * b + f') (by omega)).1, y108]; omega, by rw [(cc 26 (8 * b + f') 0 (by omega)).1]; exact hff.s0, fun _ s hs => ?_, fun _ => ?_, ?_, ?_⟩
      · rw [w6, y108]; omega
      · rw [(cm 111 0 (8 * b + f') (by omega)).1] at hs
        rw [(cc 26 (8 * b + f') s (by omega)).1, (cm 112 0 (26 * (8 * b + f') + s) (by omega)).1]
        have := hff.sb (by omega) s hs
        omega
      · rw [(cc 2 (8 * b + f') 8 (by omega)).1, (cm 113 0 (8 * b + f') (by omega)).1, (cm 12 0 69 (by omega)).1]
        exact z6
      · rw [(cc 2 (8 * b + f') 9 (by omega)).1, y108, (cm 114 0 (8 * b + f') (by omega)).1]
        omega
      · rw [w10, y108]
        omega
    · exact (hB.ff f' hf').keep (by omega) (fun K i s' hk => cc K i s' (by unfold CFo at hk; omega)) (fun K i s' hk => cm K i s' (by unfold MFo at hk; omega)) (by rw [(cm 12 0 69 (by omega)).1]; exact Int.le_refl _)
  · rw [(cm 122 0 p' (by omega)).1]
    rcases hPf.f p' hp' with z | ⟨b', f', n', z1, z2, z3, z4, z5⟩
    · exact Or.inl z
    · exact Or.inr ⟨b', f', n', by rw [(cm 12 0 19 (by omega)).1]; exact z1, by rw [(cm 74 0 b' (by omega)).1]; exact z2, z3, z4, by rw [(cm 108 0 _ (by omega)).1]; exact z5⟩
  · rw [(cm 122 0 p1 (by omega)).1] at h3 h4
    rw [(cm 122 0 p2 (by omega)).1] at h4
    exact hPf.u p1 p2 h1 h2 h3 h4
  · rw [(cm 12 0 69 (by omega)).1]
    by_cases q : p' = p
    · rw [q]; exact w2'
    · rw [(cm 123 0 p' (by omega)).1]
      exact hPf.s p' hp'
  · rw [(cm 12 0 69 (by omega)).1]
    by_cases q : p' = p
    · rw [q]; exact w3'
    · rw [(cm 124 0 p' (by omega)).1]
      exact hPf.h p' hp'
  · rw [(cm 125 0 k (by omega)).1]
    exact hPf.t k hk
/-- the pieces seen in a forme whose sheets are all printed -/
theorem fin_se (hB : RBk mc mm b F n M Ln E) (hRC : RC mc mm) {f : Nat} (hf : f < 2 * n) (hst : gN mm 108 0 (8 * b + f) = 2) {mc' mm' : MM} (x108 : gN mm' 108 0 (8 * b + f) = 3)
    (h90 : ∀ q, gN mm' 90 0 q = gN mm 90 0 q) (h63 : ∀ x, gN mm' 63 0 x = gN mm 63 0 x)
    (hc1 : ∀ j k x : Nat, j < F → (k : Int) < gN mc 5 (16 * b + fpg F f j) 4 → gN mc 35 (16 * b + fpg F f j) k = (x : Int) → gN mc' 25 (8 * b + f) x = gN mc 21 0 x)
    (hc2 : ∀ x, ¬ FwC mc b F f 25 (8 * b + f) x → gN mc' 25 (8 * b + f) x = gN mc 25 (8 * b + f) x)
    (hm1 : ∀ p k : Nat, p < 2 * (F * n) → fo F p = f → (k : Int) < gN mm 90 0 (16 * b + p) → gN mm' 103 0 (150 * (16 * b + p) + k) = gN mm 100 0 (150 * (16 * b + p) + k) ∧ gN mm' 104 0 (150 * (16 * b + p) + k) = if gN mm 100 0 (150 * (16 * b + p) + k) = -1 then 0 else gN mm 63 0 (gN mm 100 0 (150 * (16 * b + p) + k)).toNat) : RSe mc' mm' b F (F * n) f := by
  have hP := hB.hP
  have q1 := hP.hn
  have hse := hB.se f hf
  have e21 : ∀ x, gN mc 21 0 x = gN mm 63 0 x := fun x => (hRC.2.2.2.1 x).2.1
  have h63p : ∀ x : Nat, 0 ≤ gN mm 63 0 x := fun x => by
    rcases Int.lt_or_le (x : Int) (gN mm 12 0 6) with q | q
    · exact (hRC.2.2.2.2.1 x q).2.1.1
    · rw [hRC.2.2.2.2.2.2 x q]; exact Int.le_refl _
  refine ⟨fun z => by rw [x108] at z; omega, fun _ p hp hfo k hk => ?_, fun _ x hx => ?_, fun x => ?_⟩
  · rw [h90] at hk
    obtain ⟨m1, m2⟩ := hm1 p k hp hfo hk
    have hpl := (hB.pl p hp).p k hk
    rw [m1, m2]
    by_cases q : gN mm 100 0 (150 * (16 * b + p) + k) = -1
    · exact Or.inl q
    · obtain ⟨x, hx⟩ := Int.ex (show 0 ≤ gN mm 100 0 (150 * (16 * b + p) + k) by omega)
      refine Or.inr ⟨x, by omega, hx, ?_⟩
      rw [if_neg q, show (gN mm 100 0 (150 * (16 * b + p) + k)).toNat = x by omega, ← e21]
      have hfp : fpg F f (pif F p) = p := by rw [← hfo]; exact fpg_fo hP.hF
      refine (hc1 (pif F p) k x (pif_lt hP.hF) ?_ ?_).symm
      · rw [hfp, (hB.pg p hp).pn.1]; exact hk
      · rw [hfp, hpl.1]; exact hx
  · rw [hc2 x (fun q => ?_)]
    · exact hse.a (by omega) x
    · obtain ⟨-, -, j, k, hj, hk, hxx⟩ := q
      have hpl := fpg_lt (n := n) hP.hF hf hj
      have hfo := fo_fpg hP.hF (show f < 8 by omega) hj
      rw [(hB.pg _ hpl).pn.1] at hk
      refine hx _ hpl hfo k (by rw [h90]; exact hk) ?_
      rw [(hm1 _ k hpl hfo hk).1, ← ((hB.pl _ hpl).p k hk).1]
      exact hxx
  · rw [h63]
    by_cases q : FwC mc b F f 25 (8 * b + f) x
    · obtain ⟨-, -, j, k, hj, hk, hxx⟩ := q
      rw [hc1 j k x hj hk hxx, e21]
      exact ⟨h63p x, Int.le_refl _⟩
    · rw [hc2 x q]
      exact hse.b x
/-- a press has worked for an hour: its forme is done -/
theorem wk_fi (h : RR N mc mm) (hb : (b : Int) < gN mm 12 0 19) (hB : RBk mc mm b F n M Ln E) {f p : Nat} (hf : f < 2 * n) (hp3 : p < 3) {mc' mm' : MM} (hst : gN mm 108 0 (8 * b + f) = 2) (h122 : gN mm 122 0 p = ((8 * b + f : Nat) : Int))
    (cc : ∀ K i s', ¬ (K = 6 ∧ i = p ∧ (s' = 0 ∨ s' = 2 ∨ s' = 3)) ∧ ¬ (K = 2 ∧ i = 8 * b + f ∧ (s' = 4 ∨ s' = 6 ∨ s' = 9)) ∧ ¬ (K = 25 ∧ i = 8 * b + f) → eq3 mc mc' K i s')
    (cm : ∀ K i s', ¬ ((K = 122 ∨ K = 123 ∨ K = 124) ∧ s' = p) ∧ ¬ ((K = 108 ∨ K = 110 ∨ K = 114) ∧ s' = 8 * b + f) ∧ ¬ ((K = 103 ∨ K = 104) ∧ 2400 * b ≤ s' ∧ s' < 2400 * b + 2400) → eq3 mm mm' K i s')
    (cm2 : ∀ p' k, p' < 2 * (F * n) → fo F p' ≠ f → k < 150 → gN mm' 103 0 (150 * (16 * b + p') + k) = gN mm 103 0 (150 * (16 * b + p') + k) ∧ gN mm' 104 0 (150 * (16 * b + p') + k) = gN mm 104 0 (150 * (16 * b + p') + k))
    (hzc : ∀ K i, gZ mc' K i = gZ mc K i) (hzm : ∀ K i k, gZ mm K i = some k → gZ mm' K i = some k) (hCC : ∀ K, gC mc' K = gC mc K)
    (w2 : gN mc' 6 p 2 = gN mm' 123 0 p) (w2' : 0 ≤ gN mm' 123 0 p ∧ gN mm' 123 0 p ≤ 2 * gN mm 12 0 69)
    (w3 : gN mc' 6 p 3 = gN mm' 124 0 p) (w3' : 0 ≤ gN mm' 124 0 p ∧ gN mm' 124 0 p ≤ gN mm 12 0 69)
    (w6 : gN mc' 2 (8 * b + f) 6 = gN mm' 110 0 (8 * b + f)) (w6' : gN mm 110 0 (8 * b + f) ≤ gN mm' 110 0 (8 * b + f) ∧ gN mm' 110 0 (8 * b + f) ≤ (E : Int))
    (w4 : gN mc' 2 (8 * b + f) 4 = 3) (x108 : gN mm' 108 0 (8 * b + f) = 3) (w9 : gN mc' 2 (8 * b + f) 9 = gN mm' 114 0 (8 * b + f)) (w9' : gN mm 113 0 (8 * b + f) ≤ gN mm' 114 0 (8 * b + f) ∧ gN mm' 114 0 (8 * b + f) ≤ gN mm 12 0 69 ∧ gN mm' 114 0 (8 * b + f) % 70 < 60)
    (w0 : gR mc' 6 p 0 = none) (x122 : gN mm' 122 0 p = -1) (hse : RSe mc' mm' b F (F * n) f) : RR N mc' mm' := by
  have hP := hB.hP
  have hS := hB.hS
  have q0 := hP.hb
  have q1 := hP.hn
  have q2 := hP.hL
  have q3 := hP.hE
  have q4 := hP.ml
  have hff := hB.ff f hf
  have hPf := h.Pf
  have hPc := h.Pc
  have st1 : ∀ j, gN mm' 108 0 j = gN mm 108 0 j ∨ (j = 8 * b + f ∧ gN mm' 108 0 j = 3 ∧ gN mm 108 0 j = 2) := fun j => by
    by_cases q : j = 8 * b + f
    · exact Or.inr ⟨q, by rw [q]; exact x108, by rw [q]; exact hst⟩
    · exact Or.inl (cm 108 0 j (by omega)).1
  have cb : ∀ K i s', isBK K → ¬ CBk b K i → eq3 mc mc' K i s' := fun K i s' hK hn => cc K i s' ⟨fun q => by unfold isBK at hK; omega, fun q => hn (CBk.b (by omega) (by omega)), fun q => hn (CBk.b (by omega) (by omega))⟩
  have mb : ∀ K s', 78 ≤ K → K ≤ 126 → K < 105 ∨ 107 < K → K < 121 ∨ 125 < K → ¬ MBk b K s' → eq3 mm mm' K 0 s' := fun K s' h1 h2 h3 h4 hn => cm K 0 s' ⟨by omega, fun q => hn (MBk.g (by omega) (by omega)), fun q => hn (MBk.f (by omega) q.2)⟩
  refine h.one (b0 := b) hzc hCC hb (cm 12 0 19 (by omega)).1 (h.C.mv2 (fun K i s hk => (cc K i s (by omega)).2.2) (fun K i k hk => by rw [hzc]; exact hk)) (h.M.mv2 (fun s hs => (cm 12 0 s (by omega)).2.2) hzm) (h.T.keep (cc 10 0 5 (by omega)).1 (cm 12 0 1 (by omega)).1 (fun k => (cc 50 0 k (by omega)).1) (fun k => (cm 59 0 k (by omega)).1)) (h.Sp.keep (fun K i s hk => cc K i s (by omega)) (fun K i s hk => cm K i s (by omega)))
    (h.Ca.keep (cc 1 0 5 (by omega)).1 (cm 12 0 6 (by omega)).1 (fun K h1 h2 k => (cc K 0 k (by omega)).1) (fun K h1 h2 k => (cm K 0 k (by omega)).1)) (h.H.keep (by omega) (fun K i s hk => cc K i s (by omega)) (hCC 3) (fun K i s hk => cm K i s (by omega))) (h.Mi.keep (fun K i s hk => cc K i s (by omega)) (fun K i s hk => cm K i s (by omega))) (fun p' hp' => ?_) (h.Nb.keep (cc 11 0 8 (by omega)).1 (cm 12 0 19 (by omega)).1 (fun s => (cc 56 0 s (by omega)).2.2))
    (fun K i s hk => cc K i s (by omega)) cb (fun K i s hk => cm K i s (by omega)) mb (fun b' p f hbb hb3 hp hf h90 h7 hx => hx.other hbb hp hf cb mb (fun K i s hk => cm K i s (by omega)) h90 h7) (by rw [(cm 12 0 69 (by omega)).1]; exact Int.le_refl _) (fun x => by rw [(cm 63 0 x (by omega)).1]; exact Int.le_refl _) ⟨F, n, M, Ln, E, hP.keep (fun K h1 h2 => (cm K 0 b (by omega)).1), hB.hS.keep hP (fun K i s hk => cc K i s (by unfold CBS at hk; omega)) (fun K i k hk => by rw [hzc]; exact hk), hB.tx.keep (fun K i s hk => cc K i s (by unfold CTx at hk; omega)) (fun K i s hk => cm K i s (by unfold MTx at hk; omega)), fun p hp => (hB.pg p hp).keep (by omega) (fun K i s hk => cc K i s (by unfold CPg at hk; omega)) (fun K i s hk => cm K i s (by unfold MPg at hk; omega)), fun p hp => (hB.po p hp).keep (by omega) (fun K i s hk => cc K i s (by unfold CPo at hk; omega)) (fun K i s hk => cm K i s (by unfold MPo at hk; omega)), fun p hp => (hB.pl p hp).keep (by have := (hB.pg p hp).pn; omega) (fun K i s hk => cc K i s (by unfold CPl at hk; omega)) (fun K i s hk => cm K i s (by unfold MPl at hk; omega)), fun f' hf' => ?_, fun p' hp' => ?_, fun f' hf' => ?_, fun s hs => ?_, ?_⟩ ⟨fun p' hp' => ?_, fun p1 p2 h1 h2 h3 h4 => ?_, fun p' hp' => ?_, fun p' hp' => ?_, fun k hk => ?_, by rw [(cm 12 0 52 (by omega)).1]; exact hPf.c⟩ (hPc.keep (fun K i s' hk => cm K i s' (by omega)))
  · have hx := h.Pr p' hp'
    by_cases q : p' = p
    · subst q
      rw [(cc 6 p' 1 (by omega)).1, w2, w3, w0, (cm 121 0 p' (by omega)).1, x122]
      exact ⟨hx.1, rfl, rfl, Or.inl ⟨rfl, rfl⟩⟩
    · rw [(cc 6 p' 1 (by omega)).1, (cc 6 p' 2 (by omega)).1, (cc 6 p' 3 (by omega)).1, (cc 6 p' 0 (by omega)).2.2, (cm 121 0 p' (by omega)).1, (cm 122 0 p' (by omega)).1, (cm 123 0 p' (by omega)).1, (cm 124 0 p' (by omega)).1]
      exact hx
  · by_cases q : f' = f
    · subst q
      have z1 := hff.how
      have z3 := hff.pr
      have z4 := hff.sk
      have z5 := hff.ns
      have z6 := hff.oh (by omega)
      refine ⟨by rw [w4, x108]; omega, by rw [(cc 2 (8 * b + f') 5 (by omega)).1, (cm 109 0 (8 * b + f') (by omega)).1, x108]; omega, ?_, by rw [(cc 2 (8 * b + f') 7 (by omega)).1, (cm 111 0 (8 * b + f') (by omega)).1, x108]; omega, by rw [(cc 26 (8 * b + f') 0 (by omega)).1]; exact hff.s0, fun _ s hs => ?_, fun _ => ?_, ?_, ?_⟩
      · rw [w6, x108]; omega
      · rw [(cm 111 0 (8 * b + f') (by omega)).1] at hs
        rw [(cc 26 (8 * b + f') s (by omega)).1, (cm 112 0 (26 * (8 * b + f') + s) (by omega)).1]
        have := hff.sb (by omega) s hs
        omega
      · rw [(cc 2 (8 * b + f') 8 (by omega)).1, (cm 113 0 (8 * b + f') (by omega)).1, (cm 12 0 69 (by omega)).1]
        exact z6
      · rw [w9, x108, (cm 113 0 (8 * b + f') (by omega)).1, (cm 12 0 69 (by omega)).1]
        omega
      · rw [x108]
        omega
    · exact (hB.ff f' hf').keep (by omega) (fun K i s' hk => cc K i s' (by unfold CFo at hk; omega)) (fun K i s' hk => cm K i s' (by unfold MFo at hk; omega)) (by rw [(cm 12 0 69 (by omega)).1]; exact Int.le_refl _)
  · have hpg := (hB.pg p' hp').pn
    have hfl := fo_lt hP.hF hp'
    have hns := (hB.ff _ hfl).ns
    by_cases q : fo F p' = f
    · have hx := hB.pn p' hp'
      rw [q] at hx ⊢
      have hm52 := (cm 12 0 52 (by omega)).1
      have hgl : ∀ k s, glF mm' k s (gN mm' 12 0 52).toNat = glF mm k s (gN mm 12 0 52).toNat := fun k s => by
        rw [hm52]
        exact glF_congr (cm 102 0 k (by omega)).1 _ (fun j _ => ⟨(cm 105 0 j (by omega)).1, (cm 106 0 j (by omega)).1, (cm 107 0 j (by omega)).1⟩)
      have y7 : gN mc' 2 (8 * b + f) 7 = gN mc 2 (8 * b + f) 7 := (cc 2 (8 * b + f) 7 (by omega)).1
      refine ⟨fun _ => by rw [(cm 83 0 (16 * b + p') (by omega)).1]; exact hx.st (by omega), fun k s hk hs => ?_, fun j k hj hk he => ?_⟩
      · rw [(cm 90 0 (16 * b + p') (by omega)).1] at hk
        rw [y7] at hs
        rw [hgl, (cc 38 (24 * (16 * b + p') + s) k (by omega)).1]
        exact hx.g k s hk hs
      · rw [hm52] at hj
        rw [(cm 105 0 j (by omega)).1] at he
        rw [x108, (cm 106 0 j (by omega)).1, y7]
        have := hx.c j k hj hk he
        omega
    · exact (hB.pn p' hp').keep (by omega) (by omega) (fun K i s' hk => cc K i s' (by unfold CPn at hk; omega)) (fun K i s' hk => cm K i s' (by unfold MPn at hk; omega))
  · by_cases q : f' = f
    · rw [q]; exact hse
    · have hx := hB.se f' hf'
      have a25 : ∀ x, gN mc' 25 (8 * b + f') x = gN mc 25 (8 * b + f') x := fun x => (cc 25 (8 * b + f') x (by omega)).1
      have b90 : ∀ x, gN mm' 90 0 x = gN mm 90 0 x := fun x => (cm 90 0 x (by omega)).1
      have b108 := (cm 108 0 (8 * b + f') (by omega)).1
      refine ⟨fun z x => by rw [b108] at z; rw [a25]; exact hx.a z x, fun z p hp hfo k hk => ?_, fun z x hx' => ?_, fun x => by rw [a25, (cm 63 0 x (by omega)).1]; exact hx.b x⟩
      · rw [b90] at hk
        rw [b108] at z
        have hpn := (hB.pg p hp).pn
        have hc2 := cm2 p k hp (by rw [hfo]; exact q) (by omega)
        have := hx.s z p hp hfo k hk
        rw [hc2.1, hc2.2]
        simp only [a25]
        exact this
      · rw [b108] at z
        rw [a25]
        refine hx.z z x (fun p hp hfo k hk => ?_)
        have hpn := (hB.pg p hp).pn
        have hc2 := cm2 p k hp (by rw [hfo]; exact q) (by omega)
        have := hx' p hp hfo k (by rw [b90]; exact hk)
        rw [hc2.1] at this
        exact this
  · have hx := hB.sh s hs
    have a8 : ∀ k, gN mc' 8 (4 * b + s) k = gN mc 8 (4 * b + s) k := fun k => (cc 8 (4 * b + s) k (by omega)).1
    have a82 : gR mc' 8 (4 * b + s) 2 = gR mc 8 (4 * b + s) 2 := (cc 8 (4 * b + s) 2 (by omega)).2.2
    have bK : ∀ K, 116 ≤ K → K ≤ 120 → ∀ j, gN mm' K 0 j = gN mm K 0 j := fun K h1 h2 j => (cm K 0 j (by omega)).1
    refine ⟨by rw [a8, bK 120 (by omega) (by omega)]; exact hx.t, ?_⟩
    rw [a82, a8, a8, bK 117 (by omega) (by omega), bK 118 (by omega) (by omega), bK 119 (by omega) (by omega)]
    rcases hx.k with ⟨k1, k2, k3, k4⟩ | ⟨k1, k2, k3, d, e, k4, k5, k6, k7, k8⟩
    · refine Or.inl ⟨k1, k2, ?_, ?_⟩
      · have := st1 (8 * b + 2 * s); omega
      · have := st1 (8 * b + (2 * s + 1)); omega
    · refine Or.inr ⟨k1, k2, k3, d, e, k4, k5, ?_, ?_, fun z => ?_⟩
      · have := st1 (8 * b + (2 * s + d)); omega
      · rw [bK 116 (by omega) (by omega)]; exact k7
      · rw [bK 116 (by omega) (by omega)]
        refine k8 ?_
        have := st1 (8 * b + (2 * s + e)); omega
  · have hx := hB.lv
    refine ⟨by rw [(cc 0 b 11 (by omega)).1, (cm 79 0 b (by omega)).1]; exact hx.bd, fun z c l hc hl => ?_, fun z f' hf' => ?_, fun f' h1 h2 => ?_⟩
    · rw [(cm 79 0 b (by omega)).1] at z
      rw [(cc 18 (24 * b + c) l (by omega)).1, (cm 126 0 (8 * (24 * b + c) + l) (by omega)).1]
      exact hx.l z c l hc hl
    · rw [(cm 79 0 b (by omega)).1] at z
      have := hx.d z f' hf'
      have := st1 (8 * b + f')
      omega
    · rw [(cm 108 0 (8 * b + f') (by omega)).1]; exact hx.u f' h1 h2
  · by_cases q : p' = p
    · exact Or.inl (by rw [q]; exact x122)
    · rw [(cm 122 0 p' (by omega)).1]
      rcases hPf.f p' hp' with z | ⟨b', f', n', z1, z2, z3, z4, z5⟩
      · exact Or.inl z
      · refine Or.inr ⟨b', f', n', by rw [(cm 12 0 19 (by omega)).1]; exact z1, by rw [(cm 74 0 b' (by omega)).1]; exact z2, z3, z4, ?_⟩
        rcases st1 (8 * b' + f') with y | y
        · rw [y]; exact z5
        · exact absurd (hPf.u p' p hp' hp3 (by omega) (by rw [z4, h122, y.1])) q
  · have k1 : p1 ≠ p := fun q => h3 (by rw [q]; exact x122)
    by_cases q2 : p2 = p
    · rw [q2, x122] at h4; exact absurd h4 h3
    · rw [(cm 122 0 p1 (by omega)).1] at h3 h4
      rw [(cm 122 0 p2 (by omega)).1] at h4
      exact hPf.u p1 p2 h1 h2 h3 h4
  · rw [(cm 12 0 69 (by omega)).1]
    by_cases q : p' = p
    · rw [q]; exact w2'
    · rw [(cm 123 0 p' (by omega)).1]
      exact hPf.s p' hp'
  · rw [(cm 12 0 69 (by omega)).1]
    by_cases q : p' = p
    · rw [q]; exact w3'
    · rw [(cm 124 0 p' (by omega)).1]
      exact hPf.h p' hp'
  · rw [(cm 125 0 k (by omega)).1]
    exact hPf.t k hk
/-- the hour H is under way, press p is the next to work -/
def PJ (N : Nat) (H : Int) (p : Nat) (s t : MM) : Prop := RR N (sN s 11 0 10 (H + 1)) (sN t 12 0 69 (H + 1)) ∧ gN s 11 0 10 = H ∧ gN t 12 0 69 = H ∧ gN t 12 0 0 = 0 ∧ (∀ w, gN t 108 0 w = 2 → gN t 113 0 w ≤ H) ∧ ∀ p', p ≤ p' → p' < 3 → gN t 123 0 p' ≤ 2 * H ∧ gN t 124 0 p' ≤ H
theorem work1 {H : Int} {p : Nat} {s t : MM} (hp3 : p < 3) (hH : 0 ≤ H ∧ H ≤ 5000) (hw : H % 70 < 60) (hJ : PJ N H p s t) : ∃ (e : Int) (s' t' : MM), (e = 0 ∨ e = 1) ∧ f_X6_work s p H 0 = some (.inl (some (aI e)), s') ∧ f_X12_works t 0 (p : Int) = some (.inl (some (aI e)), t') ∧ PJ N H (p + 1) s' t' := by
  obtain ⟨h, hs, ht, h0, hth, hbd⟩ := hJ
  have hM : SM t := h.M.mv2 (fun _ _ => rfl) (fun _ _ _ q => q)
  have hC : SC s := h.C.mv2 (fun _ _ _ _ => rfl) (fun _ _ _ q => q)
  have xs : ∀ K i k, ¬ (K = 11 ∧ i = 0 ∧ k = 10) → gN (sN s 11 0 10 (H + 1)) K i k = gN s K i k := fun K i k q => by rw [gN_sN, if_neg q]
  have xt : ∀ K i k, ¬ (K = 12 ∧ i = 0 ∧ k = 69) → gN (sN t 12 0 69 (H + 1)) K i k = gN t K i k := fun K i k q => by rw [gN_sN, if_neg q]
  have x69 : gN (sN t 12 0 69 (H + 1)) 12 0 69 = H + 1 := by rw [gN_sN, if_pos ⟨rfl, rfl, rfl⟩]
  have hpr := h.Pr p hp3
  rw [xs 6 p 1 (by omega), xs 6 p 2 (by omega), xs 6 p 3 (by omega), xt 121 0 p (by omega), xt 122 0 p (by omega), xt 123 0 p (by omega), xt 124 0 p (by omega)] at hpr
  obtain ⟨⟨c1, c2⟩, c3, c4, c5⟩ := hpr
  have c5' : (gR s 6 p 0 = none ∧ gN t 122 0 p = -1) ∨ ∃ fm : Nat, gR s 6 p 0 = some (2, fm) ∧ gN t 122 0 p = fm := c5
  have hbp := hbd p (Nat.le_refl _) hp3
  have hPs := h.Pf.s p hp3
  rw [xt 123 0 p (by omega), x69] at hPs
  have hPh := h.Pf.h p hp3
  rw [xt 124 0 p (by omega), x69] at hPh
  unfold f_X6_work f_X12_works
  rw [nk_of hM.r71, ldN_of hM.z122 (by omega), tnc]
  rcases c5' with ⟨d1, d2⟩ | ⟨w, d1, d2⟩
  · rw [if_pos d1, if_pos d2]
    exact ⟨0, s, t, Or.inl rfl, rfl, rfl, h, hs, ht, h0, hth, fun p' a1 a2 => hbd p' (by omega) a2⟩
  · rw [if_neg (show ¬ gR s 6 p 0 = none by rw [d1]; exact fun q => by cases q), if_neg (show ¬ gN t 122 0 p = -1 by omega), nk_of hM.r70, ldN_of hM.z121 (by omega), tnc, c1]
    by_cases hc : gN t 121 0 p = 0
    · rw [if_neg (show ¬ ¬ gN t 121 0 p = 0 from fun q => q hc), if_neg (show ¬ ¬ gN t 121 0 p = 0 from fun q => q hc)]
      exact ⟨0, s, t, Or.inl rfl, rfl, rfl, h, hs, ht, h0, hth, fun p' a1 a2 => hbd p' (by omega) a2⟩
    · rw [if_pos (show ¬ gN t 121 0 p = 0 from hc), if_pos (show ¬ gN t 121 0 p = 0 from hc)]
      have hPf := h.Pf.f p hp3
      rw [xt 122 0 p (by omega)] at hPf
      obtain ⟨b, f, n, z1, z2, z3, z4, z5⟩ : ∃ b f n : Nat, (b : Int) < gN (sN t 12 0 69 (H + 1)) 12 0 19 ∧ gN (sN t 12 0 69 (H + 1)) 74 0 b = n ∧ f < 2 * n ∧ gN t 122 0 p = ((8 * b + f : Nat) : Int) ∧ gN (sN t 12 0 69 (H + 1)) 108 0 (8 * b + f) = 2 := by
        rcases hPf with q | q
        · omega
        · exact q
      obtain ⟨F, n', M, Ln, E, hB⟩ := h.Bk b z1
      obtain rfl : n = n' := by have := hB.hP.n; rw [z2] at this; omega
      obtain rfl : w = 8 * b + f := by omega
      have hP := hB.hP
      have hS := hB.hS
      have q0 := hP.hb
      have q1 := hP.hn
      have q3 := hP.hE
      have q4 := hP.ml
      have hPt : BP t b F n M Ln E := hP.keep (fun K h1 h2 => (xt K 0 b (by omega)).symm)
      have hSs : BS s b F n M Ln E := hS.keep hP (fun K i k hk => ⟨(xs K i k (by unfold CBS at hk; omega)).symm, rfl, rfl⟩) (fun _ _ _ q => q)
      have hff := hB.ff f z3
      have hE1 : gN s 2 (8 * b + f) 1 = E := hSs.o1 f z3
      have hpr2 := hff.pr
      rw [xs 2 (8 * b + f) 6 (by omega), xt 110 0 (8 * b + f) (by omega), z5] at hpr2
      have hrd := hff.rd.2 z5
      rw [xs 2 (8 * b + f) 10 (by omega), xt 115 0 (8 * b + f) (by omega)] at hrd
      have hoh := hth (8 * b + f) (by rw [← xt 108 0 (8 * b + f) (by omega)]; exact z5)
      have f6 := hpr2.1
      have f6a : 0 ≤ gN t 110 0 (8 * b + f) ∧ gN t 110 0 (8 * b + f) < (E : Int) := by omega
      have f10 := hrd.1
      have f10a := hrd.2
      clear hrd hpr2
      have hw8 : ((8 * b + f : Nat) : Int) / 8 = (b : Int) := by omega
      have hw8' : ((8 * b + f : Nat) : Int) % 8 = (f : Int) := by omega
      rw [c4, z4, ck_of ⟨by omega, by omega⟩, lt_eq, nk_of (show gR (sN s 6 p 3 (gN t 124 0 p + 1)) 6 p 0 = some (2, 8 * b + f) from d1), dv_of ⟨by omega, by omega⟩, hw8, nk_of hM.r73, ldN_of hM.z124 (by omega), tnc, ck_of ⟨by omega, by omega⟩, stN_of hM.z124 (by omega), tnc]
      have hM1 : SM (sN t 124 0 p (gN t 124 0 p + 1)) := hM.mv (fun _ => rfl) (fun _ _ _ q => q)
      have y115 : gN (sN t 124 0 p (gN t 124 0 p + 1)) 115 0 (8 * b + f) = gN t 115 0 (8 * b + f) := by rw [gN_sN, if_neg (by omega)]
      have y10 : gN (sN s 6 p 3 (gN t 124 0 p + 1)) 2 (8 * b + f) 10 = gN t 115 0 (8 * b + f) := by rw [gN_sN, if_neg (by omega), f10]
      rw [nk_of hM1.r63, ldN_of hM1.z115 (by omega), tnc, y115, y10]
      by_cases hr : gN t 115 0 (8 * b + f) = 0
      · rw [if_neg (show ¬ ¬ gN t 115 0 (8 * b + f) = 0 from fun q => q hr), if_neg (show ¬ ¬ gN t 115 0 (8 * b + f) = 0 from fun q => q hr), nk_of (show gR (sN s 6 p 3 (gN t 124 0 p + 1)) 6 p 0 = some (2, 8 * b + f) from d1), lt_eq, nk_of hM1.r63, stN_of hM1.z115 (by omega), tnc]
        refine ⟨0, _, _, Or.inl rfl, rfl, rfl, ?_, ?_, ?_, ?_, ?_, ?_⟩
        · refine wk_un h z1 hB z3 hp3 z5 (fun K i k hk => eq3_up ((eq3.sN (by omega)).tr (eq3.sN (by omega)) : eq3 s _ K i k)) (fun K i k hk => eq3_up ((eq3.sN (by omega)).tr (eq3.sN (by omega)) : eq3 t _ K i k)) (fun _ _ => rfl) (fun _ _ _ q => q) (fun _ => rfl) ?_ ?_ ?_ ?_ ?_ ?_ ?_ ?_
          · simp [gN_sN, c3]
          · rw [x69]; simp [gN_sN]; omega
          · simp [gN_sN]
          · rw [x69]; simp [gN_sN]; omega
          · simp [gN_sN, f6]
          · simp [gN_sN]; omega
          · simp [gN_sN]
          · simp [gN_sN]
        · simp [gN_sN, hs]
        · simp [gN_sN, ht]
        · simp [gN_sN, h0]
        · intro w hw2
          rw [gN_sN, if_neg (by omega), gN_sN, if_neg (by omega)] at hw2 ⊢
          exact hth w hw2
        · intro p' a1 a2
          rw [gN_sN, if_neg (by omega), gN_sN, if_neg (by omega), gN_sN, if_neg (by omega), gN_sN, if_neg (by omega)]
          exact hbd p' (by omega) a2
      · rw [if_pos (show ¬ gN t 115 0 (8 * b + f) = 0 from hr), if_pos (show ¬ gN t 115 0 (8 * b + f) = 0 from hr)]
        have y1 : gN (sN s 6 p 3 (gN t 124 0 p + 1)) 2 (8 * b + f) 1 = (E : Int) := by rw [gN_sN, if_neg (by omega), hE1]
        have y6 : gN (sN s 6 p 3 (gN t 124 0 p + 1)) 2 (8 * b + f) 6 = gN t 110 0 (8 * b + f) := by rw [gN_sN, if_neg (by omega), f6]
        have yc : gN (sN s 6 p 3 (gN t 124 0 p + 1)) 6 p 1 = gN t 121 0 p := by rw [gN_sN, if_neg (by omega), c1]
        obtain ⟨v, hv, hv1, hv2, hv3, hv4, hv5⟩ : ∃ v : Int, (if (E : Int) - gN t 110 0 (8 * b + f) < gN t 121 0 p then (E : Int) - gN t 110 0 (8 * b + f) else gN t 121 0 p) = v ∧ 1 ≤ v ∧ v ≤ 2 ∧ v ≤ (E : Int) - gN t 110 0 (8 * b + f) ∧ ((E : Int) - gN t 110 0 (8 * b + f) ≤ gN t 121 0 p → v = (E : Int) - gN t 110 0 (8 * b + f)) ∧ (¬ (E : Int) - gN t 110 0 (8 * b + f) ≤ gN t 121 0 p → v = gN t 121 0 p) := by
          refine ⟨_, rfl, ?_, ?_, ?_, ?_, ?_⟩ <;> split <;> omega
        rw [nk_of (show gR (sN s 6 p 3 (gN t 124 0 p + 1)) 6 p 0 = some (2, 8 * b + f) from d1), nk_of (show gR (sN s 6 p 3 (gN t 124 0 p + 1)) 6 p 0 = some (2, 8 * b + f) from d1), y1, y6, ck_of ⟨by omega, by omega⟩, lt0_eq, yc, hv, nk_of (show gR (sN s 6 p 3 (gN t 124 0 p + 1)) 6 p 0 = some (2, 8 * b + f) from d1), y6, ck_of ⟨by omega, by omega⟩, lt_eq]
        have y62 : gN (sN (sN s 6 p 3 (gN t 124 0 p + 1)) 2 (8 * b + f) 6 (gN t 110 0 (8 * b + f) + v)) 6 p 2 = gN t 123 0 p := by rw [gN_sN, if_neg (by omega), gN_sN, if_neg (by omega), c3]
        rw [y62, ck_of ⟨by omega, by omega⟩, lt_eq]
        generalize hm8 : sN (sN (sN s 6 p 3 (gN t 124 0 p + 1)) 2 (8 * b + f) 6 (gN t 110 0 (8 * b + f) + v)) 6 p 2 (gN t 123 0 p + v) = m8
        have r8 : gR m8 6 p 0 = some (2, 8 * b + f) := by rw [← hm8]; exact d1
        have g8 : ∀ K i k, ¬ (K = 6 ∧ i = p ∧ (k = 2 ∨ k = 3)) ∧ ¬ (K = 2 ∧ i = 8 * b + f ∧ k = 6) → eq3 s m8 K i k := fun K i k hk => by
          rw [← hm8]
          exact ((eq3.sN (by omega)).tr (eq3.sN (by omega))).tr (eq3.sN (by omega))
        have y81 : gN m8 2 (8 * b + f) 1 = (E : Int) := by rw [(g8 2 _ 1 (by omega)).1, hE1]
        have y86 : gN m8 2 (8 * b + f) 6 = gN t 110 0 (8 * b + f) + v := by rw [← hm8]; simp [gN_sN]
        have y82 : gN m8 6 p 2 = gN t 123 0 p + v := by rw [← hm8]; simp [gN_sN]
        have y83 : gN m8 6 p 3 = gN t 124 0 p + 1 := by rw [← hm8]; simp [gN_sN]
        have yZ : ∀ K i, gZ m8 K i = gZ s K i := fun K i => by rw [← hm8]; rfl
        have yC : ∀ K, gC m8 K = gC s K := fun K => by rw [← hm8]; rfl
        have em : (if (E : Int) - gN t 110 0 (8 * b + f) ≤ gN t 121 0 p then j_X12_works_0_93 (sN t 124 0 p (gN t 124 0 p + 1)) 0 (p : Int) ((8 * b + f : Nat) : Int) (b : Int) ((E : Int) - gN t 110 0 (8 * b + f)) else nk 121 (gR (sN t 124 0 p (gN t 124 0 p + 1)) 12 0 70) fun i16 => ldN (sN t 124 0 p (gN t 124 0 p + 1)) 121 i16 (p : Int) fun v17 => j_X12_works_0_93 (sN t 124 0 p (gN t 124 0 p + 1)) 0 (p : Int) ((8 * b + f : Nat) : Int) (b : Int) v17) = j_X12_works_0_93 (sN t 124 0 p (gN t 124 0 p + 1)) 0 (p : Int) ((8 * b + f : Nat) : Int) (b : Int) v := by
          by_cases hac : (E : Int) - gN t 110 0 (8 * b + f) ≤ gN t 121 0 p
          · rw [if_pos hac, hv4 hac]
          · rw [if_neg hac, nk_of hM1.r70, ldN_of hM1.z121 (by omega), tnc, gN_sN, if_neg (by omega), hv5 hac]
        have x77 : gN (sN t 124 0 p (gN t 124 0 p + 1)) 77 0 b = (E : Int) := by rw [gN_sN, if_neg (by omega), hPt.e]
        have x110 : gN (sN t 124 0 p (gN t 124 0 p + 1)) 110 0 (8 * b + f) = gN t 110 0 (8 * b + f) := by rw [gN_sN, if_neg (by omega)]
        have x121 : gN (sN t 124 0 p (gN t 124 0 p + 1)) 121 0 p = gN t 121 0 p := by rw [gN_sN, if_neg (by omega)]
        rw [nk_of hM1.r24, ldN_of hM1.z77 (by omega), tnc, x77, nk_of hM1.r58, ldN_of hM1.z110 (by omega), tnc, x110, ck_of ⟨by omega, by omega⟩, nk_of hM1.r70, ldN_of hM1.z121 (by omega), tnc, x121, em]
        unfold j_X12_works_0_93
        rw [nk_of hM1.r58, ldN_of hM1.z110 (by omega), tnc, x110, ck_of ⟨by omega, by omega⟩, stN_of hM1.z110 (by omega), tnc]
        have hM2 : SM (sN (sN t 124 0 p (gN t 124 0 p + 1)) 110 0 (8 * b + f) (gN t 110 0 (8 * b + f) + v)) := hM1.mv (fun _ => rfl) (fun _ _ _ q => q)
        have x123 : gN (sN (sN t 124 0 p (gN t 124 0 p + 1)) 110 0 (8 * b + f) (gN t 110 0 (8 * b + f) + v)) 123 0 p = gN t 123 0 p := by rw [gN_sN, if_neg (by omega), gN_sN, if_neg (by omega)]
        rw [nk_of hM2.r72, ldN_of hM2.z123 (by omega), tnc, x123, ck_of ⟨by omega, by omega⟩, stN_of hM2.z123 (by omega), tnc]
        have hM3 : SM (sN (sN (sN t 124 0 p (gN t 124 0 p + 1)) 110 0 (8 * b + f) (gN t 110 0 (8 * b + f) + v)) 123 0 p (gN t 123 0 p + v)) := hM2.mv (fun _ => rfl) (fun _ _ _ q => q)
        generalize hm25 : sN (sN (sN t 124 0 p (gN t 124 0 p + 1)) 110 0 (8 * b + f) (gN t 110 0 (8 * b + f) + v)) 123 0 p (gN t 123 0 p + v) = m25 at *
        have g25 : ∀ K i k, ¬ (i = 0 ∧ (K = 123 ∨ K = 124) ∧ k = p) ∧ ¬ (i = 0 ∧ K = 110 ∧ k = 8 * b + f) → eq3 t m25 K i k := fun K i k hk => by
          rw [← hm25]
          exact ((eq3.sN (by omega)).tr (eq3.sN (by omega))).tr (eq3.sN (by omega))
        have u110 : gN m25 110 0 (8 * b + f) = gN t 110 0 (8 * b + f) + v := by rw [← hm25]; simp [gN_sN]
        have u123 : gN m25 123 0 p = gN t 123 0 p + v := by rw [← hm25]; simp [gN_sN]
        have u124 : gN m25 124 0 p = gN t 124 0 p + 1 := by rw [← hm25]; simp [gN_sN]
        have u77 : gN m25 77 0 b = (E : Int) := by rw [(g25 77 0 b (by omega)).1, hPt.e]
        have uZ : ∀ K i, gZ m25 K i = gZ t K i := fun K i => by rw [← hm25]; rfl
        rw [nk_of hM3.r58, ldN_of hM3.z110 (by omega), tnc, u110, nk_of hM3.r24, ldN_of hM3.z77 (by omega), tnc, u77, nk_of r8, nk_of r8, y81, y86]
        by_cases hfin : (E : Int) ≤ gN t 110 0 (8 * b + f) + v
        · rw [if_pos hfin, if_pos hfin, nk_of r8]
          have hS8 : BS m8 b F n M Ln E := hSs.keep hPt (fun K i k hk => g8 K i k (by unfold CBS at hk; omega)) (fun K i k hk => by rw [yZ]; exact hk)
          have hC8 : SC m8 := hC.mv2 (fun K i k hk => (g8 K i k (by omega)).2.2) (fun K i k hk => by rw [yZ]; exact hk)
          have hFp : FpC m8 b F n M Ln := fun p' hp' => by
            have a1 := (hB.pg p' hp').pn
            have a2 := (hB.pl p' hp').p
            have a3 : ∀ k, gN m8 35 (16 * b + p') k = gN (sN s 11 0 10 (H + 1)) 35 (16 * b + p') k := fun k => by rw [xs 35 _ k (by omega)]; exact (g8 35 _ k (by omega)).1
            have a4 : gN m8 5 (16 * b + p') 4 = gN (sN s 11 0 10 (H + 1)) 5 (16 * b + p') 4 := by rw [xs 5 _ 4 (by omega)]; exact (g8 5 _ 4 (by omega)).1
            rw [a4, a1.1]
            refine ⟨by omega, fun k hk => ?_⟩
            rw [a3, (a2 k hk).1]
            have := a2 k hk
            omega
          obtain ⟨s12, e1, e2, e3⟩ := finish_c hPt hS8 hC8 z3 hFp H
          rw [e1, bV_ok, lt_eq, nk_of hM3.r56, stN_of hM3.z108 (by omega), tnc]
          have hM4 : SM (sN m25 108 0 (8 * b + f) 3) := hM3.mv (fun _ => rfl) (fun _ _ _ q => q)
          have u69 : gN (sN m25 108 0 (8 * b + f) 3) 12 0 69 = H := by rw [gN_sN, if_neg (by omega), (g25 12 0 69 (by omega)).1, ht]
          rw [nk_of hM4.r62, stN_of hM4.z114 (by omega), tnc, u69]
          have hM5 : SM (sN (sN m25 108 0 (8 * b + f) 3) 114 0 (8 * b + f) H) := hM4.mv (fun _ => rfl) (fun _ _ _ q => q)
          rw [nk_of hM5.r71, stN_of hM5.z122 (by omega), tnc]
          have hM6 : SM (sN (sN (sN m25 108 0 (8 * b + f) 3) 114 0 (8 * b + f) H) 122 0 p (-1)) := hM5.mv (fun _ => rfl) (fun _ _ _ q => q)
          generalize hm35 : sN (sN (sN m25 108 0 (8 * b + f) 3) 114 0 (8 * b + f) H) 122 0 p (-1) = m35 at *
          have g35 : ∀ K i k, ¬ (i = 0 ∧ (K = 122 ∨ K = 123 ∨ K = 124) ∧ k = p) ∧ ¬ (i = 0 ∧ (K = 108 ∨ K = 110 ∨ K = 114) ∧ k = 8 * b + f) → eq3 t m35 K i k := fun K i k hk => by
            rw [← hm35]
            exact (((g25 K i k (by omega)).tr (eq3.sN (by omega))).tr (eq3.sN (by omega))).tr (eq3.sN (by omega))
          have v108 : gN m35 108 0 (8 * b + f) = 3 := by rw [← hm35]; simp [gN_sN]
          have v114 : gN m35 114 0 (8 * b + f) = H := by rw [← hm35]; simp [gN_sN]
          have v122 : gN m35 122 0 p = -1 := by rw [← hm35]; simp [gN_sN]
          have v110 : gN m35 110 0 (8 * b + f) = gN t 110 0 (8 * b + f) + v := by rw [← hm35, gN_sN, if_neg (by omega), gN_sN, if_neg (by omega), gN_sN, if_neg (by omega), u110]
          have v123 : gN m35 123 0 p = gN t 123 0 p + v := by rw [← hm35, gN_sN, if_neg (by omega), gN_sN, if_neg (by omega), gN_sN, if_neg (by omega), u123]
          have v124 : gN m35 124 0 p = gN t 124 0 p + 1 := by rw [← hm35, gN_sN, if_neg (by omega), gN_sN, if_neg (by omega), gN_sN, if_neg (by omega), u124]
          have vZ : ∀ K i, gZ m35 K i = gZ t K i := fun K i => by rw [← hm35]; exact uZ K i
          have hP35 : BP m35 b F n M Ln E := hPt.keep (fun K h1 h2 => (g35 K 0 b (by omega)).1)
          have hFm : FpM m35 b F n M Ln := fun p' hp' => by
            have a1 := (hB.pg p' hp').pn
            have a2 := (hB.pl p' hp').p
            have a3 : ∀ k, gN m35 100 0 k = gN (sN t 12 0 69 (H + 1)) 100 0 k := fun k => by rw [xt 100 0 k (by omega)]; exact (g35 100 0 k (by omega)).1
            have a4 : gN m35 90 0 (16 * b + p') = gN (sN t 12 0 69 (H + 1)) 90 0 (16 * b + p') := by rw [xt 90 0 _ (by omega)]; exact (g35 90 0 _ (by omega)).1
            rw [a4]
            refine ⟨by omega, fun k hk => ?_⟩
            rw [a3]
            have := a2 k hk
            omega
          obtain ⟨t36, k1, k2, k3⟩ := keeps_m (f := f) hP35 hM6 hFm
          rw [dv_of ⟨by omega, by omega⟩, hw8', k1, bV_ok]
          -- what stands now
          have a0 : ∀ K i k, K ≠ 2 → K ≠ 6 → K ≠ 11 → gN (sN (sN m8 2 (8 * b + f) 4 3) 2 (8 * b + f) 9 H) K i k = gN (sN s 11 0 10 (H + 1)) K i k := fun K i k h1 h2 h3 => by
            rw [xs K i k (by omega), gN_sN, if_neg (by omega), gN_sN, if_neg (by omega), (g8 K i k (by omega)).1]
          have v12 : ∀ K i k, K ≠ 25 → gN s12 K i k = gN (sN (sN m8 2 (8 * b + f) 4 3) 2 (8 * b + f) 9 H) K i k := fun K i k h1 => (e2.1 K i k (fun q => h1 q.1)).1
          have v36 : ∀ K k, K ≠ 103 → K ≠ 104 → gN t36 K 0 k = gN m35 K 0 k := fun K k h1 h2 => (k2.1 K 0 k (FwM.no ⟨h1, h2⟩)).1
          have b0 : ∀ K k, K ≠ 12 → (K < 105 ∨ (115 ≤ K ∧ K < 122)) → gN m35 K 0 k = gN (sN t 12 0 69 (H + 1)) K 0 k := fun K k h1 h2 => by
            rw [xt K 0 k (by omega), (g35 K 0 k (by omega)).1]
          refine ⟨1, _, _, Or.inr rfl, rfl, rfl, ?_, ?_, ?_, ?_, ?_, ?_⟩
          · refine wk_fi h z1 hB z3 hp3 z5 (by rw [xt 122 0 p (by omega)]; exact z4) (fun K i k hk => ?_) (fun K i k hk => ?_) (fun p' k hp' hfo hk => ?_) (fun K i => ?_) (fun K i k hk => ?_) (fun K => ?_) ?_ ?_ ?_ ?_ ?_ ?_ ?_ ?_ ?_ ?_ ?_ ?_ ?_
            · exact eq3_up (((((g8 K i k (by omega)).tr (eq3.sN (by omega))).tr (eq3.sN (by omega))).tr (e2.1 K i k (fun q => by have := q.1; have := q.2.1; omega))).tr (eq3.sR (by omega)) : eq3 s _ K i k)
            · refine eq3_up ((g35 K i k (by omega)).tr (k2.1 K i k (fun q => ?_)) : eq3 t _ K i k)
              obtain ⟨y1, y2, p', k', y3, y4, y5, y6⟩ := q
              have := (hFm p' y3).1
              omega
            · have hno : ∀ K, K = 103 ∨ K = 104 → gN t36 K 0 (150 * (16 * b + p') + k) = gN (sN t 12 0 69 (H + 1)) K 0 (150 * (16 * b + p') + k) := fun K hK => by
                rw [xt K 0 _ (by omega), (k2.1 K 0 _ (fun q => ?_)).1, (g35 K 0 _ (by omega)).1]
                obtain ⟨y1, y2, p2, k', y3, y4, y5, y6⟩ := q
                have := (hFm p2 y3).1
                obtain rfl : p2 = p' := by omega
                exact hfo y4
              refine ⟨?_, ?_⟩
              · rw [gN_sN, if_neg (by omega)]; exact hno 103 (Or.inl rfl)
              · rw [gN_sN, if_neg (by omega)]; exact hno 104 (Or.inr rfl)
            · show gZ s12 K i = gZ s K i
              rw [e2.2.1]; exact yZ K i
            · show gZ t36 K i = some k
              rw [k2.2.1, vZ]; exact hk
            · show gC s12 K = gC s K
              rw [e2.2.2]; exact yC K
            · rw [gN_sN, if_neg (by omega), gN_sR, v12 6 p 2 (by decide), gN_sN, if_neg (by omega), gN_sN, if_neg (by omega), y82, gN_sN, if_neg (by omega), v36 123 p (by decide) (by decide), v123]
            · rw [x69, gN_sN, if_neg (by omega), v36 123 p (by decide) (by decide), v123]; omega
            · rw [gN_sN, if_neg (by omega), gN_sR, v12 6 p 3 (by decide), gN_sN, if_neg (by omega), gN_sN, if_neg (by omega), y83, gN_sN, if_neg (by omega), v36 124 p (by decide) (by decide), v124]
            · rw [x69, gN_sN, if_neg (by omega), v36 124 p (by decide) (by decide), v124]; omega
            · rw [gN_sN, if_neg (by omega), gN_sR, v12 2 _ 6 (by decide), gN_sN, if_neg (by omega), gN_sN, if_neg (by omega), y86, gN_sN, if_neg (by omega), v36 110 _ (by decide) (by decide), v110]
            · rw [xt 110 0 _ (by omega), gN_sN, if_neg (by omega), v36 110 _ (by decide) (by decide), v110]; omega
            · rw [gN_sN, if_neg (by omega), gN_sR, v12 2 _ 4 (by decide), gN_sN, if_neg (by omega), gN_sN, if_pos ⟨rfl, rfl, rfl⟩]
            · rw [gN_sN, if_neg (by omega), v36 108 _ (by decide) (by decide), v108]
            · rw [gN_sN, if_neg (by omega), gN_sR, v12 2 _ 9 (by decide), gN_sN, if_pos ⟨rfl, rfl, rfl⟩, gN_sN, if_neg (by omega), v36 114 _ (by decide) (by decide), v114]
            · rw [xt 113 0 _ (by omega), x69, gN_sN, if_neg (by omega), v36 114 _ (by decide) (by decide), v114]; omega
            · show gR (sR s12 6 p 0 none) 6 p 0 = none
              rw [gR_sR, if_pos ⟨rfl, rfl, rfl⟩]
            · rw [gN_sN, if_neg (by omega), v36 122 _ (by decide) (by decide), v122]
            · refine fin_se hB h.Ca z3 z5 ?_ (fun q => ?_) (fun x => ?_) (fun j k x hj hk hx => ?_) (fun x hx => ?_) (fun p' k hp' hfo hk => ?_)
              · rw [gN_sN, if_neg (by omega), v36 108 _ (by decide) (by decide), v108]
              · rw [gN_sN, if_neg (by omega), v36 90 _ (by decide) (by decide), b0 90 q (by decide) (by omega)]
              · rw [gN_sN, if_neg (by omega), v36 63 _ (by decide) (by decide), b0 63 x (by decide) (by omega)]
              · rw [gN_sN, if_neg (by omega), gN_sR, e3 j k x (Or.inl hj) hj (by rw [a0 5 _ 4 (by decide) (by decide) (by decide)]; exact hk) (by rw [a0 35 _ k (by decide) (by decide) (by decide)]; exact hx), a0 21 0 x (by decide) (by decide) (by decide)]
              · rw [gN_sN, if_neg (by omega), gN_sR, (e2.1 25 (8 * b + f) x (fun q => hx ?_)).1, a0 25 _ x (by decide) (by decide) (by decide)]
                obtain ⟨y1, y2, j, k, y3, y4, y5⟩ := q
                rw [a0 5 _ 4 (by decide) (by decide) (by decide)] at y4
                rw [a0 35 _ k (by decide) (by decide) (by decide)] at y5
                exact ⟨y1, y2, j, k, y3, y4, y5⟩
              · have hk3 := k3 p' k (Or.inl hp') hp' hfo (by rw [b0 90 _ (by decide) (by omega)]; exact hk)
                rw [b0 100 _ (by decide) (by omega), b0 63 _ (by decide) (by omega)] at hk3
                rw [gN_sN, if_neg (by omega), gN_sN, if_neg (by omega)]
                exact hk3
          · rw [gN_sR, v12 11 0 10 (by decide), gN_sN, if_neg (by omega), gN_sN, if_neg (by omega), (g8 11 0 10 (by omega)).1, hs]
          · rw [v36 12 69 (by decide) (by decide), (g35 12 0 69 (by omega)).1, ht]
          · rw [v36 12 0 (by decide) (by decide), (g35 12 0 0 (by omega)).1, h0]
          · intro w hw2
            rw [v36 108 w (by decide) (by decide)] at hw2
            rw [v36 113 w (by decide) (by decide), (g35 113 0 w (by omega)).1]
            by_cases qw : w = 8 * b + f
            · rw [qw, v108] at hw2; omega
            · rw [(g35 108 0 w (by omega)).1] at hw2
              exact hth w hw2
          · intro p' a1 a2
            rw [v36 123 p' (by decide) (by decide), v36 124 p' (by decide) (by decide), (g35 123 0 p' (by omega)).1, (g35 124 0 p' (by omega)).1]
            exact hbd p' (by omega) a2
        · rw [if_neg hfin, if_neg hfin]
          refine ⟨0, _, _, Or.inl rfl, rfl, rfl, ?_, ?_, ?_, ?_, ?_, ?_⟩
          · refine wk_un h z1 hB z3 hp3 z5 (fun K i k hk => eq3_up (g8 K i k (by omega))) (fun K i k hk => eq3_up (g25 K i k (by omega))) yZ (fun K i k hk => (uZ K i).trans hk) yC ?_ ?_ ?_ ?_ ?_ ?_ ?_ ?_
            · rw [gN_sN, if_neg (by omega), y82, gN_sN, if_neg (by omega), u123]
            · rw [x69, gN_sN, if_neg (by omega), u123]; omega
            · rw [gN_sN, if_neg (by omega), y83, gN_sN, if_neg (by omega), u124]
            · rw [x69, gN_sN, if_neg (by omega), u124]; omega
            · rw [gN_sN, if_neg (by omega), y86, gN_sN, if_neg (by omega), u110]
            · rw [xt 110 0 _ (by omega), gN_sN, if_neg (by omega), u110]; omega
            · rw [gN_sN, if_neg (by omega), (g8 2 _ 10 (by omega)).1, f10, gN_sN, if_neg (by omega), (g25 115 0 _ (by omega)).1]
            · rw [gN_sN, if_neg (by omega), (g25 115 0 _ (by omega)).1]; exact f10a
          · rw [(g8 11 0 10 (by omega)).1, hs]
          · rw [(g25 12 0 69 (by omega)).1, ht]
          · rw [(g25 12 0 0 (by omega)).1, h0]
          · intro w hw2
            rw [(g25 108 0 w (by omega)).1] at hw2
            rw [(g25 113 0 w (by omega)).1]
            exact hth w hw2
          · intro p' a1 a2
            rw [(g25 123 0 p' (by omega)).1, (g25 124 0 p' (by omega)).1]
            exact hbd p' (by omega) a2
theorem hol_c (m : MM) {x : Int} (h : 0 ≤ x) : f_X11_isHoliday m x = some (if x % 70 < 60 then 0 else 1) := by
  unfold f_X11_isHoliday
  rw [dv_of ⟨by omega, by omega⟩]
  split <;> rfl
/-- the three presses, one behind the other -/
theorem work3 {H x : Int} (hH : 0 ≤ H ∧ H ≤ 5000) (hw : H % 70 < 60) (hx : 0 ≤ x ∧ x ≤ 10000) (l1 l3 : Int) : ∀ (d p : Nat) (c : Int) (s t : MM), 3 - p = d → p ≤ 3 → 0 ≤ c ∧ c ≤ p → PJ N H p s t → ∃ (e : Int) (s' t' : MM), (0 ≤ e ∧ e ≤ 3) ∧ lpb (fun z : Int × Int × MM => b_X11_workAnHour_25 0 0 3 z.1 z.2.1 z.2.2) (c, (p : Int), s) = some (e, s') ∧ lpb (fun z : Int × Int × MM => b_X12_pass_52 0 l1 l3 z.1 z.2.1 z.2.2) (x + c, (p : Int), t) = some (x + e, t') ∧ PJ N H 3 s' t' := by
  intro d
  induction d with
  | zero =>
    intro p c s t hd hp hc hJ
    obtain rfl : p = 3 := by omega
    rw [lpb_eq, lpb_eq]
    simp only
    unfold b_X11_workAnHour_25 b_X12_pass_52
    rw [if_pos (show (3 : Int) ≤ ((3 : Nat) : Int) by omega), if_pos (show (3 : Int) ≤ ((3 : Nat) : Int) by omega)]
    exact ⟨c, s, t, by omega, rfl, rfl, hJ⟩
  | succ d ih =>
    intro p c s t hd hp hc hJ
    have hp3 : p < 3 := by omega
    obtain ⟨e, s', t', k1, k2, k3, k4⟩ := work1 hp3 hH hw hJ
    obtain ⟨h, hs, ht, h0, hth, hbd⟩ := hJ
    have hC : SC s := h.C.mv2 (fun _ _ _ _ => rfl) (fun _ _ _ q => q)
    have r57 : gR s 57 0 p = some (6, p) := by
      obtain rfl | rfl | rfl : p = 0 ∨ p = 1 ∨ p = 2 := by omega
      · exact hC.p0
      · exact hC.p1
      · exact hC.p2
    rw [lpb_eq, lpb_eq]
    simp only
    unfold b_X11_workAnHour_25 b_X12_pass_52
    rw [if_neg (show ¬ (3 : Int) ≤ (p : Int) by omega), if_neg (show ¬ (3 : Int) ≤ (p : Int) by omega), ldR_of hC.z57 (by omega), tnc, r57, nk_some, nk_of hC.r1, hs, k2, bI_ok, ht, hol_m _ hH.1, Option.bind_some, if_neg (show ¬ ¬ (if H / 10 % 7 = 6 then (1 : Int) else 0) = 0 from fun q => q (if_neg (by omega))), k3, bI_ok, ck_of ⟨by omega, by omega⟩]
    have ep : ((p + 1 : Nat) : Int) = (p : Int) + 1 := by omega
    rcases k1 with rfl | rfl
    · rw [if_pos rfl, ck_of ⟨by omega, by omega⟩, ck_of ⟨by omega, by omega⟩]
      have z := ih (p + 1) c s' t' (by omega) (by omega) (by omega) k4
      rw [ep] at z
      rw [show x + c + 0 = x + c by omega, Option.bind_some, Sum.elim_inl, Option.bind_some, Sum.elim_inl]
      exact z
    · rw [if_neg (show ¬ (1 : Int) = 0 by decide), ck_of ⟨by omega, by omega⟩, ck_of ⟨by omega, by omega⟩, ck_of ⟨by omega, by omega⟩, Option.bind_some, Sum.elim_inl, ck_of ⟨by omega, by omega⟩]
      have z := ih (p + 1) (c + 1) s' t' (by omega) (by omega) (by omega) k4
      rw [ep, ← Int.add_assoc] at z
      rw [Option.bind_some, Sum.elim_inl]
      exact z
theorem RR.hour {s t : MM} (h : RR N s t) {H : Int} (hH : gN t 12 0 69 = H) (h5 : H + 1 ≤ 5000) : RR N (sN s 11 0 10 (H + 1)) (sN t 12 0 69 (H + 1)) := by
  have cc : ∀ K i k, ¬ (K = 11 ∧ k = 10) → eq3 s (sN s 11 0 10 (H + 1)) K i k := fun K i k hk => eq3.sN (by omega)
  have cm : ∀ K i k, ¬ (K = 12 ∧ k = 69) → eq3 t (sN t 12 0 69 (H + 1)) K i k := fun K i k hk => eq3.sN (by omega)
  have y1 : gN (sN s 11 0 10 (H + 1)) 11 0 10 = H + 1 := by rw [gN_sN, if_pos ⟨rfl, rfl, rfl⟩]
  have y2 : gN (sN t 12 0 69 (H + 1)) 12 0 69 = H + 1 := by rw [gN_sN, if_pos ⟨rfl, rfl, rfl⟩]
  have hMi := h.Mi
  have hPf := h.Pf
  have y69 : gN t 12 0 69 ≤ gN (sN t 12 0 69 (H + 1)) 12 0 69 := by omega
  refine ⟨h.C.mv2 (fun _ _ _ _ => rfl) (fun _ _ _ q => q), h.M.mv2 (fun _ _ => rfl) (fun _ _ _ q => q), h.T.keep (cc 10 0 5 (by omega)).1 (cm 12 0 1 (by omega)).1 (fun k => (cc 50 0 k (by omega)).1) (fun k => (cm 59 0 k (by omega)).1), h.Sp.keep (fun K i s hk => cc K i s (by omega)) (fun K i s hk => cm K i s (by omega)),
    h.Ca.keep (cc 1 0 5 (by omega)).1 (cm 12 0 6 (by omega)).1 (fun K h1 h2 k => (cc K 0 k (by omega)).1) (fun K h1 h2 k => (cm K 0 k (by omega)).1), h.H.keep (Int.le_refl _) (fun K i s hk => cc K i s (by omega)) rfl (fun K i s hk => cm K i s (by omega)), ⟨by rw [(cc 11 0 9 (by omega)).1, (cm 12 0 74 (by omega)).1]; exact hMi.1, by have := hMi.2.1; rw [y1, y2]; omega, fun k => by rw [(cc 58 0 k (by omega)).1, (cm 125 0 k (by omega)).1]; exact hMi.2.2 k⟩, h.Pr.keep (fun i s _ => cc 6 i s (by omega)) (fun K s h1 h2 => cm K 0 s (by omega)), h.Nb.keep (cc 11 0 8 (by omega)).1 (cm 12 0 19 (by omega)).1 (fun s => (cc 56 0 s (by omega)).2.2), ?_, ?_, h.Pc.keep (fun K i s hk => cm K i s (by omega)), h.Fr.keep (cm 12 0 19 (by omega)).1 (fun _ => rfl) (fun _ _ => rfl) (fun K i s hK _ => cc K i s (by unfold isBK at hK; omega)) (fun K i hK _ => (cm K 0 i (by unfold isMK at hK; omega)).1)⟩
  · intro b hb
    rw [(cm 12 0 19 (by omega)).1] at hb
    obtain ⟨F, n, M, Ln, E, hB⟩ := h.Bk b hb
    exact ⟨F, n, M, Ln, E, hB.keep (fun K i k hk => hk) (fun K h1 h2 => (cm K 0 b (by omega)).1) (fun K i s hk => cc K i s (by unfold CBS at hk; omega)) (fun K i s hk => cc K i s (by unfold CTx at hk; omega)) (fun K i s hk => cm K i s (by unfold MTx at hk; omega)) (fun p _ K i s hk => cc K i s (by unfold CPg at hk; omega)) (fun p _ K i s hk => cm K i s (by unfold MPg at hk; omega)) (fun p _ K i s hk => cc K i s (by unfold CPl at hk; omega)) (fun p _ K i s hk => cm K i s (by unfold MPl at hk; omega)) (fun p _ K i s hk => cc K i s (by unfold CFo at hk; omega)) (fun p _ K i s hk => cm K i s (by unfold MFo at hk; omega)) (fun p f _ _ K i s hk => cc K i s (by unfold CPn at hk; omega)) (fun p f _ _ K i s hk => cm K i s (by unfold MPn at hk; omega)) (fun p _ K i s hk => cc K i s (by unfold CSe at hk; omega)) (fun p _ K i s hk => cm K i s (by unfold MSe at hk; omega)) (fun p _ K i s hk => cc K i s (by unfold CSh at hk; omega)) (fun p _ K i s hk => cm K i s (by unfold MSh at hk; omega)) (fun K i s hk => cc K i s (by unfold CLv at hk; omega)) (fun K i s hk => cm K i s (by unfold MLv at hk; omega)) (fun K i s hk => cm K i s (by unfold MPo at hk; omega)) y69 (fun x => by rw [(cm 63 0 x (by omega)).1]; exact Int.le_refl _)⟩
  · refine ⟨fun p hp => ?_, fun p1 p2 h1 h2 => ?_, fun p hp => ?_, fun p hp => ?_, fun k hk => ?_, ?_⟩
    · rw [(cm 122 0 p (by omega)).1]
      rcases hPf.f p hp with z | ⟨b', f', n', z1, z2, z3, z4, z5⟩
      · exact Or.inl z
      · exact Or.inr ⟨b', f', n', by rw [(cm 12 0 19 (by omega)).1]; exact z1, by rw [(cm 74 0 b' (by omega)).1]; exact z2, z3, z4, by rw [(cm 108 0 _ (by omega)).1]; exact z5⟩
    · rw [(cm 122 0 p1 (by omega)).1, (cm 122 0 p2 (by omega)).1]
      exact hPf.u p1 p2 h1 h2
    · rw [(cm 123 0 p (by omega)).1, y2]
      have := hPf.s p hp
      omega
    · rw [(cm 124 0 p (by omega)).1, y2]
      have := hPf.h p hp
      omega
    · rw [(cm 125 0 k (by omega)).1]
      exact hPf.t k hk
    · rw [(cm 12 0 52 (by omega)).1]
      exact hPf.c
theorem RR.old {s t : MM} (h : RR N s t) (w : Nat) (hw : gN t 108 0 w = 2) : gN t 113 0 w ≤ gN t 12 0 69 := by
  have hr := h.Nb.r
  rcases Int.lt_or_le (w : Int) (8 * gN t 12 0 19) with q | q
  · obtain ⟨F, n, M, Ln, E, hB⟩ := h.Bk (w / 8) (by omega)
    rcases Nat.lt_or_ge (w % 8) (2 * n) with z | z
    · have := (hB.ff (w % 8) z).oh
      rw [show 8 * (w / 8) + w % 8 = w by omega] at this
      have := this (by omega)
      omega
    · have := hB.lv.u (w % 8) z (by omega)
      rw [show 8 * (w / 8) + w % 8 = w by omega] at this
      omega
  · have := h.Fr.m 108 w (by unfold isMK; omega) (by
      show ((if 108 ≤ 80 then 1 else if 108 ≤ 90 then 16 else if 108 ≤ 116 then 8 else 4 : Nat) : Int) * gN t 12 0 19 ≤ (w : Int)
      simpa using q)
    omega
theorem pass_all {a : Nat} (ha : a ≤ 70) : ∀ (d k : Nat) (x : Int) (s t : MM), a - k = d → k ≤ a → RR N s t → gN t 12 0 0 = 0 → gN t 12 0 69 + ((a : Int) - k) ≤ 5000 → 0 ≤ x ∧ x ≤ 3 * k → ∃ (e : Int) (s' t' : MM), lpb (fun z : Int × Int × MM => b_X11_pass_43 0 (a : Int) z.1 z.2.1 z.2.2) (x, (k : Int), s) = some (e, s') ∧ lpb (fun z : Int × Int × MM => b_X12_pass_44 0 (a : Int) z.1 z.2.1 z.2.2) (x, (k : Int), t) = some (e, t') ∧ gN t' 12 0 0 = 0 ∧ RR N s' t' := by
  intro d
  induction d with
  | zero =>
    intro k x s t hd hk h h0 h5 hx
    obtain rfl : k = a := by omega
    rw [lpb_eq, lpb_eq]
    simp only
    unfold b_X11_pass_43 b_X12_pass_44
    rw [if_pos (Int.le_refl _), if_pos (Int.le_refl _)]
    exact ⟨x, s, t, rfl, rfl, h0, h⟩
  | succ d ih =>
    intro k x s t hd hk h h0 h5 hx
    have hMi := h.Mi.2.1
    have hRH := h.hour (H := gN t 12 0 69) rfl (by omega)
    have ek : ((k + 1 : Nat) : Int) = (k : Int) + 1 := by omega
    rw [lpb_eq, lpb_eq]
    simp only
    unfold b_X11_pass_43 b_X12_pass_44 f_X11_workAnHour
    rw [if_neg (show ¬ (a : Int) ≤ (k : Int) by omega), if_neg (show ¬ (a : Int) ≤ (k : Int) by omega), hMi.1, hol_c _ hMi.2.1, Option.bind_some]
    by_cases hw : gN t 12 0 69 % 70 < 60
    · rw [if_pos hw, if_pos rfl, nk_of h.C.r4, lenI_of h.C.z57]
      obtain ⟨e, s', t', k1, k2, k3, k4⟩ := work3 (N := N) (x := x) ⟨hMi.2.1, hMi.2.2⟩ hw (by omega) (a : Int) (k : Int) 3 0 0 s t rfl (by omega) (by omega) ⟨hRH, hMi.1, rfl, h0, fun w hw => h.old w hw, fun p' _ hp' => ⟨(h.Pf.s p' hp').2, (h.Pf.h p' hp').2⟩⟩
      have k2' : lpb (fun z : Int × Int × MM => b_X11_workAnHour_25 0 0 ((3 : Nat) : Int) z.1 z.2.1 z.2.2) (0, 0, s) = some (e, s') := k2
      have k3' : lpb (fun z : Int × Int × MM => b_X12_pass_52 0 (a : Int) (k : Int) z.1 z.2.1 z.2.2) (x, 0, t) = some (x + e, t') := by rw [Int.add_zero] at k3; exact k3
      rw [k2', k3', Option.bind_some, Option.bind_some]
      unfold j_X11_workAnHour_0_62 j_X12_pass_44_83
      obtain ⟨j1, j2, j3, j4, j5, j6⟩ := k4
      rw [bI_ok, ck_of ⟨by omega, by omega⟩, j2, ck_of ⟨by omega, by omega⟩, lt_eq, ck_of ⟨by omega, by omega⟩, j3, ck_of ⟨by omega, by omega⟩, lt_eq, ck_of ⟨by omega, by omega⟩]
      have z := ih (k + 1) (x + e) _ _ (by omega) (by omega) j1 (by rw [gN_sN, if_neg (by omega)]; exact j4) (by rw [gN_sN, if_pos ⟨rfl, rfl, rfl⟩]; omega) (by omega)
      rw [ek] at z
      exact z
    · rw [if_neg hw, if_neg (show ¬ (1 : Int) = 0 by decide), bI_ok, ck_of ⟨by omega, by omega⟩, hMi.1, ck_of ⟨by omega, by omega⟩, lt_eq, ck_of ⟨by omega, by omega⟩]
      have k3 : lpb (fun z : Int × Int × MM => b_X12_pass_52 0 (a : Int) (k : Int) z.1 z.2.1 z.2.2) (x, 0, t) = some (x, t) := by
        rw [lpb_eq]
        simp only
        unfold b_X12_pass_52
        rw [if_neg (show ¬ (3 : Int) ≤ 0 by decide), hol_m _ hMi.2.1, Option.bind_some, if_pos (show ¬ (if gN t 12 0 69 / 10 % 7 = 6 then (1 : Int) else 0) = 0 by rw [if_pos (by omega)]; decide), Option.bind_some, Sum.elim_inr]
      rw [k3, Option.bind_some, Sum.elim_inl, Option.bind_some]
      unfold j_X12_pass_44_83
      rw [show gN ((x, t) : Int × MM).2 12 0 69 = gN t 12 0 69 from rfl, ck_of ⟨by omega, by omega⟩, lt_eq, ck_of ⟨by omega, by omega⟩, Option.bind_some, Sum.elim_inl]
      have z := ih (k + 1) x _ _ (by omega) (by omega) hRH (by rw [gN_sN, if_neg (by omega)]; exact h0) (by rw [gN_sN, if_pos ⟨rfl, rfl, rfl⟩]; omega) (by omega)
      rw [ek] at z
      rw [show x + 0 = x by omega]
      exact z
theorem call_pass (h : RR N mc mm) (a : Int) : CalI N (f_X11_pass mc 0 a) (f_X12_pass mm 0 a) [1, 2] := by
  have hMi := h.Mi.2.1
  unfold f_X11_pass f_X12_pass
  rw [isIn_m, Option.bind_some]
  by_cases ha : 1 ≤ a ∧ a ≤ 70
  · rw [if_neg (show ¬ a < 1 by omega), if_neg (show ¬ 70 < a by omega), if_pos ha, if_pos (show ¬ (1 : Int) = 0 by decide)]
    obtain ⟨a, rfl⟩ := Int.ex (show 0 ≤ a by omega)
    unfold j_X11_pass_0_16 j_X12_pass_0_32
    rw [rqA _ (by decide), bV_ok, hMi.1, ck_of ⟨by omega, by omega⟩, ck_of ⟨by omega, by omega⟩]
    by_cases h5 : gN mm 12 0 69 + (a : Int) ≤ 5000
    · rw [if_neg (show ¬ 5000 < gN mm 12 0 69 + (a : Int) by omega), if_pos h5]
      unfold j_X11_pass_0_36
      rw [rqS _ (by decide), bV_ok, holds0, bI_ok, if_pos (show ¬ (1 : Int) = 0 by decide)]
      obtain ⟨e, s', t', e1, e2, e3, e4⟩ := pass_all (N := N) (a := a) (by omega) _ 0 0 mc (sN mm 12 0 0 0) rfl (by omega) (h.thr 0) (gthr _ _) (by rw [gthr' _ _ (Or.inr (by decide))]; omega) (by omega)
      have e1' : lpb (fun z : Int × Int × MM => b_X11_pass_43 0 (a : Int) z.1 z.2.1 z.2.2) (0, 0, mc) = some (e, s') := e1
      have e2' : lpb (fun z : Int × Int × MM => b_X12_pass_44 0 (a : Int) z.1 z.2.1 z.2.2) (0, 0, sN mm 12 0 0 0) = some (e, t') := e2
      rw [e1', e2', Option.bind_some, Option.bind_some]
      exact ⟨_, _, _, _, rfl, rfl, Or.inl ⟨rfl, e3⟩, e4.up (by omega)⟩
    · rw [if_pos (show 5000 < gN mm 12 0 69 + (a : Int) by omega), if_neg h5]
      unfold j_X11_pass_0_36
      rw [rqS0, bV_ex, holds1 _ (by decide), bI_ok, if_neg (show ¬ ¬ (0 : Int) = 0 from fun q => q rfl)]
      exact CalI.bad (k := 1) h rfl rfl rfl
  · rw [if_neg ha, if_neg (show ¬ ¬ (0 : Int) = 0 from fun q => q rfl)]
    have e0 : j_X11_pass_0_16 mc 0 a 0 = some (.inr 1, bX mc) := by unfold j_X11_pass_0_16; rw [rqA0, bV_ex]; rfl
    have m0 : j_X12_pass_0_32 mm 0 a 0 1 = some (.inl (some (aI 0)), sN mm 12 0 0 1) := by unfold j_X12_pass_0_32; rw [holds1 _ (by decide), bI_ok, if_neg (show ¬ ¬ (0 : Int) = 0 from fun q => q rfl)]
    rw [m0]
    by_cases h1 : a < 1
    · rw [if_pos h1]
      exact CalI.bad (k := 0) h e0 rfl rfl
    · rw [if_neg h1, if_pos (show 70 < a by omega)]
      exact CalI.bad (k := 0) h e0 rfl rfl
end PASS
