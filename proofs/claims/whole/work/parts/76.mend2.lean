/-! CORRECT: states, pieces. -/
section CORRECT
variable {N : Nat} {mc mm : MM} {b F n M Ln E : Nat}
theorem cpN_of {X : Type} {m : MM} {K i1 i2 n1 n2 : Nat} {n : Int} {f : MM → Option X} (h1 : gZ m K i1 = some n1) (h2 : gZ m K i2 = some n2) (h : 0 ≤ n ∧ n ≤ n1 ∧ n ≤ n2) : cpN m K i1 0 i2 0 n f = f (cpM m K i1 0 i2 0 n.toNat) := by
  unfold cpN
  rw [lenI_of h1, lenI_of h2, if_pos (by omega)]
  rfl
/-- a new state begins as a copy of the one before -/
def BgW (b F n f ns : Nat) (K i _ : Nat) : Prop := K = 38 ∧ ∃ p, p < 2 * (F * n) ∧ fo F p = f ∧ i = 24 * (16 * b + p) + ns
def BgC (m0 : MM) (b F n f ns j : Nat) (s : MM) : Prop := FrC (BgW b F n f ns) m0 s ∧ ∀ j' k : Nat, j' < j → j' < F → (k : Int) < gN m0 5 (16 * b + fpg F f j') 4 → gN s 38 (24 * (16 * b + fpg F f j') + ns) k = gN m0 38 (24 * (16 * b + fpg F f j') + (ns - 1)) k
theorem bg_loop {m0 : MM} (hP : BP mm b F n M Ln E) (hS : BS m0 b F n M Ln E) {f ns : Nat} (hf : f < 2 * n) (hns : 1 ≤ ns ∧ ns < E) (h7 : gN m0 2 (8 * b + f) 7 = ns) (h5 : ∀ p, p < 2 * (F * n) → 0 ≤ gN m0 5 (16 * b + p) 4 ∧ gN m0 5 (16 * b + p) 4 ≤ ((M * Ln : Nat) : Int)) :
    ∀ (d j : Nat) (s : MM), F - j = d → j ≤ F → BgC m0 b F n f ns j s → ∃ s', lpb (fun s : Int × MM => b_X2_beginStateIfPrinted_54 (8 * b + f) (8 * b + f) ((F : Nat) : Int) s.1 s.2) ((j : Int), s) = some s' ∧ BgC m0 b F n f ns F s' := by
  have q0 := hP.hb
  have q1 := hP.hn
  have q3 := hP.hE
  have hF8 : F ≤ 8 := by rcases hP.hF with z | z | z <;> omega
  intro d
  induction d with
  | zero =>
    intro j s hd hj hK
    obtain rfl : j = F := by omega
    rw [lpb_eq]
    simp only
    unfold b_X2_beginStateIfPrinted_54
    rw [if_pos (show ((j : Nat) : Int) ≤ (j : Int) from Int.le_refl _)]
    exact ⟨s, rfl, hK⟩
  | succ d ih =>
    intro j s hd hj hK
    obtain ⟨g1, g2⟩ := hK
    have hjF : j < F := by omega
    have hpl := fpg_lt (n := n) hP.hF hf hjF
    have hS' : BS s b F n M Ln E := g1.BS hS hP (fun K i s hk q => by unfold CBS at hk; have := q.1; omega)
    have x7 : gN s 2 (8 * b + f) 7 = ns := by rw [(g1.1 2 _ 7 (fun q => absurd q.1 (by decide))).1, h7]
    have x5 : gN s 5 (16 * b + fpg F f j) 4 = gN m0 5 (16 * b + fpg F f j) 4 := (g1.1 5 _ 4 (fun q => absurd q.1 (by decide))).1
    have hb5 := h5 _ hpl
    rw [lpb_eq]
    simp only
    unfold b_X2_beginStateIfPrinted_54 f_X5_beginState
    rw [if_neg (show ¬ ((F : Nat) : Int) ≤ (j : Int) by omega), ldR_of (hS'.z19 f hf) (by omega), tnc, hS'.e19 f j hf hjF, nk_some, nk_of (hS'.p8 _ hpl), x7, if_neg (show ¬ (ns : Int) < 1 by omega), nk_of (hS'.q3 _ hpl), lenI_of (hS'.z37 _ hpl), if_neg (show ¬ (E : Int) ≤ (ns : Int) by omega), nk_of (hS'.q3 _ hpl), ldR_of (hS'.z37 _ hpl) (by omega), show ((ns : Int) - 1).toNat = ns - 1 by omega, hS'.e37 _ _ hpl (by omega), nk_some, nk_of (hS'.q3 _ hpl), ldR_of (hS'.z37 _ hpl) (by omega), tnc, hS'.e37 _ _ hpl (by omega), nk_some, x5, cpN_of (hS'.z38 _ _ hpl (by omega)) (hS'.z38 _ _ hpl (by omega)) (by omega), bV_ok, ck_of ⟨by omega, by omega⟩]
    have hfo := fo_fpg hP.hF (show f < 8 by omega) hjF
    have z := ih (j + 1) (cpM s 38 (24 * (16 * b + fpg F f j) + (ns - 1)) 0 (24 * (16 * b + fpg F f j) + ns) 0 (gN m0 5 (16 * b + fpg F f j) 4).toNat) (by omega) (by omega) ⟨g1.tr ⟨fun K i k hk => ⟨by rw [gN_cpM, if_neg (fun q => hk ⟨q.1, fpg F f j, hpl, hfo, q.2.1⟩)], rfl, rfl⟩, fun _ _ => rfl, fun _ => rfl⟩, fun j' k h1 h2 h3 => by
      rw [gN_cpM]
      by_cases q : j' = j
      · subst q
        rw [if_pos ⟨rfl, rfl, by omega, by omega⟩, show 0 + (k - 0) = k by omega]
        refine (g1.1 38 _ k (fun q => ?_)).1
        obtain ⟨-, p', y1, y2, y3⟩ := q
        omega
      · have e1 := pif_fpg (f := f) hP.hF hjF
        have e2 := pif_fpg (f := f) hP.hF h2
        have hne : fpg F f j' ≠ fpg F f j := fun z => q (by rw [← e1, ← e2, z])
        rw [if_neg (fun z => hne (by have := z.2.1; omega))]
        exact g2 j' k (by omega) h2 h3⟩
    rw [show ((j + 1 : Nat) : Int) = (j : Int) + 1 by omega] at z
    exact z
theorem begin_c {m : MM} (hP : BP mm b F n M Ln E) (hS : BS m b F n M Ln E) {f ns : Nat} (hf : f < 2 * n) (hns : 1 ≤ ns ∧ ns ≤ E) (h7 : gN m 2 (8 * b + f) 7 = ns) (hlt : gN m 26 (8 * b + f) (ns - 1) < gN m 2 (8 * b + f) 6 → ns < E) (h5 : ∀ p, p < 2 * (F * n) → 0 ≤ gN m 5 (16 * b + p) 4 ∧ gN m 5 (16 * b + p) 4 ≤ ((M * Ln : Nat) : Int)) :
    ∃ s', f_X2_beginStateIfPrinted m (8 * b + f) = some (.inl none, s') ∧ ((gN m 2 (8 * b + f) 6 ≤ gN m 26 (8 * b + f) (ns - 1) ∧ s' = m) ∨ (gN m 26 (8 * b + f) (ns - 1) < gN m 2 (8 * b + f) 6 ∧ ∃ s1, BgC (sN m 26 (8 * b + f) ns (gN m 2 (8 * b + f) 6)) b F n f ns F s1 ∧ s' = sN s1 2 (8 * b + f) 7 ((ns : Int) + 1))) := by
  have q3 := hP.hE
  unfold f_X2_beginStateIfPrinted
  rw [nk_of (hS.o2 f hf), h7, ldN_of (hS.z26 f hf) (by omega), show ((ns : Int) - 1).toNat = ns - 1 by omega]
  by_cases q : gN m 2 (8 * b + f) 6 ≤ gN m 26 (8 * b + f) (ns - 1)
  · rw [if_pos q]
    exact ⟨m, rfl, Or.inl ⟨q, rfl⟩⟩
  · have hnsE := hlt (by omega)
    rw [if_neg q, nk_of (hS.o2 f hf), lenI_of (hS.z26 f hf), if_pos (show (ns : Int) < (E : Int) by omega), nk_of (hS.o2 f hf), stN_of (hS.z26 f hf) (by omega), tnc]
    have hS' : BS (sN m 26 (8 * b + f) ns (gN m 2 (8 * b + f) 6)) b F n M Ln E := hS.keep hP (fun K i s hk => eq3.sN (by unfold CBS at hk; omega)) (fun _ _ _ q => q)
    obtain ⟨s1, e1, e2⟩ := bg_loop hP hS' hf ⟨hns.1, hnsE⟩ (by rw [gN_sN, if_neg (by omega), h7]) (fun p hp => by rw [gN_sN, if_neg (by omega)]; exact h5 p hp) _ 0 _ rfl (by omega) ⟨FrC.rf, fun j' k h1 _ _ => by omega⟩
    have e1' : lpb (fun s : Int × MM => b_X2_beginStateIfPrinted_54 (8 * b + f) (8 * b + f) ((F : Nat) : Int) s.1 s.2) (0, sN m 26 (8 * b + f) ns (gN m 2 (8 * b + f) 6)) = some s1 := e1
    rw [nk_of (hS'.o0 f hf), lenI_of (hS'.z19 f hf), e1', Option.bind_some]
    unfold j_X2_beginStateIfPrinted_0_82
    have x7 : gN s1 2 (8 * b + f) 7 = ns := by rw [(e2.1.1 2 _ 7 (fun q => absurd q.1 (by decide))).1, gN_sN, if_neg (by omega), h7]
    rw [x7, ck_of ⟨by omega, by omega⟩, lt_eq]
    exact ⟨_, rfl, Or.inr ⟨by omega, s1, e2, rfl⟩⟩
/-- a piece in a place makes room for another -/
theorem replace_c {m : MM} (hP : BP mm b F n M Ln E) (hS : BS m b F n M Ln E) (hC : SC m) {p k0 st d x : Nat} {ow : Int} (hp : p < 2 * (F * n)) (hk0 : k0 < M * Ln) (hst : st < E) (hw : gN m 34 (16 * b + p) k0 = d) (hd : d < 28) (hx : gN m 24 0 d = x) (hx4 : x < 400) {y : Int} (hy : gN m 35 (16 * b + p) k0 = y) (hyb : y = -1 ∨ ∃ yn dy : Nat, yn < 400 ∧ dy < 28 ∧ y = yn ∧ gN m 20 0 yn = dy) :
    ∃ m9, ((y = -1 ∧ m9 = sN (sN m 24 0 d (gN m 23 0 x)) 22 0 x ow) ∨ ∃ yn dy : Nat, yn < 400 ∧ dy < 28 ∧ y = yn ∧ gN m 20 0 yn = dy ∧ m9 = pOn (sN (sN m 24 0 d (gN m 23 0 x)) 22 0 x ow) 22 23 24 dy yn) ∧ f_X5_replace m (16 * b + p) (k0 : Int) (st : Int) 0 ow = some (.inl none, sN (sN (sN m9 35 (16 * b + p) k0 x) 36 (16 * b + p) k0 0) 38 (24 * (16 * b + p) + st) k0 (gN m 20 0 x)) := by
  have hC3 : SC (sN (sN m 24 0 d (gN m 23 0 x)) 22 0 x ow) := hC.mv2 (fun _ _ _ _ => rfl) (fun _ _ _ q => q)
  have hS3 : BS (sN (sN m 24 0 d (gN m 23 0 x)) 22 0 x ow) b F n M Ln E := hS.keep hP (fun K i s hk => (eq3.sN (by unfold CBS at hk; omega)).tr (eq3.sN (by unfold CBS at hk; omega))) (fun _ _ _ q => q)
  have y35 : gN (sN (sN m 24 0 d (gN m 23 0 x)) 22 0 x ow) 35 (16 * b + p) k0 = y := by rw [gN_sN, if_neg (by omega), gN_sN, if_neg (by omega), hy]
  have tk : f_X1_take m 0 (d : Int) ow = some (.inl (some (aI (x : Int))), sN (sN m 24 0 d (gN m 23 0 x)) 22 0 x ow) := by
    unfold f_X1_take
    rw [nk_of hC.c4, ldN_of hC.z24 (by omega), tnc, hx, if_neg (show ¬ (x : Int) = -1 by omega), nk_of hC.c4, nk_of hC.c3, ldN_of hC.z23 (by omega), tnc, stN_of hC.z24 (by omega), tnc]
    have hC1 : SC (sN m 24 0 d (gN m 23 0 x)) := hC.mv2 (fun _ _ _ _ => rfl) (fun _ _ _ q => q)
    rw [nk_of hC1.c2, stN_of hC1.z22 (by omega), tnc]
  have fin : ∀ m9, BS m9 b F n M Ln E → SC m9 → gN m9 20 0 x = gN m 20 0 x → j_X5_replace_0_48 m9 (16 * b + p) (k0 : Int) (st : Int) 0 (x : Int) = some (.inl none, sN (sN (sN m9 35 (16 * b + p) k0 x) 36 (16 * b + p) k0 0) 38 (24 * (16 * b + p) + st) k0 (gN m 20 0 x)) := fun m9 hS9 hC9 h20 => by
    unfold j_X5_replace_0_48
    rw [nk_of (hS9.q1 p hp), stN_of (hS9.z35 p hp) (by omega), tnc]
    have hS10 : BS (sN m9 35 (16 * b + p) k0 (x : Int)) b F n M Ln E := hS9.keep hP (fun K i s hk => eq3.sN (by unfold CBS at hk; omega)) (fun _ _ _ q => q)
    rw [nk_of (hS10.q2 p hp), stN_of (hS10.z36 p hp) (by omega), tnc]
    have hS11 : BS (sN (sN m9 35 (16 * b + p) k0 (x : Int)) 36 (16 * b + p) k0 0) b F n M Ln E := hS10.keep hP (fun K i s hk => eq3.sN (by unfold CBS at hk; omega)) (fun _ _ _ q => q)
    have hC11 : SC (sN (sN m9 35 (16 * b + p) k0 (x : Int)) 36 (16 * b + p) k0 0) := hC9.mv2 (fun _ _ _ _ => rfl) (fun _ _ _ q => q)
    have y20 : gN (sN (sN m9 35 (16 * b + p) k0 (x : Int)) 36 (16 * b + p) k0 0) 20 0 x = gN m 20 0 x := by rw [gN_sN, if_neg (by omega), gN_sN, if_neg (by omega), h20]
    rw [nk_of (hS11.q3 p hp), ldR_of (hS11.z37 p hp) (by omega), tnc, hS11.e37 p st hp hst, nk_some, nk_of hC11.c0, ldN_of hC11.z20 (by omega), tnc, y20, stN_of (hS11.z38 p st hp hst) (by omega), tnc]
  unfold f_X5_replace
  rw [nk_of (hS.q0 p hp), ldN_of (hS.z34 p hp) (by omega), tnc, hw, tk, bI_ok, nk_of (hS3.q1 p hp), ldN_of (hS3.z35 p hp) (by omega), tnc, y35, if_pos (show ¬ (x : Int) = -1 by omega)]
  rcases hyb with hy1 | ⟨yn, dy, a1, a2, a3, a4⟩
  · rw [if_pos hy1, fin _ hS3 hC3 (by rw [gN_sN, if_neg (by omega), gN_sN, if_neg (by omega)])]
    exact ⟨_, Or.inl ⟨hy1, rfl⟩, rfl⟩
  · have y20 : gN (sN (sN m 24 0 d (gN m 23 0 x)) 22 0 x ow) 20 0 yn = dy := by rw [gN_sN, if_neg (by omega), gN_sN, if_neg (by omega), a4]
    rw [if_neg (show ¬ y = -1 by omega), nk_of hC3.c0, a3, ldN_of hC3.z20 (by omega), tnc, y20, putOn_c hC3 a2 a1, bV_ok, fin (pOn (sN (sN m 24 0 d (gN m 23 0 x)) 22 0 x ow) 22 23 24 dy yn) (hS3.keep hP (fun K i s hk => ((eq3.sN (by unfold CBS at hk; omega)).tr (eq3.sN (by unfold CBS at hk; omega))).tr (eq3.sN (by unfold CBS at hk; omega))) (fun _ _ _ q => q)) (hC3.mv2 (fun _ _ _ _ => rfl) (fun _ _ _ q => q)) (by simp [pOn, gN_sN])]
    exact ⟨_, Or.inr ⟨yn, dy, a1, a2, rfl, a4, rfl⟩, rfl⟩
theorem c333 {t : MM} (hM : SM t) {idx w x c ns' : Nat} (hidx : idx < 7200) (hw : w < 24) (hx : x < 400) (hc : gN t 12 0 52 = c) (hc2 : c < 2000) (hns : gN t 111 0 w = ns') (h1 : 1 ≤ ns' ∧ ns' ≤ 25) :
    j_X12_correct_0_333 t 0 (idx : Int) (w : Int) (x : Int) = some (.inl (some (aI ((ns' : Int) - 1))), sN (sN (sN (sN t 105 0 c (idx : Int)) 106 0 c ((ns' : Int) - 1)) 107 0 c (gN t 62 0 x)) 12 0 52 ((c : Int) + 1)) := by
  unfold j_X12_correct_0_333
  rw [nk_of hM.r53, hc, stN_of hM.z105 (by omega), tnc]
  have hM1 : SM (sN t 105 0 c (idx : Int)) := hM.mv (fun _ => rfl) (fun _ _ _ q => q)
  have y52 : gN (sN t 105 0 c (idx : Int)) 12 0 52 = c := by rw [gN_sN, if_neg (by omega), hc]
  have y111 : gN (sN t 105 0 c (idx : Int)) 111 0 w = ns' := by rw [gN_sN, if_neg (by omega), hns]
  rw [nk_of hM1.r54, nk_of hM1.r59, ldN_of hM1.z111 (by omega), tnc, y111, ck_of ⟨by omega, by omega⟩, y52, stN_of hM1.z106 (by omega), tnc]
  have hM2 : SM (sN (sN t 105 0 c (idx : Int)) 106 0 c ((ns' : Int) - 1)) := hM1.mv (fun _ => rfl) (fun _ _ _ q => q)
  have z52 : gN (sN (sN t 105 0 c (idx : Int)) 106 0 c ((ns' : Int) - 1)) 12 0 52 = c := by rw [gN_sN, if_neg (by omega), y52]
  have z62 : gN (sN (sN t 105 0 c (idx : Int)) 106 0 c ((ns' : Int) - 1)) 62 0 x = gN t 62 0 x := by rw [gN_sN, if_neg (by omega), gN_sN, if_neg (by omega)]
  rw [nk_of hM2.r55, nk_of hM2.r46, ldN_of hM2.z99 (by omega), tnc]
  unfold f_X12_printOf j_X12_printOf_0_30
  rw [if_pos (show ¬ (x : Int) = -1 by omega), if_pos (show ¬ (0 : Int) = 1 by decide), nk_of hM2.r7, ldN_of hM2.z62 (by omega), tnc, z62, Option.bind_some, z52, stN_of hM2.z107 (by omega), tnc]
  have hM3 : SM (sN (sN (sN t 105 0 c (idx : Int)) 106 0 c ((ns' : Int) - 1)) 107 0 c (gN t 62 0 x)) := hM2.mv (fun _ => rfl) (fun _ _ _ q => q)
  have v52 : gN (sN (sN (sN t 105 0 c (idx : Int)) 106 0 c ((ns' : Int) - 1)) 107 0 c (gN t 62 0 x)) 12 0 52 = c := by rw [gN_sN, if_neg (by omega), z52]
  rw [v52, ck_of ⟨by omega, by omega⟩, lt_eq]
  have hM4 : SM (sN (sN (sN (sN t 105 0 c (idx : Int)) 106 0 c ((ns' : Int) - 1)) 107 0 c (gN t 62 0 x)) 12 0 52 ((c : Int) + 1)) := hM3.mv (fun _ => rfl) (fun _ _ _ q => q)
  have v111 : gN (sN (sN (sN (sN t 105 0 c (idx : Int)) 106 0 c ((ns' : Int) - 1)) 107 0 c (gN t 62 0 x)) 12 0 52 ((c : Int) + 1)) 111 0 w = ns' := by rw [gN_sN, if_neg (by omega), gN_sN, if_neg (by omega), gN_sN, if_neg (by omega), y111]
  rw [nk_of hM4.r59, ldN_of hM4.z111 (by omega), tnc, v111, ck_of ⟨by omega, by omega⟩]
theorem c234 {t : MM} (hM : SM t) {b p idx w x c ns ns' : Nat} (hbp : b < 3 ∧ p < 16) (hidx : idx < 7200) (hw : w < 24) (hx : x < 400) (hc : gN t 12 0 52 = c) (hc2 : c < 2000) (hns : gN t 111 0 w = ns) (h1 : 1 ≤ ns ∧ ns' ≤ 24) (hlt : (gN t 110 0 w ≤ gN t 112 0 (26 * w + (ns - 1)) ∧ ns' = ns) ∨ (gN t 112 0 (26 * w + (ns - 1)) < gN t 110 0 w ∧ ns' = ns + 1)) :
    ∃ t2, ((ns' = ns ∧ t2 = sN (sN (sN t 100 0 idx (x : Int)) 101 0 idx 0) 64 0 x (100 + 100 * (b : Int) + (p : Int))) ∨ (ns' = ns + 1 ∧ t2 = sN (sN (sN (sN (sN t 100 0 idx (x : Int)) 101 0 idx 0) 64 0 x (100 + 100 * (b : Int) + (p : Int))) 112 0 (26 * w + ns) (gN t 110 0 w)) 111 0 w ((ns : Int) + 1))) ∧
      j_X12_correct_0_234 t 0 (b : Int) (p : Int) (idx : Int) (w : Int) (x : Int) = some (.inl (some (aI ((ns' : Int) - 1))), sN (sN (sN (sN t2 105 0 c (idx : Int)) 106 0 c ((ns' : Int) - 1)) 107 0 c (gN t 62 0 x)) 12 0 52 ((c : Int) + 1)) := by
  unfold j_X12_correct_0_234
  rw [nk_of hM.r47, stN_of hM.z100 (by omega), tnc]
  have hM1 : SM (sN t 100 0 idx (x : Int)) := hM.mv (fun _ => rfl) (fun _ _ _ q => q)
  rw [nk_of hM1.r48, stN_of hM1.z101 (by omega), tnc]
  have hM2 : SM (sN (sN t 100 0 idx (x : Int)) 101 0 idx 0) := hM1.mv (fun _ => rfl) (fun _ _ _ q => q)
  rw [nk_of hM2.r9, ck_of ⟨by omega, by omega⟩, stN_of hM2.z64 (by omega), tnc]
  have hM3 : SM (sN (sN (sN t 100 0 idx (x : Int)) 101 0 idx 0) 64 0 x (100 + 100 * (b : Int) + (p : Int))) := hM2.mv (fun _ => rfl) (fun _ _ _ q => q)
  have yK : ∀ K k, K ≠ 100 → K ≠ 101 → K ≠ 64 → gN (sN (sN (sN t 100 0 idx (x : Int)) 101 0 idx 0) 64 0 x (100 + 100 * (b : Int) + (p : Int))) K 0 k = gN t K 0 k := fun K k h1 h2 h3 => by rw [gN_sN, if_neg (by omega), gN_sN, if_neg (by omega), gN_sN, if_neg (by omega)]
  generalize hg : sN (sN (sN t 100 0 idx (x : Int)) 101 0 idx 0) 64 0 x (100 + 100 * (b : Int) + (p : Int)) = t3 at *
  have y110 := yK 110 w (by decide) (by decide) (by decide)
  have y111 := yK 111 w (by decide) (by decide) (by decide)
  have y112 := yK 112 (26 * w + (ns - 1)) (by decide) (by decide) (by decide)
  rw [hns] at y111
  rw [nk_of hM3.r58, ldN_of hM3.z110 (by omega), tnc, y110, nk_of hM3.r60, nk_of hM3.r59, ldN_of hM3.z111 (by omega), tnc, y111, ldN_of hM3.z112 (by omega), show (26 * (w : Int) + (ns : Int) - 1).toNat = 26 * w + (ns - 1) by omega, y112]
  rcases hlt with ⟨a1, a2⟩ | ⟨a1, a2⟩
  · rw [if_pos a1, c333 hM3 hidx hw hx (by rw [yK 12 52 (by decide) (by decide) (by decide), hc]) hc2 y111 (by omega), yK 62 x (by decide) (by decide) (by decide), a2]
    exact ⟨t3, Or.inl ⟨rfl, rfl⟩, rfl⟩
  · rw [if_neg (show ¬ gN t 110 0 w ≤ gN t 112 0 (26 * w + (ns - 1)) by omega), nk_of hM3.r60, nk_of hM3.r59, ldN_of hM3.z111 (by omega), tnc, y111, nk_of hM3.r58, ldN_of hM3.z110 (by omega), tnc, y110, stN_of hM3.z112 (by omega), show (26 * (w : Int) + (ns : Int)).toNat = 26 * w + ns by omega]
    have hM4 : SM (sN t3 112 0 (26 * w + ns) (gN t 110 0 w)) := hM3.mv (fun _ => rfl) (fun _ _ _ q => q)
    have z111 : gN (sN t3 112 0 (26 * w + ns) (gN t 110 0 w)) 111 0 w = ns := by rw [gN_sN, if_neg (by omega), y111]
    rw [nk_of hM4.r59, ldN_of hM4.z111 (by omega), tnc, z111, ck_of ⟨by omega, by omega⟩, stN_of hM4.z111 (by omega), tnc]
    have hM5 : SM (sN (sN t3 112 0 (26 * w + ns) (gN t 110 0 w)) 111 0 w ((ns : Int) + 1)) := hM4.mv (fun _ => rfl) (fun _ _ _ q => q)
    rw [c333 (ns' := ns') hM5 hidx hw hx (by rw [gN_sN, if_neg (by omega), gN_sN, if_neg (by omega), yK 12 52 (by decide) (by decide) (by decide), hc]) hc2 (by rw [gN_sN, if_pos ⟨rfl, rfl, rfl⟩]; omega) (by omega), gN_sN, if_neg (by omega), gN_sN, if_neg (by omega), yK 62 x (by decide) (by decide) (by decide)]
    exact ⟨_, Or.inr ⟨a2, rfl⟩, rfl⟩
end CORRECT
