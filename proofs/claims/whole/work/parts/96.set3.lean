/-! SET: a line takes a word. -/
section SET
variable {N : Nat} {mc mm : MM} {b F n M Ln E q d : Nat}
theorem WlC.sc {L T K i k : Nat} (h : WlC q d L T K i k) : ScW q d K i k := by
  rcases h with h | h | h | h
  · exact Or.inl ⟨h.1, h.2.1, by omega⟩
  · exact Or.inr (Or.inl ⟨by omega, by omega, h.2.2.1⟩)
  · exact Or.inr (Or.inl ⟨by omega, by omega, h.2.1⟩)
  · exact Or.inr (Or.inr h)
theorem WlM.sm {L T K i k : Nat} (hL : L < 6) (h : WlM q d L T K i k) : SmW q d K i k := by
  rcases h with h | h | h | h
  · exact Or.inr (Or.inl ⟨by omega, by omega, h.2⟩)
  · exact Or.inr (Or.inr (Or.inl ⟨by omega, by omega, h.2.1, by omega, by omega⟩))
  · exact Or.inr (Or.inr (Or.inr (Or.inl ⟨by omega, by omega, h.2.2.1, by omega, by omega⟩)))
  · exact Or.inr (Or.inr (Or.inr (Or.inr h)))
set_option maxHeartbeats 4000000 in
theorem step_eq (h : RR N mc mm) (hB : RBk mc mm b F n M Ln E) {p : Nat} (hp : p < 2 * (F * n)) (hq : q = 16 * b + p) (hd : (d : Int) < gN mm 12 0 12) {To : Nat} (hTo : (To : Int) ≤ gN mm 80 0 b) {s1 t1 s t : MM} (hF1 : Fsc q d mc s1) (hG1 : Fsm q d mm t1) {Fr A L T c j : Nat} {used H0 cr : Int} (hL : L < Ln) (hcr : gN s1 4 q 14 = cr) (hH0 : 0 ≤ H0 ∧ H0 ≤ 10000000) (hU : LU mc mm s1 t1 s t b q d Fr To M A L T c j used 0 H0) (hj : j < To) :
    (∃ (j' : Nat) (used' g' st' : Int) (s' t' : MM), b_X4_takeLine_29 q b d (L : Int) (To : Int) ((M : Int) - used) 1 (c : Int) s = some (.inl ((M : Int) - used', g', ((c + 1 : Nat) : Int), s')) ∧ b_X12_laysLines_88 0 (b : Int) (q : Int) (d : Int) (To : Int) cr ((6 * q + L : Nat) : Int) (j : Int) used 0 t = some (.inl ((j' : Int), used', st', t')) ∧ (g' = 0 ∨ g' = 1) ∧ (st' = 0 ∨ st' = 1) ∧ (st' = 0 ↔ g' = 1 ∧ j' < To) ∧ j < j' ∧ LU mc mm s1 t1 s' t' b q d Fr To M A L T (c + 1) j' used' 0 H0) ∨
    (1 ≤ c ∧ ∃ s' t', b_X4_takeLine_29 q b d (L : Int) (To : Int) ((M : Int) - used) 1 (c : Int) s = some (.inl ((M : Int) - used, 0, ((c + 1 : Nat) : Int), s')) ∧ b_X12_laysLines_88 0 (b : Int) (q : Int) (d : Int) (To : Int) cr ((6 * q + L : Nat) : Int) (j : Int) used 0 t = some (.inl ((j : Int), used, 1, t')) ∧ LU mc mm s1 t1 s' t' b q d Fr To M A L T c j used 1 H0) := by
  subst hq
  have hP := hB.hP
  have q0 := hP.hb
  have q1 := hP.hn
  have q2 := hP.hL
  have qM := hP.hM
  have hcnt := hB.tx.cnt
  have hH4 := h.H.1
  have hq48 : 16 * b + p < 48 := by omega
  have hL6 : L < 6 := by omega
  have hFs : Fsc (16 * b + p) d mc s := hF1.tr (hU.fs.sub (fun K i k z => z.sc))
  have hFt : Fsm (16 * b + p) d mm t := hG1.tr (hU.ft.sub (fun K i k z => z.sm hL6))
  have hSs := hFs.S hB
  have hMt := hFt.Md h.M
  have hPt := hFt.P hB
  have ub := hU.ub
  have jw := hU.jw
  have hdd := hU.hd
  have hTc : T + c < 60 := by omega
  obtain ⟨W, hW⟩ : ∃ W, W = T + c := ⟨_, rfl⟩
  have scr : gN s 4 (16 * b + p) 14 = cr := by rw [(hU.fs.1 4 (16 * b + p) 14 (by unfold WlC; omega)).1]; exact hcr
  -- the gap ahead of the word
  obtain ⟨gap, hgap, hg0⟩ : ∃ gap : Int, gap = (if c = 0 then 0 else 1) ∧ (0 ≤ gap ∧ gap ≤ 1) := ⟨_, rfl, by split <;> omega⟩
  have hg1 : c = 0 → gap = 0 := fun z => by rw [hgap, if_pos z]
  have hg2 : c ≠ 0 → gap = 1 := fun z => by rw [hgap, if_neg z]
  have ec : b_X4_takeLine_29 (16 * b + p) b d (L : Int) (To : Int) ((M : Int) - used) 1 (c : Int) s = j_X4_takeLine_29_73 s (16 * b + p) b d (L : Int) (To : Int) ((M : Int) - used) (c : Int) ((M : Int) - used - gap) := by
    unfold b_X4_takeLine_29
    rw [if_neg (by omega), if_neg (show ¬ (1 : Int) = 0 by decide), hU.nx, if_neg (by omega), hU.w1, if_neg (by omega)]
    by_cases z : c = 0
    · rw [if_neg (show ¬ ¬ (c : Int) = 0 from fun y => y (by omega)), hg1 z, Int.sub_zero]
    · rw [if_pos (show ¬ (c : Int) = 0 by omega), ck_of ⟨by omega, by omega⟩, hg2 z]
  have em : b_X12_laysLines_88 0 (b : Int) ((16 * b + p : Nat) : Int) (d : Int) (To : Int) cr ((6 * (16 * b + p) + L : Nat) : Int) (j : Int) used 0 t = j_X12_laysLines_88_108 t 0 (b : Int) ((16 * b + p : Nat) : Int) (d : Int) (To : Int) cr (j : Int) ((6 * (16 * b + p) + L : Nat) : Int) used gap := by
    unfold b_X12_laysLines_88
    rw [if_neg (show ¬ ¬ (0 : Int) = 0 from fun y => y rfl), nk_of hMt.r39, ldN_of hMt.z92 (by omega), tnc, hU.y92]
    by_cases z : c = 0
    · rw [if_pos (by omega), hg1 z]
    · rw [if_neg (by omega), hg2 z]
  obtain ⟨v, w, hv, hw, e1, e2, e3⟩ := sel_eq h hB hFs hFt hd (j := j) (by omega) (room := (M : Int) - used - gap) (used := used) (gap := gap) scr rfl (by omega) (l2 := ((16 * b + p : Nat) : Int)) (l3 := (d : Int)) (l5 := (To : Int)) (l7 := (j : Int)) (l8 := ((6 * (16 * b + p) + L : Nat) : Int)) rfl rfl
  rw [ec, em, e3]
  have hk8 := hw.lw.2
  generalize hk : mln w = k at *
  have lc : f_X11_letters s (if v = 0 then gL mc 46 b j else gL mc 47 b j) = some (k : Int) := by rw [hw.len_c, hk]
  have lm : ∀ m : MM, f_X12_letters m w = some (k : Int) := fun m => by rw [hw.len_m, hk]
  have t75 : gN t 75 0 b = M := hPt.m
  unfold j_X4_takeLine_29_73 j_X12_laysLines_88_153
  rw [hU.nx, e1, Option.bind_some, e2, Option.bind_some, lc, Option.bind_some, nk_of (hSs.p7 p hp), lm, Option.bind_some, nk_of hMt.r22, ldN_of hMt.z75 (by omega), tnc, t75, ck_of ⟨by omega, by omega⟩]
  by_cases hfit : (k : Int) ≤ (M : Int) - used - gap
  · -- the word is set
    rw [if_pos hfit, if_pos (by omega)]
    have hw60 : W < 60 := by omega
    have w1' : gN s 4 (16 * b + p) 10 = (W : Int) := by rw [hU.w1, hW]
    have w2' : gN t 89 0 (16 * b + p) = (W : Int) := by rw [hU.w2, hW]
    -- the class
    have hS9 : BS (sN s 33 (16 * b + p) L 0) b F n M Ln E := hSs.keep hP (fun K i k z => eq3.sN (by unfold CBS at z; omega)) (fun _ _ _ z => z)
    have hS10 : BS (sN (sN s 33 (16 * b + p) L 0) 27 (16 * b + p) W (j : Int)) b F n M Ln E := hS9.keep hP (fun K i k z => eq3.sN (by unfold CBS at z; omega)) (fun _ _ _ z => z)
    have hS11 : BS (sN (sN (sN s 33 (16 * b + p) L 0) 27 (16 * b + p) W (j : Int)) 28 (16 * b + p) W v) b F n M Ln E := hS10.keep hP (fun K i k z => eq3.sN (by unfold CBS at z; omega)) (fun _ _ _ z => z)
    have hv01 : v = 0 ∨ v = 1 := by rcases hv with z | z; exact Or.inl z; exact Or.inr z.1
    have ea : f_X4_addWord (sN s 33 (16 * b + p) L 0) (16 * b + p) (j : Int) v = some (.inl none, sN (sN (sN (sN (sN s 33 (16 * b + p) L 0) 27 (16 * b + p) W (j : Int)) 28 (16 * b + p) W v) 29 (16 * b + p) W 1) 4 (16 * b + p) 10 ((W : Int) + 1)) := by
      unfold f_X4_addWord
      rw [nk_of (hS9.p1 p hp), gN_sN, if_neg (by omega), w1', stN_of (hS9.z27 p hp) (by omega), tnc, nk_of (hS10.p2 p hp), cb_of hv01, gN_sN, if_neg (by omega), gN_sN, if_neg (by omega), w1', stN_of (hS10.z28 p hp) (by omega), tnc, nk_of (hS11.p3 p hp), gN_sN, if_neg (by omega), gN_sN, if_neg (by omega), gN_sN, if_neg (by omega), w1', stN_of (hS11.z29 p hp) (by omega), tnc, gN_sN, if_neg (by omega), gN_sN, if_neg (by omega), gN_sN, if_neg (by omega), gN_sN, if_neg (by omega), w1', ck_of ⟨by omega, by omega⟩, lt_eq]
    generalize hs3 : sN (sN (sN (sN (sN s 33 (16 * b + p) L 0) 27 (16 * b + p) W (j : Int)) 28 (16 * b + p) W v) 29 (16 * b + p) W 1) 4 (16 * b + p) 10 ((W : Int) + 1) = s3 at ea
    have F3 : FrC (WlC (16 * b + p) d L T) s s3 := by
      rw [← hs3]
      refine ((((FrC.rf.sN ?_).sN ?_).sN ?_).sN ?_).sN ?_
      · exact Or.inr (Or.inr (Or.inl ⟨rfl, rfl, rfl⟩))
      · exact Or.inr (Or.inl ⟨by omega, by omega, rfl, by omega⟩)
      · exact Or.inr (Or.inl ⟨by omega, by omega, rfl, by omega⟩)
      · exact Or.inr (Or.inl ⟨by omega, by omega, rfl, by omega⟩)
      · exact Or.inl ⟨rfl, rfl, Or.inl rfl⟩
    have c10 : gN s3 4 (16 * b + p) 10 = (W : Int) + 1 := by rw [← hs3, gN_sN, if_pos ⟨rfl, rfl, rfl⟩]
    have c12 : gN s3 4 (16 * b + p) 12 = j := by rw [← hs3, gN_sN, if_neg (by omega), gN_sN, if_neg (by omega), gN_sN, if_neg (by omega), gN_sN, if_neg (by omega), gN_sN, if_neg (by omega), hU.nx]
    have c33 : gN s3 33 (16 * b + p) L = 0 := by rw [← hs3, gN_sN, if_neg (by omega), gN_sN, if_neg (by omega), gN_sN, if_neg (by omega), gN_sN, if_neg (by omega), gN_sN, if_pos ⟨rfl, rfl, rfl⟩]
    have c27 : ∀ k, gN s3 27 (16 * b + p) k = if k = W then (j : Int) else gN s 27 (16 * b + p) k := fun k => by
      rw [← hs3, gN_sN, if_neg (by omega), gN_sN, if_neg (by omega), gN_sN, if_neg (by omega), gN_sN]
      by_cases z : k = W
      · rw [if_pos ⟨rfl, rfl, z⟩, if_pos z]
      · rw [if_neg (fun y => z y.2.2), if_neg z, gN_sN, if_neg (by omega)]
    have c28 : ∀ k, gN s3 28 (16 * b + p) k = if k = W then v else gN s 28 (16 * b + p) k := fun k => by
      rw [← hs3, gN_sN, if_neg (by omega), gN_sN, if_neg (by omega), gN_sN]
      by_cases z : k = W
      · rw [if_pos ⟨rfl, rfl, z⟩, if_pos z]
      · rw [if_neg (fun y => z y.2.2), if_neg z, gN_sN, if_neg (by omega), gN_sN, if_neg (by omega)]
    have c29 : ∀ k, gN s3 29 (16 * b + p) k = if k = W then 1 else gN s 29 (16 * b + p) k := fun k => by
      rw [← hs3, gN_sN, if_neg (by omega), gN_sN]
      by_cases z : k = W
      · rw [if_pos ⟨rfl, rfl, z⟩, if_pos z]
      · rw [if_neg (fun y => z y.2.2), if_neg z, gN_sN, if_neg (by omega), gN_sN, if_neg (by omega), gN_sN, if_neg (by omega)]
    have c3 : gN s3 3 d 3 = gN t 70 0 d := by rw [← hs3, gN_sN, if_neg (by omega), gN_sN, if_neg (by omega), gN_sN, if_neg (by omega), gN_sN, if_neg (by omega), gN_sN, if_neg (by omega)]; exact hdd.1
    have hFs3 : Fsc (16 * b + p) d mc s3 := hFs.tr (F3.sub (fun K i k z => z.sc))
    have hSs3 := hFs3.S hB
    -- the model
    have eI : (60 * ((16 * b + p : Nat) : Int) + (W : Int)).toNat = 60 * (16 * b + p) + W := by omega
    have hM1 : SM (sN t 95 0 (60 * (16 * b + p) + W) (j : Int)) := hMt.mv (fun _ => rfl) (fun _ _ _ z => z)
    have hM2 : SM (sL (sN t 95 0 (60 * (16 * b + p) + W) (j : Int)) 96 0 (60 * (16 * b + p) + W) w) := hM1.mv (fun _ => rfl) (fun _ _ _ z => z)
    have hM3 : SM (sN (sL (sN t 95 0 (60 * (16 * b + p) + W) (j : Int)) 96 0 (60 * (16 * b + p) + W) w) 97 0 (60 * (16 * b + p) + W) gap) := hM2.mv (fun _ => rfl) (fun _ _ _ z => z)
    have hM4 : SM (sN (sN (sL (sN t 95 0 (60 * (16 * b + p) + W) (j : Int)) 96 0 (60 * (16 * b + p) + W) w) 97 0 (60 * (16 * b + p) + W) gap) 89 0 (16 * b + p) ((W : Int) + 1)) := hM3.mv (fun _ => rfl) (fun _ _ _ z => z)
    have m89 : gN (sN (sL (sN t 95 0 (60 * (16 * b + p) + W) (j : Int)) 96 0 (60 * (16 * b + p) + W) w) 97 0 (60 * (16 * b + p) + W) gap) 89 0 (16 * b + p) = (W : Int) := by rw [gN_sN, if_neg (by omega), gN_sL, gN_sN, if_neg (by omega), w2']
    have m92 : gN (sN (sN (sL (sN t 95 0 (60 * (16 * b + p) + W) (j : Int)) 96 0 (60 * (16 * b + p) + W) w) 97 0 (60 * (16 * b + p) + W) gap) 89 0 (16 * b + p) ((W : Int) + 1)) 92 0 (6 * (16 * b + p) + L) = c := by rw [gN_sN, if_neg (by omega), gN_sN, if_neg (by omega), gN_sL, gN_sN, if_neg (by omega), hU.y92]
    generalize ht3 : sN (sN (sN (sL (sN t 95 0 (60 * (16 * b + p) + W) (j : Int)) 96 0 (60 * (16 * b + p) + W) w) 97 0 (60 * (16 * b + p) + W) gap) 89 0 (16 * b + p) ((W : Int) + 1)) 92 0 (6 * (16 * b + p) + L) ((c : Int) + 1) = t3
    have G3 : FrC (WlM (16 * b + p) d L T) t t3 := by
      rw [← ht3]
      refine ((((FrC.rf.sN ?_).sL ?_).sN ?_).sN ?_).sN ?_
      · exact Or.inr (Or.inr (Or.inl ⟨by omega, by omega, rfl, by omega, by omega⟩))
      · exact Or.inr (Or.inr (Or.inl ⟨by omega, by omega, rfl, by omega, by omega⟩))
      · exact Or.inr (Or.inr (Or.inl ⟨by omega, by omega, rfl, by omega, by omega⟩))
      · exact Or.inl ⟨rfl, rfl, rfl⟩
      · exact Or.inr (Or.inl ⟨Or.inl rfl, rfl, rfl⟩)
    have d89 : gN t3 89 0 (16 * b + p) = (W : Int) + 1 := by rw [← ht3, gN_sN, if_neg (by omega), gN_sN, if_pos ⟨rfl, rfl, rfl⟩]
    have d92 : gN t3 92 0 (6 * (16 * b + p) + L) = (c : Int) + 1 := by rw [← ht3, gN_sN, if_pos ⟨rfl, rfl, rfl⟩]
    have d94 : gN t3 94 0 (6 * (16 * b + p) + L) = 0 := by rw [← ht3, gN_sN, if_neg (by omega), gN_sN, if_neg (by omega), gN_sN, if_neg (by omega), gN_sL, gN_sN, if_neg (by omega), hU.y94]
    have d95 : ∀ k, gN t3 95 0 (60 * (16 * b + p) + k) = if k = W then (j : Int) else gN t 95 0 (60 * (16 * b + p) + k) := fun k => by
      rw [← ht3, gN_sN, if_neg (by omega), gN_sN, if_neg (by omega), gN_sN, if_neg (by omega), gN_sL, gN_sN]
      by_cases z : k = W
      · rw [if_pos ⟨rfl, rfl, by omega⟩, if_pos z]
      · rw [if_neg (by omega), if_neg z]
    have d96 : ∀ k, gL t3 96 0 (60 * (16 * b + p) + k) = if k = W then w else gL t 96 0 (60 * (16 * b + p) + k) := fun k => by
      rw [← ht3, gL_sN, gL_sN, gL_sN, gL_sL]
      by_cases z : k = W
      · rw [if_pos ⟨rfl, rfl, by omega⟩, if_pos z]
      · rw [if_neg (by omega), if_neg z, gL_sN]
    have d97 : ∀ k, gN t3 97 0 (60 * (16 * b + p) + k) = if k = W then gap else gN t 97 0 (60 * (16 * b + p) + k) := fun k => by
      rw [← ht3, gN_sN, if_neg (by omega), gN_sN, if_neg (by omega), gN_sN]
      by_cases z : k = W
      · rw [if_pos ⟨rfl, rfl, by omega⟩, if_pos z]
      · rw [if_neg (by omega), if_neg z, gN_sL, gN_sN, if_neg (by omega)]
    have d70 : gN t3 70 0 d = gN t 70 0 d := by rw [← ht3, gN_sN, if_neg (by omega), gN_sN, if_neg (by omega), gN_sN, if_neg (by omega), gN_sL, gN_sN, if_neg (by omega)]
    have hFt3 : Fsm (16 * b + p) d mm t3 := hFt.tr (G3.sub (fun K i k z => z.sm hL6))
    obtain ⟨j', s', t', n1, n2, n3, n4, n5, n6, n7, n8, n9⟩ := next_eq h hB hFs3 hFt3 hd hj hTo c12 (by rw [c3, d70]; exact ⟨rfl, hdd.2.1, by omega⟩) (l2 := ((16 * b + p : Nat) : Int)) (l5 := (To : Int)) (l6 := cr) (l8 := ((6 * (16 * b + p) + L : Nat) : Int)) (l9 := used + (gap + (k : Int))) rfl
    have hends := hB.tx.ends j (by omega)
    have e49 : gN s3 49 b j = gN mm 82 0 (60 * b + j) := by rw [(hFs3.1 49 b j (by unfold ScW; omega)).1]; exact hends.1
    have hMt' : SM t' := (hFt3.Md h.M).mv2 (fun k hk => (n6.1 12 0 k (fun z => absurd z.1 (by decide))).2.2) (fun K i k hk => by rw [n6.2.1]; exact hk)
    have e82 : gN t' 82 0 (60 * b + j) = gN mm 82 0 (60 * b + j) := by rw [(n6.1 82 0 _ (fun z => absurd z.1 (by decide))).1, (hFt3.1 82 0 _ (by unfold SmW; omega)).1]
    obtain ⟨g', hg'⟩ : ∃ g' : Int, g' = if gN mm 82 0 (60 * b + j) = 0 then 1 else 0 := ⟨_, rfl⟩
    obtain ⟨st', hst'⟩ : ∃ st' : Int, st' = if gN mm 82 0 (60 * b + j) = 0 ∧ j' < To then 0 else 1 := ⟨_, rfl⟩
    refine Or.inl ⟨j', used + (gap + (k : Int)), g', st', s', t', ?_, ?_, ?_, ?_, ?_, n1.1, ?_⟩
    · unfold j_X4_takeLine_29_121 j_X4_takeLine_29_171
      rw [cb_of (Or.inl rfl), stN_of (hSs.z33 p hp) (by omega), tnc, nk_of (hS9.p7 p hp), ldN_of (hS9.z33 p hp) (by omega), tnc, show gN (sN s 33 (16 * b + p) L 0) 33 (16 * b + p) L = 0 by rw [gN_sN, if_pos ⟨rfl, rfl, rfl⟩], if_pos rfl, ck_of ⟨by omega, by omega⟩, show gN (sN s 33 (16 * b + p) L 0) 4 (16 * b + p) 12 = (j : Int) by rw [gN_sN, if_neg (by omega), hU.nx], ea, bV_ok, nk_of hSs3.t4, c12, ldN_of hSs3.z49 (by omega), tnc, e49, n2, bV_ok, ck_of ⟨by omega, by omega⟩]
      have eu : (M : Int) - used - gap - (k : Int) = (M : Int) - (used + (gap + (k : Int))) := by omega
      have ecc : (c : Int) + 1 = ((c + 1 : Nat) : Int) := by omega
      rw [eu, ecc, hg']
      by_cases z : gN mm 82 0 (60 * b + j) = 0
      · rw [if_neg (fun y => y z), if_pos z, bV_ok, ck_of ⟨by omega, by omega⟩]
      · rw [if_pos z, if_neg z]
    · rw [nk_of hMt.r36, ldN_of hMt.z89 (by omega), tnc, w2', ck_of ⟨by omega, by omega⟩, nk_of hMt.r42, stN_of hMt.z95 (by omega), eI, nk_of hM1.r43, stL_of hM1.z96 (by omega), eI, nk_of hM2.r44, stN_of hM2.z97 (by omega), eI, lm, Option.bind_some, ck_of ⟨by omega, by omega⟩, nk_of hM3.r36, ldN_of hM3.z89 (by omega), tnc, m89, ck_of ⟨by omega, by omega⟩, stN_of hM3.z89 (by omega), tnc, nk_of hM4.r39, ldN_of hM4.z92 (by omega), tnc, m92, ck_of ⟨by omega, by omega⟩, stN_of hM4.z92 (by omega), tnc, ck_of ⟨by omega, by omega⟩, ht3, n5]
      unfold j_X12_laysLines_88_330
      rw [nk_of hMt'.r29, ldN_of hMt'.z82 (by omega), tn60b, e82, hst']
      by_cases z : gN mm 82 0 (60 * b + j) = 0
      · rw [if_neg (fun y => y z)]
        by_cases z2 : j' < To
        · rw [if_pos (by omega), if_pos ⟨z, z2⟩]
        · rw [if_neg (by omega), if_neg (fun y => z2 y.2)]
      · rw [if_pos z, if_neg (fun y => z y.1)]
    · rw [hg']; split <;> omega
    · rw [hst']; split <;> omega
    · rw [hst', hg']
      by_cases z : gN mm 82 0 (60 * b + j) = 0
      · rw [if_pos z]
        by_cases z2 : j' < To
        · rw [if_pos ⟨z, z2⟩]; exact ⟨fun _ => ⟨rfl, z2⟩, fun _ => rfl⟩
        · rw [if_neg (fun y => z2 y.2)]; exact ⟨fun y => absurd y (by decide), fun y => absurd y.2 z2⟩
      · rw [if_neg z, if_neg (fun y => z y.1)]; exact ⟨fun y => absurd y (by decide), fun y => absurd y.1 (by decide)⟩
    · have f1 : ∀ K i k, ¬ nxW (16 * b + p) d K i k → eq3 s3 s' K i k := n4.1
      have f2 : ∀ K i k, ¬ (K = 70 ∧ i = 0 ∧ k = d) → eq3 t3 t' K i k := n6.1
      have a27 : ∀ k, gN s' 27 (16 * b + p) k = if k = W then (j : Int) else gN s 27 (16 * b + p) k := fun k => by rw [(f1 27 _ k (by unfold nxW; omega)).1, c27]
      have a28 : ∀ k, gN s' 28 (16 * b + p) k = if k = W then v else gN s 28 (16 * b + p) k := fun k => by rw [(f1 28 _ k (by unfold nxW; omega)).1, c28]
      have a29 : ∀ k, gN s' 29 (16 * b + p) k = if k = W then 1 else gN s 29 (16 * b + p) k := fun k => by rw [(f1 29 _ k (by unfold nxW; omega)).1, c29]
      have b95 : ∀ k, gN t' 95 0 (60 * (16 * b + p) + k) = if k = W then (j : Int) else gN t 95 0 (60 * (16 * b + p) + k) := fun k => by rw [(f2 95 0 _ (by omega)).1, d95]
      have b96 : ∀ k, gL t' 96 0 (60 * (16 * b + p) + k) = if k = W then w else gL t 96 0 (60 * (16 * b + p) + k) := fun k => by rw [(f2 96 0 _ (by omega)).2.1, d96]
      have b97 : ∀ k, gN t' 97 0 (60 * (16 * b + p) + k) = if k = W then gap else gN t 97 0 (60 * (16 * b + p) + k) := fun k => by rw [(f2 97 0 _ (by omega)).1, d97]
      have eW : T + (c + 1) = W + 1 := by omega
      have hLt : LtS t' (16 * b + p) (W + 1) = LtS t (16 * b + p) W + k := by
        rw [LtS, b96, if_pos rfl, hk]
        have hz : LtS t' (16 * b + p) W = LtS t (16 * b + p) W := LtS.congr (fun k' hk' => by rw [b96, if_neg (by omega)])
        rw [hz]
      have hus := hU.us
      rw [← hW] at hus
      refine ⟨hU.fs.tr (F3.tr (n4.sub (fun K i k z => by
        rcases z with z | z
        · exact Or.inl ⟨z.1, z.2.1, Or.inr z.2.2⟩
        · exact Or.inr (Or.inr (Or.inr z))))), hU.ft.tr (G3.tr (n6.sub (fun K i k z => Or.inr (Or.inr (Or.inr z))))), ?_, ?_, n3, ?_, ?_, ?_, fun k' hk' => ?_, fun k' h1 h2 => ?_, fun k' h1 h2 => ?_, ?_, by omega, fun z => by omega, by omega, n1.2, ⟨n7, by omega, ?_⟩⟩
      · rw [(f1 4 _ 10 (by unfold nxW; omega)).1, c10, eW]; omega
      · rw [(f2 89 0 _ (by omega)).1, d89, eW]; omega
      · rw [(f1 33 _ L (by unfold nxW; omega)).1, c33]
      · rw [(f2 92 0 _ (by omega)).1, d92]; omega
      · rw [(f2 94 0 _ (by omega)).1, d94]
      · by_cases z : k' = W
        · rw [z]
          refine ⟨j, by rw [a27, if_pos rfl], by rw [b95, if_pos rfl], ⟨by omega, hj⟩, by rw [a28, if_pos rfl]; exact hv, ?_⟩
          rw [a28, if_pos rfl, b96, if_pos rfl]
          exact hw
        · exact (hU.wd k' (by omega)).congr (by rw [a27, if_neg z]) (by rw [a28, if_neg z]) (by rw [b95, if_neg z]) (by rw [b96, if_neg z])
      · rw [a29]
        by_cases z : k' = W
        · rw [if_pos z]
        · rw [if_neg z]; exact hU.bl k' h1 (by omega)
      · rw [b97]
        by_cases z : k' = W
        · rw [if_pos z, hgap]
          by_cases y : c = 0
          · rw [if_pos y, if_pos (by omega)]
          · rw [if_neg y, if_neg (by omega)]
        · rw [if_neg z]; exact hU.ga k' h1 (by omega)
      · rw [eW, hLt]; omega
      · rw [eW]
        have := hdd.2.2
        omega
  · -- no room for the word
    have hc1 : 1 ≤ c := by
      rcases Nat.eq_zero_or_pos c with z | z
      · have := hU.u0 z
        have := hg1 z
        omega
      · exact z
    rw [if_neg hfit, if_neg (by omega)]
    unfold j_X4_takeLine_29_121
    have hS9 : BS (sN s 33 (16 * b + p) L 1) b F n M Ln E := hSs.keep hP (fun K i k z => eq3.sN (by unfold CBS at z; omega)) (fun _ _ _ z => z)
    rw [cb_of (Or.inr rfl), stN_of (hSs.z33 p hp) (by omega), tnc, nk_of (hS9.p7 p hp), ldN_of (hS9.z33 p hp) (by omega), tnc, show gN (sN s 33 (16 * b + p) L 1) 33 (16 * b + p) L = 1 by rw [gN_sN, if_pos ⟨rfl, rfl, rfl⟩], if_neg (show ¬ (1 : Int) = 0 by decide), ck_of ⟨by omega, by omega⟩, nk_of hMt.r41, stN_of hMt.z94 (by omega), tnc, show (c : Int) + 1 = ((c + 1 : Nat) : Int) by omega]
    refine Or.inr ⟨hc1, _, _, rfl, rfl, ?_⟩
    refine ⟨hU.fs.sN (Or.inr (Or.inr (Or.inl ⟨rfl, rfl, rfl⟩))), hU.ft.sN (Or.inr (Or.inl ⟨Or.inr rfl, rfl, rfl⟩)), by rw [gN_sN, if_neg (by omega)]; exact hU.w1, by rw [gN_sN, if_neg (by omega)]; exact hU.w2, by rw [gN_sN, if_neg (by omega)]; exact hU.nx, by rw [gN_sN, if_pos ⟨rfl, rfl, rfl⟩], by rw [gN_sN, if_neg (by omega)]; exact hU.y92, by rw [gN_sN, if_pos ⟨rfl, rfl, rfl⟩], fun k' hk' => (hU.wd k' hk').congr (by rw [gN_sN, if_neg (by omega)]) (by rw [gN_sN, if_neg (by omega)]) (by rw [gN_sN, if_neg (by omega)]) rfl, fun k' h1 h2 => by rw [gN_sN, if_neg (by omega)]; exact hU.bl k' h1 h2, fun k' h1 h2 => by rw [gN_sN, if_neg (by omega)]; exact hU.ga k' h1 h2, ?_, hU.ub, hU.u0, hU.jw, hU.jt, ?_⟩
    · have hz : LtS (sN t 94 0 (6 * (16 * b + p) + L) 1) (16 * b + p) (T + c) = LtS t (16 * b + p) (T + c) := LtS.congr (fun _ _ => rfl)
      rw [hz]; exact hU.us
    · rw [gN_sN, if_neg (by omega), gN_sN, if_neg (by omega)]; exact hU.hd
end SET
