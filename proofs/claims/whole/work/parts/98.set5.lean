/-! SET: the lines of a page. -/
section SET
variable {N : Nat} {mc mm : MM} {b F n M Ln E d : Nat}
theorem lines_run (h : RR N mc mm) (hB : RBk mc mm b F n M Ln E) {p : Nat} (hp : p < 2 * (F * n)) (hd : (d : Int) < gN mm 12 0 12) {To : Nat} (hTo : (To : Int) ≤ gN mm 80 0 b) {Fr : Nat} {H0 cr : Int} (hH0 : 0 ≤ H0 ∧ H0 ≤ 10000000) :
    ∀ (e L W j : Nat) (s t : MM), Ln - L = e → LA mc mm s t b (16 * b + p) d Fr To M Ln L W j H0 cr → ∃ (s' t' : MM) (L' W' j' : Nat), lpb (fun z : Int × MM => b_X4_takeLines_18 (16 * b + p) b d (To : Int) z.1 z.2) ((L : Int), s) = some s' ∧ lpb (fun z : Int × MM => b_X12_laysLines_18 0 (b : Int) ((16 * b + p : Nat) : Int) (d : Int) (To : Int) cr z.1 z.2) ((j : Int), t) = some ((j' : Int), t') ∧ LA mc mm s' t' b (16 * b + p) d Fr To M Ln L' W' j' H0 cr ∧ (L' = Ln ∨ To ≤ j') := by
  have hP := hB.hP
  have q0 := hP.hb
  have q1 := hP.hn
  have q2 := hP.hL
  intro e
  induction e with
  | zero =>
    intro L W j s t he hA
    have hLn : L = Ln := by have := hA.LL; omega
    have hSs := hA.fs.S hB
    have hMt := hA.ft.Md h.M
    have hPt := hA.ft.P hB
    refine ⟨s, t, L, W, j, ?_, ?_, hA, Or.inl hLn⟩
    · rw [lpb_eq]
      simp only
      unfold b_X4_takeLines_18
      rw [nk_of (hSs.p5 p hp), lenI_of (hSs.z31 p hp), if_pos (by omega), Option.bind_some, Sum.elim_inr]
    · rw [lpb_eq]
      simp only
      unfold b_X12_laysLines_18
      rw [nk_of hMt.r35, ldN_of hMt.z88 (by omega), tnc, hA.l2, nk_of hMt.r23, ldN_of hMt.z76 (by omega), tnc, hPt.l, if_pos (by omega), Option.bind_some, Sum.elim_inr]
  | succ e ih =>
    intro L W j s t he hA
    have hL : L < Ln := by omega
    have hSs := hA.fs.S hB
    have hMt := hA.ft.Md h.M
    have hPt := hA.ft.P hB
    by_cases hj : j < To
    · obtain ⟨s1, t1, W', j', e1, e2, e3, e4, e5⟩ := line_eq h hB hp hd hTo hH0 hA hL hj
      obtain ⟨s2, t2, L2, W2, j2, f1, f2, f3, f4⟩ := ih (L + 1) W' j' _ _ (by omega) e5
      refine ⟨s2, t2, L2, W2, j2, ?_, ?_, f3, f4⟩
      · rw [lpb_eq]
        simp only
        unfold b_X4_takeLines_18
        rw [nk_of (hSs.p5 p hp), lenI_of (hSs.z31 p hp), if_neg (by omega), hA.nx, if_neg (by omega), e1, bV_ok, e4, ck_of ⟨by omega, by omega⟩, lt_eq, ck_of ⟨by omega, by omega⟩, Option.bind_some, Sum.elim_inl, show (L : Int) + 1 = ((L + 1 : Nat) : Int) by omega]
        rw [show (L : Int) + 1 = ((L + 1 : Nat) : Int) by omega] at f1
        exact f1
      · rw [lpb_eq]
        simp only
        rw [e2, Option.bind_some, Sum.elim_inl]
        exact f2
    · refine ⟨s, t, L, W, j, ?_, ?_, hA, Or.inr (by omega)⟩
      · rw [lpb_eq]
        simp only
        unfold b_X4_takeLines_18
        rw [nk_of (hSs.p5 p hp), lenI_of (hSs.z31 p hp), if_neg (by omega), hA.nx, if_pos (by omega), Option.bind_some, Sum.elim_inr]
      · rw [lpb_eq]
        simp only
        unfold b_X12_laysLines_18
        rw [nk_of hMt.r35, ldN_of hMt.z88 (by omega), tnc, hA.l2, nk_of hMt.r23, ldN_of hMt.z76 (by omega), tnc, hPt.l, if_neg (by omega), if_pos (by omega), Option.bind_some, Sum.elim_inr]
theorem lines_eq (h : RR N mc mm) (hB : RBk mc mm b F n M Ln E) {p : Nat} (hp : p < 2 * (F * n)) (hd : (d : Int) < gN mm 12 0 12) {To : Nat} (hTo : (To : Int) ≤ gN mm 80 0 b) {Fr : Nat} (hFr : Fr ≤ To) {H0 cr : Int} (hH0 : 0 ≤ H0 ∧ H0 ≤ 10000000) {s t : MM} (hFs : Fsc (16 * b + p) d mc s) (hFt : Fsm (16 * b + p) d mm t) (hcr : gN s 4 (16 * b + p) 14 = cr) (hlo : gN s 4 (16 * b + p) 13 = gN mc 4 (16 * b + p) 13) (hch : gN s 3 d 3 = gN t 70 0 d ∧ 0 ≤ gN t 70 0 d ∧ gN t 70 0 d ≤ H0) :
    ∃ (s' t' : MM) (L W j : Nat), f_X4_takeLines s (16 * b + p) b d (Fr : Int) (To : Int) = some (.inl none, s') ∧ f_X12_laysLines t 0 (b : Int) ((16 * b + p : Nat) : Int) (d : Int) (Fr : Int) (To : Int) cr = some (.inl (some (aI (j : Int))), t') ∧ LA mc mm s' t' b (16 * b + p) d Fr To M Ln L W j H0 cr ∧ (L = Ln ∨ To ≤ j) := by
  have hP := hB.hP
  have q0 := hP.hb
  have q1 := hP.hn
  have hMt := hFt.Md h.M
  have hM1 : SM (sN t 89 0 (16 * b + p) 0) := hMt.mv (fun _ => rfl) (fun _ _ _ z => z)
  obtain ⟨s', t', L, W, j, e1, e2, e3, e4⟩ := lines_run h hB hp hd hTo (Fr := Fr) (cr := cr) hH0 _ 0 0 Fr (sN (sN (sN s 4 (16 * b + p) 10 0) 4 (16 * b + p) 11 0) 4 (16 * b + p) 12 (Fr : Int)) (sN (sN t 89 0 (16 * b + p) 0) 88 0 (16 * b + p) 0) rfl (by
    refine ⟨((hFs.sN (Or.inl ⟨rfl, rfl, by omega⟩)).sN (Or.inl ⟨rfl, rfl, by omega⟩)).sN (Or.inl ⟨rfl, rfl, by omega⟩), (hFt.sN (Or.inr (Or.inl ⟨by omega, by omega, rfl, rfl⟩))).sN (Or.inr (Or.inl ⟨by omega, by omega, rfl, rfl⟩)), ?_, ?_, ?_, ?_, ?_, ?_, ?_, by omega, fun k hk => absurd hk (by omega), fun l hl => absurd hl (by omega), ⟨fun z => absurd z (by omega), fun _ => rfl⟩, by show 0 + 0 ≤ M * 0; omega, by omega, hFr, ?_⟩
    · rw [gN_sN, if_neg (by omega), gN_sN, if_neg (by omega), gN_sN, if_pos ⟨rfl, rfl, rfl⟩]; rfl
    · rw [gN_sN, if_neg (by omega), gN_sN, if_pos ⟨rfl, rfl, rfl⟩]; rfl
    · rw [gN_sN, if_neg (by omega), gN_sN, if_pos ⟨rfl, rfl, rfl⟩]; rfl
    · rw [gN_sN, if_pos ⟨rfl, rfl, rfl⟩]; rfl
    · rw [gN_sN, if_pos ⟨rfl, rfl, rfl⟩]
    · rw [gN_sN, if_neg (by omega), gN_sN, if_neg (by omega), gN_sN, if_neg (by omega)]; exact hcr
    · rw [gN_sN, if_neg (by omega), gN_sN, if_neg (by omega), gN_sN, if_neg (by omega)]; exact hlo
    · rw [gN_sN, if_neg (by omega), gN_sN, if_neg (by omega), gN_sN, if_neg (by omega), gN_sN, if_neg (by omega), gN_sN, if_neg (by omega)]
      exact ⟨hch.1, hch.2.1, by have := hch.2.2; omega⟩)
  have e1' : lpb (fun z : Int × MM => b_X4_takeLines_18 (16 * b + p) b d (To : Int) z.1 z.2) (0, sN (sN (sN s 4 (16 * b + p) 10 0) 4 (16 * b + p) 11 0) 4 (16 * b + p) 12 (Fr : Int)) = some s' := e1
  refine ⟨s', t', L, W, j, ?_, ?_, e3, e4⟩
  · unfold f_X4_takeLines
    rw [lt_eq, lt_eq, lt_eq, e1', Option.bind_some]
    rfl
  · unfold f_X12_laysLines
    rw [nk_of hMt.r36, stN_of hMt.z89 (by omega), tnc, nk_of hM1.r35, stN_of hM1.z88 (by omega), tnc, e2, Option.bind_some]
    rfl
end SET
