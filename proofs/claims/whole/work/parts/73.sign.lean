/-! WHAT A PLACE PRINTS. -/
section SIGN
variable {N : Nat} {mc mm : MM} {b F n M Ln E : Nat}
theorem glyphIn_m (h : RR N mc mm) (hN : N ≤ 511) {k st : Nat} (hk : k < 7200) : f_X12_glyphIn mm 0 (k : Int) (st : Int) = some (glF mm k st (gN mm 12 0 52).toNat) := by
  have hM := h.M
  have hc := h.Pf.c
  apply ev_eq
  unfold f_X12_glyphIn
  refine ev_ift (show ¬ (st : Int) = -1 by omega) ?_
  rw [nk_of hM.r49, ldN_of hM.z102 (by omega), tnc]
  refine ev_lp (fun v => v = glF mm k st (gN mm 12 0 52).toNat) (fun s : Int × Int => ∃ j : Nat, s = (glF mm k st j, (j : Int)) ∧ (j : Int) ≤ gN mm 12 0 52) (fun s => (gN mm 12 0 52 - s.2).toNat) ⟨0, rfl, hc.1⟩ ?_ ?_
  · rintro _ ⟨j, rfl, hj⟩
    show Ev (b_X12_glyphIn_22 mm 0 (k : Int) (st : Int) (glF mm k st j) (j : Int)) _
    unfold b_X12_glyphIn_22
    refine ev_if (fun hd => ev_exit (by rw [show (gN mm 12 0 52).toNat = j by omega])) fun hd => ?_
    rw [nk_of hM.r53, ldN_of hM.z105 (by omega), tnc]
    refine ev_if (fun he => ev_ck (by omega) (ev_back ⟨j + 1, by rw [glF, if_neg (fun z => he z.1)]; simp, by omega⟩ (by simp only; omega))) fun he => ?_
    rw [nk_of hM.r54, ldN_of hM.z106 (by omega), tnc]
    refine ev_if (fun hf => ev_ck (by omega) (ev_back ⟨j + 1, by rw [glF, if_neg (fun z => by have := z.2; omega)]; simp, by omega⟩ (by simp only; omega))) fun hf => ?_
    rw [nk_of hM.r55, ldN_of hM.z107 (by omega), tnc]
    exact ev_ck (by omega) (ev_back ⟨j + 1, by rw [glF, if_pos ⟨Classical.byContradiction he, by omega⟩]; simp, by omega⟩ (by simp only; omega))
  · rintro v rfl
    exact ev_some rfl
/-- a place in a state: the model's glyph, the class's sort -/
theorem glyph_both (h : RR N mc mm) (hN : N ≤ 511) (hB : RBk mc mm b F n M Ln E) {p k : Nat} (hp : p < 2 * (F * n)) (hk : (k : Int) < gN mm 90 0 (16 * b + p)) {v : Int} (hv : v = -1 ∨ (0 ≤ v ∧ v < gN mc 2 (8 * b + fo F p) 7)) :
    ∃ G, f_X12_glyphIn mm 0 ((150 * (16 * b + p) + k : Nat) : Int) v = some G ∧ 0 ≤ G ∧ G ≤ 28 ∧ f_X5_printed mc (16 * b + p) (k : Int) v = some (if G = 28 then -1 else G) := by
  have hP := hB.hP
  have hS := hB.hS
  have q0 := hP.hb
  have q1 := hP.hn
  have q4 := hP.ml
  have hpn := (hB.pg p hp).pn
  have hkM : (k : Int) < ((M * Ln : Nat) : Int) := by omega
  have hw := (hB.pl p hp).w k hk
  rcases hv with rfl | ⟨hv1, hv2⟩
  · refine ⟨gN mm 99 0 (150 * (16 * b + p) + k), ?_, by omega, by omega, ?_⟩
    · unfold f_X12_glyphIn
      rw [if_neg (show ¬ ¬ (-1 : Int) = -1 by decide), nk_of h.M.r46, ldN_of h.M.z99 (by omega), tnc]
    · unfold f_X5_printed
      rw [if_pos (by decide)]
      unfold j_X5_printed_0_24
      rw [nk_of (hS.q0 p hp), ldN_of (hS.z34 p hp) (by omega), tnc, hw.1, if_neg (by omega)]
  · obtain ⟨st, rfl⟩ := Int.ex hv1
    have hf := fo_lt hP.hF hp
    have hns := (hB.ff _ hf).ns
    have q3 := hP.hE
    have hst : st < E := by omega
    obtain ⟨g1, g2, g3⟩ := (hB.pn p hp).g k st hk hv2
    refine ⟨_, glyphIn_m h hN (by omega), g1, g2, ?_⟩
    unfold f_X5_printed
    rw [if_neg (by omega), nk_of (hS.q3 p hp), lenI_of (hS.z37 p hp), if_neg (by omega), nk_of (hS.q3 p hp), ldR_of (hS.z37 p hp) (by omega), tnc, hS.e37 p st hp hst, nk_some, ldN_of (hS.z38 p st hp hst) (by omega), tnc, g3]
end SIGN
