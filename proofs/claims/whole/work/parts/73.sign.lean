/-! WHAT A PLACE PRINTS. -/
section SIGN
variable {N : Nat} {mc mm : MM} {b F n M Ln E : Nat}
theorem glyphIn_m (h : RR N mc mm) (hN : N ≤ 511) {k st : Nat} (hk : k < 7200) : f_X12_glyphIn mm 0 (k : Int) (st : Int) = some (glF mm k st (gN mm 12 0 52).toNat) := by
  have hM := h.M
  have hc := h.Pf.c
  apply ev_eq
  unfold f_X12_glyphIn
  refine ev_ift (show ¬ (st : Int) = -1 by omega) ?_
  rw [nk_of hM.r49, ldN_of hM.z102 (by omega), tnc]
  refine ev_lp (fun v => v = glF mm k st (gN mm 12 0 52).toNat) (fun s : Int × Int => ∃ j : Nat, s = (glF mm k st j, (j : Int)) ∧ (j : Int) ≤ gN mm 12 0 52) (fun s => (gN mm 12 0 52 - s.2).toNat) ⟨0, rfl, hc.1⟩ ?_ ?_
  · rintro _ ⟨j, rfl, hj⟩
    show Ev (b_X12_glyphIn_22 mm 0 (k : Int) (st : Int) (glF mm k st j) (j : Int)) _
    unfold b_X12_glyphIn_22
    refine ev_if (fun hd => ev_exit (by rw [show (gN mm 12 0 52).toNat = j by omega])) fun hd => ?_
    rw [nk_of hM.r53, ldN_of hM.z105 (by omega), tnc]
    refine ev_if (fun he => ev_ck (by omega) (ev_back ⟨j + 1, by rw [glF, if_neg (fun z => he z.1)]; simp, by omega⟩ (by simp only; omega))) fun he => ?_
    rw [nk_of hM.r54, ldN_of hM.z106 (by omega), tnc]
    refine ev_if (fun hf => ev_ck (by omega) (ev_back ⟨j + 1, by rw [glF, if_neg (fun z => by have := z.2; omega)]; simp, by omega⟩ (by simp only; omega))) fun hf => ?_
    rw [nk_of hM.r55, ldN_of hM.z107 (by omega), tnc]
    exact ev_ck (by omega) (ev_back ⟨j + 1, by rw [glF, if_pos ⟨Classical.byContradiction he, by omega⟩]; simp, by omega⟩ (by simp only; omega))
  · rintro v rfl
    exact ev_some rfl
/-- a place in a state: the model's glyph, the class's sort -/
theorem glyph_both (h : RR N mc mm) (hN : N ≤ 511) (hB : RBk mc mm b F n M Ln E) {p k : Nat} (hp : p < 2 * (F * n)) (hk : (k : Int) < gN mm 90 0 (16 * b + p)) {v : Int} (hv : v = -1 ∨ (0 ≤ v ∧ v < gN mc 2 (8 * b + fo F p) 7)) :
    ∃ G, f_X12_glyphIn mm 0 ((150 * (16 * b + p) + k : Nat) : Int) v = some G ∧ 0 ≤ G ∧ G ≤ 28 ∧ f_X5_printed mc (16 * b + p) (k : Int) v = some (if G = 28 then -1 else G) := by
  have hP := hB.hP
  have hS := hB.hS
  have q0 := hP.hb
  have q1 := hP.hn
  have q4 := hP.ml
  have hpn := (hB.pg p hp).pn
  have hkM : (k : Int) < ((M * Ln : Nat) : Int) := by omega
  have hw := (hB.pl p hp).w k hk
  rcases hv with rfl | ⟨hv1, hv2⟩
  · refine ⟨gN mm 99 0 (150 * (16 * b + p) + k), ?_, by omega, by omega, ?_⟩
    · unfold f_X12_glyphIn
      rw [if_neg (show ¬ ¬ (-1 : Int) = -1 by decide), nk_of h.M.r46, ldN_of h.M.z99 (by omega), tnc]
    · unfold f_X5_printed
      rw [if_pos (by decide)]
      unfold j_X5_printed_0_24
      rw [nk_of (hS.q0 p hp), ldN_of (hS.z34 p hp) (by omega), tnc, hw.1, if_neg (by omega)]
  · obtain ⟨st, rfl⟩ := Int.ex hv1
    have hf := fo_lt hP.hF hp
    have hns := (hB.ff _ hf).ns
    have q3 := hP.hE
    have hst : st < E := by omega
    obtain ⟨g1, g2, g3⟩ := (hB.pn p hp).g k st hk hv2
    refine ⟨_, glyphIn_m h hN (by omega), g1, g2, ?_⟩
    unfold f_X5_printed
    rw [if_neg (by omega), nk_of (hS.q3 p hp), lenI_of (hS.z37 p hp), if_neg (by omega), nk_of (hS.q3 p hp), ldR_of (hS.z37 p hp) (by omega), tnc, hS.e37 p st hp hst, nk_some, ldN_of (hS.z38 p st hp hst) (by omega), tnc, g3]
theorem chr_places (h : RR N mc mm) (hN : N ≤ 511) (hB : RBk mc mm b F n M Ln E) {p w K0 K1 : Nat} (hp : p < 2 * (F * n)) (hw : w < 60) {v e : Int} (hv : v = -1 ∨ (0 ≤ v ∧ v < gN mc 2 (8 * b + fo F p) 7)) (hK1 : gN mc 30 (16 * b + p) (w + 1) = K1) (hK90 : (K1 : Int) ≤ gN mm 90 0 (16 * b + p)) {r : Int} (hr : 0 ≤ r ∧ r < 2147483648) (l9 : Int) :
    ∃ x y, lpb (fun s : Int × Int => b_X4_printedSign_44 mc (16 * b + p) v e (w : Int) s.1 s.2) (r, (K0 : Int)) = some x ∧ lpb (fun s : Int × Int => b_X12_character_236 mm 0 ((16 * b + p : Nat) : Int) v l9 (w : Int) (K1 : Int) s.1 s.2) (r, (K0 : Int)) = some y ∧ ((∃ r', x = .inr r' ∧ y = .inr r' ∧ 0 ≤ r' ∧ r' ≤ r) ∨ ∃ g, x = .inl g ∧ y = .inl (.inl (some (aI g)), mm)) := by
  have hP := hB.hP
  have hS := hB.hS
  have q0 := hP.hb
  have q1 := hP.hn
  have q4 := hP.ml
  have hpn := (hB.pg p hp).pn
  refine lpb_rel (b := fun s : Int × Int => b_X4_printedSign_44 mc (16 * b + p) v e (w : Int) s.1 s.2) (c := fun s : Int × Int => b_X12_character_236 mm 0 ((16 * b + p : Nat) : Int) v l9 (w : Int) (K1 : Int) s.1 s.2)
    (fun s t => s = t ∧ ∃ k : Nat, s.2 = k ∧ 0 ≤ s.1 ∧ s.1 ≤ r) (fun x y => (∃ r', x = .inr r' ∧ y = .inr r' ∧ 0 ≤ r' ∧ r' ≤ r) ∨ ∃ g, x = .inl g ∧ y = .inl (.inl (some (aI g)), mm)) (fun s => K1 - s.2.toNat) ?_ _ _ ⟨rfl, K0, rfl, hr.1, Int.le_refl _⟩
  rintro ⟨z, _⟩ _ ⟨rfl, k, rfl, hz, hz2⟩
  simp only at hz hz2
  show (∃ s' t', b_X4_printedSign_44 mc (16 * b + p) v e (w : Int) z (k : Int) = some (.inl s') ∧ b_X12_character_236 mm 0 ((16 * b + p : Nat) : Int) v l9 (w : Int) (K1 : Int) z (k : Int) = some (.inl t') ∧ _) ∨ ∃ x y, b_X4_printedSign_44 mc (16 * b + p) v e (w : Int) z (k : Int) = some (.inr x) ∧ b_X12_character_236 mm 0 ((16 * b + p : Nat) : Int) v l9 (w : Int) (K1 : Int) z (k : Int) = some (.inr y) ∧ _
  unfold b_X4_printedSign_44 b_X12_character_236
  rw [nk_of (hS.p4 p hp), ldN_of (hS.z30 p hp) (by omega), show ((w : Int) + 1).toNat = w + 1 by omega, hK1]
  by_cases q : (K1 : Int) ≤ (k : Int)
  · right
    rw [if_pos q, if_pos q]
    exact ⟨_, _, rfl, rfl, Or.inl ⟨z, rfl, rfl, hz, hz2⟩⟩
  · rw [if_neg q, if_neg q]
    obtain ⟨G, g1, g2, g3, g4⟩ := glyph_both h hN hB hp (k := k) (by omega) hv
    rw [nk_of (hS.p8 p hp), g4, Option.bind_some, ck_of ⟨by omega, by omega⟩, show 150 * ((16 * b + p : Nat) : Int) + (k : Int) = ((150 * (16 * b + p) + k : Nat) : Int) by omega, g1, Option.bind_some]
    obtain ⟨pr, hpr⟩ : ∃ pr : Int, pr = if G = 28 then -1 else G := ⟨_, rfl⟩
    rw [← hpr]
    -- by width
    by_cases hwd : G = 26 ∨ G = 27
    · have hp2 : pr = G := by rw [hpr, if_neg (by omega)]
      have em : (if G = 26 then j_X12_character_236_274 mm 0 ((16 * b + p : Nat) : Int) v l9 z (w : Int) (K1 : Int) (k : Int) G else if ¬ G = 27 then j_X12_character_236_279 mm 0 ((16 * b + p : Nat) : Int) v l9 z (w : Int) (K1 : Int) (k : Int) G 1 else j_X12_character_236_274 mm 0 ((16 * b + p : Nat) : Int) v l9 z (w : Int) (K1 : Int) (k : Int) G) = j_X12_character_236_279 mm 0 ((16 * b + p : Nat) : Int) v l9 z (w : Int) (K1 : Int) (k : Int) G 2 := by
        unfold j_X12_character_236_274
        by_cases c1 : G = 26
        · rw [if_pos c1]
        · rw [if_neg c1, if_neg (show ¬ ¬ G = 27 by omega)]
      rw [em, hp2, if_neg (show ¬ G < 26 by omega)]
      unfold j_X4_printedSign_44_82 j_X12_character_236_279
      by_cases c2 : 2 ≤ z
      · left
        rw [if_pos c2, if_pos c2]
        refine ⟨(z - 2, (k : Int) + 1), (z - 2, (k : Int) + 1), ?_, ?_, ⟨rfl, k + 1, by simp, by simp only; omega, by simp only; omega⟩, by simp only; omega⟩
        · rw [ck_of ⟨by omega, by omega⟩, ck_of ⟨by omega, by omega⟩]
        · rw [ck_of ⟨by omega, by omega⟩, ck_of ⟨by omega, by omega⟩]
      · right
        rw [if_neg c2, if_neg c2, if_neg (show ¬ ¬ (2 : Int) = 2 by decide)]
        unfold f_X4_signOf
        rw [if_pos (show ¬ G = -1 by omega), if_pos (show 26 ≤ G by omega)]
        by_cases c3 : z = 0
        · rw [if_neg (fun q => q c3), if_neg (fun q => q c3)]
          exact ⟨_, _, rfl, rfl, Or.inr ⟨_, rfl, rfl⟩⟩
        · rw [if_pos c3, if_pos c3]
          by_cases c4 : G = 26
          · rw [if_neg (fun q => q c4), if_neg (fun q => q c4)]
            exact ⟨_, _, rfl, rfl, Or.inr ⟨_, rfl, rfl⟩⟩
          · rw [if_pos c4, if_pos c4]
            exact ⟨_, _, rfl, rfl, Or.inr ⟨_, rfl, rfl⟩⟩
    · rw [if_neg (show ¬ G = 26 by omega), if_pos (show ¬ G = 27 by omega), if_pos (show pr < 26 by rw [hpr]; split <;> omega)]
      unfold j_X4_printedSign_44_82 j_X12_character_236_279
      by_cases c2 : 1 ≤ z
      · left
        rw [if_pos c2, if_pos c2]
        refine ⟨(z - 1, (k : Int) + 1), (z - 1, (k : Int) + 1), ?_, ?_, ⟨rfl, k + 1, by simp, by simp only; omega, by simp only; omega⟩, by simp only; omega⟩
        · rw [ck_of ⟨by omega, by omega⟩, ck_of ⟨by omega, by omega⟩]
        · rw [ck_of ⟨by omega, by omega⟩, ck_of ⟨by omega, by omega⟩]
      · right
        rw [if_neg c2, if_neg c2, if_pos (show ¬ (1 : Int) = 2 by decide)]
        unfold f_X4_signOf
        by_cases c3 : G = 28
        · rw [if_pos c3] at hpr
          rw [if_neg (show ¬ ¬ pr = -1 from fun q => q hpr), if_neg (show ¬ ¬ G = 28 from fun q => q c3)]
          exact ⟨_, _, rfl, rfl, Or.inr ⟨_, rfl, rfl⟩⟩
        · rw [if_neg c3] at hpr
          rw [if_pos (show ¬ pr = -1 by omega), if_neg (show ¬ 26 ≤ pr by omega), if_pos c3, hpr, ck_of ⟨by omega, by omega⟩, ck_of ⟨by omega, by omega⟩]
          exact ⟨_, _, rfl, rfl, Or.inr ⟨_, rfl, rfl⟩⟩
end SIGN
