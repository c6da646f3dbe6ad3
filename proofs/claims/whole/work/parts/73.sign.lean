/-! WHAT A PLACE PRINTS. -/
section SIGN
variable {N : Nat} {mc mm : MM} {b F n M Ln E : Nat}
theorem glyphIn_m (h : RR N mc mm) (hN : N ≤ 511) {k st : Nat} (hk : k < 7200) : f_X12_glyphIn mm 0 (k : Int) (st : Int) = some (glF mm k st (gN mm 12 0 52).toNat) := by
  have hM := h.M
  have hc := h.Pf.c
  apply ev_eq
  unfold f_X12_glyphIn
  refine ev_ift (show ¬ (st : Int) = -1 by omega) ?_
  rw [nk_of hM.r49, ldN_of hM.z102 (by omega), tnc]
  refine ev_lp (fun v => v = glF mm k st (gN mm 12 0 52).toNat) (fun s : Int × Int => ∃ j : Nat, s = (glF mm k st j, (j : Int)) ∧ (j : Int) ≤ gN mm 12 0 52) (fun s => (gN mm 12 0 52 - s.2).toNat) ⟨0, rfl, hc.1⟩ ?_ ?_
  · rintro _ ⟨j, rfl, hj⟩
    show Ev (b_X12_glyphIn_22 mm 0 (k : Int) (st : Int) (glF mm k st j) (j : Int)) _
    unfold b_X12_glyphIn_22
    refine ev_if (fun hd => ev_exit (by rw [show (gN mm 12 0 52).toNat = j by omega])) fun hd => ?_
    rw [nk_of hM.r53, ldN_of hM.z105 (by omega), tnc]
    refine ev_if (fun he => ev_ck (by omega) (ev_back ⟨j + 1, by rw [glF, if_neg (fun z => he z.1)]; simp, by omega⟩ (by simp only; omega))) fun he => ?_
    rw [nk_of hM.r54, ldN_of hM.z106 (by omega), tnc]
    refine ev_if (fun hf => ev_ck (by omega) (ev_back ⟨j + 1, by rw [glF, if_neg (fun z => by have := z.2; omega)]; simp, by omega⟩ (by simp only; omega))) fun hf => ?_
    rw [nk_of hM.r55, ldN_of hM.z107 (by omega), tnc]
    exact ev_ck (by omega) (ev_back ⟨j + 1, by rw [glF, if_pos ⟨Classical.byContradiction he, by omega⟩]; simp, by omega⟩ (by simp only; omega))
  · rintro v rfl
    exact ev_some rfl
/-- a place in a state: the model's glyph, the class's sort -/
theorem glyph_both (h : RR N mc mm) (hN : N ≤ 511) (hB : RBk mc mm b F n M Ln E) {p k : Nat} (hp : p < 2 * (F * n)) (hk : (k : Int) < gN mm 90 0 (16 * b + p)) {v : Int} (hv : v = -1 ∨ (0 ≤ v ∧ v < gN mc 2 (8 * b + fo F p) 7)) :
    ∃ G, f_X12_glyphIn mm 0 ((150 * (16 * b + p) + k : Nat) : Int) v = some G ∧ 0 ≤ G ∧ G ≤ 28 ∧ f_X5_printed mc (16 * b + p) (k : Int) v = some (if G = 28 then -1 else G) := by
  have hP := hB.hP
  have hS := hB.hS
  have q0 := hP.hb
  have q1 := hP.hn
  have q4 := hP.ml
  have hpn := (hB.pg p hp).pn
  have hkM : (k : Int) < ((M * Ln : Nat) : Int) := by omega
  have hw := (hB.pl p hp).w k hk
  rcases hv with rfl | ⟨hv1, hv2⟩
  · refine ⟨gN mm 99 0 (150 * (16 * b + p) + k), ?_, by omega, by omega, ?_⟩
    · unfold f_X12_glyphIn
      rw [if_neg (show ¬ ¬ (-1 : Int) = -1 by decide), nk_of h.M.r46, ldN_of h.M.z99 (by omega), tnc]
    · unfold f_X5_printed
      rw [if_pos (by decide)]
      unfold j_X5_printed_0_24
      rw [nk_of (hS.q0 p hp), ldN_of (hS.z34 p hp) (by omega), tnc, hw.1, if_neg (by omega)]
  · obtain ⟨st, rfl⟩ := Int.ex hv1
    have hf := fo_lt hP.hF hp
    have hns := (hB.ff _ hf).ns
    have q3 := hP.hE
    have hst : st < E := by omega
    obtain ⟨g1, g2, g3⟩ := (hB.pn p hp).g k st hk hv2
    refine ⟨_, glyphIn_m h hN (by omega), g1, g2, ?_⟩
    unfold f_X5_printed
    rw [if_neg (by omega), nk_of (hS.q3 p hp), lenI_of (hS.z37 p hp), if_neg (by omega), nk_of (hS.q3 p hp), ldR_of (hS.z37 p hp) (by omega), tnc, hS.e37 p st hp hst, nk_some, ldN_of (hS.z38 p st hp hst) (by omega), tnc, g3]
theorem chr_places (h : RR N mc mm) (hN : N ≤ 511) (hB : RBk mc mm b F n M Ln E) {p w K0 K1 : Nat} (hp : p < 2 * (F * n)) (hw : w < 60) {v e : Int} (hv : v = -1 ∨ (0 ≤ v ∧ v < gN mc 2 (8 * b + fo F p) 7)) (hK1 : gN mc 30 (16 * b + p) (w + 1) = K1) (hK90 : (K1 : Int) ≤ gN mm 90 0 (16 * b + p)) {r : Int} (hr : 0 ≤ r ∧ r < 2147483648) (l9 : Int) :
    ∃ x y, lpb (fun s : Int × Int => b_X4_printedSign_44 mc (16 * b + p) v e (w : Int) s.1 s.2) (r, (K0 : Int)) = some x ∧ lpb (fun s : Int × Int => b_X12_character_236 mm 0 ((16 * b + p : Nat) : Int) v l9 (w : Int) (K1 : Int) s.1 s.2) (r, (K0 : Int)) = some y ∧ ((∃ r', x = .inr r' ∧ y = .inr r' ∧ 0 ≤ r' ∧ r' ≤ r) ∨ ∃ g, x = .inl g ∧ y = .inl (.inl (some (aI g)), mm)) := by
  have hP := hB.hP
  have hS := hB.hS
  have q0 := hP.hb
  have q1 := hP.hn
  have q4 := hP.ml
  have hpn := (hB.pg p hp).pn
  refine lpb_rel (b := fun s : Int × Int => b_X4_printedSign_44 mc (16 * b + p) v e (w : Int) s.1 s.2) (c := fun s : Int × Int => b_X12_character_236 mm 0 ((16 * b + p : Nat) : Int) v l9 (w : Int) (K1 : Int) s.1 s.2)
    (fun s t => s = t ∧ ∃ k : Nat, s.2 = k ∧ 0 ≤ s.1 ∧ s.1 ≤ r) (fun x y => (∃ r', x = .inr r' ∧ y = .inr r' ∧ 0 ≤ r' ∧ r' ≤ r) ∨ ∃ g, x = .inl g ∧ y = .inl (.inl (some (aI g)), mm)) (fun s => K1 - s.2.toNat) ?_ _ _ ⟨rfl, K0, rfl, hr.1, Int.le_refl _⟩
  rintro ⟨z, _⟩ _ ⟨rfl, k, rfl, hz, hz2⟩
  simp only at hz hz2
  show (∃ s' t', b_X4_printedSign_44 mc (16 * b + p) v e (w : Int) z (k : Int) = some (.inl s') ∧ b_X12_character_236 mm 0 ((16 * b + p : Nat) : Int) v l9 (w : Int) (K1 : Int) z (k : Int) = some (.inl t') ∧ _) ∨ ∃ x y, b_X4_printedSign_44 mc (16 * b + p) v e (w : Int) z (k : Int) = some (.inr x) ∧ b_X12_character_236 mm 0 ((16 * b + p : Nat) : Int) v l9 (w : Int) (K1 : Int) z (k : Int) = some (.inr y) ∧ _
  unfold b_X4_printedSign_44 b_X12_character_236
  rw [nk_of (hS.p4 p hp), ldN_of (hS.z30 p hp) (by omega), show ((w : Int) + 1).toNat = w + 1 by omega, hK1]
  by_cases q : (K1 : Int) ≤ (k : Int)
  · right
    rw [if_pos q, if_pos q]
    exact ⟨_, _, rfl, rfl, Or.inl ⟨z, rfl, rfl, hz, hz2⟩⟩
  · rw [if_neg q, if_neg q]
    obtain ⟨G, g1, g2, g3, g4⟩ := glyph_both h hN hB hp (k := k) (by omega) hv
    rw [nk_of (hS.p8 p hp), g4, Option.bind_some, ck_of ⟨by omega, by omega⟩, show 150 * ((16 * b + p : Nat) : Int) + (k : Int) = ((150 * (16 * b + p) + k : Nat) : Int) by omega, g1, Option.bind_some]
    obtain ⟨pr, hpr⟩ : ∃ pr : Int, pr = if G = 28 then -1 else G := ⟨_, rfl⟩
    rw [← hpr]
    -- by width
    by_cases hwd : G = 26 ∨ G = 27
    · have hp2 : pr = G := by rw [hpr, if_neg (by omega)]
      have em : (if G = 26 then j_X12_character_236_274 mm 0 ((16 * b + p : Nat) : Int) v l9 z (w : Int) (K1 : Int) (k : Int) G else if ¬ G = 27 then j_X12_character_236_279 mm 0 ((16 * b + p : Nat) : Int) v l9 z (w : Int) (K1 : Int) (k : Int) G 1 else j_X12_character_236_274 mm 0 ((16 * b + p : Nat) : Int) v l9 z (w : Int) (K1 : Int) (k : Int) G) = j_X12_character_236_279 mm 0 ((16 * b + p : Nat) : Int) v l9 z (w : Int) (K1 : Int) (k : Int) G 2 := by
        unfold j_X12_character_236_274
        by_cases c1 : G = 26
        · rw [if_pos c1]
        · rw [if_neg c1, if_neg (show ¬ ¬ G = 27 by omega)]
      rw [em, hp2, if_neg (show ¬ G < 26 by omega)]
      unfold j_X4_printedSign_44_82 j_X12_character_236_279
      by_cases c2 : 2 ≤ z
      · left
        rw [if_pos c2, if_pos c2]
        refine ⟨(z - 2, (k : Int) + 1), (z - 2, (k : Int) + 1), ?_, ?_, ⟨rfl, k + 1, by simp, by simp only; omega, by simp only; omega⟩, by simp only; omega⟩
        · rw [ck_of ⟨by omega, by omega⟩, ck_of ⟨by omega, by omega⟩]
        · rw [ck_of ⟨by omega, by omega⟩, ck_of ⟨by omega, by omega⟩]
      · right
        rw [if_neg c2, if_neg c2, if_neg (show ¬ ¬ (2 : Int) = 2 by decide)]
        unfold f_X4_signOf
        rw [if_pos (show ¬ G = -1 by omega), if_pos (show 26 ≤ G by omega)]
        by_cases c3 : z = 0
        · rw [if_neg (fun q => q c3), if_neg (fun q => q c3)]
          exact ⟨_, _, rfl, rfl, Or.inr ⟨_, rfl, rfl⟩⟩
        · rw [if_pos c3, if_pos c3]
          by_cases c4 : G = 26
          · rw [if_neg (fun q => q c4), if_neg (fun q => q c4)]
            exact ⟨_, _, rfl, rfl, Or.inr ⟨_, rfl, rfl⟩⟩
          · rw [if_pos c4, if_pos c4]
            exact ⟨_, _, rfl, rfl, Or.inr ⟨_, rfl, rfl⟩⟩
    · rw [if_neg (show ¬ G = 26 by omega), if_pos (show ¬ G = 27 by omega), if_pos (show pr < 26 by rw [hpr]; split <;> omega)]
      unfold j_X4_printedSign_44_82 j_X12_character_236_279
      by_cases c2 : 1 ≤ z
      · left
        rw [if_pos c2, if_pos c2]
        refine ⟨(z - 1, (k : Int) + 1), (z - 1, (k : Int) + 1), ?_, ?_, ⟨rfl, k + 1, by simp, by simp only; omega, by simp only; omega⟩, by simp only; omega⟩
        · rw [ck_of ⟨by omega, by omega⟩, ck_of ⟨by omega, by omega⟩]
        · rw [ck_of ⟨by omega, by omega⟩, ck_of ⟨by omega, by omega⟩]
      · right
        rw [if_neg c2, if_neg c2, if_pos (show ¬ (1 : Int) = 2 by decide)]
        unfold f_X4_signOf
        by_cases c3 : G = 28
        · rw [if_pos c3] at hpr
          rw [if_neg (show ¬ ¬ pr = -1 from fun q => q hpr), if_neg (show ¬ ¬ G = 28 from fun q => q c3)]
          exact ⟨_, _, rfl, rfl, Or.inr ⟨_, rfl, rfl⟩⟩
        · rw [if_neg c3] at hpr
          rw [if_pos (show ¬ pr = -1 by omega), if_neg (show ¬ 26 ≤ pr by omega), if_pos c3, hpr, ck_of ⟨by omega, by omega⟩, ck_of ⟨by omega, by omega⟩]
          exact ⟨_, _, rfl, rfl, Or.inr ⟨_, rfl, rfl⟩⟩
theorem chr_words (h : RR N mc mm) (hN : N ≤ 511) (hB : RBk mc mm b F n M Ln E) {p l : Nat} (hp : p < 2 * (F * n)) (hset : gN mm 83 0 (16 * b + p) = 1) (hl : (l : Int) < gN mm 88 0 (16 * b + p)) {v e : Int} (hv : v = -1 ∨ (0 ≤ v ∧ v < gN mc 2 (8 * b + fo F p) 7)) (he : e = gN mm 91 0 (6 * (16 * b + p) + l) + gN mm 92 0 (6 * (16 * b + p) + l)) :
    ∀ (d w : Nat) (r : Int), e - w ≤ d → gN mm 91 0 (6 * (16 * b + p) + l) ≤ w → (w : Int) < e → 0 ≤ r → r + gN mm 97 0 (60 * (16 * b + p) + w) < 2147483648 →
    ∃ x y, lpb (fun s : Int × Int => b_X4_printedSign_28 mc (16 * b + p) v e s.1 s.2) (r, (w : Int)) = some x ∧ lpb (fun s : Int × Int => b_X12_character_121 mm 0 ((16 * b + p : Nat) : Int) v ((6 * (16 * b + p) + l : Nat) : Int) s.1 s.2) (r + gN mm 97 0 (60 * (16 * b + p) + w), (w : Int)) = some y ∧ ((x = .inr () ∧ y = .inr ()) ∨ ∃ g, x = .inl g ∧ y = .inl (.inl (some (aI g)), mm)) := by
  have hM := h.M
  have hP := hB.hP
  have hS := hB.hS
  have q0 := hP.hb
  have q1 := hP.hn
  have q2 := hP.hL
  have hg := hB.pg p hp
  have hwn := hg.wn
  have hln := hg.ln
  have hf2 := hg.f2 hset
  obtain ⟨g1, g2, g3, g4, g5⟩ := hg.l2 l hl
  intro d
  induction d with
  | zero => intro w r h1 h2 h3; omega
  | succ d ih =>
    intro w r hd hwa hwe hr hr2
    have hw60 : w < 60 := by omega
    have hw89 : (w : Int) < gN mm 89 0 (16 * b + p) := by omega
    obtain ⟨f1, f1a, f1b⟩ := hg.f1 w hw89
    have hbl := hg.bl l w hl hwa (by omega)
    obtain ⟨K0, hK0⟩ := Int.ex f1a
    -- where the next word's places begin
    have hK : ∃ K1 : Nat, gN mc 30 (16 * b + p) (w + 1) = K1 ∧ (K1 : Int) ≤ gN mm 90 0 (16 * b + p) ∧ (if gN mm 89 0 (16 * b + p) ≤ (w : Int) + 1 then gN mm 90 0 (16 * b + p) else gN mm 98 0 (60 * (16 * b + p) + w + 1)) = K1 := by
      by_cases z : gN mm 89 0 (16 * b + p) ≤ (w : Int) + 1
      · have hz : (gN mm 89 0 (16 * b + p)).toNat = w + 1 := by omega
        rw [hz] at hf2
        obtain ⟨K1, hK1⟩ := Int.ex hg.pn.2.1
        exact ⟨K1, by rw [hf2, hK1], by omega, by rw [if_pos z, hK1]⟩
      · obtain ⟨z1, z2, z3⟩ := hg.f1 (w + 1) (by omega)
        obtain ⟨K1, hK1⟩ := Int.ex z2
        exact ⟨K1, by rw [z1, hK1], by omega, by rw [if_neg z, ← hK1, Nat.add_assoc]⟩
    obtain ⟨K1, hK1, hK1b, hK1m⟩ := hK
    obtain ⟨x, y, e1, e2, e3⟩ := chr_places h hN hB (K0 := K0) (e := e) hp hw60 hv hK1 hK1b (r := r) ⟨hr, by omega⟩ ((6 * (16 * b + p) + l : Nat) : Int)
    have kr : r + gN mm 97 0 (60 * (16 * b + p) + w) - gN mm 97 0 (60 * (16 * b + p) + w) = r := by omega
    have mrest : (if gN mm 89 0 (16 * b + p) ≤ (w : Int) + 1 then (nk 90 (gR mm 12 0 37) fun i23 => ldN mm 90 i23 ((16 * b + p : Nat) : Int) fun v24 => j_X12_character_121_219 mm 0 ((16 * b + p : Nat) : Int) v ((6 * (16 * b + p) + l : Nat) : Int) r (w : Int) v24) else nk 98 (gR mm 12 0 45) fun i25 => ldN mm 98 i25 (60 * ((16 * b + p : Nat) : Int) + (w : Int) + 1) fun v26 => j_X12_character_121_219 mm 0 ((16 * b + p : Nat) : Int) v ((6 * (16 * b + p) + l : Nat) : Int) r (w : Int) v26) = j_X12_character_121_219 mm 0 ((16 * b + p : Nat) : Int) v ((6 * (16 * b + p) + l : Nat) : Int) r (w : Int) (K1 : Int) := by
      by_cases z : gN mm 89 0 (16 * b + p) ≤ (w : Int) + 1
      · rw [if_pos z] at hK1m
        rw [if_pos z, nk_of hM.r37, ldN_of hM.z90 (by omega), tnc, hK1m]
      · rw [if_neg z] at hK1m
        rw [if_neg z, nk_of hM.r45, show 60 * ((16 * b + p : Nat) : Int) + (w : Int) + 1 = ((60 * (16 * b + p) + w + 1 : Nat) : Int) by omega, ldN_of hM.z98 (by omega), tnc, hK1m]
    have mbody : b_X12_character_121 mm 0 ((16 * b + p : Nat) : Int) v ((6 * (16 * b + p) + l : Nat) : Int) (r + gN mm 97 0 (60 * (16 * b + p) + w)) (w : Int) = j_X12_character_121_219 mm 0 ((16 * b + p : Nat) : Int) v ((6 * (16 * b + p) + l : Nat) : Int) r (w : Int) (K1 : Int) := by
      rw [← mrest]
      unfold b_X12_character_121
      rw [nk_of hM.r38, ldN_of hM.z91 (by omega), tnc, nk_of hM.r39, ldN_of hM.z92 (by omega), tnc, ← he, ck_of ⟨by omega, by omega⟩, if_neg (by omega), nk_of hM.r44, show 60 * ((16 * b + p : Nat) : Int) + (w : Int) = ((60 * (16 * b + p) + w : Nat) : Int) by omega, ldN_of hM.z97 (by omega), tnc, if_pos (by omega), nk_of hM.r44, ldN_of hM.z97 (by omega), tnc, kr, ck_of ⟨by omega, by omega⟩, nk_of hM.r36, ldN_of hM.z89 (by omega), tnc, ck_of ⟨by omega, by omega⟩]
    have mj : j_X12_character_121_219 mm 0 ((16 * b + p : Nat) : Int) v ((6 * (16 * b + p) + l : Nat) : Int) r (w : Int) (K1 : Int) = (some y).bind (Sum.elim (fun r => some (.inr (.inl r))) fun z => j_X12_character_121_352 mm 0 ((16 * b + p : Nat) : Int) v ((6 * (16 * b + p) + l : Nat) : Int) z (w : Int)) := by
      unfold j_X12_character_121_219
      rw [nk_of hM.r45, show 60 * ((16 * b + p : Nat) : Int) + (w : Int) = ((60 * (16 * b + p) + w : Nat) : Int) by omega, ldN_of hM.z98 (by omega), tnc, hK0, e2]
    have cbody : b_X4_printedSign_28 mc (16 * b + p) v e r (w : Int) = (some x).bind (Sum.elim (fun r => some (.inr (.inl r))) fun z => j_X4_printedSign_28_112 mc (16 * b + p) v z e (w : Int)) := by
      unfold b_X4_printedSign_28
      rw [if_neg (by omega), nk_of (hS.p4 p hp), ldN_of (hS.z30 p hp) (by omega), tnc, f1, hK0, e1]
    rcases e3 with ⟨r', rfl, rfl, hr', hr'2⟩ | ⟨g, rfl, rfl⟩
    · have cb2 : b_X4_printedSign_28 mc (16 * b + p) v e r (w : Int) = j_X4_printedSign_28_112 mc (16 * b + p) v r' e (w : Int) := by rw [cbody, Option.bind_some, Sum.elim_inr]
      have mb2 : b_X12_character_121 mm 0 ((16 * b + p : Nat) : Int) v ((6 * (16 * b + p) + l : Nat) : Int) (r + gN mm 97 0 (60 * (16 * b + p) + w)) (w : Int) = j_X12_character_121_352 mm 0 ((16 * b + p : Nat) : Int) v ((6 * (16 * b + p) + l : Nat) : Int) r' (w : Int) := by rw [mbody, mj, Option.bind_some, Sum.elim_inr]
      have mb3 : b_X12_character_121 mm 0 ((16 * b + p : Nat) : Int) v ((6 * (16 * b + p) + l : Nat) : Int) (r + gN mm 97 0 (60 * (16 * b + p) + w)) (w : Int) = some (.inl (r', (w : Int) + 1)) := by
        rw [mb2]
        unfold j_X12_character_121_352
        rw [ck_of ⟨by omega, by omega⟩]
      have munr : lpb (fun s : Int × Int => b_X12_character_121 mm 0 ((16 * b + p : Nat) : Int) v ((6 * (16 * b + p) + l : Nat) : Int) s.1 s.2) (r + gN mm 97 0 (60 * (16 * b + p) + w), (w : Int)) = lpb (fun s : Int × Int => b_X12_character_121 mm 0 ((16 * b + p : Nat) : Int) v ((6 * (16 * b + p) + l : Nat) : Int) s.1 s.2) (r', (w : Int) + 1) := by
        rw [lpb_eq]
        simp only
        rw [mb3]
        rfl
      by_cases hlast : e ≤ (w : Int) + 1
      · have cb3 : b_X4_printedSign_28 mc (16 * b + p) v e r (w : Int) = some (.inl (r' - 0, (w : Int) + 1)) := by
          rw [cb2]
          unfold j_X4_printedSign_28_112 j_X4_printedSign_28_132
          rw [ck_of ⟨by omega, by omega⟩, if_pos hlast, if_pos hr', ck_of ⟨by omega, by omega⟩, ck_of ⟨by omega, by omega⟩]
        refine ⟨.inr (), .inr (), ?_, ?_, Or.inl ⟨rfl, rfl⟩⟩
        · rw [lpb_eq]
          simp only
          rw [cb3]
          show lpb _ _ = _
          rw [lpb_eq]
          simp only
          unfold b_X4_printedSign_28
          rw [if_pos hlast]
          rfl
        · rw [munr, lpb_eq]
          simp only
          unfold b_X12_character_121
          rw [nk_of hM.r38, ldN_of hM.z91 (by omega), tnc, nk_of hM.r39, ldN_of hM.z92 (by omega), tnc, ← he, ck_of ⟨by omega, by omega⟩, if_pos hlast]
          rfl
      · have hbl2 := hg.bl l (w + 1) hl (by omega) (by omega)
        rw [Nat.add_sub_cancel] at hbl2
        have hbn : gN mm 97 0 (60 * (16 * b + p) + (w + 1)) = gN mc 29 (16 * b + p) w ∧ 1 ≤ gN mm 97 0 (60 * (16 * b + p) + (w + 1)) ∧ gN mm 97 0 (60 * (16 * b + p) + (w + 1)) ≤ 3 := by omega
        have cb3 : b_X4_printedSign_28 mc (16 * b + p) v e r (w : Int) = j_X4_printedSign_28_132 mc (16 * b + p) v r' e (w : Int) (gN mm 97 0 (60 * (16 * b + p) + (w + 1))) := by
          rw [cb2]
          unfold j_X4_printedSign_28_112
          rw [ck_of ⟨by omega, by omega⟩, if_neg hlast, nk_of (hS.p3 p hp), ldN_of (hS.z29 p hp) (by omega), tnc, ← hbn.1]
        by_cases hfit : gN mm 97 0 (60 * (16 * b + p) + (w + 1)) ≤ r'
        · obtain ⟨x, y, i1, i2, i3⟩ := ih (w + 1) (r' - gN mm 97 0 (60 * (16 * b + p) + (w + 1))) (by omega) (by omega) (by omega) (by omega) (by omega)
          rw [show r' - gN mm 97 0 (60 * (16 * b + p) + (w + 1)) + gN mm 97 0 (60 * (16 * b + p) + (w + 1)) = r' by omega] at i2
          refine ⟨x, y, ?_, by rw [munr]; exact i2, i3⟩
          rw [lpb_eq]
          simp only
          rw [cb3]
          unfold j_X4_printedSign_28_132
          rw [if_pos hfit, ck_of ⟨by omega, by omega⟩, ck_of ⟨by omega, by omega⟩]
          exact i1
        · refine ⟨.inl 32, .inl (.inl (some (aI 32)), mm), ?_, ?_, Or.inr ⟨_, rfl, rfl⟩⟩
          · rw [lpb_eq]
            simp only
            rw [cb3]
            unfold j_X4_printedSign_28_132
            rw [if_neg hfit]
            rfl
          · rw [munr, lpb_eq]
            simp only
            unfold b_X12_character_121
            rw [nk_of hM.r38, ldN_of hM.z91 (by omega), tnc, nk_of hM.r39, ldN_of hM.z92 (by omega), tnc, ← he, ck_of ⟨by omega, by omega⟩, if_neg hlast, nk_of hM.r44, show 60 * ((16 * b + p : Nat) : Int) + ((w : Int) + 1) = ((60 * (16 * b + p) + (w + 1) : Nat) : Int) by omega, ldN_of hM.z97 (by omega), tnc, if_neg hfit]
            rfl
    · have cb2 : b_X4_printedSign_28 mc (16 * b + p) v e r (w : Int) = some (.inr (.inl g)) := by rw [cbody, Option.bind_some, Sum.elim_inl]
      have mb2 : b_X12_character_121 mm 0 ((16 * b + p : Nat) : Int) v ((6 * (16 * b + p) + l : Nat) : Int) (r + gN mm 97 0 (60 * (16 * b + p) + w)) (w : Int) = some (.inr (.inl (.inl (some (aI g)), mm))) := by rw [mbody, mj, Option.bind_some, Sum.elim_inl]
      refine ⟨.inl g, .inl (.inl (some (aI g)), mm), ?_, ?_, Or.inr ⟨_, rfl, rfl⟩⟩
      · rw [lpb_eq]
        simp only
        rw [cb2]
        rfl
      · rw [lpb_eq]
        simp only
        rw [mb2]
        rfl
theorem call_character (h : RR N mc mm) (hN : N ≤ 511) {a c p l w : Int} (hl : nrm l) (hw : nrm w) : Qry (f_X11_character mc 0 a c p l w) (f_X12_character mm 0 a c p l w) [0, 2] mc mm := by
  have m59 : ∀ t : Int, t ≠ 0 → j_X12_character_0_59 mm 0 a c p l w 0 t = some (.inl (some (aI 0)), sN mm 12 0 0 t) := fun t ht => by
    unfold j_X12_character_0_59; rw [holds1 _ ht, bI_ok, if_neg (fun q => q rfl)]
  have m32 : j_X12_character_0_32 mm 0 a c p l w = some (.inl (some (aI 0)), sN mm 12 0 0 1) := by
    unfold j_X12_character_0_32 j_X12_character_0_33; rw [if_neg (fun q => q rfl), m59 1 (by decide)]
  have hl2 := hl.2
  have hw2 := hw.2
  unfold f_X11_character f_X12_character
  by_cases hb : 0 ≤ a ∧ a < gN mm 12 0 19
  · obtain ⟨b, rfl⟩ := Int.ex hb.1
    obtain ⟨F, n, M, Ln, E, hB⟩ := h.Bk b hb.2
    have hP := hB.hP
    have hS := hB.hS
    have q0 := hP.hb
    have q1 := hP.hn
    have q2 := hP.hL
    have c47 : j_X11_character_0_47 mc c p l w b = some (.inr 0, bX mc) := by unfold j_X11_character_0_47 j_X11_character_0_48; rw [rqI0, bV_ex]; rfl
    have c29 : j_X11_character_0_29 mc c p l w b = some (.inr 0, bX mc) := by unfold j_X11_character_0_29 j_X11_character_0_30; rw [rqI0, bV_ex]; rfl
    rw [bookAt_ok h.Nb h.C hb.2, bR_ok, nk_some]
    by_cases hc : 0 ≤ c ∧ c < (E : Nat)
    · obtain ⟨c, rfl⟩ := Int.ex hc.1
      rw [hasCopy_ok hS (by omega), Option.bind_some, if_neg (show ¬ (1 : Int) = 0 by decide), isCopy_ok h.Nb h.M hP hb.2 (by omega), Option.bind_some, if_neg (show ¬ (1 : Int) = 0 by decide)]
      by_cases hp : 0 ≤ p ∧ p < (2 * (F * n) : Nat)
      · obtain ⟨p, rfl⟩ := Int.ex hp.1
        have hp2 : p < 2 * (F * n) := by omega
        rw [hasPage_ok hS hp2, Option.bind_some, if_neg (show ¬ (1 : Int) = 0 by decide), isPage_ok h.Nb h.M hP hb.2 hp2, Option.bind_some, if_neg (show ¬ (1 : Int) = 0 by decide)]
        unfold j_X11_character_0_30
        rw [rqI _ (by decide), bV_ok, c47, m32]
        by_cases hl0 : l < 0
        · rw [if_pos hl0, if_pos hl0]
          exact Qry.bad (k := 0) rfl rfl rfl
        rw [if_neg hl0, if_neg hl0]
        by_cases hw0 : w < 0
        · rw [if_pos hw0, if_pos hw0]
          exact Qry.bad (k := 0) rfl rfl rfl
        rw [if_neg hw0, if_neg hw0]
        obtain ⟨l, rfl⟩ := Int.ex (show 0 ≤ l by omega)
        unfold j_X11_character_0_48 j_X12_character_0_33
        rw [rqI _ (by decide), bV_ok, if_pos (show ¬ (1 : Int) = 0 by decide), nk_of h.M.r26, ldN_of h.M.z79 (by omega), tnc, (hB.lv.bd).1]
        rcases hB.lv.bd.2 with hbd | hbd
        · rw [hbd, rqS0, bV_ex, if_pos rfl, m59 2 (by decide)]
          exact Qry.bad (k := 1) rfl rfl rfl
        · rw [hbd, rqS _ (by decide), bV_ok, if_neg (show ¬ (1 : Int) = 0 by decide)]
          unfold j_X12_character_0_59
          have h0 := h.thr 0
          have hB0 := hB.thr 0
          have hM0 := h0.M
          have hg := hB0.pg p hp2
          have hln := hg.ln
          rw [holds0, bI_ok, if_pos (show ¬ (1 : Int) = 0 by decide), ck_of ⟨by omega, by omega⟩, show 16 * (b : Int) + (p : Int) = ((16 * b + p : Nat) : Int) by omega, nk_of hM0.r35, ldN_of hM0.z88 (by omega), tnc]
          obtain ⟨v, e1, e2, e3⟩ := stateIn_same hM0 hB0 (by rw [gthr' _ _ (Or.inl (by decide))]; exact hbd) (c := c) (p := p) (by omega) hp2
          rw [nk_of hS.r5, ldR_of hS.z13 (by omega), tnc, hS.e13 p hp2, nk_some, e1, Option.bind_some]
          unfold f_X4_printedSign
          rw [hln.1]
          by_cases hll : (l : Int) < gN (sN mm 12 0 0 0) 88 0 (16 * b + p)
          · rw [if_pos hll, if_pos hll, e2, Option.bind_some]
            have hset : gN (sN mm 12 0 0 0) 83 0 (16 * b + p) = 1 := by
              rcases hg.st with z | z
              · have := (hg.un z.1).1; omega
              · exact z.1
            obtain ⟨g1, g2, g3, g4, g5⟩ := hg.l2 l hll
            obtain ⟨a0, ha0⟩ := Int.ex g1
            have hl31 := (hg.l1 l hll).1
            have hbl := hg.bl l a0 hll (by omega) (by omega)
            have hz : gN (sN mm 12 0 0 0) 97 0 (60 * (16 * b + p) + a0) = 0 := by
              rcases hbl with z | z
              · exact z.2
              · omega
            obtain ⟨x, y, i1, i2, i3⟩ := chr_words h0 hN hB0 hp2 hset hll e3 rfl 60 a0 w (by have := hg.wn; omega) (by omega) (by omega) (by omega) (by rw [hz]; omega)
            rw [hz, Int.add_zero] at i2
            rw [ha0] at i1
            have hlt6 : l < 6 := by omega
            rw [wbl_c hB0.hP hS hp2 hg hll, Option.bind_some, nk_of (hS.p5 p hp2), ldN_of (hS.z31 p hp2) (by omega), tnc, hl31, ha0, i1, Option.bind_some]
            rw [show 6 * ((16 * b + p : Nat) : Int) + (l : Int) = ((6 * (16 * b + p) + l : Nat) : Int) by omega, ck_of ⟨by omega, by omega⟩, lt0_eq, nk_of hM0.r38, ldN_of hM0.z91 (by omega), tnc, ha0, i2, Option.bind_some]
            rcases i3 with ⟨rfl, rfl⟩ | ⟨g, rfl, rfl⟩
            · exact Qry.ok (v := -1) rfl rfl
            · exact Qry.ok (v := g) rfl rfl
          · rw [if_neg hll, if_neg hll, Option.bind_some]
            exact Qry.ok rfl rfl
      · rw [hasPage_bad hS hp, Option.bind_some, if_pos rfl, c29, isPage_bad h.Nb h.M hP hb.2 hp, Option.bind_some, if_pos rfl, m32]
        exact Qry.bad (k := 0) rfl rfl rfl
    · rw [hasCopy_bad hS hc, Option.bind_some, if_pos rfl, c29, isCopy_bad h.Nb h.M hP hb.2 hc, Option.bind_some, if_pos rfl, m32]
      exact Qry.bad (k := 0) rfl rfl rfl
  · rw [bookAt_bad h.Nb h.C hb, bR_ex, isCopy_b0 h.Nb hb, Option.bind_some, if_pos rfl, m32]
    exact Qry.bad (k := 0) rfl rfl rfl
end SIGN
