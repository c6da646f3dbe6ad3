/-! CALLS THAT ASK: place, forme, state, mark, alike, madeUp. -/
theorem divF {p F s : Nat} (h : p / (2 * F) = s) : (p : Int) / (2 * (F : Int)) = (s : Int) := by rw [← h, Int.natCast_ediv, Int.natCast_mul]; rfl
theorem divL {l F s : Nat} (h : l / F = s) : (l : Int) / (F : Int) = (s : Int) := by rw [← h]; exact (Int.natCast_ediv l F).symm
theorem div2 (l : Nat) : (l : Int) / 2 = ((l / 2 : Nat) : Int) := by omega
theorem fo_side {F p : Nat} : ∃ d, d < 2 ∧ fo F p = 2 * (p / (2 * F)) + d := by
  unfold fo
  split
  · exact ⟨0, by omega, rfl⟩
  · exact ⟨1, by omega, rfl⟩
theorem sheet_lt {F n p : Nat} (hF : F = 2 ∨ F = 4 ∨ F = 8) (hp : p < 2 * (F * n)) : p / (2 * F) < n := by
  rcases hF with rfl | rfl | rfl <;> omega
theorem leaf_lt {F n l : Nat} (hF : F = 2 ∨ F = 4 ∨ F = 8) (hl : l < F * n) : l / F < n := by
  rcases hF with rfl | rfl | rfl <;> omega
theorem tn26 (a b : Nat) : (26 * (8 * (a : Int) + (b : Int))).toNat = 26 * (8 * a + b) := by omega
section ASK
variable {N : Nat} {mc mm : MM} {b F n M Ln E : Nat}
theorem stateOf_same (hM : SM mm) (hP : BP mm b F n M Ln E) (hS : BS mc b F n M Ln E) {f : Nat} (hf : f < 2 * n) (h : RFo mc mm (8 * b + f) E) (h1 : 1 ≤ gN mm 108 0 (8 * b + f)) (x : Int) :
    ∃ v, f_X2_stateOf mc (8 * b + f) x = some v ∧ j_X12_stateIn_0_62 mm 0 (((8 * b + f : Nat)) : Int) x = some v ∧ 0 ≤ v ∧ v < gN mc 2 (8 * b + f) 7 := by
  have hb := hP.hb
  have hE := hP.hE
  have hn := hP.hn
  have g7 : gN mc 2 (8 * b + f) 7 = gN mm 111 0 (8 * b + f) ∧ 1 ≤ gN mm 111 0 (8 * b + f) ∧ gN mm 111 0 (8 * b + f) ≤ E := by
    rcases h.ns with z | z
    · omega
    · exact z.2
  obtain ⟨g7, g8, g9⟩ := g7
  obtain ⟨k0, hk0⟩ : ∃ k : Nat, gN mm 111 0 (8 * b + f) = k := ⟨(gN mm 111 0 (8 * b + f)).toNat, by omega⟩
  rw [hk0] at g7 g8 g9
  obtain ⟨v, e1, e2, e3⟩ := lpb_same (b := fun s : Int × Int => b_X2_stateOf_4 mc (8 * b + f) x s.1 s.2) (c := fun s => b_X12_stateIn_70 mm 0 ((8 * b + f : Nat) : Int) x s.1 s.2) (fun s => ∃ k : Nat, s.2 = k ∧ 1 ≤ k ∧ k ≤ k0 ∧ 0 ≤ s.1 ∧ s.1 < k) (fun s => k0 - s.2.toNat) (fun v => 0 ≤ v ∧ v < (k0 : Int)) (by
    rintro ⟨a, _⟩ ⟨k, rfl, hk1, hk2, ha1, ha2⟩
    simp only at ha1 ha2
    show ∃ z, b_X2_stateOf_4 mc (8 * b + f) x a (k : Int) = some z ∧ b_X12_stateIn_70 mm 0 ((8 * b + f : Nat) : Int) x a (k : Int) = some z ∧ _
    unfold b_X2_stateOf_4 b_X12_stateIn_70
    rw [g7, nk_of hM.r59, ldN_of hM.z111 (by omega), tnc, hk0]
    by_cases hc : (k0 : Int) ≤ k
    · rw [if_pos hc, if_pos hc]
      exact ⟨_, rfl, rfl, fun s' q => (by cases q), fun v q => (by cases q; exact ⟨ha1, by omega⟩)⟩
    · have hsb := h.sb h1 k (by rw [hk0]; omega)
      rw [if_neg hc, if_neg hc, nk_of (hS.o2 f hf), ldN_of (hS.z26 f hf) (by omega), nk_of hM.r60, ldN_of hM.z112 (by omega), tnc, show (26 * ((8 * b + f : Nat) : Int) + (k : Int)).toNat = 26 * (8 * b + f) + k by omega, hsb.1]
      have ck1 : ∀ {X : Type} (o : Option X), ck ((k : Int) + 1) o = o := fun o => ck_of ⟨by omega, by omega⟩
      simp only [ck1]
      by_cases hx : x < gN mm 112 0 (26 * (8 * b + f) + k)
      · rw [if_pos hx]
        exact ⟨_, rfl, rfl, fun s' q => (by cases q; exact ⟨⟨k + 1, by simp, by omega, by omega, ha1, by simp only; omega⟩, by simp only; omega⟩), fun v q => (by cases q)⟩
      · rw [if_neg hx]
        exact ⟨_, rfl, rfl, fun s' q => (by cases q; exact ⟨⟨k + 1, by simp, by omega, by omega, by simp only; omega, by simp only; omega⟩, by simp only; omega⟩), fun v q => (by cases q)⟩) (0, 1) ⟨1, rfl, by omega, by omega, by simp only; omega, by simp only; omega⟩
  refine ⟨v, ?_, ?_, e3.1, by rw [g7]; exact e3.2⟩
  · unfold f_X2_stateOf
    rw [e1]; rfl
  · unfold j_X12_stateIn_0_62
    rw [e2]; rfl
theorem leafAt_m (m : MM) (a c l : Nat) (h1 : a < 3) (h2 : c < 24) (h3 : l < 8) : f_X12_leafAt m (a : Int) (c : Int) (l : Int) = some ((8 * (24 * a + c) + l : Nat) : Int) := by
  unfold f_X12_leafAt
  rw [ck_of ⟨by omega, by omega⟩]
  congr 1
/-- the state of a page in a copy -/
theorem stateIn_same (hM : SM mm) (hB : RBk mc mm b F n M Ln E) (hbd : gN mm 79 0 b = 1) {c p : Nat} (hc : c < E) (hp : p < 2 * (F * n)) :
    ∃ v, f_X0_stateIn mc b (c : Int) (p : Int) = some v ∧ f_X12_stateIn mm 0 (b : Int) (c : Int) (p : Int) = some v ∧ (v = -1 ∨ (0 ≤ v ∧ v < gN mc 2 (8 * b + fo F p) 7)) := by
  have hP := hB.hP
  have hS := hB.hS
  have hb := hP.hb
  have hE := hP.hE
  have hn := hP.hn
  have hf := fo_lt hP.hF hp
  have hs := sheet_lt hP.hF hp
  obtain ⟨d0, hd0, hfo⟩ := fo_side (F := F) (p := p)
  obtain ⟨s, hsq⟩ : ∃ s, p / (2 * F) = s := ⟨_, rfl⟩
  rw [hsq] at hs hfo
  obtain ⟨hv1, hv2, hv3⟩ := hB.lv.l hbd c (p / 2) hc (by omega)
  have hdone := hB.lv.d hbd _ hf
  unfold f_X0_stateIn f_X12_stateIn
  rw [nk_of hS.r9, ldR_of hS.z17 (by omega), tnc, hS.e17 c hc, nk_some, dv_of ⟨by omega, by omega⟩, div2, ldN_of (hS.z18 c hc) (by omega), tnc, nk_of hM.r76, dv_of ⟨by omega, by omega⟩, leafAt_m mm b c (p / 2) hb (by omega) (by omega), Option.bind_some, ldN_of hM.z126 (by omega), tnc, hv1]
  by_cases hl : gN mm 126 0 (8 * (24 * b + c) + p / 2) = -1
  · rw [if_neg (fun q => q hl), if_neg (fun q => q hl)]
    exact ⟨_, rfl, rfl, Or.inl rfl⟩
  · rw [if_pos hl, if_pos hl, nk_of hS.r7, hS.f0, ck_of ⟨by have := hP.hF; omega, by have := hP.hF; omega⟩, dv_of ⟨by omega, by have := hP.hF; omega⟩, divF hsq, ldR_of hS.z15 (by omega), tnc, hS.e15 _ hs, nk_some, nk_of hS.r6, formeNumber_c hP hS (by omega), Option.bind_some, ldR_of hS.z14 (by omega), tnc, hS.e14 _ hf, nk_some, formeOf_m hM hP (by omega), Option.bind_some, ck_of ⟨by omega, by omega⟩, nk_of hM.r64, ldN_of hM.z116 (by omega), tn8]
    have key : ∀ x : Int, ∃ v, (f_X2_stateOf mc (8 * b + fo F p) x).bind (fun v1 => (some v1 : Option Int)) = some v ∧ j_X12_stateIn_0_62 mm 0 (8 * (b : Int) + ((fo F p : Nat) : Int)) x = some v ∧ (v = -1 ∨ (0 ≤ v ∧ v < gN mc 2 (8 * b + fo F p) 7)) := by
      intro x
      obtain ⟨v, e1, e2, e3, e4⟩ := stateOf_same hM hP hS hf (hB.ff _ hf) (by omega) x
      refine ⟨v, by rw [e1]; rfl, ?_, Or.inr ⟨e3, e4⟩⟩
      rw [← e2]
      congr 1
    have hk := (hB.sh _ hs).k
    have hd1 := hB.lv.d hbd (2 * s) (by omega)
    unfold f_X8_stateOn
    rw [hS.o1 _ hf]
    rcases hk with ⟨_, _, z, _⟩ | ⟨_, _, _, d, e, hde, hr, h5, h6, h7⟩
    · omega
    · rw [hr]
      by_cases hdd : d0 = d
      · have e1 : gN mm 116 0 (8 * b + fo F p) = 1 := by rw [hfo, hdd]; exact h6
        rw [if_neg (by rw [hfo, hdd]; exact fun q => q rfl), e1, if_neg (by decide)]
        unfold j_X8_stateOn_0_21
        obtain ⟨v, g1, g2, g3⟩ := key (gN mm 126 0 (8 * (24 * b + c) + p / 2))
        exact ⟨v, by rw [g1]; rfl, g2, g3⟩
      · have hde2 : d0 = e := by omega
        have e1 : gN mm 116 0 (8 * b + fo F p) = 0 := by rw [hfo, hde2]; exact h7 (by rw [hfo, hde2] at hdone; omega)
        rw [if_pos (by rw [hfo]; intro q; simp only [Option.some.injEq, Prod.mk.injEq] at q; omega), ck_of ⟨by omega, by omega⟩, e1, if_pos rfl, nk_of hM.r24, ldN_of hM.z77 (by omega), tnc, hP.e, ck_of ⟨by omega, by omega⟩]
        unfold j_X8_stateOn_0_21
        obtain ⟨v, g1, g2, g3⟩ := key ((E : Int) - 1 - gN mm 126 0 (8 * (24 * b + c) + p / 2))
        exact ⟨v, by rw [g1]; rfl, g2, g3⟩
theorem Int.ex {x : Int} (h : 0 ≤ x) : ∃ k : Nat, x = k := ⟨x.toNat, by omega⟩
theorem call_state {a c p : Int} (h : RR N mc mm) : Qry (f_X11_state mc 0 a c p) (f_X12_state mm 0 a c p) [0, 2] mc mm := by
  have m49 : ∀ t : Int, t ≠ 0 → j_X12_state_0_49 mm 0 a c p 0 t = some (.inl (some (aI 0)), sN mm 12 0 0 t) := fun t ht => by
    unfold j_X12_state_0_49; rw [holds1 _ ht, bI_ok, if_pos rfl]
  have m22 : j_X12_state_0_22 mm 0 a c p = some (.inl (some (aI 0)), sN mm 12 0 0 1) := by
    unfold j_X12_state_0_22 j_X12_state_0_23; rw [if_neg (fun q => q rfl), m49 1 (by decide)]
  unfold f_X11_state f_X12_state
  by_cases hb : 0 ≤ a ∧ a < gN mm 12 0 19
  · obtain ⟨b, rfl⟩ := Int.ex hb.1
    obtain ⟨F, n, M, Ln, E, hB⟩ := h.Bk b hb.2
    have hP := hB.hP
    have c29 : j_X11_state_0_29 mc c p b = some (.inr 0, bX mc) := by unfold j_X11_state_0_29 j_X11_state_0_30; rw [rqI0, bV_ex]; rfl
    rw [bookAt_ok h.Nb h.C hb.2, bR_ok, nk_some]
    by_cases hc : 0 ≤ c ∧ c < (E : Nat)
    · obtain ⟨c, rfl⟩ := Int.ex hc.1
      rw [hasCopy_ok hB.hS (by omega), Option.bind_some, if_neg (by decide), isCopy_ok h.Nb h.M hP hb.2 (by omega), Option.bind_some, if_neg (by decide)]
      by_cases hp : 0 ≤ p ∧ p < (2 * (F * n) : Nat)
      · obtain ⟨p, rfl⟩ := Int.ex hp.1
        rw [hasPage_ok hB.hS (by omega), Option.bind_some, if_neg (by decide), isPage_ok h.Nb h.M hP hb.2 (by omega), Option.bind_some, if_neg (by decide)]
        unfold j_X11_state_0_30 j_X12_state_0_23
        rw [rqI _ (by decide), bV_ok, if_pos (by decide), nk_of h.M.r26, ldN_of h.M.z79 (by have := hP.hb; omega), tnc, (hB.lv.bd).1]
        rcases hB.lv.bd.2 with hbd | hbd
        · rw [hbd, rqS0, bV_ex, if_pos rfl, m49 2 (by decide)]
          exact Qry.bad (k := 1) rfl rfl rfl
        · rw [hbd, rqS _ (by decide), bV_ok, if_neg (by decide)]
          unfold j_X12_state_0_49
          rw [holds0, bI_ok, if_neg (by decide)]
          obtain ⟨v, e1, e2, -⟩ := stateIn_same (h.M.thr 0) (hB.thr 0) (by rw [gthr' _ _ (Or.inl (by decide))]; exact hbd) (c := c) (p := p) (by omega) (by omega)
          rw [e1, e2, Option.bind_some, Option.bind_some]
          exact Qry.ok rfl rfl
      · rw [hasPage_bad hB.hS hp, Option.bind_some, if_pos rfl, c29, isPage_bad h.Nb h.M hP hb.2 hp, Option.bind_some, if_pos rfl, m22]
        exact Qry.bad (k := 0) rfl rfl rfl
    · rw [hasCopy_bad hB.hS hc, Option.bind_some, if_pos rfl, c29, isCopy_bad h.Nb h.M hP hb.2 hc, Option.bind_some, if_pos rfl, m22]
      exact Qry.bad (k := 0) rfl rfl rfl
  · rw [bookAt_bad h.Nb h.C hb, bR_ex, isCopy_b0 h.Nb hb, Option.bind_some, if_pos rfl, m22]
    exact Qry.bad (k := 0) rfl rfl rfl
theorem call_place {a p l w : Int} (h : RR N mc mm) : Qry (f_X11_place mc 0 a p l w) (f_X12_place mm 0 a p l w) [0, 1] mc mm := by
  have m33 : ∀ t : Int, t ≠ 0 → j_X12_place_0_33 mm 0 a p l w 0 t = some (.inl (some (aI 0)), sN mm 12 0 0 t) := fun t ht => by
    unfold j_X12_place_0_33; rw [holds1 _ ht, bI_ok, if_neg (fun q => q rfl)]
  have m14 : j_X12_place_0_14 mm 0 a p l w 0 = some (.inl (some (aI 0)), sN mm 12 0 0 1) := m33 1 (by decide)
  unfold f_X11_place f_X12_place
  by_cases hb : 0 ≤ a ∧ a < gN mm 12 0 19
  · obtain ⟨b, rfl⟩ := Int.ex hb.1
    obtain ⟨F, n, M, Ln, E, hB⟩ := h.Bk b hb.2
    have hP := hB.hP
    have hS := hB.hS
    rw [bookAt_ok h.Nb h.C hb.2, bR_ok, nk_some]
    by_cases hp : 0 ≤ p ∧ p < (2 * (F * n) : Nat)
    · obtain ⟨p, rfl⟩ := Int.ex hp.1
      have hp2 : p < 2 * (F * n) := by omega
      rw [pageOf_ok hS hp2, bR_ok, nk_some, nk_of (hS.p8 p hp2), isPage_ok h.Nb h.M hP hb.2 hp2, Option.bind_some, if_neg (show ¬ (1 : Int) = 0 by decide)]
      by_cases hl : 0 ≤ l
      · rw [if_neg (by omega), if_pos hl, isIn_m, Option.bind_some]
        unfold j_X11_place_0_23
        rw [rqI _ (by decide), bV_ok]
        by_cases hw : 0 ≤ w ∧ w ≤ 2
        · rw [if_neg (by omega), if_neg (by omega), if_pos hw, if_neg (by decide)]
          unfold j_X11_place_0_42 j_X12_place_0_33
          rw [rqA _ (by decide), bV_ok, holds0, bI_ok, if_pos (show ¬ (1 : Int) = 0 by decide)]
          have hM := h.M.thr 0
          have hB0 := hB.thr 0
          have hb3 := hP.hb
          have hn := hP.hn
          have hg := hB0.pg p hp2
          have hpl := hB0.pl p hp2
          have hml := hP.ml
          rw [ck_of ⟨by omega, by omega⟩, nk_of hM.r30, ldN_of hM.z83 (by omega), tn16, (hg.pn).1]
          by_cases h83 : gN (sN mm 12 0 0 0) 83 0 (16 * b + p) = 0
          · rw [if_pos h83, (hg.un h83).2.2, if_neg (by omega)]
            exact Qry.ok rfl rfl
          · rw [if_neg h83, nk_of hM.r37, ldN_of hM.z90 (by omega), tn16]
            by_cases hc : l < gN (sN mm 12 0 0 0) 90 0 (16 * b + p)
            · obtain ⟨k, rfl⟩ := Int.ex hl
              have := hg.pn
              have x1 := hpl.w k hc
              have x2 := hpl.p k hc
              have x3 := hpl.t k hc
              rw [if_pos hc, if_pos hc, ck_of ⟨by omega, by omega⟩, lt0_eq]
              obtain rfl | rfl | rfl : w = 0 ∨ w = 1 ∨ w = 2 := by omega
              · rw [if_pos rfl, if_neg (by decide), nk_of (hS.q1 p hp2), ldN_of (hS.z35 p hp2) (by omega), nk_of hM.r47, ldN_of hM.z100 (by omega), tn150, tnc, x2.1]
                exact Qry.ok rfl rfl
              · rw [if_neg (by decide), if_pos rfl, if_pos (by decide), if_neg (by decide), nk_of (hS.q0 p hp2), ldN_of (hS.z34 p hp2) (by omega), nk_of hM.r46, ldN_of hM.z99 (by omega), tn150, tnc, x1.1]
                exact Qry.ok rfl rfl
              · rw [if_neg (by decide), if_neg (by decide), if_pos (by decide), if_pos (by decide), nk_of (hS.q2 p hp2), ldN_of (hS.z36 p hp2) (by omega), nk_of hM.r48, ldN_of hM.z101 (by omega), tn150, tnc, x3.1]
                rcases x3.2.1 with z | z <;> rw [z]
                · exact Qry.ok rfl rfl
                · exact Qry.ok rfl rfl
            · rw [if_neg hc, if_neg hc]
              exact Qry.ok rfl rfl
        · have e : (if w < 0 then j_X11_place_0_41 mc l w (16 * b + p) else if 2 < w then j_X11_place_0_41 mc l w (16 * b + p) else j_X11_place_0_42 mc l w (16 * b + p) 1) = some (.inr 1, bX mc) := by
            have e0 : j_X11_place_0_41 mc l w (16 * b + p) = some (.inr 1, bX mc) := by unfold j_X11_place_0_41 j_X11_place_0_42; rw [rqA0, bV_ex]; rfl
            rw [e0]; exact ite2 (by omega)
          rw [e, if_neg hw, if_pos rfl, m33 2 (by decide)]
          exact Qry.bad (k := 1) rfl rfl rfl
      · rw [if_pos (by omega), if_neg hl, m14]
        unfold j_X11_place_0_23
        rw [rqI0, bV_ex]
        exact Qry.bad (k := 0) rfl rfl rfl
    · rw [pageOf_bad hS hp, bR_ex, isPage_bad h.Nb h.M hP hb.2 hp, Option.bind_some, if_pos rfl, m14]
      exact Qry.bad (k := 0) rfl rfl rfl
  · rw [bookAt_bad h.Nb h.C hb, bR_ex, isPage_b0 h.Nb hb, Option.bind_some, if_pos rfl, m14]
    exact Qry.bad (k := 0) rfl rfl rfl
theorem call_forme {a p w : Int} (h : RR N mc mm) : Qry (f_X11_forme mc 0 a p w) (f_X12_forme mm 0 a p w) [0, 1] mc mm := by
  have m33 : ∀ t : Int, t ≠ 0 → j_X12_forme_0_28 mm 0 a p w 0 t = some (.inl (some (aI 0)), sN mm 12 0 0 t) := fun t ht => by
    unfold j_X12_forme_0_28; rw [holds1 _ ht, bI_ok, if_neg (fun q => q rfl)]
  unfold f_X11_forme f_X12_forme
  by_cases hb : 0 ≤ a ∧ a < gN mm 12 0 19
  · obtain ⟨b, rfl⟩ := Int.ex hb.1
    obtain ⟨F, n, M, Ln, E, hB⟩ := h.Bk b hb.2
    have hP := hB.hP
    have hS := hB.hS
    rw [bookAt_ok h.Nb h.C hb.2, bR_ok, nk_some]
    by_cases hp : 0 ≤ p ∧ p < (2 * n : Nat)
    · obtain ⟨p, rfl⟩ := Int.ex hp.1
      have hp2 : p < 2 * n := by omega
      rw [formeOf_ok hS hp2, bR_ok, nk_some, isForme_ok h.Nb h.M hP hb.2 hp2, Option.bind_some, if_pos (show ¬ (1 : Int) = 0 by decide), isIn_m, Option.bind_some]
      by_cases hw : 0 ≤ w ∧ w ≤ 4
      · rw [if_neg (by omega), if_neg (by omega), if_pos hw, if_neg (by decide)]
        unfold j_X11_forme_0_25 j_X12_forme_0_28
        rw [rqA _ (by decide), bV_ok, holds0, bI_ok, if_pos (show ¬ (1 : Int) = 0 by decide)]
        have hM := h.M.thr 0
        have hf := (hB.thr 0).ff p hp2
        have hb3 := hP.hb
        have hn := hP.hn
        rw [ck_of ⟨by omega, by omega⟩]
        obtain rfl | rfl | rfl | rfl | rfl : w = 0 ∨ w = 1 ∨ w = 2 ∨ w = 3 ∨ w = 4 := by omega
        · rw [if_neg (by decide), nk_of hM.r56, ldN_of hM.z108 (by omega), tn8, ← hf.how.1]
          exact Qry.ok rfl rfl
        · rw [if_pos (by decide), if_neg (by decide), nk_of hM.r56, ldN_of hM.z108 (by omega), tn8]
          rcases hf.sk with ⟨z1, z2⟩ | ⟨z1, z2, -⟩
          · rw [if_neg (fun q => q z1), ← z2]
            exact Qry.ok rfl rfl
          · rw [if_pos (by omega), nk_of hM.r57, ldN_of hM.z109 (by omega), tn8, ← z2]
            exact Qry.ok rfl rfl
        · rw [if_pos (by decide), if_pos (by decide), if_neg (by decide), nk_of hM.r58, ldN_of hM.z110 (by omega), tn8, ← hf.pr.1]
          exact Qry.ok rfl rfl
        · rw [if_pos (by decide), if_pos (by decide), if_pos (by decide), if_neg (by decide)]
          unfold f_X12_stateMany
          rw [nk_of hM.r56, ldN_of hM.z108 (by omega), tn8]
          rcases hf.ns with ⟨z1, z2⟩ | ⟨z1, z2, -⟩
          · rw [if_neg (fun q => q z1), Option.bind_some]
            exact Qry.ok (v := 1) (by rw [← z2]; rfl) rfl
          · rw [if_pos (by omega), nk_of hM.r59, ldN_of hM.z111 (by omega), tn8, Option.bind_some, ← z2]
            exact Qry.ok rfl rfl
        · rw [if_pos (by decide), if_pos (by decide), if_pos (by decide), if_pos (by decide), nk_of hM.r56, ldN_of hM.z108 (by omega), tn8]
          rcases hf.dh with ⟨z1, z2⟩ | ⟨z1, z2, -⟩
          · rw [if_pos z1, ← z2]
            exact Qry.ok rfl rfl
          · rw [if_neg (by omega), nk_of hM.r62, ldN_of hM.z114 (by omega), tn8, ← z2]
            exact Qry.ok rfl rfl
      · have e : (if w < 0 then j_X11_forme_0_24 mc w (8 * b + p) else if 4 < w then j_X11_forme_0_24 mc w (8 * b + p) else j_X11_forme_0_25 mc w (8 * b + p) 1) = some (.inr 1, bX mc) := by
          have e0 : j_X11_forme_0_24 mc w (8 * b + p) = some (.inr 1, bX mc) := by unfold j_X11_forme_0_24 j_X11_forme_0_25; rw [rqA0, bV_ex]; rfl
          rw [e0]; exact ite2 (by omega)
        rw [e, if_neg hw, if_pos rfl, m33 2 (by decide)]
        exact Qry.bad (k := 1) rfl rfl rfl
    · rw [formeOf_bad hS hp, bR_ex, isForme_bad h.Nb h.M hP hb.2 hp, Option.bind_some, if_neg (fun q => q rfl), m33 1 (by decide)]
      exact Qry.bad (k := 0) rfl rfl rfl
  · rw [bookAt_bad h.Nb h.C hb, bR_ex, isForme_b0 h.Nb hb, Option.bind_some, if_neg (fun q => q rfl), m33 1 (by decide)]
    exact Qry.bad (k := 0) rfl rfl rfl
theorem call_mark {a c p : Int} (h : RR N mc mm) : Qry (f_X11_mark mc 0 a c p) (f_X12_mark mm 0 a c p) [0, 2] mc mm := by
  have m49 : ∀ t : Int, t ≠ 0 → j_X12_mark_0_49 mm 0 a c p 0 t = some (.inl (some (aI 0)), sN mm 12 0 0 t) := fun t ht => by
    unfold j_X12_mark_0_49; rw [holds1 _ ht, bI_ok, if_neg (fun q => q rfl)]
  have m22 : j_X12_mark_0_22 mm 0 a c p = some (.inl (some (aI 0)), sN mm 12 0 0 1) := by
    unfold j_X12_mark_0_22 j_X12_mark_0_23; rw [if_neg (fun q => q rfl), m49 1 (by decide)]
  unfold f_X11_mark f_X12_mark
  by_cases hb : 0 ≤ a ∧ a < gN mm 12 0 19
  · obtain ⟨b, rfl⟩ := Int.ex hb.1
    obtain ⟨F, n, M, Ln, E, hB⟩ := h.Bk b hb.2
    have hP := hB.hP
    have hS := hB.hS
    have c29 : j_X11_mark_0_29 mc c p b = some (.inr 0, bX mc) := by unfold j_X11_mark_0_29 j_X11_mark_0_30; rw [rqI0, bV_ex]; rfl
    rw [bookAt_ok h.Nb h.C hb.2, bR_ok, nk_some]
    by_cases hc : 0 ≤ c ∧ c < (E : Nat)
    · obtain ⟨c, rfl⟩ := Int.ex hc.1
      have hc2 : c < E := by omega
      rw [hasCopy_ok hB.hS hc2, Option.bind_some, if_neg (by decide), isCopy_ok h.Nb h.M hP hb.2 hc2, Option.bind_some, if_neg (by decide)]
      by_cases hp : 0 ≤ p ∧ p < (F * n : Nat)
      · obtain ⟨p, rfl⟩ := Int.ex hp.1
        have hp2 : p < F * n := by omega
        rw [hasLeaf_ok hP hB.hS hp2, Option.bind_some, if_neg (by decide), isLeaf_ok h.Nb h.M hP hb.2 hp2, Option.bind_some, if_neg (by decide)]
        unfold j_X11_mark_0_30 j_X12_mark_0_23
        rw [rqI _ (by decide), bV_ok, if_pos (by decide), nk_of h.M.r26, ldN_of h.M.z79 (by have := hP.hb; omega), tnc, (hB.lv.bd).1]
        rcases hB.lv.bd.2 with hbd | hbd
        · rw [hbd, rqS0, bV_ex, if_pos rfl, m49 2 (by decide)]
          exact Qry.bad (k := 1) rfl rfl rfl
        · rw [hbd, rqS _ (by decide), bV_ok, if_neg (by decide)]
          unfold j_X12_mark_0_49
          rw [holds0, bI_ok, if_pos (show ¬ (1 : Int) = 0 by decide)]
          have hM := h.M.thr 0
          have hB0 := hB.thr 0
          have hbd0 : gN (sN mm 12 0 0 0) 79 0 b = 1 := by rw [gthr' _ _ (Or.inl (by decide))]; exact hbd
          have hP0 := hB0.hP
          have hb3 := hP.hb
          have hE := hP.hE
          have hn := hP.hn
          have hF := hP.hF
          have hs := leaf_lt hP.hF hp2
          obtain ⟨s, hsq⟩ : ∃ s, p / F = s := ⟨_, rfl⟩
          rw [hsq] at hs
          obtain ⟨hv1, hv2, hv3⟩ := hB0.lv.l hbd0 c p hc2 hp2
          rw [nk_of hS.r9, ldR_of hS.z17 (by omega), tnc, hS.e17 c hc2, nk_some, ldN_of (hS.z18 c hc2) (by omega), tnc, nk_of hM.r76, leafAt_m _ b c p hb3 (by omega) (by omega), Option.bind_some, ldN_of hM.z126 (by omega), tnc, nk_of hM.r20, ldN_of hM.z73 (by omega), tnc, hP0.f, dv_of ⟨by omega, by omega⟩, divL hsq, ck_of ⟨by omega, by omega⟩, hv1]
          by_cases hl : gN (sN mm 12 0 0 0) 126 0 (8 * (24 * b + c) + p) = -1
          · rw [if_neg (fun q => q hl), if_neg (fun q => q hl)]
            exact Qry.ok rfl rfl
          · rw [if_pos hl, if_pos hl, nk_of hS.r7, hS.f0, dv_of ⟨by omega, by omega⟩, divL hsq, ldR_of hS.z15 (by omega), tnc, hS.e15 _ hs, nk_some, nk_of hM.r66, ldN_of hM.z118 (by omega), nk_of hM.r67, ldN_of hM.z119 (by omega), tn4]
            unfold f_X8_moldOf
            have hd1 := hB0.lv.d hbd0 (2 * s) (by omega)
            rcases (hB0.sh _ hs).k with ⟨_, _, z, _⟩ | ⟨_, ⟨y1, y2, y3⟩, ⟨x1, x2, x3⟩, _⟩
            · omega
            · rw [y1, x1, ck_of ⟨by omega, by omega⟩, dv_of ⟨by omega, by omega⟩, ck_of ⟨by omega, by omega⟩, Option.bind_some, ck_of ⟨by omega, by omega⟩, dv_of ⟨by omega, by omega⟩, ck_of ⟨by omega, by omega⟩]
              exact Qry.ok rfl rfl
      · rw [hasLeaf_bad hP hB.hS hp, Option.bind_some, if_pos rfl, c29, isLeaf_bad h.Nb h.M hP hb.2 hp, Option.bind_some, if_pos rfl, m22]
        exact Qry.bad (k := 0) rfl rfl rfl
    · rw [hasCopy_bad hB.hS hc, Option.bind_some, if_pos rfl, c29, isCopy_bad h.Nb h.M hP hb.2 hc, Option.bind_some, if_pos rfl, m22]
      exact Qry.bad (k := 0) rfl rfl rfl
  · rw [bookAt_bad h.Nb h.C hb, bR_ex, isCopy_b0 h.Nb hb, Option.bind_some, if_pos rfl, m22]
    exact Qry.bad (k := 0) rfl rfl rfl
end ASK
