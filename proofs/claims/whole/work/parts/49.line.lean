/-! PAGE, LINE. -/
theorem tsw_0 {X : Type} {lo : Int} {f : Option X} {fs : List (Option X)} {d : Option X} : tsw lo lo (f :: fs) d = f := by
  unfold tsw
  rw [if_neg (Int.lt_irrefl lo), Int.sub_self]
  rfl
theorem tsw_s {X : Type} {x lo : Int} {f : Option X} {fs : List (Option X)} {d : Option X} (h : lo < x) : tsw x lo (f :: fs) d = tsw x (lo + 1) fs d := by
  unfold tsw
  rw [if_neg (by omega), if_neg (by omega), show (x - lo).toNat = (x - (lo + 1)).toNat + 1 by omega]
  rfl
theorem tsw_n {X : Type} {x lo : Int} {d : Option X} : tsw x lo [] d = d := by
  unfold tsw
  split
  · rfl
  · rfl
section ASK
variable {N : Nat} {mc mm : MM} {b F n M Ln E : Nat}
theorem placeInForme_m (hM : SM mm) (hP : BP mm b F n M Ln E) {p : Nat} (hp : p < 2 * (F * n)) : f_X12_placeInForme mm 0 (b : Int) (p : Int) = some ((pif F p : Nat) : Int) := by
  have hn := hP.hn
  apply ev_eq
  unfold f_X12_placeInForme
  refine ev_lp (fun x => x = ((pif F p : Nat) : Int)) (fun s => ∃ k : Nat, s.2 = k ∧ k ≤ p ∧ s.1 = (cntF F p k : Nat)) (fun s => p - s.2.toNat) ⟨0, rfl, by omega, rfl⟩ ?_ ?_
  · rintro ⟨_, _⟩ ⟨k, rfl, hk, rfl⟩
    have hle := cntF_le F p k
    show Ev (b_X12_placeInForme_5 mm 0 (b : Int) (p : Int) ((cntF F p k : Nat) : Int) (k : Int)) _
    unfold b_X12_placeInForme_5
    refine ev_if (fun hc => ev_exit ?_) fun hc => ?_
    · rw [← cntF_pif hP.hF (by omega), show k = p by omega]
    · rw [formeOf_m hM hP (by omega), formeOf_m hM hP (by omega), Option.bind_some, Option.bind_some]
      refine ev_if (fun hf => ev_ck (by omega) (ev_ck (by omega) (ev_back ⟨k + 1, by simp, by omega, ?_⟩ (by simp only; omega)))) fun hf => ev_ck (by omega) (ev_ck (by omega) (ev_back ⟨k + 1, by simp, by omega, ?_⟩ (by simp only; omega)))
      · have : ¬ fo F k = fo F p := fun q => hf (by rw [q])
        rw [cntF, if_neg this]; rfl
      · have : fo F k = fo F p := by omega
        rw [cntF, if_pos this]; rfl
  · rintro x rfl
    exact ev_some rfl
theorem placeInForme_c (hP : BP mm b F n M Ln E) {p : Nat} : f_X0_placeInForme mc (p : Int) (F : Int) = some ((pif F p : Nat) : Int) := by
  unfold f_X0_placeInForme pif
  rcases hP.hF with rfl | rfl | rfl
  all_goals
    simp (disch := omega) only [ck_of, dv_of]
    congr 1
theorem call_page {a p w : Int} (h : RR N mc mm) : Qry (f_X11_page mc 0 a p w) (f_X12_page mm 0 a p w) [0, 1] mc mm := by
  have m33 : ∀ t : Int, t ≠ 0 → j_X12_page_0_29 mm 0 a p w 0 t = some (.inl (some (aI 0)), sN mm 12 0 0 t) := fun t ht => by
    unfold j_X12_page_0_29; rw [holds1 _ ht, bI_ok, if_neg (fun q => q rfl)]
  unfold f_X11_page f_X12_page
  by_cases hb : 0 ≤ a ∧ a < gN mm 12 0 19
  · obtain ⟨b, rfl⟩ := Int.ex hb.1
    obtain ⟨F, n, M, Ln, E, hB⟩ := h.Bk b hb.2
    have hP := hB.hP
    have hS := hB.hS
    rw [bookAt_ok h.Nb h.C hb.2, bR_ok, nk_some]
    by_cases hp : 0 ≤ p ∧ p < (2 * (F * n) : Nat)
    · obtain ⟨p, rfl⟩ := Int.ex hp.1
      have hp2 : p < 2 * (F * n) := by omega
      rw [pageOf_ok hS hp2, bR_ok, nk_some, isPage_ok h.Nb h.M hP hb.2 hp2, Option.bind_some, if_pos (show ¬ (1 : Int) = 0 by decide), isIn_m, Option.bind_some]
      by_cases hw : 0 ≤ w ∧ w ≤ 8
      · rw [if_neg (show ¬ w < 0 by omega), if_neg (show ¬ 8 < w by omega), if_pos hw, if_neg (show ¬ (1 : Int) = 0 by decide)]
        unfold j_X11_page_0_30 j_X12_page_0_29
        rw [rqA _ (by decide), bV_ok, holds0, bI_ok, if_pos (show ¬ (1 : Int) = 0 by decide)]
        have hM := h.M.thr 0
        have hB0 := hB.thr 0
        have hP0 := hB0.hP
        have hg := hB0.pg p hp2
        have hb3 := hP.hb
        have hn := hP.hn
        have hfl := fo_lt hP.hF hp2
        rw [ck_of ⟨by omega, by omega⟩, formeOf_m hM hP0 (by omega), Option.bind_some]
        by_cases w0 : w = 0
        · rw [if_neg (fun q => q w0), if_neg (fun q => q w0), formeNumber_c hP hS (by omega), Option.bind_some]
          exact Qry.ok rfl rfl
        · rw [if_pos w0, if_pos w0]
          by_cases w8 : w = 8
          · rw [if_neg (fun q => q w8), if_neg (fun q => q w8)]
            unfold f_X0_runningTitle
            have hf := hB0.ff _ hfl
            have hpif := pif_lt (p := p) hP.hF
            have hF := hP.hF
            rw [nk_of hS.r6, formeNumber_c hP hS (by omega), Option.bind_some, ldR_of hS.z14 (by omega), tnc, hS.e14 _ hfl, nk_some, nk_of hM.r56, ldN_of hM.z108 (by omega), tn8]
            rcases hf.sk with ⟨z1, z2⟩ | ⟨z1, z2, z3, z4⟩
            · rw [z2, if_neg (fun q => q rfl), if_neg (fun q => q z1)]
              exact Qry.ok rfl rfl
            · rw [if_pos (show ¬ gN mc 2 (8 * b + fo F p) 5 = -1 by omega), if_pos (show ¬ gN (sN mm 12 0 0 0) 108 0 (8 * b + fo F p) = 0 by omega), hS.f0, placeInForme_c hP, nk_of hM.r57, ldN_of hM.z109 (by omega), tn8, placeInForme_m hM hP0 hp2]
              simp only [Option.bind_some, z2]
              rw [ck_of ⟨by omega, by omega⟩, ck_of ⟨by omega, by omega⟩]
              exact Qry.ok rfl rfl
          · rw [if_pos w8, if_pos w8]
            unfold f_X4_told f_X4_isSet
            rw [nk_of hM.r30, ldN_of hM.z83 (by omega), tn16]
            rcases hg.st with ⟨z1, z2⟩ | ⟨z1, z2, z3⟩
            · rw [if_pos z2, Option.bind_some, if_neg (fun q => q rfl), if_neg (fun q => q z1)]
              exact Qry.ok rfl rfl
            · rw [if_neg (show ¬ gN mc 4 (16 * b + p) 9 = -1 by omega), Option.bind_some, if_pos (show ¬ (1 : Int) = 0 by decide), if_pos (show ¬ gN (sN mm 12 0 0 0) 83 0 (16 * b + p) = 0 by omega)]
              obtain rfl | rfl | rfl | rfl | rfl | rfl | rfl : w = 1 ∨ w = 2 ∨ w = 3 ∨ w = 4 ∨ w = 5 ∨ w = 6 ∨ w = 7 := by omega
              · simp only [↓reduceIte, Int.reduceEq, not_false_eq_true, not_true_eq_false]
                rw [nk_of hM.r31, ldN_of hM.z84 (by omega), tn16, ← z2]
                exact Qry.ok rfl rfl
              · simp only [↓reduceIte, Int.reduceEq, not_false_eq_true, not_true_eq_false]
                rw [nk_of hM.r36, ldN_of hM.z89 (by omega), tn16, ← hg.wn.1]
                exact Qry.ok rfl rfl
              · simp only [↓reduceIte, Int.reduceEq, not_false_eq_true, not_true_eq_false]
                rw [nk_of hM.r32, ldN_of hM.z85 (by omega), tn16, ← hg.th.1]
                exact Qry.ok rfl rfl
              · simp only [↓reduceIte, Int.reduceEq, not_false_eq_true, not_true_eq_false]
                rw [nk_of hM.r33, ldN_of hM.z86 (by omega), tn16, hg.cr.1]
                rcases hg.cr.2 with y | y <;> rw [y]
                · exact Qry.ok (v := 0) rfl rfl
                · exact Qry.ok (v := 1) rfl rfl
              · simp only [↓reduceIte, Int.reduceEq, not_false_eq_true, not_true_eq_false]
                rw [nk_of hM.r34, ldN_of hM.z87 (by omega), tn16, ← hg.lo]
                exact Qry.ok rfl rfl
              · simp only [↓reduceIte, Int.reduceEq, not_false_eq_true, not_true_eq_false]
                rw [nk_of hM.r37, ldN_of hM.z90 (by omega), tn16, ← hg.pn.1, nk_of (hS.p8 p hp2)]
                exact Qry.ok rfl rfl
              · simp only [↓reduceIte, Int.reduceEq, not_false_eq_true, not_true_eq_false]
                rw [nk_of hM.r35, ldN_of hM.z88 (by omega), tn16, ← hg.ln.1]
                exact Qry.ok rfl rfl
      · have e : (if w < 0 then j_X11_page_0_29 mc (p : Int) w b (16 * b + p) else if 8 < w then j_X11_page_0_29 mc (p : Int) w b (16 * b + p) else j_X11_page_0_30 mc (p : Int) w b (16 * b + p) 1) = some (.inr 1, bX mc) := by
          have e0 : j_X11_page_0_29 mc (p : Int) w b (16 * b + p) = some (.inr 1, bX mc) := by unfold j_X11_page_0_29 j_X11_page_0_30; rw [rqA0, bV_ex]; rfl
          rw [e0]; exact ite2 (by omega)
        rw [e, if_neg hw, if_pos rfl, m33 2 (by decide)]
        exact Qry.bad (k := 1) rfl rfl rfl
    · rw [pageOf_bad hS hp, bR_ex, isPage_bad h.Nb h.M hP hb.2 hp, Option.bind_some, if_neg (fun q => q rfl), m33 1 (by decide)]
      exact Qry.bad (k := 0) rfl rfl rfl
  · rw [bookAt_bad h.Nb h.C hb, bR_ex, isPage_b0 h.Nb hb, Option.bind_some, if_neg (fun q => q rfl), m33 1 (by decide)]
    exact Qry.bad (k := 0) rfl rfl rfl
/-- where a line ends -/
theorem wbl_c (hP : BP mm b F n M Ln E) (hS : BS mc b F n M Ln E) {p l : Nat} (hp : p < 2 * (F * n)) (hg : RPg mc mm b (16 * b + p) M Ln) (hl : (l : Int) < gN mm 88 0 (16 * b + p)) :
    f_X4_wordBehindLine mc (16 * b + p) (l : Int) = some (gN mm 91 0 (6 * (16 * b + p) + l) + gN mm 92 0 (6 * (16 * b + p) + l)) := by
  obtain ⟨h1, h2, h3, h4, h5⟩ := hg.l2 l hl
  have hn := hg.ln
  have hL := hP.hL
  unfold f_X4_wordBehindLine
  rw [ck_of ⟨by omega, by omega⟩, hn.1, hg.wn.1]
  by_cases hc : gN mm 88 0 (16 * b + p) ≤ (l : Int) + 1
  · rw [if_pos hc, h4 (by omega)]
  · rw [if_neg hc, nk_of (hS.p5 p hp), ldN_of (hS.z31 p hp) (by omega), show ((l : Int) + 1).toNat = l + 1 by omega, (hg.l1 (l + 1) (by omega)).1, h5 (by omega)]
theorem SpR.told {n : Nat} {br am : Nat → Int64} {w : Int64} {v : Int} (h : SpR n br am w v) : -1 ≤ v ∧ v < n := by
  rcases h with ⟨rfl, -⟩ | ⟨s, h1, rfl, -⟩ <;> omega
/-- the spelling of a word as it is set -/
theorem spell_set (hSp : RSp mc mm) (hT : RTx mc mm b (F * n) M Ln) {q k : Nat} (hg : RPg mc mm b q M Ln) (hk : (k : Int) < gN mm 89 0 q) :
    SpR (gN mm 12 0 3).toNat (gL mm 60 0) (gL mm 61 0) (gL mm 96 0 (60 * q + k)) (gN mc 48 b (gN mm 95 0 (60 * q + k)).toNat) ∧
    (∀ s : Nat, gN mc 48 b (gN mm 95 0 (60 * q + k)).toNat = s → (s : Int) < gN mm 12 0 3 ∧ (gL mm 96 0 (60 * q + k) = gL mm 61 0 s ↔ gN mc 28 q k = 1)) := by
  obtain ⟨w1, w2, w3⟩ := hg.w1 k hk
  obtain ⟨j, hj⟩ := Int.ex w2
  have hx := hg.w3 k hk
  have hf := hg.w2 k hk
  have h6 := hSp.b
  rw [hj] at w3 hx hf ⊢
  rw [tnc] at hx hf ⊢
  have hfm := hT.fm j w3
  have hsp := hT.sp j w3
  have htold := hT.told j w3
  rcases hfm with ⟨a1, a2, a3⟩ | ⟨s, a1, a2, a3, a4⟩
  · rw [a2, a3] at hx
    have hx' : WW (gL mc 45 b j) (gL mm 96 0 (60 * q + k)) := by
      split at hx <;> exact hx
    have e : gL mm 96 0 (60 * q + k) = gL mm 81 0 (60 * b + j) := (WW.eq_iff hx' htold).mp rfl
    rw [e]
    exact ⟨hsp, fun s hs => by omega⟩
  · obtain ⟨b1, b2⟩ := hSp.w s a2
    have hlen := hSp.l s a2
    rw [a1]
    rw [a3, a4] at hx
    have hne : gL mm 60 0 s ≠ gL mm 61 0 s := fun q => by rw [q] at hlen; omega
    have key : gL mm 96 0 (60 * q + k) = (if gN mc 28 q k = 0 then gL mm 60 0 s else gL mm 61 0 s) := by
      split at hx
      next h0 => rw [if_pos h0]; exact (WW.eq_iff hx b1).mp rfl
      next h0 => rw [if_neg h0]; exact (WW.eq_iff hx b2).mp rfl
    refine ⟨Or.inr ⟨s, by omega, rfl, ?_, fun t ht => ?_⟩, fun s' hs' => ?_⟩
    · rw [key]
      split
      · exact Or.inl rfl
      · exact Or.inr rfl
    · have d1 := hSp.d t s (by omega) a2 (by omega)
      have d2 := hSp.d s t a2 (by omega) (by omega)
      rw [key]
      split
      · exact ⟨d1.1, fun z => d2.2.2 z.symm⟩
      · exact ⟨d1.2.2, d1.2.1⟩
    · have : s' = s := by omega
      subst this
      refine ⟨a2, ?_⟩
      rw [key]
      rcases hf with z | ⟨z, -⟩
      · rw [if_pos z, z]
        exact ⟨fun y => absurd y hne, fun y => by omega⟩
      · rw [if_neg (by omega), z]
        exact ⟨fun _ => rfl, fun _ => rfl⟩
/-- the spellings in the long form, or the short one, in a line -/
theorem spellings_same {x : Int} (hx : x = 0 ∨ x = 1) (hM : SM mm) (hSp : RSp mc mm) (hB : RBk mc mm b F n M Ln E) {p l : Nat} (hp : p < 2 * (F * n)) (hl : (l : Int) < gN mm 88 0 (16 * b + p)) :
    ∃ v, f_X4_spellingsOf mc (16 * b + p) b (l : Int) x = some v ∧ f_X12_formsIn mm 0 ((16 * b + p : Nat) : Int) (l : Int) x = some v ∧ nrm v := by
  have hP := hB.hP
  have hS := hB.hS
  have hg := hB.pg p hp
  have hT := hB.tx
  have hb3 := hP.hb
  have hn := hP.hn
  have hL := hP.hL
  have hln := hg.ln
  have hwn := hg.wn
  have h6 := hSp.b
  have hcnt := hT.cnt
  obtain ⟨h1, h2, h3, h4, h5⟩ := hg.l2 l hl
  have hl1 := (hg.l1 l hl).1
  obtain ⟨a0, ha0⟩ := Int.ex h1
  obtain ⟨a1, ha1⟩ := Int.ex (show 0 ≤ gN mm 91 0 (6 * (16 * b + p) + l) + gN mm 92 0 (6 * (16 * b + p) + l) by omega)
  unfold f_X4_spellingsOf f_X12_formsIn
  have et : (6 * ((16 * b + p : Nat) : Int) + (l : Int)).toNat = 6 * (16 * b + p) + l := by omega
  rw [wbl_c hP hS hp hg hl, Option.bind_some, nk_of (hS.p5 p hp), ldN_of (hS.z31 p hp) (by omega), tnc, hl1, ha1, ck_of ⟨by omega, by omega⟩, nk_of hM.r38, ldN_of hM.z91 (by omega), et, ha0, ck_of ⟨by omega, by omega⟩]
  obtain ⟨v, v', e1, e2, rfl, e3⟩ := lpb_rel (b := fun s : Int × Int => b_X4_spellingsOf_18 mc (16 * b + p) b x (a1 : Int) s.1 s.2) (c := fun s : Int × Int => b_X12_formsIn_25 mm 0 ((16 * b + p : Nat) : Int) x (6 * ((16 * b + p : Nat) : Int) + (l : Int)) s.1 s.2)
    (fun s t => s.1 = t.1 ∧ nrm s.1 ∧ ∃ k : Nat, s.2 = k ∧ t.2 = ((60 * (16 * b + p) + k : Nat) : Int) ∧ a0 ≤ k ∧ k ≤ a1) (fun v v' => v = v' ∧ nrm v) (fun s => a1 - s.2.toNat) (by
    rintro ⟨acc, _⟩ ⟨_, _⟩ ⟨rfl, hacc, k, rfl, rfl, hk1, hk2⟩
    show (∃ s' t', b_X4_spellingsOf_18 mc (16 * b + p) b x (a1 : Int) acc (k : Int) = some (.inl s') ∧ b_X12_formsIn_25 mm 0 ((16 * b + p : Nat) : Int) x (6 * ((16 * b + p : Nat) : Int) + (l : Int)) acc ((60 * (16 * b + p) + k : Nat) : Int) = some (.inl t') ∧ _) ∨ ∃ v v', b_X4_spellingsOf_18 mc (16 * b + p) b x (a1 : Int) acc (k : Int) = some (.inr v) ∧ b_X12_formsIn_25 mm 0 ((16 * b + p : Nat) : Int) x (6 * ((16 * b + p : Nat) : Int) + (l : Int)) acc ((60 * (16 * b + p) + k : Nat) : Int) = some (.inr v') ∧ _
    have hacc' : nrm acc := hacc
    unfold b_X4_spellingsOf_18 b_X12_formsIn_25
    rw [nk_of hM.r38, ldN_of hM.z91 (by omega), et, nk_of hM.r39, ldN_of hM.z92 (by omega), et, show 60 * ((16 * b + p : Nat) : Int) + gN mm 91 0 (6 * (16 * b + p) + l) + gN mm 92 0 (6 * (16 * b + p) + l) = ((60 * (16 * b + p) + a1 : Nat) : Int) by omega, ck_of (x := ((60 * (16 * b + p) + a1 : Nat) : Int)) ⟨by omega, by omega⟩]
    by_cases hc : (a1 : Int) ≤ k
    · rw [if_pos hc, if_pos (by omega)]
      exact Or.inr ⟨_, _, rfl, rfl, rfl, hacc'⟩
    · have hk : (k : Int) < gN mm 89 0 (16 * b + p) := by omega
      obtain ⟨w1, w2, w3⟩ := hg.w1 k hk
      obtain ⟨sp1, sp2⟩ := spell_set hSp hT hg hk
      have hf := hg.w2 k hk
      have hT1 := sp1.told
      rw [if_neg hc, if_neg (by omega), nk_of hS.t3, nk_of (hS.p1 p hp), ldN_of (hS.z27 p hp) (by omega), tnc, w1, ldN_of hS.z48 (by omega), nk_of hM.r43, ldL_of hM.z96 (by omega), tnc]
      obtain ⟨sv, g1, g2⟩ := spelling_m (w := gL mm 96 0 (60 * (16 * b + p) + k)) hM (n := (gN mm 12 0 3).toNat) (by omega) (by omega)
      rw [g1, Option.bind_some, g2.one sp1, show ((60 * (16 * b + p) + k : Nat) : Int) + 1 = ((60 * (16 * b + p) + (k + 1) : Nat) : Int) by omega, show (k : Int) + 1 = ((k + 1 : Nat) : Int) by omega, ior0 hacc']
      have fin : ∀ y, nrm y → (∃ s' t', ck ((k + 1 : Nat) : Int) (some (Sum.inl (y, ((k + 1 : Nat) : Int))) : Option ((Int × Int) ⊕ Int)) = some (.inl s') ∧ ck ((60 * (16 * b + p) + (k + 1) : Nat) : Int) (some (Sum.inl (y, ((60 * (16 * b + p) + (k + 1) : Nat) : Int))) : Option ((Int × Int) ⊕ Int)) = some (.inl t') ∧ (s'.1 = t'.1 ∧ nrm s'.1 ∧ ∃ k : Nat, s'.2 = k ∧ t'.2 = ((60 * (16 * b + p) + k : Nat) : Int) ∧ a0 ≤ k ∧ k ≤ a1) ∧ a1 - s'.2.toNat < a1 - ((k : Int)).toNat) := by
        intro y hy
        rw [ck_of ⟨by omega, by omega⟩, ck_of ⟨by omega, by omega⟩]
        exact ⟨_, _, rfl, rfl, ⟨rfl, hy, k + 1, rfl, rfl, by omega, by omega⟩, by simp only; omega⟩
      by_cases hs : gN mc 48 b (gN mm 95 0 (60 * (16 * b + p) + k)).toNat = -1
      · rw [if_pos hs, if_pos hs]
        exact Or.inl (fin acc hacc')
      · obtain ⟨s, hs'⟩ := Int.ex (show 0 ≤ gN mc 48 b (gN mm 95 0 (60 * (16 * b + p) + k)).toNat by omega)
        obtain ⟨s1, s2⟩ := sp2 s hs'
        rw [if_neg hs, if_neg hs, hs', nk_of (hS.p2 p hp), ldN_of (hS.z28 p hp) (by omega), tnc, nk_of hM.r43, ldL_of hM.z96 (by omega), tnc, nk_of hM.r5, ldL_of hM.z61 (by omega), tnc]
        unfold j_X12_formsIn_25_94
        rw [ior0 hacc', show ((60 * (16 * b + p) + k : Nat) : Int) + 1 = ((60 * (16 * b + p) + (k + 1) : Nat) : Int) by omega]
        have e9 : (lcm' (gL mm 96 0 (60 * (16 * b + p) + k)) (gL mm 61 0 s) = 0) ↔ gN mc 28 (16 * b + p) k = 1 := by rw [lcm_zero]; exact s2
        have hf2 : gN mc 28 (16 * b + p) k = 0 ∨ gN mc 28 (16 * b + p) k = 1 := by
          rcases hf with z | ⟨z, -⟩
          · exact Or.inl z
          · exact Or.inr z
        rcases hf2 with z | z <;> rcases hx with rfl | rfl
        · rw [z, if_neg (fun q => q rfl), if_pos (fun q => by rw [e9] at q; omega), if_neg (fun q => q rfl)]
          exact Or.inl (fin _ (ior_nrm _ _))
        · rw [z, if_pos (by decide), if_pos (fun q => by rw [e9] at q; omega), if_pos (by decide)]
          exact Or.inl (fin _ hacc')
        · rw [z, if_pos (by decide), if_neg (fun q => q (e9.mpr z)), if_pos (by decide)]
          exact Or.inl (fin _ hacc')
        · rw [z, if_neg (fun q => q rfl), if_neg (fun q => q (e9.mpr z)), if_neg (fun q => q rfl)]
          exact Or.inl (fin _ (ior_nrm _ _))) (0, (a0 : Int)) (0, 60 * ((16 * b + p : Nat) : Int) + (a0 : Int)) ⟨rfl, by unfold nrm; simp only; omega, a0, rfl, by simp only; omega, by omega, by omega⟩
  rw [e1, e2]
  exact ⟨v, rfl, rfl, e3⟩
theorem call_line {a p l w : Int} (h : RR N mc mm) : Qry (f_X11_line mc 0 a p l w) (f_X12_line mm 0 a p l w) [0, 1] mc mm := by
  have m33 : ∀ t : Int, t ≠ 0 → j_X12_line_0_33 mm 0 a p l w 0 t = some (.inl (some (aI 0)), sN mm 12 0 0 t) := fun t ht => by
    unfold j_X12_line_0_33; rw [holds1 _ ht, bI_ok, if_neg (fun q => q rfl)]
  have m14 : j_X12_line_0_14 mm 0 a p l w 0 = some (.inl (some (aI 0)), sN mm 12 0 0 1) := m33 1 (by decide)
  unfold f_X11_line f_X12_line
  by_cases hb : 0 ≤ a ∧ a < gN mm 12 0 19
  · obtain ⟨b, rfl⟩ := Int.ex hb.1
    obtain ⟨F, n, M, Ln, E, hB⟩ := h.Bk b hb.2
    have hP := hB.hP
    have hS := hB.hS
    rw [bookAt_ok h.Nb h.C hb.2, bR_ok, nk_some]
    by_cases hp : 0 ≤ p ∧ p < (2 * (F * n) : Nat)
    · obtain ⟨p, rfl⟩ := Int.ex hp.1
      have hp2 : p < 2 * (F * n) := by omega
      rw [pageOf_ok hS hp2, bR_ok, nk_some, isPage_ok h.Nb h.M hP hb.2 hp2, Option.bind_some, if_neg (show ¬ (1 : Int) = 0 by decide)]
      by_cases hl : 0 ≤ l
      · rw [if_neg (show ¬ l < 0 by omega), if_pos hl, isIn_m, Option.bind_some]
        unfold j_X11_line_0_24
        rw [rqI _ (by decide), bV_ok]
        by_cases hw : 0 ≤ w ∧ w ≤ 4
        · rw [if_neg (show ¬ w < 0 by omega), if_neg (show ¬ 4 < w by omega), if_pos hw, if_neg (show ¬ (1 : Int) = 0 by decide)]
          unfold j_X11_line_0_43 j_X12_line_0_33
          rw [rqA _ (by decide), bV_ok, holds0, bI_ok, if_pos (show ¬ (1 : Int) = 0 by decide)]
          have hM := h.M.thr 0
          have hB0 := hB.thr 0
          have hSp0 := (h.thr 0).Sp
          have hP0 := hB0.hP
          have hb3 := hP.hb
          have hn := hP.hn
          have hL := hP.hL
          have hg := hB0.pg p hp2
          have hcnt := hB0.tx.cnt
          rw [ck_of ⟨by omega, by omega⟩, nk_of hM.r30, ldN_of hM.z83 (by omega), tn16, (hg.ln).1]
          by_cases h83 : gN (sN mm 12 0 0 0) 83 0 (16 * b + p) = 0
          · rw [if_pos h83, (hg.un h83).1, if_neg (show ¬ l < 0 by omega)]
            exact Qry.ok rfl rfl
          · rw [if_neg h83, nk_of hM.r35, ldN_of hM.z88 (by omega), tn16]
            by_cases hc : l < gN (sN mm 12 0 0 0) 88 0 (16 * b + p)
            · obtain ⟨l, rfl⟩ := Int.ex hl
              have hln := hg.ln
              have hwn := hg.wn
              obtain ⟨x1, x2, x3, x4, x5⟩ := hg.l1 l hc
              obtain ⟨y1, y2, y3, y4, y5⟩ := hg.l2 l hc
              have et : (6 * (16 * (b : Int) + (p : Int)) + (l : Int)).toNat = 6 * (16 * b + p) + l := by omega
              rw [if_pos hc, if_pos hc, ck_of ⟨by omega, by omega⟩, lt0_eq]
              obtain rfl | rfl | rfl | rfl | rfl : w = 0 ∨ w = 1 ∨ w = 2 ∨ w = 3 ∨ w = 4 := by omega
              · simp only [↓reduceIte, Int.reduceEq, not_false_eq_true, not_true_eq_false]
                rw [nk_of hM.r39, ldN_of hM.z92 (by omega), et, wbl_c hP0 hS hp2 hg hc]
                simp (disch := omega) only [tsw_0, tsw_s, tsw_n, Int.reduceAdd, Option.bind_some]
                rw [nk_of (hS.p5 p hp2), ldN_of (hS.z31 p hp2) (by omega), tnc, x1, ck_of ⟨by omega, by omega⟩]
                exact Qry.ok (by rw [show ∀ x y : Int, x + y - x = y from fun x y => by omega]) rfl
              · have hk : gN (sN mm 12 0 0 0) 91 0 (6 * (16 * b + p) + l) + gN (sN mm 12 0 0 0) 92 0 (6 * (16 * b + p) + l) - 1 < gN (sN mm 12 0 0 0) 89 0 (16 * b + p) := by omega
                obtain ⟨k, hk'⟩ := Int.ex (show 0 ≤ gN (sN mm 12 0 0 0) 91 0 (6 * (16 * b + p) + l) + gN (sN mm 12 0 0 0) 92 0 (6 * (16 * b + p) + l) - 1 by omega)
                rw [hk'] at hk
                obtain ⟨w1, w2, w3⟩ := hg.w1 k hk
                rw [if_pos (show ¬ (1 : Int) = 0 by decide), if_neg (show ¬ ¬ (1 : Int) = 1 by decide), nk_of hM.r42, nk_of hM.r38, ldN_of hM.z91 (by omega), et, nk_of hM.r39, ldN_of hM.z92 (by omega), et, ldN_of hM.z95 (by omega), show (60 * (16 * (b : Int) + (p : Int)) + gN (sN mm 12 0 0 0) 91 0 (6 * (16 * b + p) + l) + gN (sN mm 12 0 0 0) 92 0 (6 * (16 * b + p) + l) - 1).toNat = 60 * (16 * b + p) + k by omega, ← w1]
                refine Qry.ok (v := gN mc 27 (16 * b + p) k) ?_ rfl
                simp (disch := omega) only [tsw_0, tsw_s, tsw_n, Int.reduceAdd]
                unfold f_X4_lastWord
                rw [nk_of (hS.p1 p hp2), wbl_c hP0 hS hp2 hg hc, Option.bind_some, ck_of ⟨by omega, by omega⟩, if_neg (by omega), hk', ldN_of (hS.z27 p hp2) (by omega), tnc, Option.bind_some]
              · simp only [↓reduceIte, Int.reduceEq, not_false_eq_true, not_true_eq_false]
                rw [nk_of hM.r40, ldN_of hM.z93 (by omega), et, ← x2]
                refine Qry.ok ?_ rfl
                simp (disch := omega) only [tsw_0, tsw_s, tsw_n, Int.reduceAdd, Option.bind_some]
                rw [nk_of (hS.p6 p hp2), ldN_of (hS.z32 p hp2) (by omega), tnc]
              · simp only [↓reduceIte, Int.reduceEq, not_false_eq_true, not_true_eq_false]
                rw [nk_of hM.r41, ldN_of hM.z94 (by omega), et]
                simp (disch := omega) only [tsw_0, tsw_s, tsw_n, Int.reduceAdd, Option.bind_some]
                rw [nk_of (hS.p7 p hp2), ldN_of (hS.z33 p hp2) (by omega), tnc, x4]
                rcases x5 with z | z <;> rw [z]
                · exact Qry.ok (v := 0) rfl rfl
                · exact Qry.ok (v := 1) rfl rfl
              · simp only [↓reduceIte, Int.reduceEq, not_false_eq_true, not_true_eq_false]
                obtain ⟨v, e1, e2, -⟩ := spellings_same (x := 1) (Or.inr rfl) hM hSp0 hB0 hp2 hc
                have e2' : f_X12_formsIn (sN mm 12 0 0 0) 0 (16 * (b : Int) + (p : Int)) (l : Int) 1 = some v := e2
                rw [e2', Option.bind_some]
                refine Qry.ok ?_ rfl
                simp (disch := omega) only [tsw_0, tsw_s, tsw_n, Int.reduceAdd, Option.bind_some]
                rw [nk_of hS.r4, e1, Option.bind_some]
            · rw [if_neg hc, if_neg hc]
              exact Qry.ok rfl rfl
        · have e : (if w < 0 then j_X11_line_0_42 mc l w b (16 * b + p) else if 4 < w then j_X11_line_0_42 mc l w b (16 * b + p) else j_X11_line_0_43 mc l w b (16 * b + p) 1) = some (.inr 1, bX mc) := by
            have e0 : j_X11_line_0_42 mc l w b (16 * b + p) = some (.inr 1, bX mc) := by unfold j_X11_line_0_42 j_X11_line_0_43; rw [rqA0, bV_ex]; rfl
            rw [e0]; exact ite2 (by omega)
          rw [e, if_neg hw, if_pos rfl, m33 2 (by decide)]
          exact Qry.bad (k := 1) rfl rfl rfl
      · rw [if_pos (show l < 0 by omega), if_neg hl, m14]
        unfold j_X11_line_0_24
        rw [rqI0, bV_ex]
        exact Qry.bad (k := 0) rfl rfl rfl
    · rw [pageOf_bad hS hp, bR_ex, isPage_bad h.Nb h.M hP hb.2 hp, Option.bind_some, if_pos rfl, m14]
      exact Qry.bad (k := 0) rfl rfl rfl
  · rw [bookAt_bad h.Nb h.C hb, bR_ex, isPage_b0 h.Nb hb, Option.bind_some, if_pos rfl, m14]
    exact Qry.bad (k := 0) rfl rfl rfl
end ASK
