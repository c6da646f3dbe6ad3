/-! THE LAW: the rows of its own. -/
section LAW
variable {N : Nat} {m : MM} {fx : FX} {l4 : Int}
theorem LFc.of {S Z : List Nat} {a b : Nat} {m' : MM} (h : Mk S Z a b m m') (hS : ∀ K ∈ S, K < 59 ∧ K ≠ 12) (hZ : ∀ K ∈ Z, K < 59) (h8 : ((a : Int) ≤ 10 ∧ (b : Int) ≤ 60 ∧ gN m' 11 0 8 = gN m 11 0 8) ∨ (a ≤ 2000 ∧ b ≤ 300000 ∧ gN m' 11 0 8 = gN m 11 0 8 + 1)) : LFc m m' := by
  have h1 := h.2.2.1
  have h2 := h.2.2.2
  refine ⟨fun K i s hK => h.1 K (fun q => by have := hS K q; omega) i s, fun K i hK => h.2.1 K (fun q => by have := hZ K q; omega) i, by omega, by omega⟩
theorem Mk.pz {S Z : List Nat} {a b : Nat} {m' : MM} (h : Mk S Z a b m m') (hS : 44 ∉ S) (hP : PZ m) : PZ m' := fun k hk => by
  rw [(h.1 44 hS 0 k).1]
  exact hP k hk
theorem Mk.bX : Mk [] [] 1 6 m (bX m) := ⟨fun _ _ _ _ => ⟨rfl, rfl, rfl⟩, fun _ _ _ => rfl, Nat.le_refl _, Nat.le_refl _⟩
/-- a hand is hired, or it is refused -/
def HQ (m : MM) (q : RV × MM) : Prop := Mk [3, 11, 55] [3] 1 6 m q.2 ∧ gN q.2 11 0 8 = gN m 11 0 8
theorem HQ.bad {e : Nat} : HQ m (.inr e, bX m) := ⟨Mk.bX.sub (by decide) (by decide), rfl⟩
theorem hq67 {a b c s0 : Int} : Pc (j_X11_hand_0_67 m 0 a b c s0) (HQ m) := by
  unfold j_X11_hand_0_67
  by_cases z : s0 = 0
  · rw [z, rqS0, bV_ex]
    exact pc_some HQ.bad
  · rw [rqS m z, bV_ok]
    refine pc_nk fun i9 => ?_
    refine mk_put (mk := nW m 3 6) (S := [3, 55]) (Z := [3]) (Mk.rf.nW (by decide)) fun m10 h => ?_
    unfold f_X3_init
    rw [lt_eq, lt_eq, lt_eq, bV_ok]
    have h2 := ((h.sN (K := 3) (i := gC m 3) (s := 0) (v := a) (by decide)).sN (K := 3) (i := gC m 3) (s := 1) (v := b) (by decide)).sN (K := 3) (i := gC m 3) (s := 2) (v := c) (by decide)
    refine mk_stR h2 (by decide) fun m13 h3 => pc_ck ?_
    rw [lt_eq]
    refine pc_ck (pc_some ⟨((h3.sub (by decide) (by decide)).sN (by decide)).le (by decide) (by decide), ?_⟩)
    show gN (sN m13 11 0 7 _) 11 0 8 = _
    rw [gN_sN, if_neg (by omega), (h3.1 11 (by decide) 0 8).1]
theorem hqA {s0 : Int} {k : MM → MO} (h : Pc (k m) (HQ m)) : Pc (bV (f_X11_requireArgument m s0) k xt) (HQ m) := by
  by_cases z : s0 = 0
  · rw [z, rqA0, bV_ex]
    exact pc_some HQ.bad
  · rw [rqA m z, bV_ok]
    exact h
theorem hq51 {a b c s0 : Int} : Pc (j_X11_hand_0_51 m 0 a b c s0) (HQ m) := by
  unfold j_X11_hand_0_51
  exact hqA (pc_if hq67 hq67)
theorem hq33 {a b c s0 : Int} : Pc (j_X11_hand_0_33 m 0 a b c s0) (HQ m) := by
  unfold j_X11_hand_0_33 j_X11_hand_0_50
  exact hqA (pc_if hq51 (pc_if hq51 hq51))
theorem hq15 {a b c s0 : Int} : Pc (j_X11_hand_0_15 m 0 a b c s0) (HQ m) := by
  unfold j_X11_hand_0_15 j_X11_hand_0_32
  exact hqA (pc_if hq33 (pc_if hq33 hq33))
theorem fc_hand (hI : Inv N m) {a b c : Int} : ∀ r mc', f_X11_hand m 0 a b c = some (r, mc') → LFc m mc' ∧ PZ mc' := fun r mc' e => by
  have hq : Pc (f_X11_hand m 0 a b c) (HQ m) := by
    unfold f_X11_hand j_X11_hand_0_14
    exact pc_if hq15 (pc_if hq15 hq15)
  obtain ⟨h1, h2⟩ := hq _ e
  exact ⟨LFc.of h1 (by decide) (by decide) (Or.inl ⟨by decide, by decide, h2⟩), h1.pz (by decide) hI.pz⟩
theorem fc_book (hI : Inv N m) {a c d e g : Int} : ∀ r mc', f_X11_book m 0 a c d e g = some (r, mc') → LFc m mc' ∧ PZ mc' := fun r mc' er => by
  have bad : ∀ x : Nat, (some ((.inr x : RV), bX m) : MO) = some (r, mc') → LFc m mc' ∧ PZ mc' := fun x hx => by
    cases hx
    exact ⟨LFc.of Mk.bX (by decide) (by decide) (Or.inl ⟨by decide, by decide, rfl⟩), Mk.bX.pz (by decide) hI.pz⟩
  by_cases hg : goodB a c d e g
  · rw [book_goodc hg] at er
    by_cases h3 : 3 ≤ gN m 11 0 8
    · rw [if_pos h3] at er
      have e1 : j_X11_book_0_120 m 0 a c d e g 0 = some (.inr 2, bX m) := by unfold j_X11_book_0_120; rw [rqS0, bV_ex]; rfl
      rw [e1] at er
      exact bad 2 er
    · rw [if_neg h3] at er
      obtain ⟨g1, g2, g3, g4, g5⟩ := hg
      have h12 : (a * c).toNat ≤ 8 ∧ ((2 * a) * c).toNat ≤ 16 ∧ 0 ≤ c ∧ c ≤ 4 := by
        rcases g1 with rfl | rfl | rfl <;> omega
      have hq : Pc (j_X11_book_0_120 m 0 a c d e g 1) (fun q => Mk [0, 2, 4, 5, 8, 9, 11, 13, 14, 15, 17, 19, 37, 56] [0, 2, 4, 5, 8, 9, 13, 14, 15, 16, 17, 18, 19, 25, 26, 27, 28, 29, 30, 31, 32, 33, 34, 35, 36, 37, 38, 45, 46, 47, 48, 49] 701 80012 m q.2 ∧ gN q.2 11 0 8 = gN m 11 0 8 + 1) := by
        unfold j_X11_book_0_120
        rw [rqS m (by decide), bV_ok]
        refine pc_nk fun i13 => ?_
        rw [lt_eq]
        refine mk_put (mk := nW (bC m (bump0 (gC m 0))) 0 12) (S := [0, 2, 4, 5, 8, 9, 13, 14, 15, 17, 19, 37, 56]) (Z := [0, 2, 4, 5, 8, 9, 13, 14, 15, 16, 17, 18, 19, 25, 26, 27, 28, 29, 30, 31, 32, 33, 34, 35, 36, 37, 38, 45, 46, 47, 48, 49]) (m0 := m) (a := 1) (b := 12) (Mk.nW (m := bC m (bump0 (gC m 0))) (a := 0) (b := 0) (Mk.rf (m := m)) (by decide)) fun m15 h => ?_
        refine mk_V (mk_X0 h12.2.1 h12.1 (by omega) ⟨h12.2.2.1, h12.2.2.2⟩ (by omega) (by omega) (by omega)) fun m16 h' => ?_
        have h2 := h.tr (h'.sub (by decide) (by decide))
        refine mk_stR h2 (by decide) fun m18 h3 => pc_ck ?_
        rw [lt_eq]
        refine pc_ck (pc_some ⟨((h3.sub (by decide) (by decide)).sN (by decide)).le (by decide) (by decide), ?_⟩)
        show gN (sN m18 11 0 8 _) 11 0 8 = _
        rw [gN_sN, if_pos ⟨rfl, rfl, rfl⟩, (h3.1 11 (by decide) 0 8).1]
      obtain ⟨h1, h2⟩ := hq _ er
      exact ⟨LFc.of h1 (by decide) (by decide) (Or.inr ⟨by decide, by decide, h2⟩), h1.pz (by decide) hI.pz⟩
  · rw [book_badc hg] at er
    exact bad 1 er
theorem fc_hands (hI : Inv N m) {a : Int} : ∀ r mc', f_X11_hands m 0 a = some (r, mc') → LFc m mc' ∧ PZ mc' := fun r mc' e => by
  have h1 : Pc (f_X11_hands m 0 a) _ := fr_f_X11_hands eqF.rf
  refine ⟨RF.LFc (h1 _ e) (by unfold S1ok; decide), ?_⟩
  obtain ⟨r', mc2, v, mm', e1, -, -, -, hz⟩ := call_hands hI.pz hI.rr a
  rw [e] at e1
  cases e1
  exact hz
theorem ask_hands (hI : Inv N m) {a : Int} : Ask N m (f_X11_hands m 0 a) (fun mm => f_X12_hands mm 0 a) [0] := fun mm hR hC hU => by
  obtain ⟨r, mc', v, mm', a1, a2, a3, a4, -⟩ := call_hands hI.pz hR a
  have h2 : Pc (f_X12_hands mm 0 a) _ := fr_f_X12_hands eqF.rf
  exact ⟨r, mc', v, mm', a1, a2, a3, a4, RF.CI (h2 _ a2) (by unfold S3ok; decide) hC, RF.UI (h2 _ a2) (by unfold S4ok; decide) hU⟩
theorem ask_book {a c d e g : Int} : Ask N m (f_X11_book m 0 a c d e g) (fun mm => f_X12_book mm 0 a c d e g) [1, 2] := fun mm hR hC hU => by
  obtain ⟨r, mc', v, mm', a1, a2, a3, a4, a5⟩ := call_book hC hR a c d e g
  have h2 : Pc (f_X12_book mm 0 a c d e g) _ := fr_f_X12_book eqF.rf
  exact ⟨r, mc', v, mm', a1, a2, a3, a4, a5, RF.UI (h2 _ a2) (by unfold S4ok; decide) hU⟩
theorem ask_set (hN : N ≤ 600) {a c e : Int} : Ask N m (f_X11_set m 0 a c e) (fun mm => f_X12_set mm 0 a c e) [0, 2] := fun mm hR hC hU => by
  obtain ⟨r, mc', v, mm', a1, a2, a3, a4, a5⟩ := call_set hR hU hN a c e
  have h2 : Pc (f_X12_set mm 0 a c e) _ := fr_f_X12_set eqF.rf
  exact ⟨r, mc', v, mm', a1, a2, a3, a4, RF.CI (h2 _ a2) (by unfold S3ok; decide) hC, a5⟩
theorem ask_correct (hN : N ≤ 1900) {a c e : Int} : Ask N m (f_X11_correct m 0 a c e) (fun mm => f_X12_correct mm 0 a c e) [0, 2] := fun mm hR hC hU => by
  obtain ⟨r, mc', v, mm', a1, a2, a3, a4, a5⟩ := call_correct hN hR a c e
  have h2 : Pc (f_X12_correct mm 0 a c e) _ := fr_f_X12_correct eqF.rf
  exact ⟨r, mc', v, mm', a1, a2, a3, a4, a5 hC, RF.UI (h2 _ a2) (by unfold S4ok; decide) hU⟩
theorem row_wipe (hI : Inv N m) (hl : 0 ≤ l4 ∧ l4 ≤ (xn fx : Int) - 6 ∧ l4 ≤ 3066) : Row N l4 (bI (f_X11_wipe m 0) (fun v22 m21 => bI (f_X12_wipe m21 0) (fun v24 m23 => if v22 = v24 then (ck (l4 + 6) <| some (.inl ((l4 + 6), m23))) else
  some (.inr (.inl (.inl (some (aI 0)), m23)))) x0) x0) := by
  have hA : Ask N m (f_X11_wipe m 0) (fun mm => f_X12_wipe mm 0) [] := CalI.ask (fun mm h => callR_wipe h) (fun mm => fr_f_X12_wipe eqF.rf) (by unfold S3ok; decide) (by unfold S4ok; decide)
  obtain ⟨r, mc', e1, -, hs⟩ := hA.step hI (fr1 (fr_f_X11_wipe eqF.rf) hI (by unfold S1ok; decide) (by decide)) (fr2 (fun mm => fr_f_X12_wipe eqF.rf) (by unfold S2ok; decide))
  obtain ⟨b, mm', a1, a2, a3, -⟩ := hs mc' (Or.inl rfl)
  rcases a2 with ⟨rfl, -⟩ | ⟨e, k, -, z, -⟩
  · refine ⟨mm', a3, ?_⟩
    rw [e1, bI_ok, a1, bI_ok, if_pos rfl, ck_of ⟨by omega, by omega⟩]
  · simp at z
theorem thr_next (hI : Inv N m) : Inv (N + 1) (sN m 12 0 0 0) := by
  have hF : LFc m m := ⟨fun _ _ _ _ => eq3.rf, fun _ _ _ => rfl, by omega, by omega⟩
  have hm : LFm m (sN m 12 0 0 0) := ⟨fun K i s hK => eq3.sN (by omega), fun _ _ => rfl, fun _ => rfl, rfl, rfl⟩
  exact (hI.next hF (Or.inl rfl) hm ((hI.rr.thr 0).up (Nat.le_succ N)) hI.pz (hI.ci.thr 0) (hI.ui.thr 0)).1
theorem row_fault (hI : Inv N m) (hl : 0 ≤ l4 ∧ l4 ≤ (xn fx : Int) - 6 ∧ l4 ≤ 3066) : Row N l4 ((f_X11_fault m 0).bind fun v25 => bI (f_X12_fault m 0) (fun v27 m26 => if v25 = v27 then (ck (l4 + 6) <| some (.inl ((l4 + 6), m26))) else
  some (.inr (.inl (.inl (some (aI 0)), m26)))) x0) := by
  obtain ⟨v, e1, e2, -⟩ := callR_fault hI.rr
  refine ⟨_, thr_next hI, ?_⟩
  rw [e1, Option.bind_some, e2, bI_ok, if_pos rfl, ck_of ⟨by omega, by omega⟩]
theorem row_hour (hI : Inv N m) (hl : 0 ≤ l4 ∧ l4 ≤ (xn fx : Int) - 6 ∧ l4 ≤ 3066) : Row N l4 ((f_X11_hour m 0).bind fun v220 => bI (f_X12_hour m 0) (fun v222 m221 => if v220 = v222 then (ck (l4 + 6) <| some (.inl ((l4 + 6), m221))) else
  some (.inr (.inl (.inl (some (aI 0)), m221)))) x0) := by
  obtain ⟨v, e1, e2, -⟩ := callR_hour hI.rr
  refine ⟨_, thr_next hI, ?_⟩
  rw [e1, Option.bind_some, e2, bI_ok, if_pos rfl, ck_of ⟨by omega, by omega⟩]
theorem row_hand (hI : Inv N m) (hl : 0 ≤ l4 ∧ l4 ≤ (xn fx : Int) - 6 ∧ l4 ≤ 3066) (hN : N ≤ 511) : Row N l4 (sld (xs fx) (xn fx) (l4 + 1) fun v72 => sld (xs fx) (xn fx) (l4 + 2) fun v73 => sld (xs fx) (xn fx) (l4 + 3) fun v74 => bI (f_L_hand m 0 v72 v73 v74 0) (fun v76 m75 => sld (xs fx) (xn fx) (l4 + 1) fun v77 => sld (xs fx) (xn fx) (l4 + 2) fun v78 => sld (xs fx) (xn fx) (l4 + 3) fun v79 => bI (f_X12_hand m75 0 v77 v78 v79) (fun v81 m80 => (f_X12_thrown m80 0).bind fun v82 => if v82 = v76 then (if ¬ v76 = 0 then (ck (l4 + 6) <| some (.inl ((l4 + 6), m80))) else
  ldL m80 131 0 0 fun v83 => if (lcm' v83 (i2l v81)) = 0 then (ck (l4 + 6) <| some (.inl ((l4 + 6), m80))) else
  some (.inr (.inl (.inl (some (aI 0)), m80)))) else
  some (.inr (.inl (.inl (some (aI 0)), m80)))) x0) x0) := by
  rw [sld_of (by omega), sld_of (by omega), sld_of (by omega)]
  unfold f_L_hand
  refine Row.i (f2 := fun mm => f_X12_hand mm 0 (xs fx (l4 + 1).toNat).toInt (xs fx (l4 + 2).toNat).toInt (xs fx (l4 + 3).toNat).toInt) (CalI.ask (fun mm h => callR_hand h _ _ _) (fun mm => fr_f_X12_hand eqF.rf) (by unfold S3ok; decide) (by unfold S4ok; decide)) hI (fc_hand hI) (fr2 (fun mm => fr_f_X12_hand eqF.rf) (by unfold S2ok; decide)) ?_ ⟨hl.1, hl.2.2⟩ (fun v m12 => ?_)
  · intro k e h
    rcases k with _ | _ | _ | k <;> first | (simp at h; subst h; exact ⟨by decide, fun _ => rfl⟩) | (simp at h)
  · rw [sld_of (by omega), sld_of (by omega), sld_of (by omega)]
    rfl
theorem row_book (hI : Inv N m) (hl : 0 ≤ l4 ∧ l4 ≤ (xn fx : Int) - 6 ∧ l4 ≤ 3066) (hN : N ≤ 511) : Row N l4 (sld (xs fx) (xn fx) (l4 + 1) fun v84 => sld (xs fx) (xn fx) (l4 + 2) fun v85 => sld (xs fx) (xn fx) (l4 + 3) fun v86 => sld (xs fx) (xn fx) (l4 + 4) fun v87 => sld (xs fx) (xn fx) (l4 + 5) fun v88 => bI (f_L_book m 0 v84 v85 v86 v87 v88 0) (fun v90 m89 => sld (xs fx) (xn fx) (l4 + 1) fun v91 => sld (xs fx) (xn fx) (l4 + 2) fun v92 => sld (xs fx) (xn fx) (l4 + 3) fun v93 => sld (xs fx) (xn fx) (l4 + 4) fun v94 => sld (xs fx) (xn fx) (l4 + 5) fun v95 => bI (f_X12_book m89 0 v91 v92 v93 v94 v95) (fun v97 m96 => (f_X12_thrown m96 0).bind fun v98 => if v98 = v90 then (if ¬ v90 = 0 then (ck (l4 + 6) <| some (.inl ((l4 + 6), m96))) else
  ldL m96 131 0 0 fun v99 => if (lcm' v99 (i2l v97)) = 0 then (ck (l4 + 6) <| some (.inl ((l4 + 6), m96))) else
  some (.inr (.inl (.inl (some (aI 0)), m96)))) else
  some (.inr (.inl (.inl (some (aI 0)), m96)))) x0) x0) := by
  rw [sld_of (by omega), sld_of (by omega), sld_of (by omega), sld_of (by omega), sld_of (by omega)]
  unfold f_L_book
  refine Row.i (f2 := fun mm => f_X12_book mm 0 (xs fx (l4 + 1).toNat).toInt (xs fx (l4 + 2).toNat).toInt (xs fx (l4 + 3).toNat).toInt (xs fx (l4 + 4).toNat).toInt (xs fx (l4 + 5).toNat).toInt) (ask_book) hI (fc_book hI) (fr2 (fun mm => fr_f_X12_book eqF.rf) (by unfold S2ok; decide)) ?_ ⟨hl.1, hl.2.2⟩ (fun v m12 => ?_)
  · intro k e h
    rcases k with _ | _ | _ | k <;> first | (simp at h; subst h; exact ⟨by decide, fun _ => rfl⟩) | (simp at h)
  · rw [sld_of (by omega), sld_of (by omega), sld_of (by omega), sld_of (by omega), sld_of (by omega)]
    rfl
theorem row_set (hI : Inv N m) (hl : 0 ≤ l4 ∧ l4 ≤ (xn fx : Int) - 6 ∧ l4 ≤ 3066) (hN : N ≤ 511) : Row N l4 (sld (xs fx) (xn fx) (l4 + 1) fun v128 => sld (xs fx) (xn fx) (l4 + 2) fun v129 => sld (xs fx) (xn fx) (l4 + 3) fun v130 => bI (f_L_set m 0 v128 v129 v130 0) (fun v132 m131 => sld (xs fx) (xn fx) (l4 + 1) fun v133 => sld (xs fx) (xn fx) (l4 + 2) fun v134 => sld (xs fx) (xn fx) (l4 + 3) fun v135 => bI (f_X12_set m131 0 v133 v134 v135) (fun v137 m136 => (f_X12_thrown m136 0).bind fun v138 => if v138 = v132 then (if ¬ v132 = 0 then (ck (l4 + 6) <| some (.inl ((l4 + 6), m136))) else
  ldL m136 131 0 0 fun v139 => if (lcm' v139 (i2l v137)) = 0 then (ck (l4 + 6) <| some (.inl ((l4 + 6), m136))) else
  some (.inr (.inl (.inl (some (aI 0)), m136)))) else
  some (.inr (.inl (.inl (some (aI 0)), m136)))) x0) x0) := by
  rw [sld_of (by omega), sld_of (by omega), sld_of (by omega)]
  unfold f_L_set
  refine Row.i (f2 := fun mm => f_X12_set mm 0 (xs fx (l4 + 1).toNat).toInt (xs fx (l4 + 2).toNat).toInt (xs fx (l4 + 3).toNat).toInt) (ask_set (by omega)) hI (fr1 (fr_f_X11_set eqF.rf) hI (by unfold S1ok; decide) (by decide)) (fr2 (fun mm => fr_f_X12_set eqF.rf) (by unfold S2ok; decide)) ?_ ⟨hl.1, hl.2.2⟩ (fun v m12 => ?_)
  · intro k e h
    rcases k with _ | _ | _ | k <;> first | (simp at h; subst h; exact ⟨by decide, fun _ => rfl⟩) | (simp at h)
  · rw [sld_of (by omega), sld_of (by omega), sld_of (by omega)]
    rfl
theorem row_correct (hI : Inv N m) (hl : 0 ≤ l4 ∧ l4 ≤ (xn fx : Int) - 6 ∧ l4 ≤ 3066) (hN : N ≤ 511) : Row N l4 (sld (xs fx) (xn fx) (l4 + 1) fun v235 => sld (xs fx) (xn fx) (l4 + 2) fun v236 => sld (xs fx) (xn fx) (l4 + 3) fun v237 => bI (f_L_correct m 0 v235 v236 v237 0) (fun v239 m238 => sld (xs fx) (xn fx) (l4 + 1) fun v240 => sld (xs fx) (xn fx) (l4 + 2) fun v241 => sld (xs fx) (xn fx) (l4 + 3) fun v242 => bI (f_X12_correct m238 0 v240 v241 v242) (fun v244 m243 => (f_X12_thrown m243 0).bind fun v245 => if v245 = v239 then (if ¬ v239 = 0 then (ck (l4 + 6) <| some (.inl ((l4 + 6), m243))) else
  ldL m243 131 0 0 fun v246 => if (lcm' v246 (i2l v244)) = 0 then (ck (l4 + 6) <| some (.inl ((l4 + 6), m243))) else
  some (.inr (.inl (.inl (some (aI 0)), m243)))) else
  some (.inr (.inl (.inl (some (aI 0)), m243)))) x0) x0) := by
  rw [sld_of (by omega), sld_of (by omega), sld_of (by omega)]
  unfold f_L_correct
  refine Row.i (f2 := fun mm => f_X12_correct mm 0 (xs fx (l4 + 1).toNat).toInt (xs fx (l4 + 2).toNat).toInt (xs fx (l4 + 3).toNat).toInt) (ask_correct (by omega)) hI (fr1 (fr_f_X11_correct eqF.rf) hI (by unfold S1ok; decide) (by decide)) (fr2 (fun mm => fr_f_X12_correct eqF.rf) (by unfold S2ok; decide)) ?_ ⟨hl.1, hl.2.2⟩ (fun v m12 => ?_)
  · intro k e h
    rcases k with _ | _ | _ | k <;> first | (simp at h; subst h; exact ⟨by decide, fun _ => rfl⟩) | (simp at h)
  · rw [sld_of (by omega), sld_of (by omega), sld_of (by omega)]
    rfl
theorem row_hands (hI : Inv N m) (hl : 0 ≤ l4 ∧ l4 ≤ (xn fx : Int) - 6 ∧ l4 ≤ 3066) (hN : N ≤ 511) : Row N l4 (sld (xs fx) (xn fx) (l4 + 1) fun v411 => bI (f_L_hands m 0 v411 0) (fun v413 m412 => sld (xs fx) (xn fx) (l4 + 1) fun v414 => bI (f_X12_hands m412 0 v414) (fun v416 m415 => (f_X12_thrown m415 0).bind fun v417 => if v417 = v413 then (if ¬ v413 = 0 then (ck (l4 + 6) <| some (.inl ((l4 + 6), m415))) else
  ldL m415 131 0 0 fun v418 => if (lcm' v418 (i2l v416)) = 0 then (ck (l4 + 6) <| some (.inl ((l4 + 6), m415))) else
  some (.inr (.inl (.inl (some (aI 0)), m415)))) else
  some (.inr (.inl (.inl (some (aI 0)), m415)))) x0) x0) := by
  rw [sld_of (by omega)]
  unfold f_L_hands
  refine Row.i (f2 := fun mm => f_X12_hands mm 0 (xs fx (l4 + 1).toNat).toInt) (ask_hands hI) hI (fc_hands hI) (fr2 (fun mm => fr_f_X12_hands eqF.rf) (by unfold S2ok; decide)) ?_ ⟨hl.1, hl.2.2⟩ (fun v m12 => ?_)
  · intro k e h
    rcases k with _ | _ | _ | k <;> first | (simp at h; subst h; exact ⟨by decide, fun _ => rfl⟩) | (simp at h)
  · rw [sld_of (by omega)]
    rfl
end LAW
