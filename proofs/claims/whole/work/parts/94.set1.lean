/-! SET: a word is chosen. -/
section SET
variable {N : Nat} {mc mm : MM} {b F n M Ln E : Nat}
/-- what setting a page writes while lines are taken -/
def ScW (q d K i k : Nat) : Prop := (K = 4 ∧ i = q ∧ 9 ≤ k) ∨ (27 ≤ K ∧ K ≤ 33 ∧ i = q) ∨ (K = 3 ∧ i = d ∧ k = 3)
def SmW (q d K i k : Nat) : Prop := (K = 12 ∧ K = 13) ∨ (83 ≤ K ∧ K ≤ 90 ∧ i = 0 ∧ k = q) ∨ (91 ≤ K ∧ K ≤ 94 ∧ i = 0 ∧ 6 * q ≤ k ∧ k < 6 * q + 6) ∨ (95 ≤ K ∧ K ≤ 97 ∧ i = 0 ∧ 60 * q ≤ k ∧ k < 60 * q + 60) ∨ (K = 70 ∧ i = 0 ∧ k = d)
abbrev Fsc (q d : Nat) (s s' : MM) : Prop := FrC (ScW q d) s s'
abbrev Fsm (q d : Nat) (s s' : MM) : Prop := FrC (SmW q d) s s'
section UNDER
variable {q d : Nat} {s t : MM}
theorem Fsc.C (h : SC mc) (hF : Fsc q d mc s) : SC s := h.mv2 (fun K i k hk => (hF.1 K i k (by unfold ScW; omega)).2.2) (fun K i k hk => by rw [hF.2.1]; exact hk)
theorem Fsm.Md (h : SM mm) (hF : Fsm q d mm t) : SM t := hF.SM h (fun k hk => by unfold SmW at hk; omega)
theorem Fsc.S (hB : RBk mc mm b F n M Ln E) (hF : Fsc q d mc s) : BS s b F n M Ln E := hF.BS hB.hS hB.hP (fun K i k hk z => by unfold CBS at hk; unfold ScW at z; omega)
theorem Fsm.P (hB : RBk mc mm b F n M Ln E) (hF : Fsm q d mm t) : BP t b F n M Ln E := hF.BP hB.hP (fun K h1 h2 => by unfold SmW; omega)
/-- the same word again behind -/
theorem soon_eq (h : RR N mc mm) (hB : RBk mc mm b F n M Ln E) (hFs : Fsc q d mc s) (hFt : Fsm q d mm t) {j To : Nat} (hj : j < To) (hTo : (To : Int) ≤ gN mm 80 0 b) :
    ∃ v : Int, f_X9_sameSoon s b (j : Int) (To : Int) = some v ∧ f_X12_sameBehind t 0 (b : Int) (j : Int) (To : Int) = some v ∧ (v = -1 ∨ ∃ i : Nat, v = i ∧ j < i ∧ i < To) := by
  have hcnt := hB.tx.cnt
  have hSs := hFs.S hB
  have hMt := hFt.Md h.M
  have hPb := hB.hP.hb
  have s45 : ∀ k, gL s 45 b k = gL mc 45 b k := fun k => (hFs.1 45 b k (by unfold ScW; omega)).2.1
  have t81 : ∀ k, gL t 81 0 k = gL mm 81 0 k := fun k => (hFt.1 81 0 k (by unfold SmW; omega)).2.1
  have key : ∀ (e i : Nat), To - i = e → j < i → ∃ z : Int ⊕ Unit, lpb (fun x => b_X9_sameSoon_4 s b (j : Int) (To : Int) x) (i : Int) = some z ∧ lpb (fun x => b_X12_sameBehind_5 t 0 (b : Int) (j : Int) (To : Int) x) (i : Int) = some z ∧ (z = .inr () ∨ ∃ x : Nat, z = .inl (x : Int) ∧ j < x ∧ x < To) := by
    intro e
    induction e with
    | zero =>
      intro i he hi
      refine ⟨.inr (), ?_, ?_, Or.inl rfl⟩
      · rw [lpb_eq]
        unfold b_X9_sameSoon_4
        rw [ck_of ⟨by omega, by omega⟩]
        by_cases q1 : (j : Int) + 4 < (i : Int)
        · rw [if_pos q1, Option.bind_some, Sum.elim_inr]
        · rw [if_neg q1, if_pos (by omega), Option.bind_some, Sum.elim_inr]
      · rw [lpb_eq]
        unfold b_X12_sameBehind_5
        rw [ck_of ⟨by omega, by omega⟩]
        by_cases q1 : (j : Int) + 4 < (i : Int)
        · rw [if_pos q1, Option.bind_some, Sum.elim_inr]
        · rw [if_neg q1, if_pos (by omega), Option.bind_some, Sum.elim_inr]
    | succ e ih =>
      intro i he hi
      by_cases q1 : (j : Int) + 4 < (i : Int)
      · refine ⟨.inr (), ?_, ?_, Or.inl rfl⟩
        · rw [lpb_eq]
          unfold b_X9_sameSoon_4
          rw [ck_of ⟨by omega, by omega⟩, if_pos q1, Option.bind_some, Sum.elim_inr]
        · rw [lpb_eq]
          unfold b_X12_sameBehind_5
          rw [ck_of ⟨by omega, by omega⟩, if_pos q1, Option.bind_some, Sum.elim_inr]
      · have hiT : i < To := by omega
        have w1 := hB.tx.told i (by omega)
        have w2 := hB.tx.told j (by omega)
        have ec : b_X9_sameSoon_4 s b (j : Int) (To : Int) (i : Int) = if ¬ lcm' (gL mc 45 b i) (gL mc 45 b j) = 0 then some (.inl ((i : Int) + 1)) else some (.inr (.inl (i : Int))) := by
          unfold b_X9_sameSoon_4
          rw [ck_of ⟨by omega, by omega⟩, if_neg q1, if_neg (by omega), nk_of hSs.t0, ldL_of hSs.z45 (by omega), tnc, s45, nk_of hSs.t0, ldL_of hSs.z45 (by omega), tnc, s45, ck_of ⟨by omega, by omega⟩]
        have em : b_X12_sameBehind_5 t 0 (b : Int) (j : Int) (To : Int) (i : Int) = if ¬ lcm' (gL mc 45 b i) (gL mc 45 b j) = 0 then some (.inl ((i : Int) + 1)) else some (.inr (.inl (i : Int))) := by
          unfold b_X12_sameBehind_5
          rw [ck_of ⟨by omega, by omega⟩, if_neg q1, if_neg (by omega), nk_of hMt.r28, ldL_of hMt.z81 (by omega), tn60b, t81, nk_of hMt.r28, ldL_of hMt.z81 (by omega), tn60b, t81, ck_of ⟨by omega, by omega⟩]
          have hiff : lcm' (gL mm 81 0 (60 * b + i)) (gL mm 81 0 (60 * b + j)) = 0 ↔ lcm' (gL mc 45 b i) (gL mc 45 b j) = 0 := by
            rw [lcm_zero, lcm_zero]
            exact (w1.eq_iff w2).symm
          by_cases q2 : lcm' (gL mc 45 b i) (gL mc 45 b j) = 0
          · rw [if_neg (fun z => z (hiff.mpr q2)), if_neg (fun z => z q2)]
          · rw [if_pos (fun z => q2 (hiff.mp z)), if_pos q2]
        rw [lpb_eq, lpb_eq (b := fun x => b_X12_sameBehind_5 t 0 (b : Int) (j : Int) (To : Int) x), ec, em]
        by_cases q2 : lcm' (gL mc 45 b i) (gL mc 45 b j) = 0
        · rw [if_neg (fun z => z q2), Option.bind_some, Option.bind_some, Sum.elim_inr, Sum.elim_inr]
          exact ⟨_, rfl, rfl, Or.inr ⟨i, rfl, hi, hiT⟩⟩
        · rw [if_pos q2, Option.bind_some, Option.bind_some, Sum.elim_inl, Sum.elim_inl, show (i : Int) + 1 = ((i + 1 : Nat) : Int) by omega]
          exact ih (i + 1) (by omega) (by omega)
  obtain ⟨z, e1, e2, e3⟩ := key _ (j + 1) rfl (by omega)
  unfold f_X9_sameSoon f_X12_sameBehind
  rw [ck_of ⟨by omega, by omega⟩, ck_of ⟨by omega, by omega⟩, show (j : Int) + 1 = ((j + 1 : Nat) : Int) by omega, e1, e2, Option.bind_some, Option.bind_some]
  rcases e3 with rfl | ⟨x, rfl, h1, h2⟩
  · exact ⟨-1, rfl, rfl, Or.inl rfl⟩
  · exact ⟨x, rfl, rfl, Or.inr ⟨x, rfl, h1, h2⟩⟩
/-- a form of a word: short or long -/
theorem form_eq (h : RR N mc mm) (hB : RBk mc mm b F n M Ln E) {j : Nat} (hj : (j : Int) < gN mm 80 0 b) :
    (gN mc 48 b j = -1 ∧ gL mc 46 b j = gL mc 45 b j ∧ gL mc 47 b j = gL mc 45 b j ∧ WW (gL mc 46 b j) (gL mm 81 0 (60 * b + j))) ∨ ∃ x : Nat, gN mc 48 b j = x ∧ (x : Int) < gN mm 12 0 3 ∧ WW (gL mc 46 b j) (gL mm 60 0 x) ∧ WW (gL mc 47 b j) (gL mm 61 0 x) := by
  rcases hB.tx.fm j hj with ⟨h1, h2, h3⟩ | ⟨x, h1, h2, h3, h4⟩
  · exact Or.inl ⟨h1, h2, h3, by rw [h2]; exact hB.tx.told j hj⟩
  · obtain ⟨w1, w2⟩ := h.Sp.w x h2
    exact Or.inr ⟨x, h1, h2, by rw [h3]; exact w1, by rw [h4]; exact w2⟩
/-- the form that a compositor takes where so much room is left -/
theorem sel_eq (h : RR N mc mm) (hB : RBk mc mm b F n M Ln E) (hFs : Fsc q d mc s) (hFt : Fsm q d mm t) (hd : (d : Int) < gN mm 12 0 12) {j : Nat} (hj : (j : Int) < gN mm 80 0 b) {cr room used gap : Int} (hcr : gN s 4 q 14 = cr) (hroom : room = (M : Int) - used - gap) (hu : 0 ≤ used ∧ used ≤ M ∧ 0 ≤ gap ∧ gap ≤ 1) {l2 l3 l5 l7 l8 : Int} (hl3 : l3 = (d : Int)) (hl7 : l7 = (j : Int)) :
    ∃ (v : Int) (w : Int64), (v = 0 ∨ (v = 1 ∧ gN mc 48 b j ≠ -1)) ∧ WW (if v = 0 then gL mc 46 b j else gL mc 47 b j) w ∧ f_X4_prefersLong s q b d (j : Int) room = some v ∧ f_X9_form s b (j : Int) v = some (if v = 0 then gL mc 46 b j else gL mc 47 b j) ∧
      j_X12_laysLines_88_108 t 0 (b : Int) l2 l3 l5 cr l7 l8 used gap = j_X12_laysLines_88_153 t 0 (b : Int) l2 l3 l5 cr l7 l8 used gap w := by
  subst hl3
  subst hl7
  have hcnt := hB.tx.cnt
  have hSs := hFs.S hB
  have hMt := hFt.Md h.M
  have hPt := hFt.P hB
  have hSpb := h.Sp.b
  have hPb := hB.hP.hb
  have hM24 := hB.hP.hM
  have hH := h.H.1
  have hhd := h.H.2.2.2.2.1 d hd
  have s48 : gN s 48 b j = gN mc 48 b j := (hFs.1 48 b j (by unfold ScW; omega)).1
  have s46 : gL s 46 b j = gL mc 46 b j := (hFs.1 46 b j (by unfold ScW; omega)).2.1
  have s47 : gL s 47 b j = gL mc 47 b j := (hFs.1 47 b j (by unfold ScW; omega)).2.1
  have s30 : gN s 3 d 0 = gN mm 67 0 d := by rw [(hFs.1 3 d 0 (by unfold ScW; omega)).1]; exact hhd.1.1
  have t81 : gL t 81 0 (60 * b + j) = gL mm 81 0 (60 * b + j) := (hFt.1 81 0 _ (by unfold SmW; omega)).2.1
  have t60 : ∀ x, gL t 60 0 x = gL mm 60 0 x := fun x => (hFt.1 60 0 x (by unfold SmW; omega)).2.1
  have t61 : ∀ x, gL t 61 0 x = gL mm 61 0 x := fun x => (hFt.1 61 0 x (by unfold SmW; omega)).2.1
  have t67 : gN t 67 0 d = gN mm 67 0 d := (hFt.1 67 0 d (by unfold SmW; omega)).1
  have t3 : gN t 12 0 3 = gN mm 12 0 3 := (hFt.1 12 0 3 (by unfold SmW; omega)).1
  have t75 : gN t 75 0 b = M := hPt.m
  have esp : f_X12_spellingOf t 0 (gL mm 81 0 (60 * b + j)) = some (gN mc 48 b j) := by
    obtain ⟨v9, e1, e2⟩ := spelling_m (w := gL mm 81 0 (60 * b + j)) (n := (gN mm 12 0 3).toNat) hMt (by omega) (by omega)
    have e3 : SpR (gN mm 12 0 3).toNat (gL mm 60 0) (gL mm 61 0) (gL mm 81 0 (60 * b + j)) v9 := by
      have f1 : gL t 60 0 = gL mm 60 0 := funext t60
      have f2 : gL t 61 0 = gL mm 61 0 := funext t61
      rw [f1, f2] at e2
      exact e2
    rw [e1, e3.one (hB.tx.sp j hj)]
  have eform : ∀ v : Int, f_X9_form s b (j : Int) v = some (if v = 0 then gL mc 46 b j else gL mc 47 b j) := fun v => by rw [form_c hSs (by omega), s46, s47]
  have fits : ∀ (w w1 : Int64) (k : Nat), f_X12_letters t w = some (k : Int) → k ≤ 8 → f_X12_formOf t 0 (b : Int) (j : Int) (d : Int) cr = some w → f_X12_formOf t 0 (b : Int) (j : Int) (d : Int) 1 = some w1 → ((used + gap) + (k : Int) ≤ (M : Int) ∨ w1 = w) → j_X12_laysLines_88_108 t 0 (b : Int) l2 (d : Int) l5 cr (j : Int) l8 used gap = j_X12_laysLines_88_153 t 0 (b : Int) l2 (d : Int) l5 cr (j : Int) l8 used gap w := fun w w1 k a1 a2 a3 a4 a5 => by
    unfold j_X12_laysLines_88_108
    rw [a3, Option.bind_some, a1, Option.bind_some, nk_of hMt.r22, ldN_of hMt.z75 (by omega), tnc, t75, ck_of ⟨by omega, by omega⟩]
    by_cases z : (used + gap) + (k : Int) ≤ (M : Int)
    · rw [if_pos z]
    · rw [if_neg z, a4, Option.bind_some]
      rcases a5 with a5 | a5
      · exact absurd a5 z
      · rw [a5]
  rcases form_eq h hB hj with ⟨f1, f2, f3, f4⟩ | ⟨x, f1, f2, f3, f4⟩
  · -- a word that has one spelling
    have em : ∀ c : Int, f_X12_formOf t 0 (b : Int) (j : Int) (d : Int) c = some (gL mm 81 0 (60 * b + j)) := fun c => by
      unfold f_X12_formOf
      rw [nk_of hMt.r28, ldL_of hMt.z81 (by omega), tn60b, t81, esp, Option.bind_some, f1, if_neg (fun z => z rfl)]
    have hl := f4.lw
    refine ⟨0, gL mm 81 0 (60 * b + j), Or.inl rfl, by rw [if_pos rfl]; exact f4, ?_, eform 0, fits _ _ _ f4.len_m hl.2 (em cr) (em 1) (Or.inr rfl)⟩
    unfold f_X4_prefersLong f_X3_likesLong
    by_cases hc : gN s 4 q 14 = 0
    · rw [if_neg (fun z => z hc), nk_of hSs.t3, ldN_of hSs.z48 (by omega), tnc, s48, f1, if_pos rfl, Option.bind_some, if_pos rfl]
    · rw [if_pos hc]
  · have hx6 : x < 6 := by omega
    have hl3 := f3.lw
    have hl4 := f4.lw
    have em1 : f_X12_formOf t 0 (b : Int) (j : Int) (d : Int) 1 = some (gL mm 60 0 x) := by
      unfold f_X12_formOf
      rw [nk_of hMt.r28, ldL_of hMt.z81 (by omega), tn60b, t81, esp, Option.bind_some, f1, if_pos (by omega), if_pos (by decide)]
      unfold j_X12_formOf_0_60
      rw [nk_of hMt.r4, ldL_of hMt.z60 (by omega), tnc, t60]
    have emc : f_X12_formOf t 0 (b : Int) (j : Int) (d : Int) cr = some (if cr = 0 ∧ iand (ishr (gN mm 67 0 d) (x : Int)) 1 = 1 then gL mm 61 0 x else gL mm 60 0 x) := by
      unfold f_X12_formOf
      rw [nk_of hMt.r28, ldL_of hMt.z81 (by omega), tn60b, t81, esp, Option.bind_some, f1, if_pos (by omega)]
      unfold j_X12_formOf_0_60
      by_cases hc : cr = 0
      · rw [if_neg (fun z => z hc), nk_of hMt.r13, ldN_of hMt.z67 (by omega), tnc, t67]
        by_cases hb1 : iand (ishr (gN mm 67 0 d) (x : Int)) 1 = 1
        · rw [if_neg (fun z => z hb1), if_pos ⟨hc, hb1⟩, nk_of hMt.r5, ldL_of hMt.z61 (by omega), tnc, t61]
        · rw [if_pos hb1, if_neg (fun z => hb1 z.2), nk_of hMt.r4, ldL_of hMt.z60 (by omega), tnc, t60]
      · rw [if_pos hc, if_neg (fun z => hc z.1), nk_of hMt.r4, ldL_of hMt.z60 (by omega), tnc, t60]
    have ep : f_X4_prefersLong s q b d (j : Int) room = some (if cr = 0 ∧ iand (ishr (gN mm 67 0 d) (x : Int)) 1 = 1 ∧ ((mln (gL mm 61 0 x) : Nat) : Int) ≤ room then 1 else 0) := by
      unfold f_X4_prefersLong f_X3_likesLong
      rw [hcr]
      by_cases hc : cr = 0
      · rw [if_neg (fun z => z hc), nk_of hSs.t3, ldN_of hSs.z48 (by omega), tnc, s48, f1, if_neg (by omega), s30]
        by_cases hb1 : iand (ishr (gN mm 67 0 d) (x : Int)) 1 = 1
        · rw [if_neg (fun z => z hb1), Option.bind_some, if_neg (show ¬ (1 : Int) = 0 by decide), nk_of hSs.t2, ldL_of hSs.z47 (by omega), tnc, s47, f4.len_c, Option.bind_some]
          by_cases hr : room < ((mln (gL mm 61 0 x) : Nat) : Int)
          · rw [if_pos hr, if_neg (fun z => by have := z.2.2; omega)]
          · rw [if_neg hr, if_pos ⟨hc, hb1, by omega⟩]
        · rw [if_pos hb1, Option.bind_some, if_pos rfl, if_neg (fun z => hb1 z.2.1)]
      · rw [if_pos hc, if_neg (fun z => hc z.1)]
    by_cases hlong : cr = 0 ∧ iand (ishr (gN mm 67 0 d) (x : Int)) 1 = 1
    · rw [if_pos hlong] at emc
      by_cases hr : ((mln (gL mm 61 0 x) : Nat) : Int) ≤ room
      · rw [if_pos ⟨hlong.1, hlong.2, hr⟩] at ep
        exact ⟨1, gL mm 61 0 x, Or.inr ⟨rfl, by omega⟩, by rw [if_neg (by decide)]; exact f4, ep, eform 1, fits _ _ _ f4.len_m hl4.2 emc em1 (Or.inl (by omega))⟩
      · rw [if_neg (fun z => hr z.2.2)] at ep
        refine ⟨0, gL mm 60 0 x, Or.inl rfl, by rw [if_pos rfl]; exact f3, ep, eform 0, ?_⟩
        unfold j_X12_laysLines_88_108
        rw [emc, Option.bind_some, f4.len_m, Option.bind_some, nk_of hMt.r22, ldN_of hMt.z75 (by omega), tnc, t75, ck_of ⟨by omega, by omega⟩, if_neg (by omega), em1, Option.bind_some]
    · rw [if_neg hlong] at emc
      rw [if_neg (fun z => hlong ⟨z.1, z.2.1⟩)] at ep
      exact ⟨0, gL mm 60 0 x, Or.inl rfl, by rw [if_pos rfl]; exact f3, ep, eform 0, fits _ _ _ f3.len_m hl3.2 emc em1 (Or.inr rfl)⟩
end UNDER
end SET
