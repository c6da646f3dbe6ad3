/-! THE LAW: its rows. -/
section LAW
variable {N : Nat} {m : MM} {fx : FX} {l4 : Int}
theorem sld_of {X : Type} {f : Nat → Int32} {n : Nat} {j : Int} {k : Int → Option X} (h : 0 ≤ j ∧ j < n) : sld f n j k = k (f j.toNat).toInt := if_pos h
theorem nrmI {x : Int32} : nrm x.toInt := ⟨Int32.le_toInt x, Int32.toInt_lt x⟩
theorem row_type (hI : Inv N m) (hl : 0 ≤ l4 ∧ l4 ≤ (xn fx : Int) - 6 ∧ l4 ≤ 3066) (hN : N ≤ 511) : Row N l4 (sld (xs fx) (xn fx) (l4 + 1) fun v9 => sld (xs fx) (xn fx) (l4 + 2) fun v10 => sld (xs fx) (xn fx) (l4 + 3) fun v11 => bI (f_L_type m 0 ((lshl (i2l v9) 32) ||| ((i2l v10) &&& 4294967295)) v11 0) (fun v13 m12 => sld (xs fx) (xn fx) (l4 + 1) fun v14 => sld (xs fx) (xn fx) (l4 + 2) fun v15 => sld (xs fx) (xn fx) (l4 + 3) fun v16 => bI (f_X12_type m12 0 ((lshl (i2l v14) 32) ||| ((i2l v15) &&& 4294967295)) v16) (fun v18 m17 => (f_X12_thrown m17 0).bind fun v19 => if v19 = v13 then (if ¬ v13 = 0 then (ck (l4 + 6) <| some (.inl ((l4 + 6), m17))) else
  ldL m17 131 0 0 fun v20 => if (lcm' v20 (i2l v18)) = 0 then (ck (l4 + 6) <| some (.inl ((l4 + 6), m17))) else
  some (.inr (.inl (.inl (some (aI 0)), m17)))) else
  some (.inr (.inl (.inl (some (aI 0)), m17)))) x0) x0) := by
  rw [sld_of (by omega), sld_of (by omega), sld_of (by omega)]
  unfold f_L_type
  refine Row.std (f2 := fun mm => f_X12_type mm 0 ((lshl (i2l (xs fx (l4 + 1).toNat).toInt) 32) ||| ((i2l (xs fx (l4 + 2).toNat).toInt) &&& 4294967295)) (xs fx (l4 + 3).toNat).toInt) hI ⟨hl.1, hl.2.2⟩ (fr_f_X11_type eqF.rf) (fun mm => fr_f_X12_type eqF.rf) (fun mm h => callR_type h _ _) ?_ (by unfold S1ok S2ok S3ok S4ok; decide) (fun v m12 => ?_)
  · intro k e h
    rcases k with _ | _ | _ | k <;> first | (simp at h; subst h; exact ⟨by decide, fun _ => rfl⟩) | (simp at h)
  · rw [sld_of (by omega), sld_of (by omega), sld_of (by omega)]
    rfl
theorem row_spelling (hI : Inv N m) (hl : 0 ≤ l4 ∧ l4 ≤ (xn fx : Int) - 6 ∧ l4 ≤ 3066) (hN : N ≤ 511) : Row N l4 (bI (f_L_spelling m 0 0) (fun v29 m28 => bI (f_X12_spelling m28 0) (fun v31 m30 => (f_X12_thrown m30 0).bind fun v32 => if v32 = v29 then (if ¬ v29 = 0 then (ck (l4 + 6) <| some (.inl ((l4 + 6), m30))) else
  ldL m30 131 0 0 fun v33 => if (lcm' v33 (i2l v31)) = 0 then (ck (l4 + 6) <| some (.inl ((l4 + 6), m30))) else
  some (.inr (.inl (.inl (some (aI 0)), m30)))) else
  some (.inr (.inl (.inl (some (aI 0)), m30)))) x0) x0) := by
  unfold f_L_spelling
  refine Row.std (f2 := fun mm => f_X12_spelling mm 0) hI ⟨hl.1, hl.2.2⟩ (fr_f_X11_spelling eqF.rf) (fun mm => fr_f_X12_spelling eqF.rf) (fun mm h => call_spelling h) ?_ (by unfold S1ok S2ok S3ok S4ok; decide) (fun v m12 => ?_)
  · intro k e h
    rcases k with _ | _ | _ | k <;> first | (simp at h; subst h; exact ⟨by decide, fun _ => rfl⟩) | (simp at h)
  · rfl
theorem row_cast (hI : Inv N m) (hl : 0 ≤ l4 ∧ l4 ≤ (xn fx : Int) - 6 ∧ l4 ≤ 3066) (hN : N ≤ 511) : Row N l4 (sld (xs fx) (xn fx) (l4 + 1) fun v34 => sld (xs fx) (xn fx) (l4 + 2) fun v35 => bI (f_L_cast m 0 v34 v35 0) (fun v37 m36 => sld (xs fx) (xn fx) (l4 + 1) fun v38 => sld (xs fx) (xn fx) (l4 + 2) fun v39 => bI (f_X12_cast m36 0 v38 v39) (fun v41 m40 => (f_X12_thrown m40 0).bind fun v42 => if v42 = v37 then (if ¬ v37 = 0 then (ck (l4 + 6) <| some (.inl ((l4 + 6), m40))) else
  ldL m40 131 0 0 fun v43 => if (lcm' v43 (i2l v41)) = 0 then (ck (l4 + 6) <| some (.inl ((l4 + 6), m40))) else
  some (.inr (.inl (.inl (some (aI 0)), m40)))) else
  some (.inr (.inl (.inl (some (aI 0)), m40)))) x0) x0) := by
  rw [sld_of (by omega), sld_of (by omega)]
  unfold f_L_cast
  refine Row.std (f2 := fun mm => f_X12_cast mm 0 (xs fx (l4 + 1).toNat).toInt (xs fx (l4 + 2).toNat).toInt) hI ⟨hl.1, hl.2.2⟩ (fr_f_X11_cast eqF.rf) (fun mm => fr_f_X12_cast eqF.rf) (fun mm h => callR_cast h _ _) ?_ (by unfold S1ok S2ok S3ok S4ok; decide) (fun v m12 => ?_)
  · intro k e h
    rcases k with _ | _ | _ | k <;> first | (simp at h; subst h; exact ⟨by decide, fun _ => rfl⟩) | (simp at h)
  · rw [sld_of (by omega), sld_of (by omega)]
    rfl
theorem row_wear (hI : Inv N m) (hl : 0 ≤ l4 ∧ l4 ≤ (xn fx : Int) - 6 ∧ l4 ≤ 3066) (hN : N ≤ 511) : Row N l4 (sld (xs fx) (xn fx) (l4 + 1) fun v44 => bI (f_L_wear m 0 v44 0) (fun v46 m45 => sld (xs fx) (xn fx) (l4 + 1) fun v47 => bI (f_X12_wear m45 0 v47) (fun v49 m48 => (f_X12_thrown m48 0).bind fun v50 => if v50 = v46 then (if ¬ v46 = 0 then (ck (l4 + 6) <| some (.inl ((l4 + 6), m48))) else
  ldL m48 131 0 0 fun v51 => if (lcm' v51 (i2l v49)) = 0 then (ck (l4 + 6) <| some (.inl ((l4 + 6), m48))) else
  some (.inr (.inl (.inl (some (aI 0)), m48)))) else
  some (.inr (.inl (.inl (some (aI 0)), m48)))) x0) x0) := by
  rw [sld_of (by omega)]
  unfold f_L_wear
  refine Row.std (f2 := fun mm => f_X12_wear mm 0 (xs fx (l4 + 1).toNat).toInt) hI ⟨hl.1, hl.2.2⟩ (fr_f_X11_wear eqF.rf) (fun mm => fr_f_X12_wear eqF.rf) (fun mm h => callR_wear h _) ?_ (by unfold S1ok S2ok S3ok S4ok; decide) (fun v m12 => ?_)
  · intro k e h
    rcases k with _ | _ | _ | k <;> first | (simp at h; subst h; exact ⟨by decide, fun _ => rfl⟩) | (simp at h)
  · rw [sld_of (by omega)]
    rfl
theorem row_piece (hI : Inv N m) (hl : 0 ≤ l4 ∧ l4 ≤ (xn fx : Int) - 6 ∧ l4 ≤ 3066) (hN : N ≤ 511) : Row N l4 (sld (xs fx) (xn fx) (l4 + 1) fun v52 => sld (xs fx) (xn fx) (l4 + 2) fun v53 => bI (f_L_piece m 0 v52 v53 0) (fun v55 m54 => sld (xs fx) (xn fx) (l4 + 1) fun v56 => sld (xs fx) (xn fx) (l4 + 2) fun v57 => bI (f_X12_piece m54 0 v56 v57) (fun v59 m58 => (f_X12_thrown m58 0).bind fun v60 => if v60 = v55 then (if ¬ v55 = 0 then (ck (l4 + 6) <| some (.inl ((l4 + 6), m58))) else
  ldL m58 131 0 0 fun v61 => if (lcm' v61 (i2l v59)) = 0 then (ck (l4 + 6) <| some (.inl ((l4 + 6), m58))) else
  some (.inr (.inl (.inl (some (aI 0)), m58)))) else
  some (.inr (.inl (.inl (some (aI 0)), m58)))) x0) x0) := by
  rw [sld_of (by omega), sld_of (by omega)]
  unfold f_L_piece
  refine Row.std (f2 := fun mm => f_X12_piece mm 0 (xs fx (l4 + 1).toNat).toInt (xs fx (l4 + 2).toNat).toInt) hI ⟨hl.1, hl.2.2⟩ (fr_f_X11_piece eqF.rf) (fun mm => fr_f_X12_piece eqF.rf) (fun mm h => callR_piece h _ _) ?_ (by unfold S1ok S2ok S3ok S4ok; decide) (fun v m12 => ?_)
  · intro k e h
    rcases k with _ | _ | _ | k <;> first | (simp at h; subst h; exact ⟨by decide, fun _ => rfl⟩) | (simp at h)
  · rw [sld_of (by omega), sld_of (by omega)]
    rfl
theorem row_box (hI : Inv N m) (hl : 0 ≤ l4 ∧ l4 ≤ (xn fx : Int) - 6 ∧ l4 ≤ 3066) (hN : N ≤ 511) : Row N l4 (sld (xs fx) (xn fx) (l4 + 1) fun v62 => sld (xs fx) (xn fx) (l4 + 2) fun v63 => bI (f_L_box m 0 v62 v63 0) (fun v65 m64 => sld (xs fx) (xn fx) (l4 + 1) fun v66 => sld (xs fx) (xn fx) (l4 + 2) fun v67 => bI (f_X12_box m64 0 v66 v67) (fun v69 m68 => (f_X12_thrown m68 0).bind fun v70 => if v70 = v65 then (if ¬ v65 = 0 then (ck (l4 + 6) <| some (.inl ((l4 + 6), m68))) else
  ldL m68 131 0 0 fun v71 => if (lcm' v71 (i2l v69)) = 0 then (ck (l4 + 6) <| some (.inl ((l4 + 6), m68))) else
  some (.inr (.inl (.inl (some (aI 0)), m68)))) else
  some (.inr (.inl (.inl (some (aI 0)), m68)))) x0) x0) := by
  rw [sld_of (by omega), sld_of (by omega)]
  unfold f_L_box
  refine Row.std (f2 := fun mm => f_X12_box mm 0 (xs fx (l4 + 1).toNat).toInt (xs fx (l4 + 2).toNat).toInt) hI ⟨hl.1, hl.2.2⟩ (fr_f_X11_box eqF.rf) (fun mm => fr_f_X12_box eqF.rf) (fun mm h => callR_box h nrmI) ?_ (by unfold S1ok S2ok S3ok S4ok; decide) (fun v m12 => ?_)
  · intro k e h
    rcases k with _ | _ | _ | k <;> first | (simp at h; subst h; exact ⟨by decide, fun _ => rfl⟩) | (simp at h)
  · rw [sld_of (by omega), sld_of (by omega)]
    rfl
theorem row_copy (hI : Inv N m) (hl : 0 ≤ l4 ∧ l4 ≤ (xn fx : Int) - 6 ∧ l4 ≤ 3066) (hN : N ≤ 511) : Row N l4 (sld (xs fx) (xn fx) (l4 + 1) fun v100 => bI (f_L_copy m 0 v100 0) (fun v102 m101 => sld (xs fx) (xn fx) (l4 + 1) fun v103 => bI (f_X12_copy m101 0 v103) (fun v105 m104 => (f_X12_thrown m104 0).bind fun v106 => if v106 = v102 then (if ¬ v102 = 0 then (ck (l4 + 6) <| some (.inl ((l4 + 6), m104))) else
  ldL m104 131 0 0 fun v107 => if (lcm' v107 (i2l v105)) = 0 then (ck (l4 + 6) <| some (.inl ((l4 + 6), m104))) else
  some (.inr (.inl (.inl (some (aI 0)), m104)))) else
  some (.inr (.inl (.inl (some (aI 0)), m104)))) x0) x0) := by
  rw [sld_of (by omega)]
  unfold f_L_copy
  refine Row.std (f2 := fun mm => f_X12_copy mm 0 (xs fx (l4 + 1).toNat).toInt) hI ⟨hl.1, hl.2.2⟩ (fr_f_X11_copy eqF.rf) (fun mm => fr_f_X12_copy eqF.rf) (fun mm h => call_copy h) ?_ (by unfold S1ok S2ok S3ok S4ok; decide) (fun v m12 => ?_)
  · intro k e h
    rcases k with _ | _ | _ | k <;> first | (simp at h; subst h; exact ⟨by decide, fun _ => rfl⟩) | (simp at h)
  · rw [sld_of (by omega)]
    rfl
theorem row_follow (hI : Inv N m) (hl : 0 ≤ l4 ∧ l4 ≤ (xn fx : Int) - 6 ∧ l4 ≤ 3066) (hN : N ≤ 511) : Row N l4 (sld (xs fx) (xn fx) (l4 + 1) fun v108 => sld (xs fx) (xn fx) (l4 + 2) fun v109 => bI (f_L_follow m 0 v108 v109 0) (fun v111 m110 => sld (xs fx) (xn fx) (l4 + 1) fun v112 => sld (xs fx) (xn fx) (l4 + 2) fun v113 => bI (f_X12_follow m110 0 v112 v113) (fun v115 m114 => (f_X12_thrown m114 0).bind fun v116 => if v116 = v111 then (if ¬ v111 = 0 then (ck (l4 + 6) <| some (.inl ((l4 + 6), m114))) else
  ldL m114 131 0 0 fun v117 => if (lcm' v117 (i2l v115)) = 0 then (ck (l4 + 6) <| some (.inl ((l4 + 6), m114))) else
  some (.inr (.inl (.inl (some (aI 0)), m114)))) else
  some (.inr (.inl (.inl (some (aI 0)), m114)))) x0) x0) := by
  rw [sld_of (by omega), sld_of (by omega)]
  unfold f_L_follow
  refine Row.std (f2 := fun mm => f_X12_follow mm 0 (xs fx (l4 + 1).toNat).toInt (xs fx (l4 + 2).toNat).toInt) hI ⟨hl.1, hl.2.2⟩ (fr_f_X11_follow eqF.rf) (fun mm => fr_f_X12_follow eqF.rf) (fun mm h => call_follow h _ _) ?_ (by unfold S1ok S2ok S3ok S4ok; decide) (fun v m12 => ?_)
  · intro k e h
    rcases k with _ | _ | _ | k <;> first | (simp at h; subst h; exact ⟨by decide, fun _ => rfl⟩) | (simp at h)
  · rw [sld_of (by omega), sld_of (by omega)]
    rfl
theorem row_castOff (hI : Inv N m) (hl : 0 ≤ l4 ∧ l4 ≤ (xn fx : Int) - 6 ∧ l4 ≤ 3066) (hN : N ≤ 511) : Row N l4 (sld (xs fx) (xn fx) (l4 + 1) fun v118 => sld (xs fx) (xn fx) (l4 + 2) fun v119 => bI (f_L_castOff m 0 v118 v119 0) (fun v121 m120 => sld (xs fx) (xn fx) (l4 + 1) fun v122 => sld (xs fx) (xn fx) (l4 + 2) fun v123 => bI (f_X12_castOff m120 0 v122 v123) (fun v125 m124 => (f_X12_thrown m124 0).bind fun v126 => if v126 = v121 then (if ¬ v121 = 0 then (ck (l4 + 6) <| some (.inl ((l4 + 6), m124))) else
  ldL m124 131 0 0 fun v127 => if (lcm' v127 (i2l v125)) = 0 then (ck (l4 + 6) <| some (.inl ((l4 + 6), m124))) else
  some (.inr (.inl (.inl (some (aI 0)), m124)))) else
  some (.inr (.inl (.inl (some (aI 0)), m124)))) x0) x0) := by
  rw [sld_of (by omega), sld_of (by omega)]
  unfold f_L_castOff
  refine Row.std (f2 := fun mm => f_X12_castOff mm 0 (xs fx (l4 + 1).toNat).toInt (xs fx (l4 + 2).toNat).toInt) hI ⟨hl.1, hl.2.2⟩ (fr_f_X11_castOff eqF.rf) (fun mm => fr_f_X12_castOff eqF.rf) (fun mm h => call_castOff h) ?_ (by unfold S1ok S2ok S3ok S4ok; decide) (fun v m12 => ?_)
  · intro k e h
    rcases k with _ | _ | _ | k <;> first | (simp at h; subst h; exact ⟨by decide, fun _ => rfl⟩) | (simp at h)
  · rw [sld_of (by omega), sld_of (by omega)]
    rfl
theorem row_page (hI : Inv N m) (hl : 0 ≤ l4 ∧ l4 ≤ (xn fx : Int) - 6 ∧ l4 ≤ 3066) (hN : N ≤ 511) : Row N l4 (sld (xs fx) (xn fx) (l4 + 1) fun v140 => sld (xs fx) (xn fx) (l4 + 2) fun v141 => sld (xs fx) (xn fx) (l4 + 3) fun v142 => bI (f_L_page m 0 v140 v141 v142 0) (fun v144 m143 => sld (xs fx) (xn fx) (l4 + 1) fun v145 => sld (xs fx) (xn fx) (l4 + 2) fun v146 => sld (xs fx) (xn fx) (l4 + 3) fun v147 => bI (f_X12_page m143 0 v145 v146 v147) (fun v149 m148 => (f_X12_thrown m148 0).bind fun v150 => if v150 = v144 then (if ¬ v144 = 0 then (ck (l4 + 6) <| some (.inl ((l4 + 6), m148))) else
  ldL m148 131 0 0 fun v151 => if (lcm' v151 (i2l v149)) = 0 then (ck (l4 + 6) <| some (.inl ((l4 + 6), m148))) else
  some (.inr (.inl (.inl (some (aI 0)), m148)))) else
  some (.inr (.inl (.inl (some (aI 0)), m148)))) x0) x0) := by
  rw [sld_of (by omega), sld_of (by omega), sld_of (by omega)]
  unfold f_L_page
  refine Row.std (f2 := fun mm => f_X12_page mm 0 (xs fx (l4 + 1).toNat).toInt (xs fx (l4 + 2).toNat).toInt (xs fx (l4 + 3).toNat).toInt) hI ⟨hl.1, hl.2.2⟩ (fr_f_X11_page eqF.rf) (fun mm => fr_f_X12_page eqF.rf) (fun mm h => (call_page h).cal h) ?_ (by unfold S1ok S2ok S3ok S4ok; decide) (fun v m12 => ?_)
  · intro k e h
    rcases k with _ | _ | _ | k <;> first | (simp at h; subst h; exact ⟨by decide, fun _ => rfl⟩) | (simp at h)
  · rw [sld_of (by omega), sld_of (by omega), sld_of (by omega)]
    rfl
theorem row_line (hI : Inv N m) (hl : 0 ≤ l4 ∧ l4 ≤ (xn fx : Int) - 6 ∧ l4 ≤ 3066) (hN : N ≤ 511) : Row N l4 (sld (xs fx) (xn fx) (l4 + 1) fun v152 => sld (xs fx) (xn fx) (l4 + 2) fun v153 => sld (xs fx) (xn fx) (l4 + 3) fun v154 => sld (xs fx) (xn fx) (l4 + 4) fun v155 => bI (f_L_line m 0 v152 v153 v154 v155 0) (fun v157 m156 => sld (xs fx) (xn fx) (l4 + 1) fun v158 => sld (xs fx) (xn fx) (l4 + 2) fun v159 => sld (xs fx) (xn fx) (l4 + 3) fun v160 => sld (xs fx) (xn fx) (l4 + 4) fun v161 => bI (f_X12_line m156 0 v158 v159 v160 v161) (fun v163 m162 => (f_X12_thrown m162 0).bind fun v164 => if v164 = v157 then (if ¬ v157 = 0 then (ck (l4 + 6) <| some (.inl ((l4 + 6), m162))) else
  ldL m162 131 0 0 fun v165 => if (lcm' v165 (i2l v163)) = 0 then (ck (l4 + 6) <| some (.inl ((l4 + 6), m162))) else
  some (.inr (.inl (.inl (some (aI 0)), m162)))) else
  some (.inr (.inl (.inl (some (aI 0)), m162)))) x0) x0) := by
  rw [sld_of (by omega), sld_of (by omega), sld_of (by omega), sld_of (by omega)]
  unfold f_L_line
  refine Row.std (f2 := fun mm => f_X12_line mm 0 (xs fx (l4 + 1).toNat).toInt (xs fx (l4 + 2).toNat).toInt (xs fx (l4 + 3).toNat).toInt (xs fx (l4 + 4).toNat).toInt) hI ⟨hl.1, hl.2.2⟩ (fr_f_X11_line eqF.rf) (fun mm => fr_f_X12_line eqF.rf) (fun mm h => (call_line h).cal h) ?_ (by unfold S1ok S2ok S3ok S4ok; decide) (fun v m12 => ?_)
  · intro k e h
    rcases k with _ | _ | _ | k <;> first | (simp at h; subst h; exact ⟨by decide, fun _ => rfl⟩) | (simp at h)
  · rw [sld_of (by omega), sld_of (by omega), sld_of (by omega), sld_of (by omega)]
    rfl
theorem row_place (hI : Inv N m) (hl : 0 ≤ l4 ∧ l4 ≤ (xn fx : Int) - 6 ∧ l4 ≤ 3066) (hN : N ≤ 511) : Row N l4 (sld (xs fx) (xn fx) (l4 + 1) fun v166 => sld (xs fx) (xn fx) (l4 + 2) fun v167 => sld (xs fx) (xn fx) (l4 + 3) fun v168 => sld (xs fx) (xn fx) (l4 + 4) fun v169 => bI (f_L_place m 0 v166 v167 v168 v169 0) (fun v171 m170 => sld (xs fx) (xn fx) (l4 + 1) fun v172 => sld (xs fx) (xn fx) (l4 + 2) fun v173 => sld (xs fx) (xn fx) (l4 + 3) fun v174 => sld (xs fx) (xn fx) (l4 + 4) fun v175 => bI (f_X12_place m170 0 v172 v173 v174 v175) (fun v177 m176 => (f_X12_thrown m176 0).bind fun v178 => if v178 = v171 then (if ¬ v171 = 0 then (ck (l4 + 6) <| some (.inl ((l4 + 6), m176))) else
  ldL m176 131 0 0 fun v179 => if (lcm' v179 (i2l v177)) = 0 then (ck (l4 + 6) <| some (.inl ((l4 + 6), m176))) else
  some (.inr (.inl (.inl (some (aI 0)), m176)))) else
  some (.inr (.inl (.inl (some (aI 0)), m176)))) x0) x0) := by
  rw [sld_of (by omega), sld_of (by omega), sld_of (by omega), sld_of (by omega)]
  unfold f_L_place
  refine Row.std (f2 := fun mm => f_X12_place mm 0 (xs fx (l4 + 1).toNat).toInt (xs fx (l4 + 2).toNat).toInt (xs fx (l4 + 3).toNat).toInt (xs fx (l4 + 4).toNat).toInt) hI ⟨hl.1, hl.2.2⟩ (fr_f_X11_place eqF.rf) (fun mm => fr_f_X12_place eqF.rf) (fun mm h => (call_place h).cal h) ?_ (by unfold S1ok S2ok S3ok S4ok; decide) (fun v m12 => ?_)
  · intro k e h
    rcases k with _ | _ | _ | k <;> first | (simp at h; subst h; exact ⟨by decide, fun _ => rfl⟩) | (simp at h)
  · rw [sld_of (by omega), sld_of (by omega), sld_of (by omega), sld_of (by omega)]
    rfl
theorem row_lock (hI : Inv N m) (hl : 0 ≤ l4 ∧ l4 ≤ (xn fx : Int) - 6 ∧ l4 ≤ 3066) (hN : N ≤ 511) : Row N l4 (sld (xs fx) (xn fx) (l4 + 1) fun v180 => sld (xs fx) (xn fx) (l4 + 2) fun v181 => sld (xs fx) (xn fx) (l4 + 3) fun v182 => bI (f_L_lock m 0 v180 v181 v182) (fun v184 m183 => sld (xs fx) (xn fx) (l4 + 1) fun v185 => sld (xs fx) (xn fx) (l4 + 2) fun v186 => sld (xs fx) (xn fx) (l4 + 3) fun v187 => bV (f_X12_lock m183 0 v185 v186 v187) (fun m188 => (f_X12_thrown m188 0).bind fun v190 => if v190 = v184 then (ck (l4 + 6) <| some (.inl ((l4 + 6), m188))) else
  some (.inr (.inl (.inl (some (aI 0)), m188)))) x0) x0) := by
  rw [sld_of (by omega), sld_of (by omega), sld_of (by omega)]
  unfold f_L_lock
  refine Row.stdV (f2 := fun mm => f_X12_lock mm 0 (xs fx (l4 + 1).toNat).toInt (xs fx (l4 + 2).toNat).toInt (xs fx (l4 + 3).toNat).toInt) hI ⟨hl.1, hl.2.2⟩ (fr_f_X11_lock eqF.rf) (fun mm => fr_f_X12_lock eqF.rf) (fun mm h => call_lock h) ?_ (by unfold S1ok S2ok S3ok S4ok; decide) (fun v m12 => ?_)
  · intro k e h
    rcases k with _ | _ | _ | k <;> first | (simp at h; subst h; exact ⟨by decide, fun _ => rfl⟩) | (simp at h)
  · rw [sld_of (by omega), sld_of (by omega), sld_of (by omega)]
    rfl
theorem row_print (hI : Inv N m) (hl : 0 ≤ l4 ∧ l4 ≤ (xn fx : Int) - 6 ∧ l4 ≤ 3066) (hN : N ≤ 511) : Row N l4 (sld (xs fx) (xn fx) (l4 + 1) fun v191 => sld (xs fx) (xn fx) (l4 + 2) fun v192 => sld (xs fx) (xn fx) (l4 + 3) fun v193 => bI (f_L_print m 0 v191 v192 v193) (fun v195 m194 => sld (xs fx) (xn fx) (l4 + 1) fun v196 => sld (xs fx) (xn fx) (l4 + 2) fun v197 => sld (xs fx) (xn fx) (l4 + 3) fun v198 => bV (f_X12_print m194 0 v196 v197 v198) (fun m199 => (f_X12_thrown m199 0).bind fun v201 => if v201 = v195 then (ck (l4 + 6) <| some (.inl ((l4 + 6), m199))) else
  some (.inr (.inl (.inl (some (aI 0)), m199)))) x0) x0) := by
  rw [sld_of (by omega), sld_of (by omega), sld_of (by omega)]
  unfold f_L_print
  refine Row.stdV (f2 := fun mm => f_X12_print mm 0 (xs fx (l4 + 1).toNat).toInt (xs fx (l4 + 2).toNat).toInt (xs fx (l4 + 3).toNat).toInt) hI ⟨hl.1, hl.2.2⟩ (fr_f_X11_print eqF.rf) (fun mm => fr_f_X12_print eqF.rf) (fun mm h => call_print (by omega) h) ?_ (by unfold S1ok S2ok S3ok S4ok; decide) (fun v m12 => ?_)
  · intro k e h
    rcases k with _ | _ | _ | k <;> first | (simp at h; subst h; exact ⟨by decide, fun _ => rfl⟩) | (simp at h)
  · rw [sld_of (by omega), sld_of (by omega), sld_of (by omega)]
    rfl
theorem row_men (hI : Inv N m) (hl : 0 ≤ l4 ∧ l4 ≤ (xn fx : Int) - 6 ∧ l4 ≤ 3066) (hN : N ≤ 511) : Row N l4 (sld (xs fx) (xn fx) (l4 + 1) fun v202 => sld (xs fx) (xn fx) (l4 + 2) fun v203 => bI (f_L_men m 0 v202 v203 0) (fun v205 m204 => sld (xs fx) (xn fx) (l4 + 1) fun v206 => sld (xs fx) (xn fx) (l4 + 2) fun v207 => bI (f_X12_men m204 0 v206 v207) (fun v209 m208 => (f_X12_thrown m208 0).bind fun v210 => if v210 = v205 then (if ¬ v205 = 0 then (ck (l4 + 6) <| some (.inl ((l4 + 6), m208))) else
  ldL m208 131 0 0 fun v211 => if (lcm' v211 (i2l v209)) = 0 then (ck (l4 + 6) <| some (.inl ((l4 + 6), m208))) else
  some (.inr (.inl (.inl (some (aI 0)), m208)))) else
  some (.inr (.inl (.inl (some (aI 0)), m208)))) x0) x0) := by
  rw [sld_of (by omega), sld_of (by omega)]
  unfold f_L_men
  refine Row.std (f2 := fun mm => f_X12_men mm 0 (xs fx (l4 + 1).toNat).toInt (xs fx (l4 + 2).toNat).toInt) hI ⟨hl.1, hl.2.2⟩ (fr_f_X11_men eqF.rf) (fun mm => fr_f_X12_men eqF.rf) (fun mm h => callR_men h _ _) ?_ (by unfold S1ok S2ok S3ok S4ok; decide) (fun v m12 => ?_)
  · intro k e h
    rcases k with _ | _ | _ | k <;> first | (simp at h; subst h; exact ⟨by decide, fun _ => rfl⟩) | (simp at h)
  · rw [sld_of (by omega), sld_of (by omega)]
    rfl
theorem row_pass (hI : Inv N m) (hl : 0 ≤ l4 ∧ l4 ≤ (xn fx : Int) - 6 ∧ l4 ≤ 3066) (hN : N ≤ 511) : Row N l4 (sld (xs fx) (xn fx) (l4 + 1) fun v212 => bI (f_L_pass m 0 v212 0) (fun v214 m213 => sld (xs fx) (xn fx) (l4 + 1) fun v215 => bI (f_X12_pass m213 0 v215) (fun v217 m216 => (f_X12_thrown m216 0).bind fun v218 => if v218 = v214 then (if ¬ v214 = 0 then (ck (l4 + 6) <| some (.inl ((l4 + 6), m216))) else
  ldL m216 131 0 0 fun v219 => if (lcm' v219 (i2l v217)) = 0 then (ck (l4 + 6) <| some (.inl ((l4 + 6), m216))) else
  some (.inr (.inl (.inl (some (aI 0)), m216)))) else
  some (.inr (.inl (.inl (some (aI 0)), m216)))) x0) x0) := by
  rw [sld_of (by omega)]
  unfold f_L_pass
  refine Row.std (f2 := fun mm => f_X12_pass mm 0 (xs fx (l4 + 1).toNat).toInt) hI ⟨hl.1, hl.2.2⟩ (fr_f_X11_pass eqF.rf) (fun mm => fr_f_X12_pass eqF.rf) (fun mm h => call_pass h _) ?_ (by unfold S1ok S2ok S3ok S4ok; decide) (fun v m12 => ?_)
  · intro k e h
    rcases k with _ | _ | _ | k <;> first | (simp at h; subst h; exact ⟨by decide, fun _ => rfl⟩) | (simp at h)
  · rw [sld_of (by omega)]
    rfl
theorem row_forme (hI : Inv N m) (hl : 0 ≤ l4 ∧ l4 ≤ (xn fx : Int) - 6 ∧ l4 ≤ 3066) (hN : N ≤ 511) : Row N l4 (sld (xs fx) (xn fx) (l4 + 1) fun v223 => sld (xs fx) (xn fx) (l4 + 2) fun v224 => sld (xs fx) (xn fx) (l4 + 3) fun v225 => bI (f_L_forme m 0 v223 v224 v225 0) (fun v227 m226 => sld (xs fx) (xn fx) (l4 + 1) fun v228 => sld (xs fx) (xn fx) (l4 + 2) fun v229 => sld (xs fx) (xn fx) (l4 + 3) fun v230 => bI (f_X12_forme m226 0 v228 v229 v230) (fun v232 m231 => (f_X12_thrown m231 0).bind fun v233 => if v233 = v227 then (if ¬ v227 = 0 then (ck (l4 + 6) <| some (.inl ((l4 + 6), m231))) else
  ldL m231 131 0 0 fun v234 => if (lcm' v234 (i2l v232)) = 0 then (ck (l4 + 6) <| some (.inl ((l4 + 6), m231))) else
  some (.inr (.inl (.inl (some (aI 0)), m231)))) else
  some (.inr (.inl (.inl (some (aI 0)), m231)))) x0) x0) := by
  rw [sld_of (by omega), sld_of (by omega), sld_of (by omega)]
  unfold f_L_forme
  refine Row.std (f2 := fun mm => f_X12_forme mm 0 (xs fx (l4 + 1).toNat).toInt (xs fx (l4 + 2).toNat).toInt (xs fx (l4 + 3).toNat).toInt) hI ⟨hl.1, hl.2.2⟩ (fr_f_X11_forme eqF.rf) (fun mm => fr_f_X12_forme eqF.rf) (fun mm h => (call_forme h).cal h) ?_ (by unfold S1ok S2ok S3ok S4ok; decide) (fun v m12 => ?_)
  · intro k e h
    rcases k with _ | _ | _ | k <;> first | (simp at h; subst h; exact ⟨by decide, fun _ => rfl⟩) | (simp at h)
  · rw [sld_of (by omega), sld_of (by omega), sld_of (by omega)]
    rfl
theorem row_putAway (hI : Inv N m) (hl : 0 ≤ l4 ∧ l4 ≤ (xn fx : Int) - 6 ∧ l4 ≤ 3066) (hN : N ≤ 511) : Row N l4 (sld (xs fx) (xn fx) (l4 + 1) fun v247 => sld (xs fx) (xn fx) (l4 + 2) fun v248 => sld (xs fx) (xn fx) (l4 + 3) fun v249 => bI (f_L_putAway m 0 v247 v248 v249 0) (fun v251 m250 => sld (xs fx) (xn fx) (l4 + 1) fun v252 => sld (xs fx) (xn fx) (l4 + 2) fun v253 => sld (xs fx) (xn fx) (l4 + 3) fun v254 => bI (f_X12_putAway m250 0 v252 v253 v254) (fun v256 m255 => (f_X12_thrown m255 0).bind fun v257 => if v257 = v251 then (if ¬ v251 = 0 then (ck (l4 + 6) <| some (.inl ((l4 + 6), m255))) else
  ldL m255 131 0 0 fun v258 => if (lcm' v258 (i2l v256)) = 0 then (ck (l4 + 6) <| some (.inl ((l4 + 6), m255))) else
  some (.inr (.inl (.inl (some (aI 0)), m255)))) else
  some (.inr (.inl (.inl (some (aI 0)), m255)))) x0) x0) := by
  rw [sld_of (by omega), sld_of (by omega), sld_of (by omega)]
  unfold f_L_putAway
  refine Row.std (f2 := fun mm => f_X12_putAway mm 0 (xs fx (l4 + 1).toNat).toInt (xs fx (l4 + 2).toNat).toInt (xs fx (l4 + 3).toNat).toInt) hI ⟨hl.1, hl.2.2⟩ (fr_f_X11_putAway eqF.rf) (fun mm => fr_f_X12_putAway eqF.rf) (fun mm h => call_putAway h (by omega) _ _ _) ?_ (by unfold S1ok S2ok S3ok S4ok; decide) (fun v m12 => ?_)
  · intro k e h
    rcases k with _ | _ | _ | k <;> first | (simp at h; subst h; exact ⟨by decide, fun _ => rfl⟩) | (simp at h)
  · rw [sld_of (by omega), sld_of (by omega), sld_of (by omega)]
    rfl
theorem row_paper (hI : Inv N m) (hl : 0 ≤ l4 ∧ l4 ≤ (xn fx : Int) - 6 ∧ l4 ≤ 3066) (hN : N ≤ 511) : Row N l4 (sld (xs fx) (xn fx) (l4 + 1) fun v259 => bI (f_L_paper m 0 v259 0) (fun v261 m260 => sld (xs fx) (xn fx) (l4 + 1) fun v262 => bI (f_X12_paper m260 0 v262) (fun v264 m263 => (f_X12_thrown m263 0).bind fun v265 => if v265 = v261 then (if ¬ v261 = 0 then (ck (l4 + 6) <| some (.inl ((l4 + 6), m263))) else
  ldL m263 131 0 0 fun v266 => if (lcm' v266 (i2l v264)) = 0 then (ck (l4 + 6) <| some (.inl ((l4 + 6), m263))) else
  some (.inr (.inl (.inl (some (aI 0)), m263)))) else
  some (.inr (.inl (.inl (some (aI 0)), m263)))) x0) x0) := by
  rw [sld_of (by omega)]
  unfold f_L_paper
  refine Row.std (f2 := fun mm => f_X12_paper mm 0 (xs fx (l4 + 1).toNat).toInt) hI ⟨hl.1, hl.2.2⟩ (fr_f_X11_paper eqF.rf) (fun mm => fr_f_X12_paper eqF.rf) (fun mm h => callR_paper h _) ?_ (by unfold S1ok S2ok S3ok S4ok; decide) (fun v m12 => ?_)
  · intro k e h
    rcases k with _ | _ | _ | k <;> first | (simp at h; subst h; exact ⟨by decide, fun _ => rfl⟩) | (simp at h)
  · rw [sld_of (by omega)]
    rfl
theorem row_lay (hI : Inv N m) (hl : 0 ≤ l4 ∧ l4 ≤ (xn fx : Int) - 6 ∧ l4 ≤ 3066) (hN : N ≤ 511) : Row N l4 (sld (xs fx) (xn fx) (l4 + 1) fun v267 => sld (xs fx) (xn fx) (l4 + 2) fun v268 => sld (xs fx) (xn fx) (l4 + 3) fun v269 => bI (f_L_lay m 0 v267 v268 v269) (fun v271 m270 => sld (xs fx) (xn fx) (l4 + 1) fun v272 => sld (xs fx) (xn fx) (l4 + 2) fun v273 => sld (xs fx) (xn fx) (l4 + 3) fun v274 => bV (f_X12_lay m270 0 v272 v273 v274) (fun m275 => (f_X12_thrown m275 0).bind fun v277 => if v277 = v271 then (ck (l4 + 6) <| some (.inl ((l4 + 6), m275))) else
  some (.inr (.inl (.inl (some (aI 0)), m275)))) x0) x0) := by
  rw [sld_of (by omega), sld_of (by omega), sld_of (by omega)]
  unfold f_L_lay
  refine Row.stdV (f2 := fun mm => f_X12_lay mm 0 (xs fx (l4 + 1).toNat).toInt (xs fx (l4 + 2).toNat).toInt (xs fx (l4 + 3).toNat).toInt) hI ⟨hl.1, hl.2.2⟩ (fr_f_X11_lay eqF.rf) (fun mm => fr_f_X12_lay eqF.rf) (fun mm h => call_lay h) ?_ (by unfold S1ok S2ok S3ok S4ok; decide) (fun v m12 => ?_)
  · intro k e h
    rcases k with _ | _ | _ | k <;> first | (simp at h; subst h; exact ⟨by decide, fun _ => rfl⟩) | (simp at h)
  · rw [sld_of (by omega), sld_of (by omega), sld_of (by omega)]
    rfl
theorem row_bind (hI : Inv N m) (hl : 0 ≤ l4 ∧ l4 ≤ (xn fx : Int) - 6 ∧ l4 ≤ 3066) (hN : N ≤ 511) : Row N l4 (sld (xs fx) (xn fx) (l4 + 1) fun v278 => bI (f_L_bind m 0 v278 0) (fun v280 m279 => sld (xs fx) (xn fx) (l4 + 1) fun v281 => bI (f_X12_bind m279 0 v281) (fun v283 m282 => (f_X12_thrown m282 0).bind fun v284 => if v284 = v280 then (if ¬ v280 = 0 then (ck (l4 + 6) <| some (.inl ((l4 + 6), m282))) else
  ldL m282 131 0 0 fun v285 => if (lcm' v285 (i2l v283)) = 0 then (ck (l4 + 6) <| some (.inl ((l4 + 6), m282))) else
  some (.inr (.inl (.inl (some (aI 0)), m282)))) else
  some (.inr (.inl (.inl (some (aI 0)), m282)))) x0) x0) := by
  rw [sld_of (by omega)]
  unfold f_L_bind
  refine Row.std (f2 := fun mm => f_X12_bind mm 0 (xs fx (l4 + 1).toNat).toInt) hI ⟨hl.1, hl.2.2⟩ (fr_f_X11_bind eqF.rf) (fun mm => fr_f_X12_bind eqF.rf) (fun mm h => call_bind h) ?_ (by unfold S1ok S2ok S3ok S4ok; decide) (fun v m12 => ?_)
  · intro k e h
    rcases k with _ | _ | _ | k <;> first | (simp at h; subst h; exact ⟨by decide, fun _ => rfl⟩) | (simp at h)
  · rw [sld_of (by omega)]
    rfl
theorem row_exchange (hI : Inv N m) (hl : 0 ≤ l4 ∧ l4 ≤ (xn fx : Int) - 6 ∧ l4 ≤ 3066) (hN : N ≤ 511) : Row N l4 (sld (xs fx) (xn fx) (l4 + 1) fun v286 => sld (xs fx) (xn fx) (l4 + 2) fun v287 => sld (xs fx) (xn fx) (l4 + 3) fun v288 => sld (xs fx) (xn fx) (l4 + 4) fun v289 => bI (f_L_exchange m 0 v286 v287 v288 v289) (fun v291 m290 => sld (xs fx) (xn fx) (l4 + 1) fun v292 => sld (xs fx) (xn fx) (l4 + 2) fun v293 => sld (xs fx) (xn fx) (l4 + 3) fun v294 => sld (xs fx) (xn fx) (l4 + 4) fun v295 => bV (f_X12_exchange m290 0 v292 v293 v294 v295) (fun m296 => (f_X12_thrown m296 0).bind fun v298 => if v298 = v291 then (ck (l4 + 6) <| some (.inl ((l4 + 6), m296))) else
  some (.inr (.inl (.inl (some (aI 0)), m296)))) x0) x0) := by
  rw [sld_of (by omega), sld_of (by omega), sld_of (by omega), sld_of (by omega)]
  unfold f_L_exchange
  refine Row.stdV (f2 := fun mm => f_X12_exchange mm 0 (xs fx (l4 + 1).toNat).toInt (xs fx (l4 + 2).toNat).toInt (xs fx (l4 + 3).toNat).toInt (xs fx (l4 + 4).toNat).toInt) hI ⟨hl.1, hl.2.2⟩ (fr_f_X11_exchange eqF.rf) (fun mm => fr_f_X12_exchange eqF.rf) (fun mm h => call_exchange h) ?_ (by unfold S1ok S2ok S3ok S4ok; decide) (fun v m12 => ?_)
  · intro k e h
    rcases k with _ | _ | _ | k <;> first | (simp at h; subst h; exact ⟨by decide, fun _ => rfl⟩) | (simp at h)
  · rw [sld_of (by omega), sld_of (by omega), sld_of (by omega), sld_of (by omega)]
    rfl
theorem row_cancel (hI : Inv N m) (hl : 0 ≤ l4 ∧ l4 ≤ (xn fx : Int) - 6 ∧ l4 ≤ 3066) (hN : N ≤ 511) : Row N l4 (sld (xs fx) (xn fx) (l4 + 1) fun v299 => sld (xs fx) (xn fx) (l4 + 2) fun v300 => sld (xs fx) (xn fx) (l4 + 3) fun v301 => bI (f_L_cancel m 0 v299 v300 v301 0) (fun v303 m302 => sld (xs fx) (xn fx) (l4 + 1) fun v304 => sld (xs fx) (xn fx) (l4 + 2) fun v305 => sld (xs fx) (xn fx) (l4 + 3) fun v306 => bI (f_X12_cancel m302 0 v304 v305 v306) (fun v308 m307 => (f_X12_thrown m307 0).bind fun v309 => if v309 = v303 then (if ¬ v303 = 0 then (ck (l4 + 6) <| some (.inl ((l4 + 6), m307))) else
  ldL m307 131 0 0 fun v310 => if (lcm' v310 (i2l v308)) = 0 then (ck (l4 + 6) <| some (.inl ((l4 + 6), m307))) else
  some (.inr (.inl (.inl (some (aI 0)), m307)))) else
  some (.inr (.inl (.inl (some (aI 0)), m307)))) x0) x0) := by
  rw [sld_of (by omega), sld_of (by omega), sld_of (by omega)]
  unfold f_L_cancel
  refine Row.std (f2 := fun mm => f_X12_cancel mm 0 (xs fx (l4 + 1).toNat).toInt (xs fx (l4 + 2).toNat).toInt (xs fx (l4 + 3).toNat).toInt) hI ⟨hl.1, hl.2.2⟩ (fr_f_X11_cancel eqF.rf) (fun mm => fr_f_X12_cancel eqF.rf) (fun mm h => call_cancel h) ?_ (by unfold S1ok S2ok S3ok S4ok; decide) (fun v m12 => ?_)
  · intro k e h
    rcases k with _ | _ | _ | k <;> first | (simp at h; subst h; exact ⟨by decide, fun _ => rfl⟩) | (simp at h)
  · rw [sld_of (by omega), sld_of (by omega), sld_of (by omega)]
    rfl
theorem row_state (hI : Inv N m) (hl : 0 ≤ l4 ∧ l4 ≤ (xn fx : Int) - 6 ∧ l4 ≤ 3066) (hN : N ≤ 511) : Row N l4 (sld (xs fx) (xn fx) (l4 + 1) fun v311 => sld (xs fx) (xn fx) (l4 + 2) fun v312 => sld (xs fx) (xn fx) (l4 + 3) fun v313 => bI (f_L_state m 0 v311 v312 v313 0) (fun v315 m314 => sld (xs fx) (xn fx) (l4 + 1) fun v316 => sld (xs fx) (xn fx) (l4 + 2) fun v317 => sld (xs fx) (xn fx) (l4 + 3) fun v318 => bI (f_X12_state m314 0 v316 v317 v318) (fun v320 m319 => (f_X12_thrown m319 0).bind fun v321 => if v321 = v315 then (if ¬ v315 = 0 then (ck (l4 + 6) <| some (.inl ((l4 + 6), m319))) else
  ldL m319 131 0 0 fun v322 => if (lcm' v322 (i2l v320)) = 0 then (ck (l4 + 6) <| some (.inl ((l4 + 6), m319))) else
  some (.inr (.inl (.inl (some (aI 0)), m319)))) else
  some (.inr (.inl (.inl (some (aI 0)), m319)))) x0) x0) := by
  rw [sld_of (by omega), sld_of (by omega), sld_of (by omega)]
  unfold f_L_state
  refine Row.std (f2 := fun mm => f_X12_state mm 0 (xs fx (l4 + 1).toNat).toInt (xs fx (l4 + 2).toNat).toInt (xs fx (l4 + 3).toNat).toInt) hI ⟨hl.1, hl.2.2⟩ (fr_f_X11_state eqF.rf) (fun mm => fr_f_X12_state eqF.rf) (fun mm h => (call_state h).cal h) ?_ (by unfold S1ok S2ok S3ok S4ok; decide) (fun v m12 => ?_)
  · intro k e h
    rcases k with _ | _ | _ | k <;> first | (simp at h; subst h; exact ⟨by decide, fun _ => rfl⟩) | (simp at h)
  · rw [sld_of (by omega), sld_of (by omega), sld_of (by omega)]
    rfl
theorem row_mark (hI : Inv N m) (hl : 0 ≤ l4 ∧ l4 ≤ (xn fx : Int) - 6 ∧ l4 ≤ 3066) (hN : N ≤ 511) : Row N l4 (sld (xs fx) (xn fx) (l4 + 1) fun v323 => sld (xs fx) (xn fx) (l4 + 2) fun v324 => sld (xs fx) (xn fx) (l4 + 3) fun v325 => bI (f_L_mark m 0 v323 v324 v325 0) (fun v327 m326 => sld (xs fx) (xn fx) (l4 + 1) fun v328 => sld (xs fx) (xn fx) (l4 + 2) fun v329 => sld (xs fx) (xn fx) (l4 + 3) fun v330 => bI (f_X12_mark m326 0 v328 v329 v330) (fun v332 m331 => (f_X12_thrown m331 0).bind fun v333 => if v333 = v327 then (if ¬ v327 = 0 then (ck (l4 + 6) <| some (.inl ((l4 + 6), m331))) else
  ldL m331 131 0 0 fun v334 => if (lcm' v334 (i2l v332)) = 0 then (ck (l4 + 6) <| some (.inl ((l4 + 6), m331))) else
  some (.inr (.inl (.inl (some (aI 0)), m331)))) else
  some (.inr (.inl (.inl (some (aI 0)), m331)))) x0) x0) := by
  rw [sld_of (by omega), sld_of (by omega), sld_of (by omega)]
  unfold f_L_mark
  refine Row.std (f2 := fun mm => f_X12_mark mm 0 (xs fx (l4 + 1).toNat).toInt (xs fx (l4 + 2).toNat).toInt (xs fx (l4 + 3).toNat).toInt) hI ⟨hl.1, hl.2.2⟩ (fr_f_X11_mark eqF.rf) (fun mm => fr_f_X12_mark eqF.rf) (fun mm h => (call_mark h).cal h) ?_ (by unfold S1ok S2ok S3ok S4ok; decide) (fun v m12 => ?_)
  · intro k e h
    rcases k with _ | _ | _ | k <;> first | (simp at h; subst h; exact ⟨by decide, fun _ => rfl⟩) | (simp at h)
  · rw [sld_of (by omega), sld_of (by omega), sld_of (by omega)]
    rfl
theorem row_character (hI : Inv N m) (hl : 0 ≤ l4 ∧ l4 ≤ (xn fx : Int) - 6 ∧ l4 ≤ 3066) (hN : N ≤ 511) : Row N l4 (sld (xs fx) (xn fx) (l4 + 1) fun v335 => sld (xs fx) (xn fx) (l4 + 2) fun v336 => sld (xs fx) (xn fx) (l4 + 3) fun v337 => sld (xs fx) (xn fx) (l4 + 4) fun v338 => sld (xs fx) (xn fx) (l4 + 5) fun v339 => bI (f_L_character m 0 v335 v336 v337 v338 v339 0) (fun v341 m340 => sld (xs fx) (xn fx) (l4 + 1) fun v342 => sld (xs fx) (xn fx) (l4 + 2) fun v343 => sld (xs fx) (xn fx) (l4 + 3) fun v344 => sld (xs fx) (xn fx) (l4 + 4) fun v345 => sld (xs fx) (xn fx) (l4 + 5) fun v346 => bI (f_X12_character m340 0 v342 v343 v344 v345 v346) (fun v348 m347 => (f_X12_thrown m347 0).bind fun v349 => if v349 = v341 then (if ¬ v341 = 0 then (ck (l4 + 6) <| some (.inl ((l4 + 6), m347))) else
  ldL m347 131 0 0 fun v350 => if (lcm' v350 (i2l v348)) = 0 then (ck (l4 + 6) <| some (.inl ((l4 + 6), m347))) else
  some (.inr (.inl (.inl (some (aI 0)), m347)))) else
  some (.inr (.inl (.inl (some (aI 0)), m347)))) x0) x0) := by
  rw [sld_of (by omega), sld_of (by omega), sld_of (by omega), sld_of (by omega), sld_of (by omega)]
  unfold f_L_character
  refine Row.std (f2 := fun mm => f_X12_character mm 0 (xs fx (l4 + 1).toNat).toInt (xs fx (l4 + 2).toNat).toInt (xs fx (l4 + 3).toNat).toInt (xs fx (l4 + 4).toNat).toInt (xs fx (l4 + 5).toNat).toInt) hI ⟨hl.1, hl.2.2⟩ (fr_f_X11_character eqF.rf) (fun mm => fr_f_X12_character eqF.rf) (fun mm h => (call_character h (by omega) nrmI nrmI).cal h) ?_ (by unfold S1ok S2ok S3ok S4ok; decide) (fun v m12 => ?_)
  · intro k e h
    rcases k with _ | _ | _ | k <;> first | (simp at h; subst h; exact ⟨by decide, fun _ => rfl⟩) | (simp at h)
  · rw [sld_of (by omega), sld_of (by omega), sld_of (by omega), sld_of (by omega), sld_of (by omega)]
    rfl
theorem row_alike (hI : Inv N m) (hl : 0 ≤ l4 ∧ l4 ≤ (xn fx : Int) - 6 ∧ l4 ≤ 3066) (hN : N ≤ 511) : Row N l4 (sld (xs fx) (xn fx) (l4 + 1) fun v351 => sld (xs fx) (xn fx) (l4 + 2) fun v352 => bI (f_L_alike m 0 v351 v352 0) (fun v354 m353 => sld (xs fx) (xn fx) (l4 + 1) fun v355 => sld (xs fx) (xn fx) (l4 + 2) fun v356 => bI (f_X12_alike m353 0 v355 v356) (fun v358 m357 => (f_X12_thrown m357 0).bind fun v359 => if v359 = v354 then (if ¬ v354 = 0 then (ck (l4 + 6) <| some (.inl ((l4 + 6), m357))) else
  ldL m357 131 0 0 fun v360 => if (lcm' v360 (i2l v358)) = 0 then (ck (l4 + 6) <| some (.inl ((l4 + 6), m357))) else
  some (.inr (.inl (.inl (some (aI 0)), m357)))) else
  some (.inr (.inl (.inl (some (aI 0)), m357)))) x0) x0) := by
  rw [sld_of (by omega), sld_of (by omega)]
  unfold f_L_alike
  refine Row.std (f2 := fun mm => f_X12_alike mm 0 (xs fx (l4 + 1).toNat).toInt (xs fx (l4 + 2).toNat).toInt) hI ⟨hl.1, hl.2.2⟩ (fr_f_X11_alike eqF.rf) (fun mm => fr_f_X12_alike eqF.rf) (fun mm h => (call_alike h).cal h) ?_ (by unfold S1ok S2ok S3ok S4ok; decide) (fun v m12 => ?_)
  · intro k e h
    rcases k with _ | _ | _ | k <;> first | (simp at h; subst h; exact ⟨by decide, fun _ => rfl⟩) | (simp at h)
  · rw [sld_of (by omega), sld_of (by omega)]
    rfl
theorem row_madeUp (hI : Inv N m) (hl : 0 ≤ l4 ∧ l4 ≤ (xn fx : Int) - 6 ∧ l4 ≤ 3066) (hN : N ≤ 511) : Row N l4 (sld (xs fx) (xn fx) (l4 + 1) fun v361 => sld (xs fx) (xn fx) (l4 + 2) fun v362 => bI (f_L_madeUp m 0 v361 v362 0) (fun v364 m363 => sld (xs fx) (xn fx) (l4 + 1) fun v365 => sld (xs fx) (xn fx) (l4 + 2) fun v366 => bI (f_X12_madeUp m363 0 v365 v366) (fun v368 m367 => (f_X12_thrown m367 0).bind fun v369 => if v369 = v364 then (if ¬ v364 = 0 then (ck (l4 + 6) <| some (.inl ((l4 + 6), m367))) else
  ldL m367 131 0 0 fun v370 => if (lcm' v370 (i2l v368)) = 0 then (ck (l4 + 6) <| some (.inl ((l4 + 6), m367))) else
  some (.inr (.inl (.inl (some (aI 0)), m367)))) else
  some (.inr (.inl (.inl (some (aI 0)), m367)))) x0) x0) := by
  rw [sld_of (by omega), sld_of (by omega)]
  unfold f_L_madeUp
  refine Row.std (f2 := fun mm => f_X12_madeUp mm 0 (xs fx (l4 + 1).toNat).toInt (xs fx (l4 + 2).toNat).toInt) hI ⟨hl.1, hl.2.2⟩ (fr_f_X11_madeUp eqF.rf) (fun mm => fr_f_X12_madeUp eqF.rf) (fun mm h => (call_madeUp h).cal h) ?_ (by unfold S1ok S2ok S3ok S4ok; decide) (fun v m12 => ?_)
  · intro k e h
    rcases k with _ | _ | _ | k <;> first | (simp at h; subst h; exact ⟨by decide, fun _ => rfl⟩) | (simp at h)
  · rw [sld_of (by omega), sld_of (by omega)]
    rfl
theorem row_shared (hI : Inv N m) (hl : 0 ≤ l4 ∧ l4 ≤ (xn fx : Int) - 6 ∧ l4 ≤ 3066) (hN : N ≤ 511) : Row N l4 (sld (xs fx) (xn fx) (l4 + 1) fun v371 => sld (xs fx) (xn fx) (l4 + 2) fun v372 => sld (xs fx) (xn fx) (l4 + 3) fun v373 => bI (f_L_shared m 0 v371 v372 v373 0) (fun v375 m374 => sld (xs fx) (xn fx) (l4 + 1) fun v376 => sld (xs fx) (xn fx) (l4 + 2) fun v377 => sld (xs fx) (xn fx) (l4 + 3) fun v378 => bI (f_X12_shared m374 0 v376 v377 v378) (fun v380 m379 => (f_X12_thrown m379 0).bind fun v381 => if v381 = v375 then (if ¬ v375 = 0 then (ck (l4 + 6) <| some (.inl ((l4 + 6), m379))) else
  ldL m379 131 0 0 fun v382 => if (lcm' v382 (i2l v380)) = 0 then (ck (l4 + 6) <| some (.inl ((l4 + 6), m379))) else
  some (.inr (.inl (.inl (some (aI 0)), m379)))) else
  some (.inr (.inl (.inl (some (aI 0)), m379)))) x0) x0) := by
  rw [sld_of (by omega), sld_of (by omega), sld_of (by omega)]
  unfold f_L_shared
  refine Row.std (f2 := fun mm => f_X12_shared mm 0 (xs fx (l4 + 1).toNat).toInt (xs fx (l4 + 2).toNat).toInt (xs fx (l4 + 3).toNat).toInt) hI ⟨hl.1, hl.2.2⟩ (fr_f_X11_shared eqF.rf) (fun mm => fr_f_X12_shared eqF.rf) (fun mm h => (call_shared h _ _ _).cal h) ?_ (by unfold S1ok S2ok S3ok S4ok; decide) (fun v m12 => ?_)
  · intro k e h
    rcases k with _ | _ | _ | k <;> first | (simp at h; subst h; exact ⟨by decide, fun _ => rfl⟩) | (simp at h)
  · rw [sld_of (by omega), sld_of (by omega), sld_of (by omega)]
    rfl
theorem row_orders (hI : Inv N m) (hl : 0 ≤ l4 ∧ l4 ≤ (xn fx : Int) - 6 ∧ l4 ≤ 3066) (hN : N ≤ 511) : Row N l4 (sld (xs fx) (xn fx) (l4 + 1) fun v383 => bI (f_L_orders m 0 v383 0) (fun v385 m384 => sld (xs fx) (xn fx) (l4 + 1) fun v386 => bI (f_X12_orders m384 0 v386) (fun v388 m387 => (f_X12_thrown m387 0).bind fun v389 => if v389 = v385 then (if ¬ v385 = 0 then (ck (l4 + 6) <| some (.inl ((l4 + 6), m387))) else
  ldL m387 131 0 0 fun v390 => if (lcm' v390 (i2l v388)) = 0 then (ck (l4 + 6) <| some (.inl ((l4 + 6), m387))) else
  some (.inr (.inl (.inl (some (aI 0)), m387)))) else
  some (.inr (.inl (.inl (some (aI 0)), m387)))) x0) x0) := by
  rw [sld_of (by omega)]
  unfold f_L_orders
  refine Row.std (f2 := fun mm => f_X12_orders mm 0 (xs fx (l4 + 1).toNat).toInt) hI ⟨hl.1, hl.2.2⟩ (fr_f_X11_orders eqF.rf) (fun mm => fr_f_X12_orders eqF.rf) (fun mm h => call_orders h _) ?_ (by unfold S1ok S2ok S3ok S4ok; decide) (fun v m12 => ?_)
  · intro k e h
    rcases k with _ | _ | _ | k <;> first | (simp at h; subst h; exact ⟨by decide, fun _ => rfl⟩) | (simp at h)
  · rw [sld_of (by omega)]
    rfl
theorem row_ordersAnew (hI : Inv N m) (hl : 0 ≤ l4 ∧ l4 ≤ (xn fx : Int) - 6 ∧ l4 ≤ 3066) (hN : N ≤ 511) : Row N l4 (sld (xs fx) (xn fx) (l4 + 1) fun v391 => bI (f_L_ordersAnew m 0 v391 0) (fun v393 m392 => sld (xs fx) (xn fx) (l4 + 1) fun v394 => bI (f_X12_ordersAnew m392 0 v394) (fun v396 m395 => (f_X12_thrown m395 0).bind fun v397 => if v397 = v393 then (if ¬ v393 = 0 then (ck (l4 + 6) <| some (.inl ((l4 + 6), m395))) else
  ldL m395 131 0 0 fun v398 => if (lcm' v398 (i2l v396)) = 0 then (ck (l4 + 6) <| some (.inl ((l4 + 6), m395))) else
  some (.inr (.inl (.inl (some (aI 0)), m395)))) else
  some (.inr (.inl (.inl (some (aI 0)), m395)))) x0) x0) := by
  rw [sld_of (by omega)]
  unfold f_L_ordersAnew
  refine Row.std (f2 := fun mm => f_X12_ordersAnew mm 0 (xs fx (l4 + 1).toNat).toInt) hI ⟨hl.1, hl.2.2⟩ (fr_f_X11_ordersAnew eqF.rf) (fun mm => fr_f_X12_ordersAnew eqF.rf) (fun mm h => call_ordersAnew h _) ?_ (by unfold S1ok S2ok S3ok S4ok; decide) (fun v m12 => ?_)
  · intro k e h
    rcases k with _ | _ | _ | k <;> first | (simp at h; subst h; exact ⟨by decide, fun _ => rfl⟩) | (simp at h)
  · rw [sld_of (by omega)]
    rfl
theorem row_ahead (hI : Inv N m) (hl : 0 ≤ l4 ∧ l4 ≤ (xn fx : Int) - 6 ∧ l4 ≤ 3066) (hN : N ≤ 511) : Row N l4 (sld (xs fx) (xn fx) (l4 + 1) fun v399 => sld (xs fx) (xn fx) (l4 + 2) fun v400 => sld (xs fx) (xn fx) (l4 + 3) fun v401 => bI (f_L_ahead m 0 v399 v400 v401 0) (fun v403 m402 => sld (xs fx) (xn fx) (l4 + 1) fun v404 => sld (xs fx) (xn fx) (l4 + 2) fun v405 => sld (xs fx) (xn fx) (l4 + 3) fun v406 => bI (f_X12_ahead m402 0 v404 v405 v406) (fun v408 m407 => (f_X12_thrown m407 0).bind fun v409 => if v409 = v403 then (if ¬ v403 = 0 then (ck (l4 + 6) <| some (.inl ((l4 + 6), m407))) else
  ldL m407 131 0 0 fun v410 => if (lcm' v410 (i2l v408)) = 0 then (ck (l4 + 6) <| some (.inl ((l4 + 6), m407))) else
  some (.inr (.inl (.inl (some (aI 0)), m407)))) else
  some (.inr (.inl (.inl (some (aI 0)), m407)))) x0) x0) := by
  rw [sld_of (by omega), sld_of (by omega), sld_of (by omega)]
  unfold f_L_ahead
  refine Row.std (f2 := fun mm => f_X12_ahead mm 0 (xs fx (l4 + 1).toNat).toInt (xs fx (l4 + 2).toNat).toInt (xs fx (l4 + 3).toNat).toInt) hI ⟨hl.1, hl.2.2⟩ (fr_f_X11_ahead eqF.rf) (fun mm => fr_f_X12_ahead eqF.rf) (fun mm h => call_ahead h _ _ _) ?_ (by unfold S1ok S2ok S3ok S4ok; decide) (fun v m12 => ?_)
  · intro k e h
    rcases k with _ | _ | _ | k <;> first | (simp at h; subst h; exact ⟨by decide, fun _ => rfl⟩) | (simp at h)
  · rw [sld_of (by omega), sld_of (by omega), sld_of (by omega)]
    rfl
theorem row_presses (hI : Inv N m) (hl : 0 ≤ l4 ∧ l4 ≤ (xn fx : Int) - 6 ∧ l4 ≤ 3066) (hN : N ≤ 511) : Row N l4 (sld (xs fx) (xn fx) (l4 + 1) fun v419 => bI (f_L_presses m 0 v419 0) (fun v421 m420 => sld (xs fx) (xn fx) (l4 + 1) fun v422 => bI (f_X12_presses m420 0 v422) (fun v424 m423 => (f_X12_thrown m423 0).bind fun v425 => if v425 = v421 then (if ¬ v421 = 0 then (ck (l4 + 6) <| some (.inl ((l4 + 6), m423))) else
  ldL m423 131 0 0 fun v426 => if (lcm' v426 (i2l v424)) = 0 then (ck (l4 + 6) <| some (.inl ((l4 + 6), m423))) else
  some (.inr (.inl (.inl (some (aI 0)), m423)))) else
  some (.inr (.inl (.inl (some (aI 0)), m423)))) x0) x0) := by
  rw [sld_of (by omega)]
  unfold f_L_presses
  refine Row.std (f2 := fun mm => f_X12_presses mm 0 (xs fx (l4 + 1).toNat).toInt) hI ⟨hl.1, hl.2.2⟩ (fr_f_X11_presses eqF.rf) (fun mm => fr_f_X12_presses eqF.rf) (fun mm h => (call_presses h _).cal h) ?_ (by unfold S1ok S2ok S3ok S4ok; decide) (fun v m12 => ?_)
  · intro k e h
    rcases k with _ | _ | _ | k <;> first | (simp at h; subst h; exact ⟨by decide, fun _ => rfl⟩) | (simp at h)
  · rw [sld_of (by omega)]
    rfl
theorem row_follows (hI : Inv N m) (hl : 0 ≤ l4 ∧ l4 ≤ (xn fx : Int) - 6 ∧ l4 ≤ 3066) (hN : N ≤ 511) : Row N l4 (sld (xs fx) (xn fx) (l4 + 1) fun v427 => sld (xs fx) (xn fx) (l4 + 2) fun v428 => bI (f_L_follows m 0 v427 v428 0) (fun v430 m429 => sld (xs fx) (xn fx) (l4 + 1) fun v431 => sld (xs fx) (xn fx) (l4 + 2) fun v432 => bI (f_X12_follows m429 0 v431 v432) (fun v434 m433 => (f_X12_thrown m433 0).bind fun v435 => if v435 = v430 then (if ¬ v430 = 0 then (ck (l4 + 6) <| some (.inl ((l4 + 6), m433))) else
  ldL m433 131 0 0 fun v436 => if (lcm' v436 (i2l v434)) = 0 then (ck (l4 + 6) <| some (.inl ((l4 + 6), m433))) else
  some (.inr (.inl (.inl (some (aI 0)), m433)))) else
  some (.inr (.inl (.inl (some (aI 0)), m433)))) x0) x0) := by
  rw [sld_of (by omega), sld_of (by omega)]
  unfold f_L_follows
  refine Row.std (f2 := fun mm => f_X12_follows mm 0 (xs fx (l4 + 1).toNat).toInt (xs fx (l4 + 2).toNat).toInt) hI ⟨hl.1, hl.2.2⟩ (fr_f_X11_follows eqF.rf) (fun mm => fr_f_X12_follows eqF.rf) (fun mm h => (call_follows h _ _).cal h) ?_ (by unfold S1ok S2ok S3ok S4ok; decide) (fun v m12 => ?_)
  · intro k e h
    rcases k with _ | _ | _ | k <;> first | (simp at h; subst h; exact ⟨by decide, fun _ => rfl⟩) | (simp at h)
  · rw [sld_of (by omega), sld_of (by omega)]
    rfl
theorem row_account (hI : Inv N m) (hl : 0 ≤ l4 ∧ l4 ≤ (xn fx : Int) - 6 ∧ l4 ≤ 3066) (hN : N ≤ 511) : Row N l4 (sld (xs fx) (xn fx) (l4 + 1) fun v437 => sld (xs fx) (xn fx) (l4 + 2) fun v438 => bI (f_L_account m 0 v437 v438 0) (fun v440 m439 => sld (xs fx) (xn fx) (l4 + 1) fun v441 => sld (xs fx) (xn fx) (l4 + 2) fun v442 => bI (f_X12_account m439 0 v441 v442) (fun v444 m443 => (f_X12_thrown m443 0).bind fun v445 => if v445 = v440 then (if ¬ v440 = 0 then (ck (l4 + 6) <| some (.inl ((l4 + 6), m443))) else
  ldL m443 131 0 0 fun v446 => if (lcm' v446 (i2l v444)) = 0 then (ck (l4 + 6) <| some (.inl ((l4 + 6), m443))) else
  some (.inr (.inl (.inl (some (aI 0)), m443)))) else
  some (.inr (.inl (.inl (some (aI 0)), m443)))) x0) x0) := by
  rw [sld_of (by omega), sld_of (by omega)]
  unfold f_L_account
  refine Row.std (f2 := fun mm => f_X12_account mm 0 (xs fx (l4 + 1).toNat).toInt (xs fx (l4 + 2).toNat).toInt) hI ⟨hl.1, hl.2.2⟩ (fr_f_X11_account eqF.rf) (fun mm => fr_f_X12_account eqF.rf) (fun mm h => callR_account h _ _) ?_ (by unfold S1ok S2ok S3ok S4ok; decide) (fun v m12 => ?_)
  · intro k e h
    rcases k with _ | _ | _ | k <;> first | (simp at h; subst h; exact ⟨by decide, fun _ => rfl⟩) | (simp at h)
  · rw [sld_of (by omega), sld_of (by omega)]
    rfl
end LAW
