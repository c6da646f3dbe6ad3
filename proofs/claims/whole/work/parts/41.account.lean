/-! ACCOUNT. -/
theorem handAt_c {B : Int} {mc mm : MM} (hC : SC mc) (hR : RH B mc mm) (p : Int) : f_X11_handAt mc 0 p = if 0 ≤ p ∧ p < gN mm 12 0 12 then some (.inl (some (aR (some (3, p.toNat)))), mc) else some (.inr 0, bX mc) := by
  obtain ⟨⟨h1, h1a, h1b⟩, h2, h3, h4, h5, h6⟩ := hR
  have e22 : j_X11_handAt_0_22 mc = some (.inr 0, bX mc) := by
    unfold j_X11_handAt_0_22 j_X11_handAt_0_23
    rw [if_neg (fun q => q rfl)]
  unfold f_X11_handAt
  by_cases hp : 0 ≤ p ∧ p < gN mm 12 0 12
  · rw [if_pos hp]
    apply ev_eq
    refine ev_iff (by omega) (ev_nk hC.r2 (ev_iff (by rw [lenI_of hC.z55]; omega) (ev_nk hC.r2 (ev_ldR hC.z55 (by omega) ?_))))
    rw [h3 p.toNat (by omega)]
    exact ev_ift (fun q => by cases q) (ev_some rfl)
  · rw [if_neg hp]
    apply ev_eq
    refine ev_if (fun _ => by rw [e22]; exact ev_some rfl) fun h7 => ev_nk hC.r2 (ev_if (fun _ => by rw [e22]; exact ev_some rfl) fun h8 => ?_)
    rw [lenI_of hC.z55] at h8
    refine ev_nk hC.r2 (ev_ldR hC.z55 (by omega) ?_)
    rw [h4 p.toNat (by omega)]
    exact ev_iff (fun q => q rfl) (ev_some rfl)
theorem isHand_m {mm : MM} (p : Int) (h : 0 ≤ gN mm 12 0 12 ∧ gN mm 12 0 12 ≤ 4) : f_X12_isHand mm 0 p = some (if 0 ≤ p ∧ p < gN mm 12 0 12 then 1 else 0) := by
  unfold f_X12_isHand
  rw [ck_of ⟨by omega, by omega⟩, isIn_m, Option.bind_some]
  by_cases hp : 0 ≤ p ∧ p < gN mm 12 0 12
  · rw [if_pos hp, if_pos (by omega)]; rfl
  · rw [if_neg hp, if_neg (by omega)]; rfl
theorem call_account {B : Int} {mc mm : MM} {w p : Int} (hC : SC mc) (hM : SM mm) (hH : RH B mc mm) (hP : RPr mc mm) (hI : RMi mc mm) : ∃ r mc' b t, f_X11_account mc 0 w p = some (r, mc') ∧ (mc' = mc ∨ mc' = bX mc) ∧ f_X12_account mm 0 w p = some (.inl (some (aI b)), sN mm 12 0 0 t) ∧ Ans [1, 0] r t b := by
  have hn := hH.1.2
  unfold f_X12_account
  rw [isIn_m, Option.bind_some]
  have m56 : ∀ t : Int, t ≠ 0 → j_X12_account_0_56 mm 0 w p 0 t = some (.inl (some (aI 0)), sN mm 12 0 0 t) := fun t ht => by
    unfold j_X12_account_0_56
    rw [holds_m, if_neg ht]
    rfl
  by_cases hw : 0 ≤ w ∧ w ≤ 4
  · have e1 : f_X11_account mc 0 w p = j_X11_account_0_14 mc 0 w p 1 := by
      unfold f_X11_account
      rw [if_neg (by omega), if_neg (by omega)]
    have i36 : j_X11_account_0_36 mc 0 p 0 = some (.inr 0, bX mc) := by
      unfold j_X11_account_0_36
      rw [rqI0, bV_ex]
      rfl
    rw [e1, if_pos hw]
    unfold j_X11_account_0_14
    rw [rqA mc (by decide), bV_ok]
    by_cases hw4 : w = 4
    · subst hw4
      rw [if_neg (show ¬ ¬ (4 : Int) = 4 from fun q => q rfl), if_pos (show (2 : Int) ≤ 4 by decide), if_pos (show (4 : Int) ≤ 4 by decide)]
      unfold j_X12_account_0_32
      rw [isIn_m, Option.bind_some]
      unfold j_X12_account_0_35
      rw [if_pos (show ¬ (1 : Int) = 0 by decide)]
      by_cases hp : 0 ≤ p ∧ p ≤ 3
      · rw [if_neg (show ¬ p < 0 by omega), if_neg (show ¬ 4 ≤ p by omega), if_pos hp, if_neg (show ¬ (1 : Int) = 0 by decide)]
        refine ⟨.inl (some (aI (gN mm 125 0 p.toNat))), mc, gN mm 125 0 p.toNat, 0, ?_, Or.inl rfl, ?_, Or.inl ⟨rfl, rfl⟩⟩
        · apply ev_eq
          unfold j_X11_account_0_36
          exact ev_bVv (rqI mc (by decide)) (ev_nk hC.r5 (ev_ldN hC.z58 (by omega) (ev_some (by rw [hI.2.2]))))
        · apply ev_eq
          unfold j_X12_account_0_56
          exact ev_bIv (holds_m mm 0) (ev_ift (by decide) (ev_ift (by decide) (ev_ift (by decide) (ev_ift (by decide) (ev_ift (by decide) (ev_nk hM.r75 (ev_ldN hM.z125 (by omega) (ev_some (by rw [gthr' _ _ (Or.inl (by decide))])))))))))
      · rw [if_neg hp, if_pos rfl, m56 2 (by decide)]
        refine ⟨.inr 0, bX mc, 0, 2, ?_, Or.inr rfl, rfl, Or.inr ⟨0, 1, rfl, rfl, rfl⟩⟩
        have e35 : j_X11_account_0_35 mc 0 p = some (.inr 0, bX mc) := i36
        rw [e35]
        exact ite2 (by omega)
    · rw [if_pos hw4]
      by_cases hw2 : 2 ≤ w
      · rw [if_neg (show ¬ w < 2 by omega), if_pos hw2, if_neg (show ¬ 4 ≤ w by omega)]
        unfold j_X12_account_0_32
        rw [isIn_m, Option.bind_some]
        unfold j_X12_account_0_35
        rw [if_pos (show ¬ (1 : Int) = 0 by decide)]
        by_cases hp : 0 ≤ p ∧ p ≤ 2
        · obtain ⟨k, rfl⟩ : ∃ k : Nat, p = k := ⟨p.toNat, by omega⟩
          rw [pressAt_c hC (by omega), bR_ok, nk_of rfl, if_pos hp, if_neg (show ¬ (1 : Int) = 0 by decide)]
          have h0 := hP k (by omega)
          obtain rfl | rfl : w = 2 ∨ w = 3 := by omega
          · rw [if_neg (show ¬ ¬ (2 : Int) = 2 from fun q => q rfl)]
            refine ⟨_, mc, gN mm 123 0 k, 0, rfl, Or.inl rfl, ?_, Or.inl ⟨by rw [h0.2.1], rfl⟩⟩
            apply ev_eq
            unfold j_X12_account_0_56
            exact ev_bIv (holds_m mm 0) (ev_ift (by decide) (ev_ift (by decide) (ev_ift (by decide) (ev_iff (by decide) (ev_nk hM.r72 (ev_ldN hM.z123 (by omega) (ev_some (by rw [Int.toNat_natCast, gthr' _ _ (Or.inl (by decide))]))))))))
          · rw [if_pos (show ¬ (3 : Int) = 2 by decide)]
            refine ⟨_, mc, gN mm 124 0 k, 0, rfl, Or.inl rfl, ?_, Or.inl ⟨by rw [h0.2.2.1], rfl⟩⟩
            apply ev_eq
            unfold j_X12_account_0_56
            exact ev_bIv (holds_m mm 0) (ev_ift (by decide) (ev_ift (by decide) (ev_ift (by decide) (ev_ift (by decide) (ev_iff (by decide) (ev_nk hM.r73 (ev_ldN hM.z124 (by omega) (ev_some (by rw [Int.toNat_natCast, gthr' _ _ (Or.inl (by decide))])))))))))
        · rw [pressAt_x hC hp, bR_ex, if_neg hp, if_pos rfl, m56 2 (by decide)]
          exact ⟨.inr 0, bX mc, 0, 2, rfl, Or.inr rfl, rfl, Or.inr ⟨0, 1, rfl, rfl, rfl⟩⟩
      · rw [if_pos (show w < 2 by omega), if_neg hw2, isHand_m p hn, Option.bind_some, handAt_c hC hH]
        unfold j_X12_account_0_35
        rw [if_pos (show ¬ (1 : Int) = 0 by decide)]
        by_cases hp : 0 ≤ p ∧ p < gN mm 12 0 12
        · obtain ⟨k, rfl⟩ : ∃ k : Nat, p = k := ⟨p.toNat, by omega⟩
          rw [if_pos hp, if_pos hp, bR_ok, nk_of rfl, if_neg (show ¬ (1 : Int) = 0 by decide), Int.toNat_natCast]
          have h0 := hH.2.2.2.2.2 k
          obtain rfl | rfl : w = 0 ∨ w = 1 := by omega
          · rw [if_neg (show ¬ ¬ (0 : Int) = 0 from fun q => q rfl)]
            refine ⟨_, mc, gN mm 71 0 k, 0, rfl, Or.inl rfl, ?_, Or.inl ⟨by rw [h0.2.1.1], rfl⟩⟩
            apply ev_eq
            unfold j_X12_account_0_56
            exact ev_bIv (holds_m mm 0) (ev_ift (by decide) (ev_iff (by decide) (ev_nk hM.r17 (ev_ldN hM.z71 (by omega) (ev_some (by rw [Int.toNat_natCast, gthr' _ _ (Or.inl (by decide))]))))))
          · rw [if_pos (show ¬ (1 : Int) = 0 by decide)]
            refine ⟨_, mc, gN mm 72 0 k, 0, rfl, Or.inl rfl, ?_, Or.inl ⟨by rw [h0.2.2.1], rfl⟩⟩
            apply ev_eq
            unfold j_X12_account_0_56
            exact ev_bIv (holds_m mm 0) (ev_ift (by decide) (ev_ift (by decide) (ev_iff (by decide) (ev_nk hM.r18 (ev_ldN hM.z72 (by omega) (ev_some (by rw [Int.toNat_natCast, gthr' _ _ (Or.inl (by decide))])))))))
        · rw [if_neg hp, if_neg hp, bR_ex, if_pos rfl, m56 2 (by decide)]
          exact ⟨.inr 0, bX mc, 0, 2, rfl, Or.inr rfl, rfl, Or.inr ⟨0, 1, rfl, rfl, rfl⟩⟩
  · have a14 : j_X11_account_0_13 mc 0 w p = some (.inr 1, bX mc) := by
      unfold j_X11_account_0_13 j_X11_account_0_14
      rw [rqA0, bV_ex]
      rfl
    have m35 : ∀ s, j_X12_account_0_35 mm 0 w p 0 s = some (.inl (some (aI 0)), sN mm 12 0 0 1) := fun s => by
      unfold j_X12_account_0_35
      rw [if_neg (fun q => q rfl), m56 1 (by decide)]
    refine ⟨.inr 1, bX mc, 0, 1, ?_, Or.inr rfl, ?_, Or.inr ⟨1, 0, rfl, rfl, rfl⟩⟩
    · unfold f_X11_account
      rw [a14]
      exact ite2 (by omega)
    · rw [if_neg hw]
      by_cases hw2 : 2 ≤ w
      · rw [if_pos hw2, if_pos (show 4 ≤ w by omega)]
        unfold j_X12_account_0_32
        rw [isIn_m, Option.bind_some, m35]
      · rw [if_neg hw2, isHand_m p hn, Option.bind_some, m35]
