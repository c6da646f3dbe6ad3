/-! HOUR, PAPER, MEN. -/
/-- stock, hour, sheets taken -/
def RMi (mc mm : MM) : Prop := (gN mc 11 0 9 = gN mm 12 0 74 ∧ 0 ≤ gN mm 12 0 74 ∧ gN mm 12 0 74 < 4) ∧ (gN mc 11 0 10 = gN mm 12 0 69 ∧ 0 ≤ gN mm 12 0 69 ∧ gN mm 12 0 69 ≤ 5000) ∧ ∀ k, gN mc 58 0 k = gN mm 125 0 k
/-- the presses: crew, sheets, hours; the forme that lies on one -/
def RPr (mc mm : MM) : Prop := ∀ p : Nat, p < 3 → (gN mc 6 p 1 = gN mm 121 0 p ∧ 0 ≤ gN mm 121 0 p ∧ gN mm 121 0 p ≤ 2) ∧ gN mc 6 p 2 = gN mm 123 0 p ∧ gN mc 6 p 3 = gN mm 124 0 p ∧
  ((gR mc 6 p 0 = none ∧ gN mm 122 0 p = -1) ∨ ∃ fm : Nat, gR mc 6 p 0 = some (2, fm) ∧ gN mm 122 0 p = fm)
theorem RMi.thr {mc mm : MM} (h : RMi mc mm) (v : Int) : RMi mc (sN mm 12 0 0 v) := by
  obtain ⟨h1, h2, h3⟩ := h
  exact ⟨by rw [gthr' _ _ (Or.inr (by decide))]; exact h1, by rw [gthr' _ _ (Or.inr (by decide))]; exact h2, fun k => by rw [gthr' _ _ (Or.inl (by decide))]; exact h3 k⟩
theorem RPr.thr {mc mm : MM} (h : RPr mc mm) (v : Int) : RPr mc (sN mm 12 0 0 v) := fun p hp => by
  rw [gthr' _ _ (Or.inl (by decide)), gthr' _ _ (Or.inl (by decide)), gthr' _ _ (Or.inl (by decide)), gthr' _ _ (Or.inl (by decide))]
  exact h p hp
theorem call_hour {mc mm : MM} (hR : RMi mc mm) : ∃ v mm', f_X11_hour mc 0 = some v ∧ f_X12_hour mm 0 = some (.inl (some (aI v)), mm') ∧ RMi mc mm' := by
  refine ⟨gN mc 11 0 10, sN mm 12 0 0 0, rfl, ?_, hR.thr 0⟩
  show some ((.inl (some (aI (gN (sN mm 12 0 0 0) 12 0 69))), sN mm 12 0 0 0) : RV × MM) = _
  rw [gthr' _ _ (Or.inr (by decide)), hR.2.1.1]
theorem call_paper {mc mm : MM} {p : Int} (hC : SC mc) (hM : SM mm) (hR : RMi mc mm) : ∃ r mc' b mm', f_X11_paper mc 0 p = some (r, mc') ∧ f_X12_paper mm 0 p = some (.inl (some (aI b)), mm') ∧ Ans [0] r (gN mm' 12 0 0) b ∧ RMi mc' mm' := by
  unfold f_X12_paper
  rw [isIn_m, Option.bind_some]
  by_cases hp : 0 ≤ p ∧ p ≤ 3
  · rw [if_pos hp, if_neg (by decide)]
    obtain ⟨k, rfl⟩ : ∃ k : Nat, p = k := ⟨p.toNat, by omega⟩
    refine ⟨.inl (some (aI (gN mc 58 0 k))), sN mc 11 0 9 k, gN mm 125 0 k, sN (sN mm 12 0 0 0) 12 0 74 k, ?_, ?_, Or.inl ⟨by rw [hR.2.2 k], by rw [gN_sN, if_neg (fun q => absurd q.2.2 (by decide)), gthr]⟩, ?_, ?_, fun j => ?_⟩
    · apply ev_eq
      unfold f_X11_paper
      refine ev_iff (by omega) (ev_iff (by omega) ?_)
      unfold j_X11_paper_0_14
      exact ev_bVv (rqI mc (by decide)) (ev_lt (ev_nk hC.r5 (ev_ldN hC.z58 (by omega) (ev_some (by rw [Int.toNat_natCast, gN_sN, if_neg (fun q => absurd q.1 (by decide))])))))
    · apply ev_eq
      unfold j_X12_paper_0_15
      exact ev_bIv (holds_m mm 0) (ev_ift (by decide) (ev_lt (ev_nk hM.r75 (ev_ldN hM.z125 (by omega) (ev_some (by rw [Int.toNat_natCast, gN_sN, if_neg (fun q => absurd q.1 (by decide)), gthr' _ _ (Or.inl (by decide))]))))))
    · rw [gN_sN, if_pos ⟨rfl, rfl, rfl⟩, gN_sN, if_pos ⟨rfl, rfl, rfl⟩]
      exact ⟨rfl, by omega, by omega⟩
    · rw [gN_sN, if_neg (fun q => absurd q.2.2 (by decide)), gN_sN, if_neg (fun q => absurd q.2.2 (by decide)), gthr' _ _ (Or.inr (by decide))]
      exact hR.2.1
    · rw [gN_sN, if_neg (fun q => absurd q.1 (by decide)), gN_sN, if_neg (fun q => absurd q.1 (by decide)), gthr' _ _ (Or.inl (by decide))]
      exact hR.2.2 j
  · rw [if_neg hp, if_pos rfl]
    have e0 : j_X11_paper_0_13 mc 0 p = some (.inr 0, bX mc) := by
      unfold j_X11_paper_0_13 j_X11_paper_0_14
      rw [rqI0, bV_ex]
      rfl
    refine ⟨.inr 0, bX mc, 0, sN mm 12 0 0 1, ?_, ?_, Or.inr ⟨0, 0, rfl, rfl, by rw [gthr]; rfl⟩, hR.thr 1⟩
    · unfold f_X11_paper
      by_cases h7 : p < 0
      · rw [if_pos h7, e0]
      · rw [if_neg h7, if_pos (by omega), e0]
    · unfold j_X12_paper_0_15
      rw [holds_m]
      rfl
theorem pressAt_c {mc : MM} (hC : SC mc) {p : Nat} (hp : p < 3) : f_X11_pressAt mc 0 (p : Int) = some (.inl (some (aR (some (6, p)))), mc) := by
  apply ev_eq
  unfold f_X11_pressAt
  refine ev_iff (by omega) (ev_nk hC.r4 (ev_ift (by rw [lenI_of hC.z57]; omega) (ev_nk hC.r4 (ev_ldR hC.z57 (by omega) (ev_some ?_)))))
  rw [Int.toNat_natCast]
  obtain rfl | rfl | rfl : p = 0 ∨ p = 1 ∨ p = 2 := by omega
  · rw [hC.p0]
  · rw [hC.p1]
  · rw [hC.p2]
theorem pressAt_x {mc : MM} (hC : SC mc) {p : Int} (hp : ¬ (0 ≤ p ∧ p ≤ 2)) : f_X11_pressAt mc 0 p = some (.inr 0, bX mc) := by
  apply ev_eq
  unfold f_X11_pressAt
  refine ev_if (fun _ => ev_some rfl) fun h1 => ev_nk hC.r4 (ev_iff (by rw [lenI_of hC.z57]; omega) (ev_some rfl))
theorem call_men {mc mm : MM} {p q : Int} (hC : SC mc) (hM : SM mm) (hR : RPr mc mm) : ∃ r mc' b mm', f_X11_men mc 0 p q = some (r, mc') ∧ f_X12_men mm 0 p q = some (.inl (some (aI b)), mm') ∧ Ans [0, 1] r (gN mm' 12 0 0) b ∧ RPr mc' mm' := by
  unfold f_X11_men f_X12_men
  rw [isIn_m, Option.bind_some]
  by_cases hp : 0 ≤ p ∧ p ≤ 2
  · rw [if_pos hp, if_pos (show ¬ (1 : Int) = 0 by decide), isIn_m, Option.bind_some]
    obtain ⟨k, rfl⟩ : ∃ k : Nat, p = k := ⟨p.toNat, by omega⟩
    rw [pressAt_c hC (by omega), bR_ok, nk_of rfl]
    by_cases hq : 0 ≤ q ∧ q ≤ 2
    · rw [if_pos hq, if_neg (show ¬ (1 : Int) = 0 by decide), if_neg (show ¬ q < 0 by omega), if_neg (show ¬ 2 < q by omega)]
      have h0 := hR k (by omega)
      refine ⟨.inl (some (aI (gN mc 6 k 1))), sN mc 6 k 1 q, gN mc 6 k 1, sN (sN mm 12 0 0 0) 121 0 k q, ?_, ?_, Or.inl ⟨rfl, by rw [gN_sN, if_neg (fun z => absurd z.1 (by decide)), gthr]⟩, ?_⟩
      · unfold j_X11_men_0_20
        rw [rqA mc (by decide), bV_ok]
        rfl
      · apply ev_eq
        unfold j_X12_men_0_28
        refine ev_bIv (holds_m mm 0) (ev_ift (by decide) (ev_nk hM.r70 (ev_ldN hM.z121 (by omega) (ev_nk hM.r70 (ev_stN hM.z121 (by omega) (ev_some ?_))))))
        rw [Int.toNat_natCast, gthr' _ _ (Or.inl (by decide)), h0.1.1]
      · intro j hj
        have hj0 := hR j hj
        have e1 : ∀ s, s ≠ 1 → gN (sN mc 6 k 1 q) 6 j s = gN mc 6 j s := fun s hs => by rw [gN_sN, if_neg (fun z => hs z.2.2)]
        have e2 : ∀ K, K ≠ 121 → K ≠ 12 → gN (sN (sN mm 12 0 0 0) 121 0 k q) K 0 j = gN mm K 0 j := fun K a b => by rw [gN_sN, if_neg (fun z => a z.1), gthr' _ _ (Or.inl b)]
        rw [e1 2 (by decide), e1 3 (by decide), e2 123 (by decide) (by decide), e2 124 (by decide) (by decide), e2 122 (by decide) (by decide), gR_sN]
        refine ⟨?_, hj0.2⟩
        rw [gN_sN, gN_sN]
        by_cases z : j = k
        · rw [if_pos ⟨rfl, z, rfl⟩, if_pos ⟨rfl, rfl, z⟩]
          exact ⟨rfl, hq⟩
        · rw [if_neg (fun w => z w.2.1), if_neg (fun w => z w.2.2), gthr' _ _ (Or.inl (by decide))]
          exact hj0.1
    · rw [if_neg hq, if_pos (show (0 : Int) = 0 from rfl)]
      have e0 : j_X11_men_0_19 mc q k = some (.inr 1, bX mc) := by
        unfold j_X11_men_0_19 j_X11_men_0_20
        rw [rqA0, bV_ex]
        rfl
      refine ⟨.inr 1, bX mc, 0, sN mm 12 0 0 2, ?_, ?_, Or.inr ⟨1, 1, rfl, rfl, by rw [gthr]; rfl⟩, hR.thr 2⟩
      · by_cases h7 : q < 0
        · rw [if_pos h7, e0]
        · rw [if_neg h7, if_pos (by omega), e0]
      · unfold j_X12_men_0_28
        rw [holds_m]
        rfl
  · rw [if_neg hp, if_neg (by decide), pressAt_x hC hp, bR_ex]
    refine ⟨.inr 0, bX mc, 0, sN mm 12 0 0 1, rfl, ?_, Or.inr ⟨0, 0, rfl, rfl, by rw [gthr]; rfl⟩, hR.thr 1⟩
    unfold j_X12_men_0_28
    rw [holds_m]
    rfl
