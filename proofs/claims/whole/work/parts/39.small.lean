/-! HOUR, PAPER, MEN. -/
/-- stock, hour, sheets taken -/
def RMi (mc mm : MM) : Prop := (gN mc 11 0 9 = gN mm 12 0 74 ∧ 0 ≤ gN mm 12 0 74 ∧ gN mm 12 0 74 < 4) ∧ (gN mc 11 0 10 = gN mm 12 0 69 ∧ 0 ≤ gN mm 12 0 69 ∧ gN mm 12 0 69 ≤ 5000) ∧ ∀ k, gN mc 58 0 k = gN mm 125 0 k
/-- the presses: crew, sheets, hours; the forme that lies on one -/
def RPr (mc mm : MM) : Prop := ∀ p : Nat, p < 3 → (gN mc 6 p 1 = gN mm 121 0 p ∧ 0 ≤ gN mm 121 0 p ∧ gN mm 121 0 p ≤ 2) ∧ gN mc 6 p 2 = gN mm 123 0 p ∧ gN mc 6 p 3 = gN mm 124 0 p ∧
  ((gR mc 6 p 0 = none ∧ gN mm 122 0 p = -1) ∨ ∃ fm : Nat, gR mc 6 p 0 = some (2, fm) ∧ gN mm 122 0 p = fm)
theorem RMi.thr {mc mm : MM} (h : RMi mc mm) (v : Int) : RMi mc (sN mm 12 0 0 v) := by
  obtain ⟨h1, h2, h3⟩ := h
  exact ⟨by rw [gthr' _ _ (Or.inr (by decide))]; exact h1, by rw [gthr' _ _ (Or.inr (by decide))]; exact h2, fun k => by rw [gthr' _ _ (Or.inl (by decide))]; exact h3 k⟩
theorem RPr.thr {mc mm : MM} (h : RPr mc mm) (v : Int) : RPr mc (sN mm 12 0 0 v) := fun p hp => by
  rw [gthr' _ _ (Or.inl (by decide)), gthr' _ _ (Or.inl (by decide)), gthr' _ _ (Or.inl (by decide)), gthr' _ _ (Or.inl (by decide))]
  exact h p hp
theorem call_hour {mc mm : MM} (hR : RMi mc mm) : ∃ v mm', f_X11_hour mc 0 = some v ∧ f_X12_hour mm 0 = some (.inl (some (aI v)), mm') ∧ RMi mc mm' := by
  refine ⟨gN mc 11 0 10, sN mm 12 0 0 0, rfl, ?_, hR.thr 0⟩
  show some ((.inl (some (aI (gN (sN mm 12 0 0 0) 12 0 69))), sN mm 12 0 0 0) : RV × MM) = _
  rw [gthr' _ _ (Or.inr (by decide)), hR.2.1.1]
theorem call_paper {mc mm : MM} {p : Int} (hC : SC mc) (hM : SM mm) (hR : RMi mc mm) : ∃ r mc' b mm', f_X11_paper mc 0 p = some (r, mc') ∧ f_X12_paper mm 0 p = some (.inl (some (aI b)), mm') ∧ Ans [0] r (gN mm' 12 0 0) b ∧ RMi mc' mm' := by
  unfold f_X12_paper
  rw [isIn_m, Option.bind_some]
  by_cases hp : 0 ≤ p ∧ p ≤ 3
  · rw [if_pos hp, if_neg (by decide)]
    obtain ⟨k, rfl⟩ : ∃ k : Nat, p = k := ⟨p.toNat, by omega⟩
    refine ⟨.inl (some (aI (gN mc 58 0 k))), sN mc 11 0 9 k, gN mm 125 0 k, sN (sN mm 12 0 0 0) 12 0 74 k, ?_, ?_, Or.inl ⟨by rw [hR.2.2 k], by rw [gN_sN, if_neg (fun q => absurd q.2.2 (by decide)), gthr]⟩, ?_, ?_, fun j => ?_⟩
    · apply ev_eq
      unfold f_X11_paper
      refine ev_iff (by omega) (ev_iff (by omega) ?_)
      unfold j_X11_paper_0_14
      exact ev_bVv (rqI mc (by decide)) (ev_lt (ev_nk hC.r5 (ev_ldN hC.z58 (by omega) (ev_some (by rw [Int.toNat_natCast, gN_sN, if_neg (fun q => absurd q.1 (by decide))])))))
    · apply ev_eq
      unfold j_X12_paper_0_15
      exact ev_bIv (holds_m mm 0) (ev_ift (by decide) (ev_lt (ev_nk hM.r75 (ev_ldN hM.z125 (by omega) (ev_some (by rw [Int.toNat_natCast, gN_sN, if_neg (fun q => absurd q.1 (by decide)), gthr' _ _ (Or.inl (by decide))]))))))
    · rw [gN_sN, if_pos ⟨rfl, rfl, rfl⟩, gN_sN, if_pos ⟨rfl, rfl, rfl⟩]
      exact ⟨rfl, by omega, by omega⟩
    · rw [gN_sN, if_neg (fun q => absurd q.2.2 (by decide)), gN_sN, if_neg (fun q => absurd q.2.2 (by decide)), gthr' _ _ (Or.inr (by decide))]
      exact hR.2.1
    · rw [gN_sN, if_neg (fun q => absurd q.1 (by decide)), gN_sN, if_neg (fun q => absurd q.1 (by decide)), gthr' _ _ (Or.inl (by decide))]
      exact hR.2.2 j
  · rw [if_neg hp, if_pos rfl]
    have e0 : j_X11_paper_0_13 mc 0 p = some (.inr 0, bX mc) := by
      unfold j_X11_paper_0_13 j_X11_paper_0_14
      rw [rqI0, bV_ex]
      rfl
    refine ⟨.inr 0, bX mc, 0, sN mm 12 0 0 1, ?_, ?_, Or.inr ⟨0, 0, rfl, rfl, by rw [gthr]; rfl⟩, hR.thr 1⟩
    · unfold f_X11_paper
      by_cases h7 : p < 0
      · rw [if_pos h7, e0]
      · rw [if_neg h7, if_pos (by omega), e0]
    · unfold j_X12_paper_0_15
      rw [holds_m]
      rfl
