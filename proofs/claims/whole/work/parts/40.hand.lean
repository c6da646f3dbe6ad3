/-! HAND. -/
theorem ite2 {X : Type} {c d : Prop} [Decidable c] [Decidable d] {x y : X} (h : c ∨ d) : (if c then x else if d then x else y) = x := by
  by_cases hc : c
  · rw [if_pos hc]
  · rw [if_neg hc, if_pos (h.resolve_left hc)]
/-- the hands: B bounds what they count -/
def RH (B : Int) (mc mm : MM) : Prop := (gN mc 11 0 7 = gN mm 12 0 12 ∧ 0 ≤ gN mm 12 0 12 ∧ gN mm 12 0 12 ≤ 4) ∧ (gC mc 3 : Int) = gN mm 12 0 12 ∧
  (∀ h : Nat, (h : Int) < gN mm 12 0 12 → gR mc 55 0 h = some (3, h)) ∧ (∀ h : Nat, gN mm 12 0 12 ≤ h → gR mc 55 0 h = none) ∧
  (∀ h : Nat, (h : Int) < gN mm 12 0 12 → (gN mc 3 h 0 = gN mm 67 0 h ∧ 0 ≤ gN mm 67 0 h ∧ gN mm 67 0 h ≤ 63) ∧ (gN mc 3 h 1 = gN mm 68 0 h ∧ 0 ≤ gN mm 68 0 h ∧ gN mm 68 0 h ≤ 9) ∧ (gN mc 3 h 2 = gN mm 69 0 h ∧ 0 ≤ gN mm 69 0 h ∧ gN mm 69 0 h ≤ 9)) ∧
  (∀ h : Nat, (gN mc 3 h 3 = gN mm 70 0 h ∧ 0 ≤ gN mm 70 0 h ∧ gN mm 70 0 h ≤ B) ∧ (gN mc 3 h 4 = gN mm 71 0 h ∧ 0 ≤ gN mm 71 0 h ∧ gN mm 71 0 h ≤ B) ∧ (gN mc 3 h 5 = gN mm 72 0 h ∧ 0 ≤ gN mm 72 0 h ∧ gN mm 72 0 h ≤ B))
theorem RH.thr {B : Int} {mc mm : MM} (h : RH B mc mm) (v : Int) : RH B mc (sN mm 12 0 0 v) := by
  have e12 : gN (sN mm 12 0 0 v) 12 0 12 = gN mm 12 0 12 := gthr' _ _ (Or.inr (by decide))
  have e : ∀ K j, K ≠ 12 → gN (sN mm 12 0 0 v) K 0 j = gN mm K 0 j := fun K j hK => gthr' _ _ (Or.inl hK)
  unfold RH
  rw [e12]
  obtain ⟨h1, h2, h3, h4, h5, h6⟩ := h
  refine ⟨h1, h2, h3, h4, fun k hk => ?_, fun k => ?_⟩
  · rw [e 67 k (by decide), e 68 k (by decide), e 69 k (by decide)]; exact h5 k hk
  · rw [e 70 k (by decide), e 71 k (by decide), e 72 k (by decide)]; exact h6 k
theorem RH.bX {B : Int} {mc mm : MM} (h : RH B mc mm) : RH B (bX mc) mm := h
/-- a hand's arguments that serve -/
def goodH (a b c : Int) : Prop := (0 ≤ a ∧ a ≤ 63) ∧ (0 ≤ b ∧ b ≤ 9) ∧ 0 ≤ c ∧ c ≤ 9
theorem hand_bad {mc mm : MM} {B a b c : Int} (hR : RH B mc mm) (hg : ¬ goodH a b c) : f_X11_hand mc 0 a b c = some (.inr 1, bX mc) ∧ f_X12_hand mm 0 a b c = some (.inl (some (aI 0)), sN mm 12 0 0 1) := by
  have x50 : j_X11_hand_0_50 mc 0 a b c = some (.inr 1, bX mc) := by unfold j_X11_hand_0_50 j_X11_hand_0_51; rw [rqA0, bV_ex]; rfl
  have x32 : j_X11_hand_0_32 mc 0 a b c = some (.inr 1, bX mc) := by unfold j_X11_hand_0_32 j_X11_hand_0_33; rw [rqA0, bV_ex]; rfl
  have x14 : j_X11_hand_0_14 mc 0 a b c = some (.inr 1, bX mc) := by unfold j_X11_hand_0_14 j_X11_hand_0_15; rw [rqA0, bV_ex]; rfl
  have y34 : j_X12_hand_0_34 mm 0 a b c = some (.inl (some (aI 0)), sN mm 12 0 0 1) := by
    unfold j_X12_hand_0_34 j_X12_hand_0_35 j_X12_hand_0_60
    rw [if_neg (fun q => q rfl), holds_m]
    rfl
  unfold f_X11_hand f_X12_hand
  rw [isIn_m, Option.bind_some]
  by_cases ha : 0 ≤ a ∧ a ≤ 63
  · rw [if_neg (show ¬ a < 0 by omega), if_neg (show ¬ 63 < a by omega), if_pos ha, if_neg (show ¬ (1 : Int) = 0 by decide), isIn_m, Option.bind_some]
    unfold j_X11_hand_0_15
    rw [rqA mc (by decide), bV_ok]
    by_cases hb : 0 ≤ b ∧ b ≤ 9
    · rw [if_neg (show ¬ b < 0 by omega), if_neg (show ¬ 9 < b by omega), if_pos hb, if_neg (show ¬ (1 : Int) = 0 by decide), isIn_m, Option.bind_some]
      unfold j_X11_hand_0_33
      rw [rqA mc (by decide), bV_ok]
      by_cases hc : 0 ≤ c ∧ c ≤ 9
      · exact absurd ⟨ha, hb, hc⟩ hg
      · rw [if_neg hc, if_pos rfl, x50, y34]
        exact ⟨ite2 (by omega), rfl⟩
    · rw [if_neg hb, if_pos rfl, x32, y34]
      exact ⟨ite2 (by omega), rfl⟩
  · rw [if_neg ha, if_pos rfl, x14, y34]
    exact ⟨ite2 (by omega), rfl⟩
theorem hand_c {mc : MM} {a b c : Int} {n : Nat} (hC : SC mc) (hg : goodH a b c) (hn : gN mc 11 0 7 = n) (hc3 : gC mc 3 = n) (hn4 : n < 4) :
    f_X11_hand mc 0 a b c = some (.inl (some (aI n)), sN (sR (sN (sN (sN (nW mc 3 6) 3 n 0 a) 3 n 1 b) 3 n 2 c) 55 0 n (some (3, n))) 11 0 7 (n + 1)) := by
  obtain ⟨g1, g2, g3⟩ := hg
  apply ev_eq
  unfold f_X11_hand
  refine ev_iff (by omega) (ev_iff (by omega) ?_)
  unfold j_X11_hand_0_15
  refine ev_bVv (rqA mc (by decide)) (ev_iff (by omega) (ev_iff (by omega) ?_))
  unfold j_X11_hand_0_33
  refine ev_bVv (rqA mc (by decide)) (ev_iff (by omega) (ev_iff (by omega) ?_))
  unfold j_X11_hand_0_51
  refine ev_bVv (rqA mc (by decide)) (ev_iff (by rw [hn]; omega) ?_)
  unfold j_X11_hand_0_67
  refine ev_bVv (rqS mc (by decide)) (ev_nk hC.r2 (ev_lt ?_))
  rw [hc3, hn]
  refine ev_bVv (m' := sN (sN (sN (nW mc 3 6) 3 n 0 a) 3 n 1 b) 3 n 2 c) rfl ?_
  have hz : gZ (sN (sN (sN (nW mc 3 6) 3 n 0 a) 3 n 1 b) 3 n 2 c) 55 0 = some 4 := by
    show gZ (nW mc 3 6) 55 0 = some 4
    rw [gZ_nW, if_neg (fun q => absurd q.1 (by decide))]
    exact hC.z55
  refine ev_stR hz (by omega) ?_
  rw [Int.toNat_natCast]
  have e7 : gN (sR (sN (sN (sN (nW mc 3 6) 3 n 0 a) 3 n 1 b) 3 n 2 c) 55 0 n (some (3, n))) 11 0 7 = n := by
    simp [gN_sN, gN_sR, gN_nW, hn]
  rw [e7]
  refine ev_ck (by omega) (ev_lt ?_)
  have e8 : ∀ m : MM, gN (sN m 11 0 7 ((n : Int) + 1)) 11 0 7 = n + 1 := fun m => by rw [gN_sN, if_pos ⟨rfl, rfl, rfl⟩]
  rw [e8, show (n : Int) + 1 - 1 = n by omega]
  exact ev_ck (by omega) (ev_some rfl)
theorem hand_m {mm : MM} {a b c : Int} {n : Nat} (hM : SM mm) (hg : goodH a b c) (hn : gN mm 12 0 12 = n) (hn4 : n < 4) :
    f_X12_hand mm 0 a b c = some (.inl (some (aI n)), sN (sN (sN (sN (sN mm 12 0 0 0) 67 0 n a) 68 0 n b) 69 0 n c) 12 0 12 (n + 1)) := by
  obtain ⟨g1, g2, g3⟩ := hg
  unfold f_X12_hand
  rw [isIn_m, Option.bind_some, if_pos g1, if_neg (by decide), isIn_m, Option.bind_some, if_pos g2, if_neg (by decide), isIn_m, Option.bind_some, if_pos g3, if_neg (by decide)]
  unfold j_X12_hand_0_35
  rw [if_pos (by decide), hn, if_pos (by omega)]
  unfold j_X12_hand_0_60
  rw [holds_m, if_pos (show (0 : Int) = 0 from rfl), bI_ok, if_pos (by decide)]
  apply ev_eq
  have e0 : gN (sN mm 12 0 0 0) 12 0 12 = n := by rw [gthr' _ _ (Or.inr (by decide)), hn]
  have e1 : ∀ (m : MM) (K s : Nat) (v : Int), K ≠ 12 → gN m 12 0 12 = n → gN (sN m K 0 s v) 12 0 12 = n := fun m K s v hK h => by rw [gN_sN, if_neg (fun q => hK q.1.symm), h]
  refine ev_nk hM.r13 (ev_stN hM.z67 (by rw [e0]; omega) ?_)
  rw [e0, Int.toNat_natCast]
  refine ev_nk hM.r14 (ev_stN hM.z68 (by rw [e1 _ _ _ _ (by decide) e0]; omega) ?_)
  rw [e1 _ _ _ _ (by decide) e0, Int.toNat_natCast]
  refine ev_nk hM.r15 (ev_stN hM.z69 (by rw [e1 _ _ _ _ (by decide) (e1 _ _ _ _ (by decide) e0)]; omega) ?_)
  rw [e1 _ _ _ _ (by decide) (e1 _ _ _ _ (by decide) e0), Int.toNat_natCast, e1 _ _ _ _ (by decide) (e1 _ _ _ _ (by decide) (e1 _ _ _ _ (by decide) e0))]
  refine ev_ck (by omega) (ev_lt ?_)
  have e8 : ∀ m : MM, gN (sN m 12 0 12 ((n : Int) + 1)) 12 0 12 = n + 1 := fun m => by rw [gN_sN, if_pos ⟨rfl, rfl, rfl⟩]
  rw [e8, show (n : Int) + 1 - 1 = n by omega]
  exact ev_ck (by omega) (ev_some rfl)
theorem hand_full {mc mm : MM} {a b c : Int} (hg : goodH a b c) (hn : gN mc 11 0 7 = 4) (hn' : gN mm 12 0 12 = 4) : f_X11_hand mc 0 a b c = some (.inr 2, bX mc) ∧ f_X12_hand mm 0 a b c = some (.inl (some (aI 0)), sN mm 12 0 0 2) := by
  obtain ⟨g1, g2, g3⟩ := hg
  constructor
  · apply ev_eq
    unfold f_X11_hand
    refine ev_iff (by omega) (ev_iff (by omega) ?_)
    unfold j_X11_hand_0_15
    refine ev_bVv (rqA mc (by decide)) (ev_iff (by omega) (ev_iff (by omega) ?_))
    unfold j_X11_hand_0_33
    refine ev_bVv (rqA mc (by decide)) (ev_iff (by omega) (ev_iff (by omega) ?_))
    unfold j_X11_hand_0_51
    refine ev_bVv (rqA mc (by decide)) (ev_ift (by rw [hn]; omega) ?_)
    unfold j_X11_hand_0_67
    exact ev_bVx (rqS0 mc) (ev_some rfl)
  · unfold f_X12_hand
    rw [isIn_m, Option.bind_some, if_pos g1, if_neg (by decide), isIn_m, Option.bind_some, if_pos g2, if_neg (by decide), isIn_m, Option.bind_some, if_pos g3, if_neg (by decide)]
    unfold j_X12_hand_0_35
    rw [if_pos (by decide), hn', if_neg (fun q => q rfl)]
    unfold j_X12_hand_0_60
    rw [holds_m]
    rfl
theorem call_hand {mc mm : MM} {B a b c : Int} (hC : SC mc) (hM : SM mm) (hR : RH B mc mm) : ∃ r mc' v mm', f_X11_hand mc 0 a b c = some (r, mc') ∧ f_X12_hand mm 0 a b c = some (.inl (some (aI v)), mm') ∧ Ans [1, 2] r (gN mm' 12 0 0) v ∧ RH B mc' mm' := by
  by_cases hg : goodH a b c
  · have hR' := hR
    obtain ⟨⟨h1, h1a, h1b⟩, h2, h3, h4, h5, h6⟩ := hR
    obtain ⟨n, hn⟩ : ∃ n : Nat, gN mm 12 0 12 = n := ⟨(gN mm 12 0 12).toNat, by omega⟩
    rw [hn] at h1 h1a h1b h2 h3 h4 h5
    by_cases h44 : n = 4
    · subst h44
      obtain ⟨e1, e2⟩ := hand_full hg h1 hn
      exact ⟨_, _, _, _, e1, e2, Or.inr ⟨2, 1, rfl, rfl, by rw [gthr]; rfl⟩, (hR'.thr 2).bX⟩
    · have hn4 : n < 4 := by omega
      have hc3 : gC mc 3 = n := by omega
      refine ⟨_, _, _, _, hand_c hC hg h1 hc3 hn4, hand_m hM hg hn hn4, Or.inl ⟨rfl, ?_⟩, ?_⟩
      · simp [gN_sN]
      · have e12 : gN (sN (sN (sN (sN (sN mm 12 0 0 0) 67 0 n a) 68 0 n b) 69 0 n c) 12 0 12 ((n : Int) + 1)) 12 0 12 = n + 1 := by rw [gN_sN, if_pos ⟨rfl, rfl, rfl⟩]
        obtain ⟨g1, g2, g3⟩ := hg
        unfold RH
        rw [e12]
        refine ⟨⟨by simp [gN_sN], by omega, by omega⟩, ?_, fun h hh => ?_, fun h hh => ?_, fun h hh => ?_, fun h => ?_⟩
        · show ((gC (nW mc 3 6) 3 : Nat) : Int) = _
          rw [gC_nW, if_pos rfl, hc3]
          omega
        · show gR (sR _ 55 0 n (some (3, n))) 55 0 h = _
          rw [gR_sR]
          by_cases q : h = n
          · rw [if_pos ⟨rfl, rfl, q⟩, q]
          · rw [if_neg (fun z => q z.2.2)]
            exact h3 h (by omega)
        · show gR (sR _ 55 0 n (some (3, n))) 55 0 h = _
          rw [gR_sR, if_neg (fun z => by have := z.2.2; omega)]
          exact h4 h (by omega)
        · by_cases q : h = n
          · subst q
            simp [gN_sN, gN_sR, gN_nW]
            omega
          · have := h5 h (by omega)
            simp [gN_sN, gN_sR, gN_nW, q]
            exact this
        · have := h6 h
          simp [gN_sN, gN_sR, gN_nW]
          exact this
  · obtain ⟨e1, e2⟩ := hand_bad hR hg
    exact ⟨_, _, _, _, e1, e2, Or.inr ⟨1, 0, rfl, rfl, by rw [gthr]; rfl⟩, (hR.thr 1).bX⟩
