/-! CAST. -/
theorem RC.add {mc mm : MM} {b n : Nat} (h : RC mc mm) (hn : gN mm 12 0 6 = n) (hn4 : n < 400) (hb : b < 28) :
    RC (pOn (sN (sN mc 20 0 n b) 1 0 5 (n + 1)) 22 23 24 b n) (sN (pOn (sN (sN mm 62 0 n b) 63 0 n 0) 64 65 66 b n) 12 0 6 (n + 1)) := by
  obtain ⟨h1, h2, h3, h4, h5, h6, h7⟩ := h
  rw [hn] at h1 h5 h6 h7
  have e6 : gN (sN (pOn (sN (sN mm 62 0 n b) 63 0 n 0) 64 65 66 b n) 12 0 6 (n + 1)) 12 0 6 = n + 1 := by rw [gN_sN, if_pos ⟨rfl, rfl, rfl⟩]
  have m62 : ∀ j, gN (sN (pOn (sN (sN mm 62 0 n b) 63 0 n 0) 64 65 66 b n) 12 0 6 (n + 1)) 62 0 j = if j = n then (b : Int) else gN mm 62 0 j := fun j => by simp [pOn, gN_sN]
  have m63 : ∀ j, gN (sN (pOn (sN (sN mm 62 0 n b) 63 0 n 0) 64 65 66 b n) 12 0 6 (n + 1)) 63 0 j = if j = n then 0 else gN mm 63 0 j := fun j => by simp [pOn, gN_sN]
  have m64 : ∀ j, gN (sN (pOn (sN (sN mm 62 0 n b) 63 0 n 0) 64 65 66 b n) 12 0 6 (n + 1)) 64 0 j = if j = n then (b : Int) else gN mm 64 0 j := fun j => by simp [pOn, gN_sN]
  have m65 : ∀ j, gN (sN (pOn (sN (sN mm 62 0 n b) 63 0 n 0) 64 65 66 b n) 12 0 6 (n + 1)) 65 0 j = if j = n then gN mm 66 0 b else gN mm 65 0 j := fun j => by simp [pOn, gN_sN]
  have m66 : ∀ j, gN (sN (pOn (sN (sN mm 62 0 n b) 63 0 n 0) 64 65 66 b n) 12 0 6 (n + 1)) 66 0 j = if j = b then (n : Int) else gN mm 66 0 j := fun j => by simp [pOn, gN_sN]
  have c5 : gN (pOn (sN (sN mc 20 0 n b) 1 0 5 (n + 1)) 22 23 24 b n) 1 0 5 = n + 1 := by simp [pOn, gN_sN]
  have c20 : ∀ j, gN (pOn (sN (sN mc 20 0 n b) 1 0 5 (n + 1)) 22 23 24 b n) 20 0 j = if j = n then (b : Int) else gN mc 20 0 j := fun j => by simp [pOn, gN_sN]
  have c21 : ∀ j, gN (pOn (sN (sN mc 20 0 n b) 1 0 5 (n + 1)) 22 23 24 b n) 21 0 j = gN mc 21 0 j := fun j => by simp [pOn, gN_sN]
  have c22 : ∀ j, gN (pOn (sN (sN mc 20 0 n b) 1 0 5 (n + 1)) 22 23 24 b n) 22 0 j = if j = n then (b : Int) else gN mc 22 0 j := fun j => by simp [pOn, gN_sN]
  have c23 : ∀ j, gN (pOn (sN (sN mc 20 0 n b) 1 0 5 (n + 1)) 22 23 24 b n) 23 0 j = if j = n then gN mc 24 0 b else gN mc 23 0 j := fun j => by simp [pOn, gN_sN]
  have c24 : ∀ j, gN (pOn (sN (sN mc 20 0 n b) 1 0 5 (n + 1)) 22 23 24 b n) 24 0 j = if j = b then (n : Int) else gN mc 24 0 j := fun j => by simp [pOn, gN_sN]
  refine ⟨by rw [c5, e6], by rw [e6]; omega, by rw [e6]; omega, fun j => ?_, fun j hj => ?_, fun j hj => ?_, fun j hj => ?_⟩
  · obtain ⟨a1, a2, a3, a4, a5⟩ := h4 j
    rw [c20, c21, c22, c23, c24, m62, m63, m64, m65, m66, a1, a2, a3, a4, a5, (h4 b).2.2.2.2]
    refine ⟨rfl, ?_, rfl, rfl, rfl⟩
    by_cases q : j = n
    · rw [if_pos q, q]; exact h7 n (by omega)
    · rw [if_neg q]
  · rw [e6] at hj ⊢
    rw [m62, m63, m65]
    by_cases q : j = n
    · rw [if_pos q, if_pos q, if_pos q]
      have := h6 b hb
      omega
    · rw [if_neg q, if_neg q, if_neg q]
      have := h5 j (by omega)
      omega
  · rw [e6, m66]
    by_cases q : j = b
    · rw [if_pos q]; omega
    · rw [if_neg q]
      have := h6 j hj
      omega
  · rw [e6] at hj
    rw [m63, if_neg (by omega)]
    exact h7 j (by omega)
theorem add_c {m : MM} (hC : SC m) {b n : Nat} (hb : b < 28) (hn : gN m 1 0 5 = n) (hn4 : n < 400) : f_X1_add m 0 b = some (.inl none, pOn (sN (sN m 20 0 n b) 1 0 5 (n + 1)) 22 23 24 b n) := by
  apply ev_eq
  unfold f_X1_add
  rw [hn]
  refine ev_iff (by omega) (ev_nk hC.c0 (ev_stN hC.z20 (by omega) ?_))
  rw [Int.toNat_natCast, show gN (sN m 20 0 n b) 1 0 5 = n by rw [gN_sN, if_neg (fun q => absurd q.1 (by decide)), hn]]
  refine ev_ck (by omega) (ev_lt ?_)
  rw [show gN (sN (sN m 20 0 n b) 1 0 5 ((n : Int) + 1)) 1 0 5 = n + 1 by rw [gN_sN, if_pos ⟨rfl, rfl, rfl⟩]]
  refine ev_ck (by omega) ?_
  rw [show (n : Int) + 1 - 1 = n by omega]
  have hC2 : SC (sN (sN m 20 0 n b) 1 0 5 ((n : Int) + 1)) := hC.mv (fun _ _ _ _ => rfl) (fun _ _ _ q => q)
  rw [putOn_c hC2 hb hn4]
  exact ev_some rfl
theorem cast_loop {mc mm : MM} {b : Nat} {k : Int} (hb : b < 28) (hk : 1 ≤ k ∧ k ≤ 40) (hC : SC mc) (hM : SM mm) (hR : RC mc mm) (h0 : gN mm 12 0 0 = 0) (hcap : gN mm 12 0 6 + k ≤ 400) :
    ∃ mc' mm', lpb (fun s => b_X11_cast_51 0 b k s.1 s.2) (0, mc) = some mc' ∧ lpb (fun s => b_X12_cast_52 0 b k s.1 s.2) (0, mm) = some mm' ∧ SC mc' ∧ RC mc' mm' ∧ gN mm' 12 0 0 = 0 := by
  obtain ⟨n, hn⟩ : ∃ n : Nat, gN mm 12 0 6 = n := ⟨(gN mm 12 0 6).toNat, by have := hR.2.1; omega⟩
  refine lpb_rel (b := fun s => b_X11_cast_51 0 b k s.1 s.2) (c := fun s => b_X12_cast_52 0 b k s.1 s.2) (fun s t => ∃ j : Nat, s.1 = j ∧ t.1 = j ∧ (j : Int) ≤ k ∧ SC s.2 ∧ SM t.2 ∧ RC s.2 t.2 ∧ gN t.2 12 0 0 = 0 ∧ gN t.2 12 0 6 = (n + j : Nat)) (fun x y => SC x ∧ RC x y ∧ gN y 12 0 0 = 0) (fun s => (k - s.1).toNat) ?_ (0, mc) (0, mm) ⟨0, rfl, rfl, by omega, hC, hM, hR, h0, by simpa using hn⟩
  rintro ⟨_, m1⟩ ⟨_, m2⟩ ⟨j, rfl, rfl, g1, gC, gM, gR', g0, gn⟩
  simp only at g1 gC gM gR' g0 gn
  show (∃ s' t', b_X11_cast_51 0 b k (j : Int) m1 = some (.inl s') ∧ b_X12_cast_52 0 b k (j : Int) m2 = some (.inl t') ∧ _) ∨ ∃ x y, b_X11_cast_51 0 b k (j : Int) m1 = some (.inr x) ∧ b_X12_cast_52 0 b k (j : Int) m2 = some (.inr y) ∧ _
  unfold b_X11_cast_51 b_X12_cast_52
  by_cases hc : k ≤ (j : Int)
  · right
    rw [if_pos hc, if_pos hc]
    exact ⟨_, _, rfl, rfl, gC, gR', g0⟩
  · left
    have hl : n + j < 400 := by omega
    have hc1 : gN m1 1 0 5 = ((n + j : Nat) : Int) := by rw [gR'.1, gn]
    rw [if_neg hc, if_neg hc, nk_of gC.r1, add_c gC hb hc1 hl, bV_ok, ck_of ⟨by omega, by omega⟩]
    refine ⟨_, ((j : Int) + 1, sN (pOn (sN (sN m2 62 0 (n + j) b) 63 0 (n + j) 0) 64 65 66 b (n + j)) 12 0 6 (((n + j : Nat) : Int) + 1)), rfl, ?_, ⟨j + 1, by simp, by simp, by omega, ?_, ?_, gR'.add gn hl hb, ?_, ?_⟩, by simp only; omega⟩
    · apply ev_eq
      refine ev_nk gM.r7 (ev_stN gM.z62 (by rw [gn]; omega) ?_)
      rw [gn, Int.toNat_natCast]
      refine ev_nk gM.r8 ?_
      rw [show gN (sN m2 62 0 (n + j) b) 12 0 6 = ((n + j : Nat) : Int) by rw [gN_sN, if_neg (fun q => absurd q.1 (by decide)), gn]]
      refine ev_stN gM.z63 (by omega) ?_
      rw [Int.toNat_natCast, show gN (sN (sN m2 62 0 (n + j) b) 63 0 (n + j) 0) 12 0 6 = ((n + j : Nat) : Int) by rw [gN_sN, if_neg (fun q => absurd q.1 (by decide)), gN_sN, if_neg (fun q => absurd q.1 (by decide)), gn]]
      have hM2 : SM (sN (sN m2 62 0 (n + j) b) 63 0 (n + j) 0) := gM.mv (fun _ => rfl) (fun _ _ _ q => q)
      rw [puts_m hM2 hb hl, bV_ok]
      rw [show gN (pOn (sN (sN m2 62 0 (n + j) b) 63 0 (n + j) 0) 64 65 66 b (n + j)) 12 0 6 = ((n + j : Nat) : Int) by simp [pOn, gN_sN, gn]]
      exact ev_ck (by omega) (ev_lt (ev_ck (by omega) (ev_some rfl)))
    · exact gC.mv (fun _ _ _ _ => rfl) (fun _ _ _ q => q)
    · exact gM.mv (fun _ => rfl) (fun _ _ _ q => q)
    · simp [pOn, gN_sN, g0]
    · simp [pOn, gN_sN]
      omega
theorem call_cast {mc mm : MM} {p q : Int} (hC : SC mc) (hM : SM mm) (hR : RC mc mm) : ∃ r mc' b mm', f_X11_cast mc 0 p q = some (r, mc') ∧ f_X12_cast mm 0 p q = some (.inl (some (aI b)), mm') ∧ Ans [1, 2] r (gN mm' 12 0 0) b ∧ RC mc' mm' := by
  have h1 := hR.1
  have h2 := hR.2.1
  have h3 := hR.2.2.1
  have bad : f_X11_cast mc 0 p q = some (.inr 1, bX mc) → f_X12_cast mm 0 p q = j_X12_cast_0_21 mm 0 p q 0 → ∃ r mc' b mm', f_X11_cast mc 0 p q = some (r, mc') ∧ f_X12_cast mm 0 p q = some (.inl (some (aI b)), mm') ∧ Ans [1, 2] r (gN mm' 12 0 0) b ∧ RC mc' mm' := by
    intro e1 e2
    refine ⟨.inr 1, bX mc, 0, sN mm 12 0 0 1, e1, ?_, Or.inr ⟨1, 0, rfl, rfl, by rw [gthr]; rfl⟩, (hR.thr 1).bX⟩
    rw [e2]
    unfold j_X12_cast_0_21 j_X12_cast_0_42
    rw [holds_m]
    rfl
  have b22 : j_X11_cast_0_22 mc 0 p q = some (.inr 1, bX mc) := by
    unfold j_X11_cast_0_22 j_X11_cast_0_23
    rw [rqA0, bV_ex]
    rfl
  by_cases hp : 0 ≤ p ∧ p < 28
  · by_cases hq : 1 ≤ q ∧ q ≤ 40
    · obtain ⟨b, rfl⟩ : ∃ b : Nat, p = b := ⟨p.toNat, by omega⟩
      have e1 : f_X11_cast mc 0 (b : Int) q = j_X11_cast_0_23 mc 0 (b : Int) q 1 := by
        unfold f_X11_cast
        rw [isSort_c, Option.bind_some, if_pos hp, if_neg (by decide), if_neg (show ¬ q < 1 by omega), if_neg (show ¬ 40 < q by omega)]
      have e2 : f_X12_cast mm 0 (b : Int) q = if gN mm 12 0 6 + q ≤ 400 then j_X12_cast_0_42 mm 0 (b : Int) q 0 0 else j_X12_cast_0_42 mm 0 (b : Int) q 0 2 := by
        unfold f_X12_cast
        rw [isIn_m, Option.bind_some, if_pos (show 0 ≤ (b : Int) ∧ (b : Int) ≤ 27 by omega), if_neg (by decide), isIn_m, Option.bind_some, if_pos hq, if_pos (by decide), ck_of ⟨by omega, by omega⟩]
      have e3 : j_X11_cast_0_23 mc 0 (b : Int) q 1 = if 400 < gN mm 12 0 6 + q then j_X11_cast_0_46 mc 0 (b : Int) q 0 else j_X11_cast_0_46 mc 0 (b : Int) q 1 := by
        unfold j_X11_cast_0_23
        rw [rqA mc (by decide), bV_ok, nk_of hC.r1, h1, ck_of ⟨by omega, by omega⟩]
      rw [e1, e2, e3]
      by_cases hc : gN mm 12 0 6 + q ≤ 400
      · rw [if_neg (by omega), if_pos hc]
        unfold j_X11_cast_0_46 j_X12_cast_0_42
        rw [rqS mc (by decide), bV_ok, holds_m, if_pos (show (0 : Int) = 0 from rfl), bI_ok, if_pos (show ¬ (1 : Int) = 0 by decide)]
        obtain ⟨mc', mm', g1, g2, gC, gR', g0⟩ := cast_loop (b := b) (k := q) (by omega) hq hC (hM.thr 0) (hR.thr 0) (gthr _ _) (by rw [gthr' _ _ (Or.inr (by decide))]; exact hc)
        rw [g1, g2, Option.bind_some, Option.bind_some]
        unfold j_X11_cast_0_70 j_X12_cast_0_102
        rw [nk_of gC.r1, gR'.1]
        exact ⟨_, _, _, _, rfl, rfl, Or.inl ⟨rfl, g0⟩, gR'⟩
      · rw [if_pos (by omega), if_neg hc]
        unfold j_X11_cast_0_46 j_X12_cast_0_42
        rw [rqS0, bV_ex, holds_m]
        exact ⟨.inr 2, bX mc, 0, sN mm 12 0 0 2, rfl, rfl, Or.inr ⟨2, 1, rfl, rfl, by rw [gthr]; rfl⟩, (hR.thr 2).bX⟩
    · refine bad ?_ ?_
      · unfold f_X11_cast
        rw [isSort_c, Option.bind_some, if_pos hp, if_neg (by decide)]
        by_cases h7 : q < 1
        · rw [if_pos h7, b22]
        · rw [if_neg h7, if_pos (by omega), b22]
      · unfold f_X12_cast
        rw [isIn_m, Option.bind_some, if_pos (show 0 ≤ p ∧ p ≤ 27 by omega), if_neg (by decide), isIn_m, Option.bind_some, if_neg hq, if_neg (by decide)]
  · refine bad ?_ ?_
    · unfold f_X11_cast
      rw [isSort_c, Option.bind_some, if_neg hp, if_pos rfl, b22]
    · unfold f_X12_cast
      rw [isIn_m, Option.bind_some, if_neg (show ¬ (0 ≤ p ∧ p ≤ 27) by omega), if_pos rfl]
