/-! THE CASES: wear, piece, box. -/
theorem bV_ok {X : Type} {m : MM} {k : MM → Option X} {x : Nat → MM → Option X} : bV (some (.inl none, m)) k x = k m := rfl
theorem bV_ex {X : Type} {m : MM} {e : Nat} {k : MM → Option X} {x : Nat → MM → Option X} : bV (some (.inr e, m)) k x = x e m := rfl
theorem bI_ok {X : Type} {m : MM} {v : Int} {k : Int → MM → Option X} {x : Nat → MM → Option X} : bI (some (.inl (some (aI v)), m)) k x = k v m := rfl
theorem bI_ex {X : Type} {m : MM} {e : Nat} {k : Int → MM → Option X} {x : Nat → MM → Option X} : bI (some (.inr e, m)) k x = x e m := rfl
theorem bR_ok {X : Type} {m : MM} {v : Option (Nat × Nat)} {k : Option (Nat × Nat) → MM → Option X} {x : Nat → MM → Option X} : bR (some (.inl (some (aR v)), m)) k x = k v m := rfl
theorem bR_ex {X : Type} {m : MM} {e : Nat} {k : Option (Nat × Nat) → MM → Option X} {x : Nat → MM → Option X} : bR (some (.inr e, m)) k x = x e m := rfl
/-- the cases agree: cell by cell -/
def RC (mc mm : MM) : Prop := gN mc 1 0 5 = gN mm 12 0 6 ∧ 0 ≤ gN mm 12 0 6 ∧ gN mm 12 0 6 ≤ 400 ∧
  (∀ k, gN mc 20 0 k = gN mm 62 0 k ∧ gN mc 21 0 k = gN mm 63 0 k ∧ gN mc 22 0 k = gN mm 64 0 k ∧ gN mc 23 0 k = gN mm 65 0 k ∧ gN mc 24 0 k = gN mm 66 0 k) ∧
  (∀ k : Nat, (k : Int) < gN mm 12 0 6 → (0 ≤ gN mm 62 0 k ∧ gN mm 62 0 k < 28) ∧ (0 ≤ gN mm 63 0 k ∧ gN mm 63 0 k ≤ 3) ∧ (-1 ≤ gN mm 65 0 k ∧ gN mm 65 0 k < gN mm 12 0 6)) ∧
  (∀ b : Nat, b < 28 → -1 ≤ gN mm 66 0 b ∧ gN mm 66 0 b < gN mm 12 0 6) ∧ ∀ k : Nat, gN mm 12 0 6 ≤ k → gN mm 63 0 k = 0
theorem RC.keep {mc mm mc' mm' : MM} (h : RC mc mm) (a : gN mc' 1 0 5 = gN mc 1 0 5) (b : gN mm' 12 0 6 = gN mm 12 0 6) (c : ∀ K, 20 ≤ K → K ≤ 24 → ∀ k, gN mc' K 0 k = gN mc K 0 k) (d : ∀ K, 62 ≤ K → K ≤ 66 → ∀ k, gN mm' K 0 k = gN mm K 0 k) : RC mc' mm' := by
  obtain ⟨h1, h2, h3, h4, h5, h6, h7⟩ := h
  refine ⟨by rw [a, b]; exact h1, by rw [b]; exact h2, by rw [b]; exact h3, fun k => ?_, fun k hk => ?_, fun k hk => ?_, fun k hk => by rw [b] at hk; rw [d 63 (by omega) (by omega)]; exact h7 k hk⟩
  · rw [c 20 (by omega) (by omega), c 21 (by omega) (by omega), c 22 (by omega) (by omega), c 23 (by omega) (by omega), c 24 (by omega) (by omega), d 62 (by omega) (by omega), d 63 (by omega) (by omega), d 64 (by omega) (by omega), d 65 (by omega) (by omega), d 66 (by omega) (by omega)]
    exact h4 k
  · rw [b] at hk ⊢
    rw [d 62 (by omega) (by omega), d 63 (by omega) (by omega), d 65 (by omega) (by omega)]
    exact h5 k hk
  · rw [b, d 66 (by omega) (by omega)]
    exact h6 k hk
theorem has_c {mc : MM} (p : Int) : f_X1_has mc 0 p = some (if 0 ≤ p ∧ p < gN mc 1 0 5 then 1 else 0) := by
  unfold f_X1_has
  by_cases h1 : p < 0
  · rw [if_pos h1, if_neg (by omega)]
  · rw [if_neg h1]
    by_cases h2 : gN mc 1 0 5 ≤ p
    · rw [if_pos h2, if_neg (by omega)]
    · rw [if_neg h2, if_pos (by omega)]
theorem isSort_c {mc : MM} (p : Int) : f_X11_isSort mc p = some (if 0 ≤ p ∧ p < 28 then 1 else 0) := by
  unfold f_X11_isSort
  by_cases h1 : p < 0
  · rw [if_pos h1, if_neg (by omega)]
  · rw [if_neg h1]
    by_cases h2 : 28 ≤ p
    · rw [if_pos h2, if_neg (by omega)]
    · rw [if_neg h2, if_pos (by omega)]
/-- a model's call that is refused: it writes thrown alone -/
theorem RC.thr {mc mm : MM} (h : RC mc mm) (v : Int) : RC mc (sN mm 12 0 0 v) := h.keep rfl (by rw [gN_sN, if_neg (fun q => absurd q.2.2 (by decide))]) (fun _ _ _ _ => rfl) (fun K h1 h2 k => by rw [gN_sN, if_neg (fun q => by omega)])
theorem SM.thr {mm : MM} (h : SM mm) (v : Int) : SM (sN mm 12 0 0 v) := h.mv (fun _ => rfl) (fun _ _ _ q => q)
theorem RC.bX {mc mm : MM} (h : RC mc mm) : RC (bX mc) mm := h.keep rfl rfl (fun _ _ _ _ => rfl) (fun _ _ _ _ => rfl)
theorem gthr (mm : MM) (v : Int) : gN (sN mm 12 0 0 v) 12 0 0 = v := by rw [gN_sN, if_pos ⟨rfl, rfl, rfl⟩]
theorem gthr' (mm : MM) (v : Int) {K i s : Nat} (h : K ≠ 12 ∨ s ≠ 0) : gN (sN mm 12 0 0 v) K i s = gN mm K i s := by rw [gN_sN, if_neg (fun q => h.elim (fun z => z q.1) (fun z => z q.2.2))]
theorem call_wear {mc mm : MM} {p : Int} (hC : SC mc) (hM : SM mm) (hR : RC mc mm) : ∃ r mc' b mm', f_X11_wear mc 0 p = some (r, mc') ∧ f_X12_wear mm 0 p = some (.inl (some (aI b)), mm') ∧ Ans [0, 2] r (gN mm' 12 0 0) b ∧ RC mc' mm' := by
  have hR' := hR
  obtain ⟨h1, h2, h3, h4, h5, h6, h7⟩ := hR
  obtain ⟨n, hn⟩ : ∃ n : Nat, gN mm 12 0 6 = n := ⟨(gN mm 12 0 6).toNat, by omega⟩
  unfold f_X11_wear f_X12_wear
  rw [nk_of hC.r1, has_c, Option.bind_some, isIn_m, ck_of ⟨by omega, by omega⟩, Option.bind_some, h1]
  rw [hn] at h2 h3 h5 h6 h7 ⊢
  by_cases hp : 0 ≤ p ∧ p < n
  · rw [if_pos hp, if_pos (by omega), rqI mc (by decide)]
    rw [bV_ok]
    obtain ⟨k, rfl⟩ : ∃ k : Nat, p = k := ⟨p.toNat, by omega⟩
    obtain ⟨-, g2, -⟩ := h5 k (by omega)
    rw [nk_of hC.r1, nk_of hC.c1, ldN_of hC.z21 (by omega), nk_of hM.r8, ldN_of hM.z63 (by omega), show ((k : Int)).toNat = k by omega, (h4 k).2.1]
    by_cases h9 : gN mm 63 0 k = 3
    · rw [if_pos (by omega), if_neg (by omega)]
      unfold j_X11_wear_0_29 j_X12_wear_0_36
      rw [rqS0, holds_m]
      exact ⟨.inr 2, bX mc, 0, sN mm 12 0 0 2, rfl, by simp [bI], Or.inr ⟨2, 1, rfl, rfl, by rw [gthr]; rfl⟩, (hR'.thr 2).bX⟩
    · rw [if_neg (by omega), if_pos h9]
      unfold j_X11_wear_0_29 j_X12_wear_0_36
      rw [rqS mc (by decide), holds_m]
      rw [bV_ok, if_pos (show (0 : Int) = 0 from rfl), bI_ok]
      have hM1 := hM.thr 0
      rw [if_pos (by decide), nk_of hC.r1, nk_of hC.c1, ldN_of hC.z21 (by omega), ck_of ⟨by rw [show ((k : Int)).toNat = k by omega, (h4 k).2.1]; omega, by rw [show ((k : Int)).toNat = k by omega, (h4 k).2.1]; omega⟩, stN_of hC.z21 (by omega),
        nk_of hM1.r8, ldN_of hM1.z63 (by omega), gthr' _ _ (Or.inl (by decide)), show ((k : Int)).toNat = k by omega, (h4 k).2.1, ck_of ⟨by omega, by omega⟩, stN_of hM1.z63 (by omega)]
      have hC2 : SC (sN mc 21 0 k (gN mm 63 0 k + 1)) := hC.mv (fun _ _ _ _ => rfl) (fun _ _ _ q => q)
      have hM2 : SM (sN (sN mm 12 0 0 0) 63 0 k (gN mm 63 0 k + 1)) := hM1.mv (fun _ => rfl) (fun _ _ _ q => q)
      rw [show ((k : Int)).toNat = k by omega, nk_of hC2.r1, nk_of hC2.c1, ldN_of hC2.z21 (by omega), nk_of hM2.r8, ldN_of hM2.z63 (by omega), show ((k : Int)).toNat = k by omega, gN_sN, if_pos ⟨rfl, rfl, rfl⟩, gN_sN, if_pos ⟨rfl, rfl, rfl⟩]
      refine ⟨_, _, _, _, rfl, rfl, Or.inl ⟨rfl, ?_⟩, ?_⟩
      · rw [gN_sN, if_neg (fun q => absurd q.1 (by decide)), gthr]
      · have e6 : gN (sN (sN mm 12 0 0 0) 63 0 k (gN mm 63 0 k + 1)) 12 0 6 = n := by rw [gN_sN, if_neg (fun q => absurd q.1 (by decide)), gthr' _ _ (Or.inr (by decide)), hn]
        have eK : ∀ K j, K ≠ 12 → K ≠ 63 → gN (sN (sN mm 12 0 0 0) 63 0 k (gN mm 63 0 k + 1)) K 0 j = gN mm K 0 j := fun K j a b => by rw [gN_sN, if_neg (fun q => b q.1), gthr' _ _ (Or.inl a)]
        have e63 : ∀ j, gN (sN (sN mm 12 0 0 0) 63 0 k (gN mm 63 0 k + 1)) 63 0 j = if j = k then gN mm 63 0 k + 1 else gN mm 63 0 j := fun j => by
          rw [gN_sN]
          by_cases q : j = k
          · rw [if_pos ⟨rfl, rfl, q⟩, if_pos q]
          · rw [if_neg (fun z => q z.2.2), if_neg q, gthr' _ _ (Or.inl (by decide))]
        have c21 : ∀ j, gN (sN mc 21 0 k (gN mm 63 0 k + 1)) 21 0 j = if j = k then gN mm 63 0 k + 1 else gN mc 21 0 j := fun j => by
          rw [gN_sN]
          by_cases q : j = k
          · rw [if_pos ⟨rfl, rfl, q⟩, if_pos q]
          · rw [if_neg (fun z => q z.2.2), if_neg q]
        have cK : ∀ K j, K ≠ 21 → gN (sN mc 21 0 k (gN mm 63 0 k + 1)) K 0 j = gN mc K 0 j := fun K j a => by rw [gN_sN, if_neg (fun q => a q.1)]
        refine ⟨by rw [cK 1 5 (by decide), e6, h1, hn], by rw [e6]; omega, by rw [e6]; omega, fun j => ?_, fun j hj => ?_, fun j hj => ?_, fun j hj => by rw [e6] at hj; rw [e63, if_neg (by omega)]; exact h7 j hj⟩
        · rw [cK 20 j (by decide), c21, cK 22 j (by decide), cK 23 j (by decide), cK 24 j (by decide), eK 62 j (by decide) (by decide), e63, eK 64 j (by decide) (by decide), eK 65 j (by decide) (by decide), eK 66 j (by decide) (by decide), (h4 j).2.1]
          exact ⟨(h4 j).1, rfl, (h4 j).2.2.1, (h4 j).2.2.2.1, (h4 j).2.2.2.2⟩
        · rw [e6] at hj ⊢
          rw [eK 62 j (by decide) (by decide), e63, eK 65 j (by decide) (by decide)]
          obtain ⟨a, b, c⟩ := h5 j hj
          refine ⟨a, ?_, c⟩
          by_cases q : j = k
          · rw [if_pos q]; omega
          · rw [if_neg q]; exact b
        · rw [e6, eK 66 j (by decide) (by decide)]
          exact h6 j hj
  · rw [if_neg hp, if_neg (by omega), rqI0]
    unfold j_X12_wear_0_36
    rw [holds_m]
    exact ⟨.inr 0, bX mc, 0, sN mm 12 0 0 1, rfl, by simp [bI], Or.inr ⟨0, 0, rfl, rfl, by rw [gthr]; rfl⟩, (hR'.thr 1).bX⟩
theorem call_piece {mc mm : MM} {p w : Int} (hC : SC mc) (hM : SM mm) (hR : RC mc mm) : ∃ r mc' b mm', f_X11_piece mc 0 p w = some (r, mc') ∧ f_X12_piece mm 0 p w = some (.inl (some (aI b)), mm') ∧ Ans [0, 1] r (gN mm' 12 0 0) b ∧ RC mc' mm' := by
  have hR' := hR
  obtain ⟨h1, h2, h3, h4, h5, h6, h7⟩ := hR
  obtain ⟨n, hn⟩ : ∃ n : Nat, gN mm 12 0 6 = n := ⟨(gN mm 12 0 6).toNat, by omega⟩
  unfold f_X11_piece f_X12_piece
  rw [nk_of hC.r1, has_c, Option.bind_some, isIn_m, ck_of ⟨by omega, by omega⟩, Option.bind_some, h1]
  rw [hn] at h2 h3 h5 h6 h7 ⊢
  by_cases hp : 0 ≤ p ∧ p < n
  · rw [if_pos hp, if_pos (by omega), rqI mc (by decide), bV_ok, isIn_m, Option.bind_some]
    obtain ⟨k, rfl⟩ : ∃ k : Nat, p = k := ⟨p.toNat, by omega⟩
    by_cases hw : 0 ≤ w ∧ w ≤ 2
    · rw [if_neg (show ¬ w < 0 by omega), if_neg (show ¬ 2 < w by omega), if_pos hw, if_neg (show ¬ (1 : Int) = 0 by decide)]
      unfold j_X11_piece_0_25 j_X12_piece_0_33
      have hM1 := hM.thr 0
      rw [rqA mc (by decide), bV_ok, holds_m, if_pos (show (0 : Int) = 0 from rfl), bI_ok, if_pos (show ¬ (1 : Int) = 0 by decide)]
      obtain rfl | rfl | rfl : w = 0 ∨ w = 1 ∨ w = 2 := by omega
      · rw [if_pos rfl, if_neg (by decide), nk_of hC.r1, nk_of hC.c0, ldN_of hC.z20 (by omega), nk_of hM1.r7, ldN_of hM1.z62 (by omega), gthr' _ _ (Or.inl (by decide)), (h4 _).1]
        exact ⟨_, _, _, _, rfl, rfl, Or.inl ⟨rfl, gthr _ _⟩, hR'.thr 0⟩
      · rw [if_neg (by decide), if_pos rfl, if_pos (by decide), if_neg (by decide), nk_of hC.r1, nk_of hC.c1, ldN_of hC.z21 (by omega), nk_of hM1.r8, ldN_of hM1.z63 (by omega), gthr' _ _ (Or.inl (by decide)), (h4 _).2.1]
        exact ⟨_, _, _, _, rfl, rfl, Or.inl ⟨rfl, gthr _ _⟩, hR'.thr 0⟩
      · rw [if_neg (by decide), if_neg (by decide), if_pos (by decide), if_pos (by decide), nk_of hC.r1, nk_of hC.c2, ldN_of hC.z22 (by omega), nk_of hM1.r9, ldN_of hM1.z64 (by omega), gthr' _ _ (Or.inl (by decide)), (h4 _).2.2.1]
        exact ⟨_, _, _, _, rfl, rfl, Or.inl ⟨rfl, gthr _ _⟩, hR'.thr 0⟩
    · have e : (if w < 0 then j_X11_piece_0_24 mc 0 (k : Int) w else if 2 < w then j_X11_piece_0_24 mc 0 (k : Int) w else j_X11_piece_0_25 mc 0 (k : Int) w 1) = some (.inr 1, bX mc) := by
        have e0 : j_X11_piece_0_24 mc 0 (k : Int) w = some (.inr 1, bX mc) := by
          unfold j_X11_piece_0_24 j_X11_piece_0_25
          rw [rqA0, bV_ex]
          rfl
        by_cases h7 : w < 0
        · rw [if_pos h7, e0]
        · rw [if_neg h7, if_pos (by omega), e0]
      rw [e, if_neg hw, if_pos rfl]
      unfold j_X12_piece_0_33
      rw [holds_m]
      exact ⟨.inr 1, bX mc, 0, sN mm 12 0 0 2, rfl, by simp [bI], Or.inr ⟨1, 1, rfl, rfl, by rw [gthr]; rfl⟩, (hR'.thr 2).bX⟩
  · rw [if_neg hp, if_neg (by omega), rqI0]
    unfold j_X12_piece_0_33
    rw [holds_m]
    exact ⟨.inr 0, bX mc, 0, sN mm 12 0 0 1, rfl, by simp [bI], Or.inr ⟨0, 0, rfl, rfl, by rw [gthr]; rfl⟩, (hR'.thr 1).bX⟩
theorem call_box {mc mm : MM} {p q : Int} (hq : nrm q) (hC : SC mc) (hM : SM mm) (hR : RC mc mm) : ∃ r mc' b mm', f_X11_box mc 0 p q = some (r, mc') ∧ f_X12_box mm 0 p q = some (.inl (some (aI b)), mm') ∧ Ans [1, 0] r (gN mm' 12 0 0) b ∧ RC mc' mm' := by
  have hR' := hR
  obtain ⟨h1, h2, h3, h4, h5, h6, h7⟩ := hR
  obtain ⟨n, hn⟩ : ∃ n : Nat, gN mm 12 0 6 = n := ⟨(gN mm 12 0 6).toNat, by omega⟩
  rw [hn] at h2 h3 h5 h6 h7
  have hq2 := hq.2
  unfold f_X11_box f_X12_box
  rw [isSort_c, isIn_m, Option.bind_some, Option.bind_some]
  by_cases hp : 0 ≤ p ∧ p < 28
  · rw [if_pos hp, if_pos (show ¬ (if 0 ≤ p ∧ p ≤ 27 then (1 : Int) else 0) = 0 by rw [if_pos (by omega)]; decide), rqA mc (by decide), bV_ok]
    obtain ⟨k, rfl⟩ : ∃ k : Nat, p = k := ⟨p.toNat, by omega⟩
    by_cases hw : 0 ≤ q
    · rw [if_neg (show ¬ q < 0 by omega), if_pos hw]
      unfold j_X11_box_0_16 j_X12_box_0_24
      have hM1 := hM.thr 0
      rw [rqI mc (by decide), bV_ok, holds_m, if_pos (show (0 : Int) = 0 from rfl), bI_ok, if_pos (show ¬ (1 : Int) = 0 by decide), nk_of hC.r1]
      unfold f_X1_pieceUnder
      rw [nk_of hC.c4, ldN_of hC.z24 (by omega), nk_of hM1.r11, ldN_of hM1.z66 (by omega), gthr' _ _ (Or.inl (by decide)), (h4 _).2.2.2.2]
      have ht := h6 k (by omega)
      obtain ⟨x, e1, e2, -⟩ := lpb_same (b := fun s : Int × Int => b_X1_pieceUnder_10 mc 0 q s.1 s.2) (c := fun s => b_X12_box_42 (sN mm 12 0 0 0) 0 q s.1 s.2) (fun s => (-1 ≤ s.1 ∧ s.1 < n) ∧ 0 ≤ s.2 ∧ s.2 ≤ q) (fun s => (q - s.2).toNat) (fun _ => True) (by
        rintro ⟨a, j⟩ ⟨⟨g1, g2⟩, g3, g4⟩
        simp only at g1 g2 g3 g4
        show ∃ z, b_X1_pieceUnder_10 mc 0 q a j = some z ∧ b_X12_box_42 (sN mm 12 0 0 0) 0 q a j = some z ∧ _
        unfold b_X1_pieceUnder_10 b_X12_box_42
        by_cases hc : q ≤ j
        · rw [if_pos hc, if_pos hc]
          exact ⟨_, rfl, rfl, fun s' z => (by cases z), fun _ _ => trivial⟩
        · rw [if_neg hc, if_neg hc]
          by_cases ha : a = -1
          · rw [if_pos ha, if_pos ha]
            exact ⟨_, rfl, rfl, fun s' z => (by cases z), fun _ _ => trivial⟩
          · obtain ⟨a', rfl⟩ : ∃ a' : Nat, a = a' := ⟨a.toNat, by omega⟩
            rw [if_neg ha, if_neg ha, nk_of hC.c3, ldN_of hC.z23 (by omega), nk_of hM1.r10, ldN_of hM1.z65 (by omega), gthr' _ _ (Or.inl (by decide)), (h4 _).2.2.2.1, ck_of ⟨by omega, by omega⟩]
            refine ⟨_, rfl, rfl, fun s' z => ?_, fun _ z => (by cases z)⟩
            cases z
            have := (h5 a' (by omega)).2.2
            simp only [Int.toNat_natCast]
            exact ⟨⟨this, by omega, by omega⟩, by omega⟩) (gN mm 66 0 ((k : Int)).toNat, 0) ⟨by simpa using ht, by simp only; omega, by simp only; omega⟩
      rw [e1, e2]
      exact ⟨_, _, _, _, rfl, rfl, Or.inl ⟨rfl, gthr _ _⟩, hR'.thr 0⟩
    · rw [if_pos (show q < 0 by omega), if_neg hw]
      unfold j_X11_box_0_16 j_X12_box_0_24
      rw [rqI0, holds_m]
      exact ⟨.inr 0, bX mc, 0, sN mm 12 0 0 2, rfl, by simp [bI], Or.inr ⟨0, 1, rfl, rfl, by rw [gthr]; rfl⟩, (hR'.thr 2).bX⟩
  · rw [if_neg hp, if_neg (show ¬ ¬ (if 0 ≤ p ∧ p ≤ 27 then (1 : Int) else 0) = 0 by rw [if_neg (by omega)]; decide), rqA0]
    unfold j_X12_box_0_24
    rw [holds_m]
    exact ⟨.inr 1, bX mc, 0, sN mm 12 0 0 1, rfl, by simp [bI], Or.inr ⟨1, 0, rfl, rfl, by rw [gthr]; rfl⟩, (hR'.thr 1).bX⟩
/-- a piece is laid on a box's heap: arrays where, below, top of kinds A, B, D -/
def pOn (m : MM) (A B D b p : Nat) : MM := sN (sN (sN m B 0 p (gN m D 0 b)) D 0 b p) A 0 p b
theorem putOn_c {m : MM} (hC : SC m) {b p : Nat} (hb : b < 28) (hp : p < 400) : f_X1_putOn m 0 b p = some (.inl none, pOn m 22 23 24 b p) := by
  apply ev_eq
  unfold f_X1_putOn
  exact ev_nk hC.c3 (ev_nk hC.c4 (ev_ldN hC.z24 (by omega) (ev_stN hC.z23 (by omega) (ev_nk hC.c4 (ev_stN hC.z24 (by omega) (ev_nk hC.c2 (ev_stN hC.z22 (by omega) (ev_some rfl))))))))
theorem puts_m {m : MM} (hM : SM m) {b p : Nat} (hb : b < 28) (hp : p < 400) : f_X12_puts m 0 b p = some (.inl none, pOn m 64 65 66 b p) := by
  apply ev_eq
  unfold f_X12_puts
  exact ev_nk hM.r10 (ev_nk hM.r11 (ev_ldN hM.z66 (by omega) (ev_stN hM.z65 (by omega) (ev_nk hM.r11 (ev_stN hM.z66 (by omega) (ev_nk hM.r9 (ev_stN hM.z64 (by omega) (ev_some rfl))))))))
