/-! THE LAW: from the first memory to the end. -/
section LAST
variable {N : Nat} {m : MM} {fx : FX}
theorem vM_eq (K i s : Nat) : vM K i s = if K = 66 ∧ i = 0 ∧ s < 28 then -1 else if K = 122 ∧ i = 0 ∧ s < 3 then -1 else if K = 121 ∧ i = 0 ∧ s < 3 then 1 else if K = 6 ∧ i < 3 ∧ s = 1 then 1 else if K = 24 ∧ i = 0 ∧ s < 28 then -1 else 0 := rfl
set_option maxRecDepth 10000 in
theorem ini_SC (h : In RmL ((131, 1) :: ZmL) 301 500001 3 vM m) : SC m :=
  ⟨h.r (11, 0, 10, 0) (by decide), h.r (11, 1, 1, 0) (by decide), h.r (11, 2, 55, 0) (by decide), h.r (11, 3, 56, 0) (by decide), h.r (11, 4, 57, 0) (by decide), h.r (11, 5, 58, 0) (by decide), h.r (11, 6, 7, 0) (by decide), h.z (55, 4) (by decide), h.z (56, 3) (by decide), h.z (57, 3) (by decide), h.z (58, 4) (by decide), h.r (10, 0, 50, 0) (by decide), h.r (10, 1, 51, 0) (by decide), h.r (10, 2, 52, 0) (by decide), h.r (10, 3, 53, 0) (by decide), h.r (10, 4, 54, 0) (by decide), h.z (50, 40) (by decide), h.z (51, 40) (by decide), h.z (52, 40) (by decide), h.z (53, 6) (by decide), h.z (54, 6) (by decide), h.r (1, 0, 20, 0) (by decide), h.r (1, 1, 21, 0) (by decide), h.r (1, 2, 22, 0) (by decide), h.r (1, 3, 23, 0) (by decide), h.r (1, 4, 24, 0) (by decide), h.z (20, 400) (by decide), h.z (21, 400) (by decide), h.z (22, 400) (by decide), h.z (23, 400) (by decide), h.z (24, 28) (by decide), h.r (7, 0, 39, 0) (by decide), h.r (7, 1, 40, 0) (by decide), h.r (7, 2, 41, 0) (by decide), h.r (7, 3, 42, 0) (by decide), h.r (7, 4, 43, 0) (by decide), h.r (7, 5, 44, 0) (by decide), h.z (39, 8) (by decide), h.z (40, 256) (by decide), h.z (41, 16) (by decide), h.z (42, 16) (by decide), h.z (43, 16) (by decide), h.z (44, 16) (by decide), h.r (57, 0, 6, 0) (by decide), h.r (57, 1, 6, 1) (by decide), h.r (57, 2, 6, 2) (by decide)⟩
set_option maxRecDepth 10000 in
theorem ini_SM (h : In RmL ((131, 1) :: ZmL) 301 500001 3 vM m) : SM m :=
  ⟨⟨h.r (12, 2, 59, 0) (by decide), h.z (59, 40) (by decide)⟩, ⟨h.r (12, 4, 60, 0) (by decide), h.z (60, 6) (by decide)⟩, ⟨h.r (12, 5, 61, 0) (by decide), h.z (61, 6) (by decide)⟩, ⟨h.r (12, 7, 62, 0) (by decide), h.z (62, 400) (by decide)⟩, ⟨h.r (12, 8, 63, 0) (by decide), h.z (63, 400) (by decide)⟩, ⟨h.r (12, 9, 64, 0) (by decide), h.z (64, 400) (by decide)⟩, ⟨h.r (12, 10, 65, 0) (by decide), h.z (65, 400) (by decide)⟩, ⟨h.r (12, 11, 66, 0) (by decide), h.z (66, 28) (by decide)⟩, ⟨h.r (12, 13, 67, 0) (by decide), h.z (67, 4) (by decide)⟩, ⟨h.r (12, 14, 68, 0) (by decide), h.z (68, 4) (by decide)⟩, ⟨h.r (12, 15, 69, 0) (by decide), h.z (69, 4) (by decide)⟩, ⟨h.r (12, 16, 70, 0) (by decide), h.z (70, 4) (by decide)⟩, ⟨h.r (12, 17, 71, 0) (by decide), h.z (71, 4) (by decide)⟩, ⟨h.r (12, 18, 72, 0) (by decide), h.z (72, 4) (by decide)⟩, ⟨h.r (12, 20, 73, 0) (by decide), h.z (73, 3) (by decide)⟩, ⟨h.r (12, 21, 74, 0) (by decide), h.z (74, 3) (by decide)⟩, ⟨h.r (12, 22, 75, 0) (by decide), h.z (75, 3) (by decide)⟩, ⟨h.r (12, 23, 76, 0) (by decide), h.z (76, 3) (by decide)⟩, ⟨h.r (12, 24, 77, 0) (by decide), h.z (77, 3) (by decide)⟩, ⟨h.r (12, 25, 78, 0) (by decide), h.z (78, 3) (by decide)⟩, ⟨h.r (12, 26, 79, 0) (by decide), h.z (79, 3) (by decide)⟩, ⟨h.r (12, 27, 80, 0) (by decide), h.z (80, 3) (by decide)⟩, ⟨h.r (12, 28, 81, 0) (by decide), h.z (81, 180) (by decide)⟩, ⟨h.r (12, 29, 82, 0) (by decide), h.z (82, 180) (by decide)⟩, ⟨h.r (12, 30, 83, 0) (by decide), h.z (83, 48) (by decide)⟩, ⟨h.r (12, 31, 84, 0) (by decide), h.z (84, 48) (by decide)⟩, ⟨h.r (12, 32, 85, 0) (by decide), h.z (85, 48) (by decide)⟩, ⟨h.r (12, 33, 86, 0) (by decide), h.z (86, 48) (by decide)⟩, ⟨h.r (12, 34, 87, 0) (by decide), h.z (87, 48) (by decide)⟩, ⟨h.r (12, 35, 88, 0) (by decide), h.z (88, 48) (by decide)⟩, ⟨h.r (12, 36, 89, 0) (by decide), h.z (89, 48) (by decide)⟩, ⟨h.r (12, 37, 90, 0) (by decide), h.z (90, 48) (by decide)⟩, ⟨h.r (12, 38, 91, 0) (by decide), h.z (91, 288) (by decide)⟩, ⟨h.r (12, 39, 92, 0) (by decide), h.z (92, 288) (by decide)⟩, ⟨h.r (12, 40, 93, 0) (by decide), h.z (93, 288) (by decide)⟩, ⟨h.r (12, 41, 94, 0) (by decide), h.z (94, 288) (by decide)⟩, ⟨h.r (12, 42, 95, 0) (by decide), h.z (95, 2880) (by decide)⟩, ⟨h.r (12, 43, 96, 0) (by decide), h.z (96, 2880) (by decide)⟩, ⟨h.r (12, 44, 97, 0) (by decide), h.z (97, 2880) (by decide)⟩, ⟨h.r (12, 45, 98, 0) (by decide), h.z (98, 2880) (by decide)⟩, ⟨h.r (12, 46, 99, 0) (by decide), h.z (99, 7200) (by decide)⟩, ⟨h.r (12, 47, 100, 0) (by decide), h.z (100, 7200) (by decide)⟩, ⟨h.r (12, 48, 101, 0) (by decide), h.z (101, 7200) (by decide)⟩, ⟨h.r (12, 49, 102, 0) (by decide), h.z (102, 7200) (by decide)⟩, ⟨h.r (12, 50, 103, 0) (by decide), h.z (103, 7200) (by decide)⟩, ⟨h.r (12, 51, 104, 0) (by decide), h.z (104, 7200) (by decide)⟩, ⟨h.r (12, 53, 105, 0) (by decide), h.z (105, 2000) (by decide)⟩, ⟨h.r (12, 54, 106, 0) (by decide), h.z (106, 2000) (by decide)⟩, ⟨h.r (12, 55, 107, 0) (by decide), h.z (107, 2000) (by decide)⟩, ⟨h.r (12, 56, 108, 0) (by decide), h.z (108, 24) (by decide)⟩, ⟨h.r (12, 57, 109, 0) (by decide), h.z (109, 24) (by decide)⟩, ⟨h.r (12, 58, 110, 0) (by decide), h.z (110, 24) (by decide)⟩, ⟨h.r (12, 59, 111, 0) (by decide), h.z (111, 24) (by decide)⟩, ⟨h.r (12, 60, 112, 0) (by decide), h.z (112, 624) (by decide)⟩, ⟨h.r (12, 61, 113, 0) (by decide), h.z (113, 24) (by decide)⟩, ⟨h.r (12, 62, 114, 0) (by decide), h.z (114, 24) (by decide)⟩, ⟨h.r (12, 63, 115, 0) (by decide), h.z (115, 24) (by decide)⟩, ⟨h.r (12, 64, 116, 0) (by decide), h.z (116, 24) (by decide)⟩, ⟨h.r (12, 65, 117, 0) (by decide), h.z (117, 12) (by decide)⟩, ⟨h.r (12, 66, 118, 0) (by decide), h.z (118, 12) (by decide)⟩, ⟨h.r (12, 67, 119, 0) (by decide), h.z (119, 12) (by decide)⟩, ⟨h.r (12, 68, 120, 0) (by decide), h.z (120, 12) (by decide)⟩, ⟨h.r (12, 70, 121, 0) (by decide), h.z (121, 3) (by decide)⟩, ⟨h.r (12, 71, 122, 0) (by decide), h.z (122, 3) (by decide)⟩, ⟨h.r (12, 72, 123, 0) (by decide), h.z (123, 3) (by decide)⟩, ⟨h.r (12, 73, 124, 0) (by decide), h.z (124, 3) (by decide)⟩, ⟨h.r (12, 75, 125, 0) (by decide), h.z (125, 4) (by decide)⟩, ⟨h.r (12, 76, 126, 0) (by decide), h.z (126, 576) (by decide)⟩, ⟨h.r (12, 77, 127, 0) (by decide), h.z (127, 8) (by decide)⟩, ⟨h.r (12, 78, 128, 0) (by decide), h.z (128, 256) (by decide)⟩, ⟨h.r (12, 80, 129, 0) (by decide), h.z (129, 16) (by decide)⟩, ⟨h.r (12, 81, 130, 0) (by decide), h.z (130, 16) (by decide)⟩⟩
set_option maxRecDepth 10000 in
theorem Inv0 (h : In RmL ((131, 1) :: ZmL) 301 500001 3 vM m) : Inv 0 m := by
  have v0 : ∀ K i s, K ≠ 6 → K ≠ 24 → K ≠ 66 → K ≠ 121 → K ≠ 122 → gN m K i s = 0 := fun K i s a1 a2 a3 a4 a5 => by
    rw [h.n, vM_eq]
    simp [a1, a2, a3, a4, a5]
  have z0 : ∀ K s, K ≠ 6 → K ≠ 24 → K ≠ 66 → K ≠ 121 → K ≠ 122 → gN m K 0 s = 0 := fun K s => v0 K 0 s
  have v66 : ∀ s, gN m 66 0 s = if s < 28 then -1 else 0 := fun s => by
    rw [h.n, vM_eq]
    by_cases z : s < 28 <;> simp [z]
  have v24 : ∀ s, gN m 24 0 s = if s < 28 then -1 else 0 := fun s => by
    rw [h.n, vM_eq]
    by_cases z : s < 28 <;> simp [z]
  have v121 : ∀ s, s < 3 → gN m 121 0 s = 1 := fun s hs => by
    rw [h.n, vM_eq]
    simp [hs]
  have v122 : ∀ s, s < 3 → gN m 122 0 s = -1 := fun s hs => by
    rw [h.n, vM_eq]
    simp [hs]
  have v6 : ∀ i s, i < 3 → gN m 6 i s = if s = 1 then 1 else 0 := fun i s hi => by
    rw [h.n, vM_eq]
    by_cases z : s = 1 <;> simp [z, hi]
  have rn : ∀ K i s, (∀ q ∈ RmL, q.1 ≠ K) → gR m K i s = none := fun K i s hK => h.rn K i s (Or.inr fun q hq z => hK q hq z.1)
  have bk : ∀ q ∈ ((131, 1) :: ZmL), ¬ isBK q.1 := by unfold isBK; decide
  have bk2 : ∀ q ∈ RmL, ¬ isBK q.1 := by unfold isBK; decide
  have e6 := z0 12 6 (by decide) (by decide) (by decide) (by decide) (by decide)
  have e1 := z0 12 1 (by decide) (by decide) (by decide) (by decide) (by decide)
  have e3 := z0 12 3 (by decide) (by decide) (by decide) (by decide) (by decide)
  have e12 := z0 12 12 (by decide) (by decide) (by decide) (by decide) (by decide)
  have e19 := z0 12 19 (by decide) (by decide) (by decide) (by decide) (by decide)
  have e52 := z0 12 52 (by decide) (by decide) (by decide) (by decide) (by decide)
  have e69 := z0 12 69 (by decide) (by decide) (by decide) (by decide) (by decide)
  have e74 := z0 12 74 (by decide) (by decide) (by decide) (by decide) (by decide)
  have x8 := z0 11 8 (by decide) (by decide) (by decide) (by decide) (by decide)
  have rT : RT m m := ⟨by rw [e1, z0 10 5 (by decide) (by decide) (by decide) (by decide) (by decide)], by omega, by omega, fun k hk => by omega⟩
  have rSp : RSp m m := ⟨by rw [e3, z0 10 6 (by decide) (by decide) (by decide) (by decide) (by decide)], by omega, fun s hs => by omega, fun s hs => by omega, fun s t hs => by omega⟩
  have rC : RC m m := ⟨by rw [e6, z0 1 5 (by decide) (by decide) (by decide) (by decide) (by decide)], by omega, by omega, fun k => ⟨by rw [z0 20 k (by decide) (by decide) (by decide) (by decide) (by decide), z0 62 k (by decide) (by decide) (by decide) (by decide) (by decide)], by rw [z0 21 k (by decide) (by decide) (by decide) (by decide) (by decide), z0 63 k (by decide) (by decide) (by decide) (by decide) (by decide)], by rw [z0 22 k (by decide) (by decide) (by decide) (by decide) (by decide), z0 64 k (by decide) (by decide) (by decide) (by decide) (by decide)], by rw [z0 23 k (by decide) (by decide) (by decide) (by decide) (by decide), z0 65 k (by decide) (by decide) (by decide) (by decide) (by decide)], by rw [v24, v66]⟩, fun k hk => by omega, fun b hb => by rw [v66, if_pos hb]; omega, fun k _ => z0 63 k (by decide) (by decide) (by decide) (by decide) (by decide)⟩
  have rH : RH ((2000 * 0 : Nat) : Int) m m := ⟨⟨by rw [e12, z0 11 7 (by decide) (by decide) (by decide) (by decide) (by decide)], by omega, by omega⟩, by rw [(h.zn 3 (by decide) (by decide)).1, e12]; rfl, fun k hk => by omega, fun k _ => rn 55 0 k (by decide), fun k hk => by omega, fun k => by
    rw [v0 3 k 3 (by decide) (by decide) (by decide) (by decide) (by decide), v0 3 k 4 (by decide) (by decide) (by decide) (by decide) (by decide), v0 3 k 5 (by decide) (by decide) (by decide) (by decide) (by decide), z0 70 k (by decide) (by decide) (by decide) (by decide) (by decide), z0 71 k (by decide) (by decide) (by decide) (by decide) (by decide), z0 72 k (by decide) (by decide) (by decide) (by decide) (by decide)]
    omega⟩
  have rMi : RMi m m := ⟨⟨by rw [e74, z0 11 9 (by decide) (by decide) (by decide) (by decide) (by decide)], by omega, by omega⟩, ⟨by rw [e69, z0 11 10 (by decide) (by decide) (by decide) (by decide) (by decide)], by omega, by omega⟩, fun k => by rw [z0 58 k (by decide) (by decide) (by decide) (by decide) (by decide), z0 125 k (by decide) (by decide) (by decide) (by decide) (by decide)]⟩
  have rPr : RPr m m := fun p hp => by
    rw [v6 p 1 hp, v6 p 2 hp, v6 p 3 hp, v121 p hp, v122 p hp, z0 123 p (by decide) (by decide) (by decide) (by decide) (by decide), z0 124 p (by decide) (by decide) (by decide) (by decide) (by decide)]
    exact ⟨⟨rfl, by omega, by omega⟩, rfl, rfl, Or.inl ⟨rn 6 p 0 (by decide), rfl⟩⟩
  have rNb : RNb m m := ⟨by rw [e19, x8], by omega, fun b hb => by omega, fun b _ => rn 56 0 b (by decide)⟩
  have rPf : RPf m 0 := ⟨fun p hp => Or.inl (v122 p hp), fun p p' hp _ z => absurd (v122 p hp) z, fun p _ => by rw [z0 123 p (by decide) (by decide) (by decide) (by decide) (by decide)]; omega, fun p _ => by rw [z0 124 p (by decide) (by decide) (by decide) (by decide) (by decide)]; omega, fun k _ => by rw [z0 125 k (by decide) (by decide) (by decide) (by decide) (by decide)]; omega, by omega⟩
  have z90 : ∀ q, gN m 90 0 q = 0 := fun q => z0 90 q (by decide) (by decide) (by decide) (by decide) (by decide)
  have rPc : RPc m := ⟨fun b x hb hx => by rw [v66, if_pos hb] at hx; omega, fun x y hx => by omega, fun x x' y hx => by omega, fun b x y hb hx => by rw [v66, if_pos hb] at hx; omega, fun x hx => by omega, fun q k x _ _ hk => by rw [z90] at hk; omega, fun q k q' k' x _ _ _ _ hk => by rw [z90] at hk; omega⟩
  have rFr : RFr m m := by
    refine ⟨fun K hK => ?_, fun K i hK _ => ?_, fun K i hK _ => ?_⟩
    · have n6 : K ≠ 6 := by unfold isBK at hK; omega
      have zc := (h.zn K n6 (fun q hq z => bk q hq (by rw [z]; exact hK))).1
      rw [zc, e19]
      exact ⟨by simp, fun _ => rfl⟩
    · have n6 : K ≠ 6 := by unfold isBK at hK; omega
      refine ⟨(h.zn K n6 (fun q hq z => bk q hq (by rw [z]; exact hK))).2 i, fun s => ⟨?_, h.l K i s, rn K i s (fun q hq z => bk2 q hq (by rw [z]; exact hK))⟩⟩
      unfold isBK at hK
      exact v0 K i s (by omega) (by omega) (by omega) (by omega) (by omega)
    · unfold isMK at hK
      exact z0 K i (by omega) (by omega) (by omega) (by omega) (by omega)
  refine ⟨⟨ini_SC h, ini_SM h, rT, rSp, rC, rH, rMi, rPr, rNb, fun b hb => by omega, rPf, rPc, rFr⟩, fun j hj => by omega, fun k _ => z0 44 k (by decide) (by decide) (by decide) (by decide) (by decide), fun q _ => ⟨z0 86 q (by decide) (by decide) (by decide) (by decide) (by decide), z0 87 q (by decide) (by decide) (by decide) (by decide) (by decide)⟩, h.z (131, 1) (by decide), ?_, ?_⟩
  · have := h.ga
    rw [x8]; omega
  · have := h.gb
    rw [x8]; omega
theorem row_tsw {l4 x : Int} {fs : List LX} {d : LX} (h1 : ∀ f ∈ fs, Row N l4 f) (h2 : Row N l4 d) : Row N l4 (tsw x 0 fs d) := by
  unfold tsw
  split
  · exact h2
  · cases hf : fs[(x - 0).toNat]? with
    | none => exact h2
    | some f => exact h1 f (List.mem_of_getElem? hf)
theorem Inv.up (hI : Inv N m) : Inv (N + 1) m := ⟨hI.rr.up (Nat.le_succ N), hI.ci, hI.pz, hI.ui, hI.out, by have := hI.ga; push_cast; omega, by have := hI.gb; push_cast; omega⟩
set_option maxHeartbeats 4000000 in
theorem law_round {l4 : Int} (hx : xn fx ≤ 3072) (hI : Inv N m) (hl : 0 ≤ l4 ∧ l4 ≤ (xn fx : Int) - 6 ∧ l4 ≤ 3066) (hN : N ≤ 511) : Row N l4 (b_L_law_23 fx 0 0 0 l4 m) := by
  unfold b_L_law_23
  rw [ck_of ⟨by omega, by omega⟩, if_neg (by omega), sld_of (by omega)]
  refine row_tsw (List.forall_mem_cons.mpr ⟨row_type hI hl hN, List.forall_mem_cons.mpr ⟨row_wipe hI hl, List.forall_mem_cons.mpr ⟨row_fault hI hl, List.forall_mem_cons.mpr ⟨row_spelling hI hl hN, List.forall_mem_cons.mpr ⟨row_cast hI hl hN, List.forall_mem_cons.mpr ⟨row_wear hI hl hN, List.forall_mem_cons.mpr ⟨row_piece hI hl hN, List.forall_mem_cons.mpr ⟨row_box hI hl hN, List.forall_mem_cons.mpr ⟨row_hand hI hl hN, List.forall_mem_cons.mpr ⟨row_book hI hl hN, List.forall_mem_cons.mpr ⟨row_copy hI hl hN, List.forall_mem_cons.mpr ⟨row_follow hI hl hN, List.forall_mem_cons.mpr ⟨row_castOff hI hl hN, List.forall_mem_cons.mpr ⟨row_set hI hl hN, List.forall_mem_cons.mpr ⟨row_page hI hl hN, List.forall_mem_cons.mpr ⟨row_line hI hl hN, List.forall_mem_cons.mpr ⟨row_place hI hl hN, List.forall_mem_cons.mpr ⟨row_lock hI hl hN, List.forall_mem_cons.mpr ⟨row_print hI hl hN, List.forall_mem_cons.mpr ⟨row_men hI hl hN, List.forall_mem_cons.mpr ⟨row_pass hI hl hN, List.forall_mem_cons.mpr ⟨row_hour hI hl, List.forall_mem_cons.mpr ⟨row_forme hI hl hN, List.forall_mem_cons.mpr ⟨row_correct hI hl hN, List.forall_mem_cons.mpr ⟨row_putAway hI hl hN, List.forall_mem_cons.mpr ⟨row_paper hI hl hN, List.forall_mem_cons.mpr ⟨row_lay hI hl hN, List.forall_mem_cons.mpr ⟨row_bind hI hl hN, List.forall_mem_cons.mpr ⟨row_exchange hI hl hN, List.forall_mem_cons.mpr ⟨row_cancel hI hl hN, List.forall_mem_cons.mpr ⟨row_state hI hl hN, List.forall_mem_cons.mpr ⟨row_mark hI hl hN, List.forall_mem_cons.mpr ⟨row_character hI hl hN, List.forall_mem_cons.mpr ⟨row_alike hI hl hN, List.forall_mem_cons.mpr ⟨row_madeUp hI hl hN, List.forall_mem_cons.mpr ⟨row_shared hI hl hN, List.forall_mem_cons.mpr ⟨row_orders hI hl hN, List.forall_mem_cons.mpr ⟨row_ordersAnew hI hl hN, List.forall_mem_cons.mpr ⟨row_ahead hI hl hN, List.forall_mem_cons.mpr ⟨row_hands hI hl hN, List.forall_mem_cons.mpr ⟨row_presses hI hl hN, List.forall_mem_cons.mpr ⟨row_follows hI hl hN, List.forall_mem_cons.mpr ⟨row_account hI hl hN, fun _ h => absurd h List.not_mem_nil⟩⟩⟩⟩⟩⟩⟩⟩⟩⟩⟩⟩⟩⟩⟩⟩⟩⟩⟩⟩⟩⟩⟩⟩⟩⟩⟩⟩⟩⟩⟩⟩⟩⟩⟩⟩⟩⟩⟩⟩⟩⟩⟩) ⟨m, hI.up, by rw [ck_of ⟨by omega, by omega⟩]⟩
theorem law_run (hx : xn fx ≤ 3072) : ∀ (e N : Nat) (m : MM), 513 - N = e → N ≤ 512 → Inv N m → ∃ m' N', lpb (fun s : Int × MM => b_L_law_23 fx 0 0 0 s.1 s.2) (((6 * N : Nat) : Int), m) = some (.inr m') ∧ N' ≤ 513 ∧ Inv N' m' := by
  intro e
  induction e with
  | zero => intro N m h1 h2 hI; omega
  | succ e ih =>
    intro N m h1 h2 hI
    by_cases hc : (xn fx : Int) - 6 < ((6 * N : Nat) : Int)
    · refine ⟨m, N, ?_, by omega, hI⟩
      rw [lpb_eq]
      simp only
      unfold b_L_law_23
      rw [ck_of ⟨by omega, by omega⟩, if_pos hc, Option.bind_some, Sum.elim_inr]
    · obtain ⟨m1, hI1, e1⟩ := law_round (fx := fx) (l4 := ((6 * N : Nat) : Int)) hx hI ⟨by omega, by omega, by omega⟩ (by omega)
      obtain ⟨m', N', a1, a2, a3⟩ := ih (N + 1) m1 (by omega) (by omega) hI1
      refine ⟨m', N', ?_, a2, a3⟩
      rw [lpb_eq]
      simp only
      rw [e1, Option.bind_some, Sum.elim_inl, show ((6 * N : Nat) : Int) + 6 = ((6 * (N + 1) : Nat) : Int) by omega]
      exact a1
theorem law_true : LawTrue := fun fx hx => by
  obtain ⟨⟨r2, m2⟩, e2, s2, k2⟩ := init_c0
  simp only at s2 k2
  subst s2
  have k4 := k2.pW (K := 12) (n := 82) (by decide) (by decide)
  obtain ⟨⟨r5, m5⟩, e5, s5, k5⟩ := init_m0 k4
  simp only at s5 k5
  subst s5
  have k7 := k5.pW (K := 131) (n := 1) (by decide) (by decide)
  obtain ⟨m', N', a1, a2, a3⟩ := law_run (fx := fx) hx 513 0 _ rfl (by omega) (Inv0 k7)
  have a1' : lpb (fun s : Int × MM => b_L_law_23 fx 0 0 0 s.1 s.2) (0, nW m5 131 1) = some (.inr m') := a1
  refine ⟨m', ?_, ?_, ?_⟩
  · unfold f_L_law
    rw [lt_eq, show gC m00 11 = 0 from rfl, e2, bV_ok, lt_eq, k2.gc (by decide) (by decide), e5, bV_ok, newA_of ⟨by decide, by decide⟩, k5.gc (by decide) (by decide), show (1 : Int).toNat = 1 from rfl, a1', Option.bind_some, Sum.elim_inr]
    rfl
  · have h1 := a3.ga
    have h2 := a3.rr.Nb.c
    have h3 := a3.rr.Nb.r
    omega
  · have h1 := a3.gb
    have h2 := a3.rr.Nb.c
    have h3 := a3.rr.Nb.r
    omega
end LAST
