/-! SET: lines are taken, and once more where the page is cramped. -/
section SET
variable {N : Nat} {mc mm : MM} {b F n M Ln E d : Nat}
theorem taken_eq (h : RR N mc mm) (hB : RBk mc mm b F n M Ln E) {p : Nat} (hp : p < 2 * (F * n)) (hd : (d : Int) < gN mm 12 0 12) {Fr To : Nat} (hTo : (To : Int) ≤ gN mm 80 0 b) (hFr : Fr ≤ To) {H0 co : Int} (hH0 : 0 ≤ H0 ∧ H0 ≤ 10000000) {s t : MM} (hFs : Fsc (16 * b + p) d mc s) (hFt : Fsm (16 * b + p) d mm t) (hcr : gN s 4 (16 * b + p) 14 = 0) (hlo : gN s 4 (16 * b + p) 13 = gN mc 4 (16 * b + p) 13) (hch : gN s 3 d 3 = gN t 70 0 d ∧ 0 ≤ gN t 70 0 d ∧ gN t 70 0 d ≤ H0) (hco : co = if gN mm 78 0 b = 0 then 0 else 1) {x0 y0 : Nat → MM → Option (RV × MM)} :
    ∃ (s0 s1 t1 : MM) (L W j : Nat) (cr : Int), f_X4_compose s (16 * b + p) b d (Fr : Int) (To : Int) co = j_X4_compose_0_60 s1 (16 * b + p) b ∧
      bI (f_X12_laysLines t 0 (b : Int) ((16 * b + p : Nat) : Int) (d : Int) (Fr : Int) (To : Int) 0) (fun v15 m14 => nk 78 (gR m14 12 0 25) fun i16 => ldN m14 78 i16 (b : Int) fun v17 => if v17 ≤ 0 then (j_X12_set_0_151 m14 0 (b : Int) (p : Int) (d : Int) ((16 * b + p : Nat) : Int) (Fr : Int) (To : Int) (gN t 70 0 d) v15) else
        if (To : Int) ≤ v15 then (j_X12_set_0_151 m14 0 (b : Int) (p : Int) (d : Int) ((16 * b + p : Nat) : Int) (Fr : Int) (To : Int) (gN t 70 0 d) v15) else
        j_X12_set_0_152 m14 0 (b : Int) (p : Int) (d : Int) ((16 * b + p : Nat) : Int) (Fr : Int) (To : Int) (gN t 70 0 d) v15 1) y0 = j_X12_set_0_182 t1 0 (b : Int) (p : Int) (d : Int) ((16 * b + p : Nat) : Int) (To : Int) (j : Int) cr ∧
      LA mc mm s0 t1 b (16 * b + p) d Fr To M Ln L W j H0 cr ∧ (cr = 0 ∨ cr = 1) ∧ FrC (fun K i k => K = 4 ∧ i = 16 * b + p ∧ k = 13) s0 s1 ∧ (cr = 1 → gN s1 4 (16 * b + p) 13 = (To : Int) - (j : Int)) ∧ (cr = 0 → gN s1 4 (16 * b + p) 13 = gN mc 4 (16 * b + p) 13) := by
  have hP := hB.hP
  have q0 := hP.hb
  have q1 := hP.hn
  have hpc := hB.tx.pc
  have hcnt := hB.tx.cnt
  have hH := h.H.1
  obtain ⟨s1, t1, L, W, j, a1, a2, a3, a4⟩ := lines_eq (d := d) h hB hp hd hTo hFr hH0 hFs hFt hcr hlo hch
  have hM1 := a3.ft.Md h.M
  have e78 : gN t1 78 0 b = gN mm 78 0 b := (a3.ft.1 78 0 b (by unfold SmW; omega)).1
  have hPt := a3.ft.P hB
  have q6 := a3.jt
  have hnx := a3.nx
  have plain : (gN mm 78 0 b = 0 ∨ To ≤ j) → f_X4_compose s (16 * b + p) b d (Fr : Int) (To : Int) co = j_X4_compose_0_60 s1 (16 * b + p) b ∧ bI (f_X12_laysLines t 0 (b : Int) ((16 * b + p : Nat) : Int) (d : Int) (Fr : Int) (To : Int) 0) (fun v15 m14 => nk 78 (gR m14 12 0 25) fun i16 => ldN m14 78 i16 (b : Int) fun v17 => if v17 ≤ 0 then (j_X12_set_0_151 m14 0 (b : Int) (p : Int) (d : Int) ((16 * b + p : Nat) : Int) (Fr : Int) (To : Int) (gN t 70 0 d) v15) else
        if (To : Int) ≤ v15 then (j_X12_set_0_151 m14 0 (b : Int) (p : Int) (d : Int) ((16 * b + p : Nat) : Int) (Fr : Int) (To : Int) (gN t 70 0 d) v15) else
        j_X12_set_0_152 m14 0 (b : Int) (p : Int) (d : Int) ((16 * b + p : Nat) : Int) (Fr : Int) (To : Int) (gN t 70 0 d) v15 1) y0 = j_X12_set_0_182 t1 0 (b : Int) (p : Int) (d : Int) ((16 * b + p : Nat) : Int) (To : Int) (j : Int) 0 := fun z => by
    constructor
    · unfold f_X4_compose
      rw [a1, bV_ok, hco]
      by_cases y : gN mm 78 0 b = 0
      · rw [if_pos y, if_pos rfl]
      · rw [if_neg y, if_neg (by decide), hnx, if_pos (by omega)]
    · rw [a2, bI_ok, nk_of hM1.r25, ldN_of hM1.z78 (by omega), tnc, e78]
      unfold j_X12_set_0_151 j_X12_set_0_152
      by_cases y : gN mm 78 0 b = 0
      · rw [if_pos (by omega), if_pos rfl]
      · rw [if_neg (by omega), if_pos (by omega), if_pos rfl]
  by_cases hc : gN mm 78 0 b = 0 ∨ To ≤ j
  · obtain ⟨p1, p2⟩ := plain hc
    exact ⟨s1, s1, t1, L, W, j, 0, p1, p2, a3, Or.inl rfl, FrC.rf, fun z => absurd z (by decide), fun _ => a3.lo⟩
  · have hc1 : ¬ gN mm 78 0 b = 0 := fun z => hc (Or.inl z)
    have hc2 : ¬ To ≤ j := fun z => hc (Or.inr z)
    clear plain
    have hFs3 : Fsc (16 * b + p) d mc (sN (sN s1 3 d 3 (gN s 3 d 3)) 4 (16 * b + p) 14 1) := (a3.fs.sN (Or.inr (Or.inr ⟨rfl, rfl, rfl⟩))).sN (Or.inl ⟨rfl, rfl, by omega⟩)
    have hFt3 : Fsm (16 * b + p) d mm (sN t1 70 0 d (gN t 70 0 d)) := a3.ft.sN (by unfold SmW; omega)
    obtain ⟨s5, t5, L5, W5, j5, b1, b2, b3, b4⟩ := lines_eq (d := d) h hB hp hd hTo hFr hH0 hFs3 hFt3 (cr := 1) (by rw [gN_sN, if_pos ⟨rfl, rfl, rfl⟩]) (by rw [gN_sN, if_neg (by omega), gN_sN, if_neg (by omega)]; exact a3.lo) (by rw [gN_sN, if_neg (by omega), gN_sN, if_pos ⟨rfl, rfl, rfl⟩, gN_sN, if_pos ⟨rfl, rfl, rfl⟩]; exact hch)
    have q7 := b3.jt
    refine ⟨s5, sN s5 4 (16 * b + p) 13 ((To : Int) - (j5 : Int)), t5, L5, W5, j5, 1, ?_, ?_, b3, Or.inr rfl, FrC.rf.sN ⟨rfl, rfl, rfl⟩, fun _ => by rw [gN_sN, if_pos ⟨rfl, rfl, rfl⟩], fun z => absurd z (by decide)⟩
    · unfold f_X4_compose
      rw [a1, bV_ok, hco, if_neg hc1, if_neg (by decide), hnx, if_neg (by omega), lt_eq, lt_eq, b1, bV_ok, b3.nx, ck_of ⟨by omega, by omega⟩, lt_eq]
    · rw [a2, bI_ok, nk_of hM1.r25, ldN_of hM1.z78 (by omega), tnc, e78, if_neg (by omega), if_neg (by omega)]
      unfold j_X12_set_0_152
      rw [if_neg (by decide), nk_of hM1.r16, stN_of hM1.z70 (by omega), tnc, b2, bI_ok]
end SET
