/-! SET: a page is composed, both sides, as one. -/
section SET
variable {N : Nat} {mc mm : MM} {b F n M Ln E d : Nat}
theorem composed_eq (h : RR N mc mm) (hB : RBk mc mm b F n M Ln E) {p : Nat} (hp : p < 2 * (F * n)) (hd : (d : Int) < gN mm 12 0 12) {Fr To : Nat} (hTo : (To : Int) ≤ gN mm 80 0 b) (hFr : Fr ≤ To) {H0 co : Int} (hH0 : 0 ≤ H0 ∧ H0 ≤ 10000000) {s t : MM} (hFs : Fsc (16 * b + p) d mc s) (hFt : Fsm (16 * b + p) d mm t) (hcr : gN s 4 (16 * b + p) 14 = 0) (hlo : gN s 4 (16 * b + p) 13 = gN mc 4 (16 * b + p) 13) (hlo0 : gN mc 4 (16 * b + p) 13 = 0) (hch : gN s 3 d 3 = gN t 70 0 d ∧ 0 ≤ gN t 70 0 d ∧ gN t 70 0 d ≤ H0) (hco : co = if gN mm 78 0 b = 0 then 0 else 1) {y0 : Nat → MM → Option (RV × MM)} :
    ∃ (s2 t2 : MM) (L W j : Nat) (cr : Int) (T C : Nat → Nat), f_X4_compose s (16 * b + p) b d (Fr : Int) (To : Int) co = some (.inl none, s2) ∧
      bI (f_X12_laysLines t 0 (b : Int) ((16 * b + p : Nat) : Int) (d : Int) (Fr : Int) (To : Int) 0) (fun v15 m14 => nk 78 (gR m14 12 0 25) fun i16 => ldN m14 78 i16 (b : Int) fun v17 => if v17 ≤ 0 then (j_X12_set_0_151 m14 0 (b : Int) (p : Int) (d : Int) ((16 * b + p : Nat) : Int) (Fr : Int) (To : Int) (gN t 70 0 d) v15) else
        if (To : Int) ≤ v15 then (j_X12_set_0_151 m14 0 (b : Int) (p : Int) (d : Int) ((16 * b + p : Nat) : Int) (Fr : Int) (To : Int) (gN t 70 0 d) v15) else
        j_X12_set_0_152 m14 0 (b : Int) (p : Int) (d : Int) ((16 * b + p : Nat) : Int) (Fr : Int) (To : Int) (gN t 70 0 d) v15 1) y0 = j_X12_set_0_299 t2 0 (b : Int) (p : Int) (d : Int) ∧
      L ≤ Ln ∧ (Fr + W ≤ j ∧ j ≤ To) ∧ (L = 0 → W = 0) ∧ (0 < L → T 0 = 0) ∧ (cr = 0 ∨ cr = 1) ∧ (∀ k, k < L → 1 ≤ C k ∧ T k + C k ≤ W) ∧ (∀ k k', k < k' → k' < L → T k + C k ≤ T k') ∧ (∀ k, k < L → T k + C k = if k + 1 < L then T (k + 1) else W) ∧
      FI mc mm s2 t2 b (16 * b + p) d Fr To L W (M * L) L T C cr ∧ gN s2 4 (16 * b + p) 12 = j ∧ gN s2 4 (16 * b + p) 13 = gN t2 87 0 (16 * b + p) ∧ gN t2 83 0 (16 * b + p) = 1 ∧ gN t2 84 0 (16 * b + p) = d ∧ gN t2 85 0 (16 * b + p) = j ∧ gN t2 86 0 (16 * b + p) = cr ∧ gN t2 89 0 (16 * b + p) = W ∧
      (gN s2 3 d 3 = gN t2 70 0 d ∧ 0 ≤ gN t2 70 0 d ∧ gN t2 70 0 d ≤ H0 + W) := by
  have hP := hB.hP
  have q0 := hP.hb
  have q1 := hP.hn
  have hcnt := hB.tx.cnt
  obtain ⟨s0, s1, t1, L, W, j, cr, a1, a2, a3, a4, a5, a6, a7⟩ := taken_eq (d := d) h hB hp hd hTo hFr hH0 hFs hFt hcr hlo hch hco (x0 := y0) (y0 := y0)
  have q5 := a3.jw
  have q6 := a3.jt
  have hM1 := a3.ft.Md h.M
  obtain ⟨t', b1, b2, b3, b4, b5, b6, b7⟩ := stores_m hM1 (q := 16 * b + p) (by omega) (To := (To : Int)) (j := (j : Int)) (cr := cr) (l1 := (b : Int)) (l2 := (p : Int)) (l3 := (d : Int)) (by omega) a4
  obtain ⟨T, C, s2, t2, c1, c2, c3, c4, c5, c6, c7, c8⟩ := finish_eq (d := d) h hB hp hTo a3 a5 b2 (l1 := (b : Int)) (l2 := (p : Int)) (l3 := (d : Int))
  have gs : ∀ K i k, K ≤ 27 → gN s2 K i k = gN s1 K i k := fun K i k z => (c7.1 K i k (by omega)).1
  have gt : ∀ K i k, K ≤ 92 → gN t2 K i k = gN t' K i k := fun K i k z => (c8.1 K i k (by omega)).1
  have g1 : ∀ K i k, k ≠ 13 → gN s1 K i k = gN s0 K i k := fun K i k z => (a5.1 K i k (by omega)).1
  have g2 : ∀ K i k, K ≤ 82 ∨ 88 ≤ K → gN t' K i k = gN t1 K i k := fun K i k z => (b2.1 K i k (by omega)).1
  refine ⟨s2, t2, L, W, j, cr, T, C, by rw [a1, c1], by rw [a2, b1, c2, Option.bind_some], a3.LL, ⟨q5, q6⟩, a3.l0.2, fun z => ?_, a4, c3, c4, c5, c6, ?_, ?_, ?_, ?_, ?_, ?_, ?_, ?_⟩
  · have e1 := (c6.ln 0 z).2.1
    rw [gt 91 0 _ (by omega), g2 91 0 _ (by omega), a3.l0.1 z] at e1
    omega
  · rw [gs 4 _ 12 (by omega), g1 4 _ 12 (by omega), a3.nx]
  · rw [gs 4 _ 13 (by omega), gt 87 0 _ (by omega), b7]
    rcases a4 with z | z
    · rw [if_pos z, a7 z, hlo0]
    · rw [if_neg (by omega), a6 z]
  · rw [gt 83 0 _ (by omega), b3]
  · rw [gt 84 0 _ (by omega), b4]
  · rw [gt 85 0 _ (by omega), b5]
  · rw [gt 86 0 _ (by omega), b6]
  · rw [gt 89 0 _ (by omega), g2 89 0 _ (by omega), a3.w2]
  · rw [gs 3 _ 3 (by omega), g1 3 _ 3 (by omega), gt 70 0 _ (by omega), g2 70 0 _ (by omega)]
    exact a3.hd
end SET
