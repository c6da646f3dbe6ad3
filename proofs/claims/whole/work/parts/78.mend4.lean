/-! CORRECT: the pieces. -/
section CORRECT
variable {N : Nat} {mc mm : MM} {b F n M Ln E : Nat}
set_option maxHeartbeats 8000000 in
theorem cor_pcs (h : RR N mc mm) (hb : b < 3) {p k0 d x : Nat} {m1 m9 t2 t30 : MM} (hp : p < 16) (hk144 : k0 < 144) (hk0 : (k0 : Int) < gN mm 90 0 (16 * b + p)) (hRC1 : RC m1 (sN mm 12 0 0 0)) (hd28 : d < 28) (hx : gN mm 66 0 d = x) (hxn : (x : Int) < gN mm 12 0 6) (hnx : -1 ≤ gN mm 65 0 x ∧ gN mm 65 0 x < gN mm 12 0 6) (hxd : gN mm 64 0 x = d)
    (f30 : (gN mm 100 0 (150 * (16 * b + p) + k0) = -1 ∧ t30 = sN (sN mm 12 0 0 0) 66 0 d (gN mm 65 0 x) ∧ m9 = sN (sN m1 24 0 d (gN mm 65 0 x)) 22 0 x (100 + 100 * (b : Int) + (p : Int))) ∨ ∃ yn dy : Nat, yn < 400 ∧ dy < 28 ∧ gN mm 100 0 (150 * (16 * b + p) + k0) = yn ∧ gN mm 62 0 yn = dy ∧ m9 = pOn (sN (sN m1 24 0 d (gN mm 65 0 x)) 22 0 x (100 + 100 * (b : Int) + (p : Int))) 22 23 24 dy yn ∧ t30 = pOn (sN (sN mm 12 0 0 0) 66 0 d (gN mm 65 0 x)) 64 65 66 dy yn)
    (vK : ∀ K j, 62 ≤ K → K ≤ 66 → gN t2 K 0 j = if K = 64 ∧ j = x then 100 + 100 * (b : Int) + (p : Int) else gN t30 K 0 j) :
    ∃ t9, RC m9 t9 ∧ RPc (sN t9 100 0 (150 * (16 * b + p) + k0) (x : Int)) ∧ (∀ K j, 62 ≤ K → K ≤ 66 → gN t9 K 0 j = gN t2 K 0 j) ∧ gN t9 12 0 6 = gN mm 12 0 6 ∧ (∀ j, gN t9 90 0 j = gN mm 90 0 j) ∧ ∀ j, j ≠ 150 * (16 * b + p) + k0 → gN t9 100 0 j = gN mm 100 0 j := by
  have hPc := h.Pc
  have tK : ∀ K k, K ≠ 12 → gN (sN mm 12 0 0 0) K 0 k = gN mm K 0 k := fun K k hK => gthr' _ _ (Or.inl hK)
  have hT3 : RC (sN (sN m1 24 0 d (gN mm 65 0 x)) 22 0 x (100 + 100 * (b : Int) + (p : Int))) (sN (sN (sN mm 12 0 0 0) 66 0 d (gN mm 65 0 x)) 64 0 x (100 + 100 * (b : Int) + (p : Int))) := hRC1.take (by rw [gthr' _ _ (Or.inr (by decide))]; exact hnx)
  have hQ3 : RPc (sN (sN (sN mm 12 0 0 0) 66 0 d (gN mm 65 0 x)) 64 0 x (100 + 100 * (b : Int) + (p : Int))) := by
    have := (h.thr 0).Pc.take (d := d) (x := x) (ow := 100 + 100 * (b : Int) + (p : Int)) hd28 (by rw [tK 66 _ (by decide)]; exact hx) (by rw [gthr' _ _ (Or.inr (by decide))]; exact hxn) (by omega) (by rw [tK 65 _ (by decide)]; exact hnx.1)
    rw [tK 65 _ (by decide)] at this
    exact this
  have hno : ∀ q k : Nat, q < 48 → k < 150 → (k : Int) < gN mm 90 0 q → gN mm 100 0 (150 * q + k) ≠ x := fun q k h1 h2 h3 h4 => by
    have := hPc.p q k x h1 h2 h3 h4
    omega
  rcases f30 with ⟨a1, rfl, a2⟩ | ⟨yn, dy, a1, a2, a3, a4, a5, rfl⟩
  · refine ⟨_, by rw [a2]; exact hT3, hQ3.lay (by omega) (by omega) ?_ ?_ ?_ (fun q k h1 h2 h3 h4 => ?_), fun K j h1 h2 => ?_, ?_, fun j => ?_, fun j hj => ?_⟩
    · rw [gN_k (by first | decide | omega), gN_k (by first | decide | omega), tK 90 _ (by decide)]; exact hk0
    · rw [gN_k (by first | decide | omega), gN_k (by first | decide | omega), gthr' _ _ (Or.inr (by decide))]; exact hxn
    · rw [gN_sN, if_pos ⟨rfl, rfl, rfl⟩]; omega
    · rw [gN_k (by first | decide | omega), gN_k (by first | decide | omega), tK 90 _ (by decide)] at h3
      rw [gN_k (by first | decide | omega), gN_k (by first | decide | omega), tK 100 _ (by decide)] at h4
      exact absurd h4 (hno q k h1 h2 h3)
    · rw [vK K j h1 h2, gN_sN]
      by_cases q : K = 64 ∧ j = x
      · rw [if_pos ⟨q.1, rfl, q.2⟩, if_pos q]
      · rw [if_neg (by omega), if_neg q]
    · rw [gN_k (by first | decide | omega), gN_k (by first | decide | omega), gthr' _ _ (Or.inr (by decide))]
    · rw [gN_k (by first | decide | omega), gN_k (by first | decide | omega), tK 90 _ (by decide)]
    · rw [gN_k (by first | decide | omega), gN_k (by first | decide | omega), tK 100 _ (by decide)]
  · have hy := hPc.p (16 * b + p) k0 yn (by omega) (by omega) hk0 a3
    have hyx : yn ≠ x := fun z => by rw [z] at hy; omega
    have hR9 := hT3.put (d := dy) (x := yn) a2 (by rw [gN_k (by first | decide | omega), gN_k (by first | decide | omega), gthr' _ _ (Or.inr (by decide))]; exact hy.1)
    have hQ9 := hQ3.put (d := dy) (x := yn) (q0 := 16 * b + p) (k0 := k0) a2 (by omega) (by omega) (by rw [gN_k (by first | decide | omega), gN_k (by first | decide | omega), tK 90 _ (by decide)]; exact hk0) (by rw [gN_k (by first | decide | omega), gN_k (by first | decide | omega), tK 100 _ (by decide)]; exact a3)
    generalize hgt : sN (sN (sN mm 12 0 0 0) 66 0 d (gN mm 65 0 x)) 64 0 x (100 + 100 * (b : Int) + (p : Int)) = t3 at *
    have t3K : ∀ K j, K ≠ 12 → K ≠ 66 → K ≠ 64 → gN t3 K 0 j = gN mm K 0 j := fun K j h1 h2 h3 => by rw [← hgt, gN_k (by first | decide | omega), gN_k (by first | decide | omega), tK K _ h1]
    have t36 : gN t3 12 0 6 = gN mm 12 0 6 := by rw [← hgt, gN_k (by first | decide | omega), gN_k (by first | decide | omega), gthr' _ _ (Or.inr (by decide))]
    have t364 : gN t3 64 0 x = 100 + 100 * (b : Int) + (p : Int) := by rw [← hgt, gN_sN, if_pos ⟨rfl, rfl, rfl⟩]
    have e9K : ∀ K j, K ≠ 64 → K ≠ 65 → K ≠ 66 → gN (pOn t3 64 65 66 dy yn) K 0 j = gN t3 K 0 j := fun K j h1 h2 h3 => by
      unfold pOn
      rw [gN_k (by first | decide | omega), gN_k (by first | decide | omega), gN_k (by first | decide | omega)]
    have hl := hQ9.lay (x := x) (q0 := 16 * b + p) (k0 := k0) (by omega) (by omega) (by rw [gN_k (by first | decide | omega), e9K 90 _ (by decide) (by decide) (by decide), t3K 90 _ (by decide) (by decide) (by decide)]; exact hk0) (by rw [gN_k (by first | decide | omega), e9K 12 _ (by decide) (by decide) (by decide), t36]; exact hxn) (by rw [gN_k (by first | decide | omega)]; unfold pOn; rw [gN_sN, if_neg (fun z => hyx z.2.2.symm), gN_k (by first | decide | omega), gN_k (by first | decide | omega), t364]; omega) (fun q k h1 h2 h3 h4 => by
      by_cases z : 150 * q + k = 150 * (16 * b + p) + k0
      · omega
      · rw [gN_k (by first | decide | omega), e9K 90 _ (by decide) (by decide) (by decide), t3K 90 _ (by decide) (by decide) (by decide)] at h3
        rw [gN_sN, if_neg (by omega), e9K 100 _ (by decide) (by decide) (by decide), t3K 100 _ (by decide) (by decide) (by decide)] at h4
        exact absurd h4 (hno q k h1 h2 h3))
    refine ⟨pOn t3 64 65 66 dy yn, by rw [a5]; exact hR9, hl.eqN (fun K j hK => ?_) (by rw [gN_k (by first | decide | omega), gN_k (by first | decide | omega), gN_k (by first | decide | omega)]), fun K j h1 h2 => ?_, by rw [e9K 12 _ (by decide) (by decide) (by decide), t36], fun j => by rw [e9K 90 _ (by decide) (by decide) (by decide), t3K 90 _ (by decide) (by decide) (by decide)], fun j hj => by rw [e9K 100 _ (by decide) (by decide) (by decide), t3K 100 _ (by decide) (by decide) (by decide)]⟩
    · by_cases z : K = 100 ∧ j = 150 * (16 * b + p) + k0
      · rw [gN_sN, if_pos ⟨z.1, rfl, z.2⟩, gN_sN, if_pos ⟨z.1, rfl, z.2⟩]
      · rw [gN_sN, if_neg (by omega), gN_sN, if_neg (by omega), gN_sN, if_neg (by omega)]
    · rw [vK K j h1 h2, ← hgt]
      obtain rfl | rfl | rfl | rfl | rfl : K = 62 ∨ K = 63 ∨ K = 64 ∨ K = 65 ∨ K = 66 := by omega
      · simp [pOn, gN_sN]
      · simp [pOn, gN_sN]
      · by_cases z1 : j = yn
        · subst z1
          simp [pOn, gN_sN, hyx]
        · by_cases z2 : j = x
          · subst z2
            simp [pOn, gN_sN, z1]
          · simp [pOn, gN_sN, z1, z2]
      · simp [pOn, gN_sN]
      · simp [pOn, gN_sN]
end CORRECT
