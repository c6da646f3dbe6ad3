/-! THE CALLS BESIDE THE BOOKS, with the whole relation. -/
theorem RF.c {S : List (Nat × Nat)} {m m' : MM} {r : RV} (h : RF S m (r, m')) (K : Nat) : gC m' K = gC m K := by
  cases r with
  | inl v => exact h.2.2.1 K
  | inr e => exact h.2.2.1 K
theorem SC.mv3 {m m' : MM} (h : SC m) (hr : ∀ K i s, (K = 1 ∧ s ≤ 4) ∨ (K = 7 ∧ s ≤ 5) ∨ (K = 10 ∧ s ≤ 4) ∨ (K = 11 ∧ s ≤ 6) ∨ K = 57 → gR m' K i s = gR m K i s) (hz : ∀ K i n, K ≠ 3 → gZ m K i = some n → gZ m' K i = some n) : SC m' := by
  unfold SC at h ⊢
  refine ⟨?_, ?_, ?_, ?_, ?_, ?_, ?_, ?_, ?_, ?_, ?_, ?_, ?_, ?_, ?_, ?_, ?_, ?_, ?_, ?_, ?_, ?_, ?_, ?_, ?_, ?_, ?_, ?_, ?_, ?_, ?_, ?_, ?_, ?_, ?_, ?_, ?_, ?_, ?_, ?_, ?_, ?_, ?_, ?_, ?_, ?_⟩
  · rw [hr _ _ _ (by decide)]; exact h.1
  · rw [hr _ _ _ (by decide)]; exact h.2.1
  · rw [hr _ _ _ (by decide)]; exact h.2.2.1
  · rw [hr _ _ _ (by decide)]; exact h.2.2.2.1
  · rw [hr _ _ _ (by decide)]; exact h.2.2.2.2.1
  · rw [hr _ _ _ (by decide)]; exact h.2.2.2.2.2.1
  · rw [hr _ _ _ (by decide)]; exact h.2.2.2.2.2.2.1
  · exact hz _ _ _ (by decide) h.2.2.2.2.2.2.2.1
  · exact hz _ _ _ (by decide) h.2.2.2.2.2.2.2.2.1
  · exact hz _ _ _ (by decide) h.2.2.2.2.2.2.2.2.2.1
  · exact hz _ _ _ (by decide) h.2.2.2.2.2.2.2.2.2.2.1
  · rw [hr _ _ _ (by decide)]; exact h.2.2.2.2.2.2.2.2.2.2.2.1
  · rw [hr _ _ _ (by decide)]; exact h.2.2.2.2.2.2.2.2.2.2.2.2.1
  · rw [hr _ _ _ (by decide)]; exact h.2.2.2.2.2.2.2.2.2.2.2.2.2.1
  · rw [hr _ _ _ (by decide)]; exact h.2.2.2.2.2.2.2.2.2.2.2.2.2.2.1
  · rw [hr _ _ _ (by decide)]; exact h.2.2.2.2.2.2.2.2.2.2.2.2.2.2.2.1
  · exact hz _ _ _ (by decide) h.2.2.2.2.2.2.2.2.2.2.2.2.2.2.2.2.1
  · exact hz _ _ _ (by decide) h.2.2.2.2.2.2.2.2.2.2.2.2.2.2.2.2.2.1
  · exact hz _ _ _ (by decide) h.2.2.2.2.2.2.2.2.2.2.2.2.2.2.2.2.2.2.1
  · exact hz _ _ _ (by decide) h.2.2.2.2.2.2.2.2.2.2.2.2.2.2.2.2.2.2.2.1
  · exact hz _ _ _ (by decide) h.2.2.2.2.2.2.2.2.2.2.2.2.2.2.2.2.2.2.2.2.1
  · rw [hr _ _ _ (by decide)]; exact h.2.2.2.2.2.2.2.2.2.2.2.2.2.2.2.2.2.2.2.2.2.1
  · rw [hr _ _ _ (by decide)]; exact h.2.2.2.2.2.2.2.2.2.2.2.2.2.2.2.2.2.2.2.2.2.2.1
  · rw [hr _ _ _ (by decide)]; exact h.2.2.2.2.2.2.2.2.2.2.2.2.2.2.2.2.2.2.2.2.2.2.2.1
  · rw [hr _ _ _ (by decide)]; exact h.2.2.2.2.2.2.2.2.2.2.2.2.2.2.2.2.2.2.2.2.2.2.2.2.1
  · rw [hr _ _ _ (by decide)]; exact h.2.2.2.2.2.2.2.2.2.2.2.2.2.2.2.2.2.2.2.2.2.2.2.2.2.1
  · exact hz _ _ _ (by decide) h.2.2.2.2.2.2.2.2.2.2.2.2.2.2.2.2.2.2.2.2.2.2.2.2.2.2.1
  · exact hz _ _ _ (by decide) h.2.2.2.2.2.2.2.2.2.2.2.2.2.2.2.2.2.2.2.2.2.2.2.2.2.2.2.1
  · exact hz _ _ _ (by decide) h.2.2.2.2.2.2.2.2.2.2.2.2.2.2.2.2.2.2.2.2.2.2.2.2.2.2.2.2.1
  · exact hz _ _ _ (by decide) h.2.2.2.2.2.2.2.2.2.2.2.2.2.2.2.2.2.2.2.2.2.2.2.2.2.2.2.2.2.1
  · exact hz _ _ _ (by decide) h.2.2.2.2.2.2.2.2.2.2.2.2.2.2.2.2.2.2.2.2.2.2.2.2.2.2.2.2.2.2.1
  · rw [hr _ _ _ (by decide)]; exact h.2.2.2.2.2.2.2.2.2.2.2.2.2.2.2.2.2.2.2.2.2.2.2.2.2.2.2.2.2.2.2.1
  · rw [hr _ _ _ (by decide)]; exact h.2.2.2.2.2.2.2.2.2.2.2.2.2.2.2.2.2.2.2.2.2.2.2.2.2.2.2.2.2.2.2.2.1
  · rw [hr _ _ _ (by decide)]; exact h.2.2.2.2.2.2.2.2.2.2.2.2.2.2.2.2.2.2.2.2.2.2.2.2.2.2.2.2.2.2.2.2.2.1
  · rw [hr _ _ _ (by decide)]; exact h.2.2.2.2.2.2.2.2.2.2.2.2.2.2.2.2.2.2.2.2.2.2.2.2.2.2.2.2.2.2.2.2.2.2.1
  · rw [hr _ _ _ (by decide)]; exact h.2.2.2.2.2.2.2.2.2.2.2.2.2.2.2.2.2.2.2.2.2.2.2.2.2.2.2.2.2.2.2.2.2.2.2.1
  · rw [hr _ _ _ (by decide)]; exact h.2.2.2.2.2.2.2.2.2.2.2.2.2.2.2.2.2.2.2.2.2.2.2.2.2.2.2.2.2.2.2.2.2.2.2.2.1
  · exact hz _ _ _ (by decide) h.2.2.2.2.2.2.2.2.2.2.2.2.2.2.2.2.2.2.2.2.2.2.2.2.2.2.2.2.2.2.2.2.2.2.2.2.2.1
  · exact hz _ _ _ (by decide) h.2.2.2.2.2.2.2.2.2.2.2.2.2.2.2.2.2.2.2.2.2.2.2.2.2.2.2.2.2.2.2.2.2.2.2.2.2.2.1
  · exact hz _ _ _ (by decide) h.2.2.2.2.2.2.2.2.2.2.2.2.2.2.2.2.2.2.2.2.2.2.2.2.2.2.2.2.2.2.2.2.2.2.2.2.2.2.2.1
  · exact hz _ _ _ (by decide) h.2.2.2.2.2.2.2.2.2.2.2.2.2.2.2.2.2.2.2.2.2.2.2.2.2.2.2.2.2.2.2.2.2.2.2.2.2.2.2.2.1
  · exact hz _ _ _ (by decide) h.2.2.2.2.2.2.2.2.2.2.2.2.2.2.2.2.2.2.2.2.2.2.2.2.2.2.2.2.2.2.2.2.2.2.2.2.2.2.2.2.2.1
  · exact hz _ _ _ (by decide) h.2.2.2.2.2.2.2.2.2.2.2.2.2.2.2.2.2.2.2.2.2.2.2.2.2.2.2.2.2.2.2.2.2.2.2.2.2.2.2.2.2.2.1
  · rw [hr _ _ _ (by decide)]; exact h.2.2.2.2.2.2.2.2.2.2.2.2.2.2.2.2.2.2.2.2.2.2.2.2.2.2.2.2.2.2.2.2.2.2.2.2.2.2.2.2.2.2.2.1
  · rw [hr _ _ _ (by decide)]; exact h.2.2.2.2.2.2.2.2.2.2.2.2.2.2.2.2.2.2.2.2.2.2.2.2.2.2.2.2.2.2.2.2.2.2.2.2.2.2.2.2.2.2.2.2.1
  · rw [hr _ _ _ (by decide)]; exact h.2.2.2.2.2.2.2.2.2.2.2.2.2.2.2.2.2.2.2.2.2.2.2.2.2.2.2.2.2.2.2.2.2.2.2.2.2.2.2.2.2.2.2.2.2
theorem BS.keep3 {mc mc' mm : MM} {b F n M Ln E : Nat} (h : BS mc b F n M Ln E) (hP : BP mm b F n M Ln E) (hc : ∀ K i s, CBS b K i s → eq3 mc mc' K i s) (hz : ∀ K i k, K ≠ 3 → gZ mc K i = some k → gZ mc' K i = some k) : BS mc' b F n M Ln E := by
  have hn := hP.hn
  have x_s : gR mc' 56 0 b = some (0, b) := (hc 56 0 b (by unfold CBS; omega)).2.2.trans (h.s)
  have x_f0 : gN mc' 0 b 0 = F := (hc 0 b 0 (by unfold CBS; omega)).1.trans (h.f0)
  have x_f1 : gN mc' 0 b 1 = M := (hc 0 b 1 (by unfold CBS; omega)).1.trans (h.f1)
  have x_f2 : gN mc' 0 b 2 = Ln := (hc 0 b 2 (by unfold CBS; omega)).1.trans (h.f2)
  have x_f3 : gN mc' 0 b 3 = E := (hc 0 b 3 (by unfold CBS; omega)).1.trans (h.f3)
  have x_r4 : gR mc' 0 b 4 = some (9, b) := (hc 0 b 4 (by unfold CBS; omega)).2.2.trans (h.r4)
  have x_r5 : gR mc' 0 b 5 = some (13, b) := (hc 0 b 5 (by unfold CBS; omega)).2.2.trans (h.r5)
  have x_r6 : gR mc' 0 b 6 = some (14, b) := (hc 0 b 6 (by unfold CBS; omega)).2.2.trans (h.r6)
  have x_r7 : gR mc' 0 b 7 = some (15, b) := (hc 0 b 7 (by unfold CBS; omega)).2.2.trans (h.r7)
  have x_r8 : gR mc' 0 b 8 = some (16, b) := (hc 0 b 8 (by unfold CBS; omega)).2.2.trans (h.r8)
  have x_r9 : gR mc' 0 b 9 = some (17, b) := (hc 0 b 9 (by unfold CBS; omega)).2.2.trans (h.r9)
  have x_z13 : gZ mc' 13 b = some (2 * (F * n)) := hz _ _ _ (by decide) (h.z13)
  have x_z14 : gZ mc' 14 b = some (2 * n) := hz _ _ _ (by decide) (h.z14)
  have x_z15 : gZ mc' 15 b = some n := hz _ _ _ (by decide) (h.z15)
  have x_z16 : gZ mc' 16 b = some (2 * (F * n)) := hz _ _ _ (by decide) (h.z16)
  have x_z17 : gZ mc' 17 b = some E := hz _ _ _ (by decide) (h.z17)
  have x_e13 : ∀ p, p < 2 * (F * n) → gR mc' 13 b p = some (4, 16 * b + p) := fun p h0 => (hc 13 b p (by unfold CBS; omega)).2.2.trans (h.e13 p h0)
  have x_e14 : ∀ f, f < 2 * n → gR mc' 14 b f = some (2, 8 * b + f) := fun f h0 => (hc 14 b f (by unfold CBS; omega)).2.2.trans (h.e14 f h0)
  have x_e15 : ∀ s, s < n → gR mc' 15 b s = some (8, 4 * b + s) := fun s h0 => (hc 15 b s (by unfold CBS; omega)).2.2.trans (h.e15 s h0)
  have x_e17 : ∀ c, c < E → gR mc' 17 b c = some (18, 24 * b + c) := fun c h0 => (hc 17 b c (by unfold CBS; omega)).2.2.trans (h.e17 c h0)
  have x_z18 : ∀ c, c < E → gZ mc' 18 (24 * b + c) = some (F * n) := fun c h0 => hz _ _ _ (by decide) (h.z18 c h0)
  have x_t0 : gR mc' 9 b 0 = some (45, b) := (hc 9 b 0 (by unfold CBS; omega)).2.2.trans (h.t0)
  have x_t1 : gR mc' 9 b 1 = some (46, b) := (hc 9 b 1 (by unfold CBS; omega)).2.2.trans (h.t1)
  have x_t2 : gR mc' 9 b 2 = some (47, b) := (hc 9 b 2 (by unfold CBS; omega)).2.2.trans (h.t2)
  have x_t3 : gR mc' 9 b 3 = some (48, b) := (hc 9 b 3 (by unfold CBS; omega)).2.2.trans (h.t3)
  have x_t4 : gR mc' 9 b 4 = some (49, b) := (hc 9 b 4 (by unfold CBS; omega)).2.2.trans (h.t4)
  have x_z45 : gZ mc' 45 b = some 60 := hz _ _ _ (by decide) (h.z45)
  have x_z46 : gZ mc' 46 b = some 60 := hz _ _ _ (by decide) (h.z46)
  have x_z47 : gZ mc' 47 b = some 60 := hz _ _ _ (by decide) (h.z47)
  have x_z48 : gZ mc' 48 b = some 60 := hz _ _ _ (by decide) (h.z48)
  have x_z49 : gZ mc' 49 b = some 60 := hz _ _ _ (by decide) (h.z49)
  have x_p0 : ∀ p, p < 2 * (F * n) → gN mc' 4 (16 * b + p) 0 = M := fun p h0 => (hc 4 (16 * b + p) 0 (by unfold CBS; omega)).1.trans (h.p0 p h0)
  have x_p1 : ∀ p, p < 2 * (F * n) → gR mc' 4 (16 * b + p) 1 = some (27, 16 * b + p) := fun p h0 => (hc 4 (16 * b + p) 1 (by unfold CBS; omega)).2.2.trans (h.p1 p h0)
  have x_p2 : ∀ p, p < 2 * (F * n) → gR mc' 4 (16 * b + p) 2 = some (28, 16 * b + p) := fun p h0 => (hc 4 (16 * b + p) 2 (by unfold CBS; omega)).2.2.trans (h.p2 p h0)
  have x_p3 : ∀ p, p < 2 * (F * n) → gR mc' 4 (16 * b + p) 3 = some (29, 16 * b + p) := fun p h0 => (hc 4 (16 * b + p) 3 (by unfold CBS; omega)).2.2.trans (h.p3 p h0)
  have x_p4 : ∀ p, p < 2 * (F * n) → gR mc' 4 (16 * b + p) 4 = some (30, 16 * b + p) := fun p h0 => (hc 4 (16 * b + p) 4 (by unfold CBS; omega)).2.2.trans (h.p4 p h0)
  have x_p5 : ∀ p, p < 2 * (F * n) → gR mc' 4 (16 * b + p) 5 = some (31, 16 * b + p) := fun p h0 => (hc 4 (16 * b + p) 5 (by unfold CBS; omega)).2.2.trans (h.p5 p h0)
  have x_p6 : ∀ p, p < 2 * (F * n) → gR mc' 4 (16 * b + p) 6 = some (32, 16 * b + p) := fun p h0 => (hc 4 (16 * b + p) 6 (by unfold CBS; omega)).2.2.trans (h.p6 p h0)
  have x_p7 : ∀ p, p < 2 * (F * n) → gR mc' 4 (16 * b + p) 7 = some (33, 16 * b + p) := fun p h0 => (hc 4 (16 * b + p) 7 (by unfold CBS; omega)).2.2.trans (h.p7 p h0)
  have x_p8 : ∀ p, p < 2 * (F * n) → gR mc' 4 (16 * b + p) 8 = some (5, 16 * b + p) := fun p h0 => (hc 4 (16 * b + p) 8 (by unfold CBS; omega)).2.2.trans (h.p8 p h0)
  have x_z27 : ∀ p, p < 2 * (F * n) → gZ mc' 27 (16 * b + p) = some 61 := fun p h0 => hz _ _ _ (by decide) (h.z27 p h0)
  have x_z28 : ∀ p, p < 2 * (F * n) → gZ mc' 28 (16 * b + p) = some 61 := fun p h0 => hz _ _ _ (by decide) (h.z28 p h0)
  have x_z29 : ∀ p, p < 2 * (F * n) → gZ mc' 29 (16 * b + p) = some 61 := fun p h0 => hz _ _ _ (by decide) (h.z29 p h0)
  have x_z30 : ∀ p, p < 2 * (F * n) → gZ mc' 30 (16 * b + p) = some 61 := fun p h0 => hz _ _ _ (by decide) (h.z30 p h0)
  have x_z31 : ∀ p, p < 2 * (F * n) → gZ mc' 31 (16 * b + p) = some Ln := fun p h0 => hz _ _ _ (by decide) (h.z31 p h0)
  have x_z32 : ∀ p, p < 2 * (F * n) → gZ mc' 32 (16 * b + p) = some Ln := fun p h0 => hz _ _ _ (by decide) (h.z32 p h0)
  have x_z33 : ∀ p, p < 2 * (F * n) → gZ mc' 33 (16 * b + p) = some Ln := fun p h0 => hz _ _ _ (by decide) (h.z33 p h0)
  have x_q0 : ∀ p, p < 2 * (F * n) → gR mc' 5 (16 * b + p) 0 = some (34, 16 * b + p) := fun p h0 => (hc 5 (16 * b + p) 0 (by unfold CBS; omega)).2.2.trans (h.q0 p h0)
  have x_q1 : ∀ p, p < 2 * (F * n) → gR mc' 5 (16 * b + p) 1 = some (35, 16 * b + p) := fun p h0 => (hc 5 (16 * b + p) 1 (by unfold CBS; omega)).2.2.trans (h.q1 p h0)
  have x_q2 : ∀ p, p < 2 * (F * n) → gR mc' 5 (16 * b + p) 2 = some (36, 16 * b + p) := fun p h0 => (hc 5 (16 * b + p) 2 (by unfold CBS; omega)).2.2.trans (h.q2 p h0)
  have x_q3 : ∀ p, p < 2 * (F * n) → gR mc' 5 (16 * b + p) 3 = some (37, 16 * b + p) := fun p h0 => (hc 5 (16 * b + p) 3 (by unfold CBS; omega)).2.2.trans (h.q3 p h0)
  have x_z34 : ∀ p, p < 2 * (F * n) → gZ mc' 34 (16 * b + p) = some (M * Ln) := fun p h0 => hz _ _ _ (by decide) (h.z34 p h0)
  have x_z35 : ∀ p, p < 2 * (F * n) → gZ mc' 35 (16 * b + p) = some (M * Ln) := fun p h0 => hz _ _ _ (by decide) (h.z35 p h0)
  have x_z36 : ∀ p, p < 2 * (F * n) → gZ mc' 36 (16 * b + p) = some (M * Ln) := fun p h0 => hz _ _ _ (by decide) (h.z36 p h0)
  have x_z37 : ∀ p, p < 2 * (F * n) → gZ mc' 37 (16 * b + p) = some E := fun p h0 => hz _ _ _ (by decide) (h.z37 p h0)
  have x_e37 : ∀ p s, p < 2 * (F * n) → s < E → gR mc' 37 (16 * b + p) s = some (38, 24 * (16 * b + p) + s) := fun p s h0 h1 => (hc 37 (16 * b + p) s (by unfold CBS; omega)).2.2.trans (h.e37 p s h0 h1)
  have x_z38 : ∀ p s, p < 2 * (F * n) → s < E → gZ mc' 38 (24 * (16 * b + p) + s) = some (M * Ln) := fun p s h0 h1 => hz _ _ _ (by decide) (h.z38 p s h0 h1)
  have x_o0 : ∀ f, f < 2 * n → gR mc' 2 (8 * b + f) 0 = some (19, 8 * b + f) := fun f h0 => (hc 2 (8 * b + f) 0 (by unfold CBS; omega)).2.2.trans (h.o0 f h0)
  have x_o1 : ∀ f, f < 2 * n → gN mc' 2 (8 * b + f) 1 = E := fun f h0 => (hc 2 (8 * b + f) 1 (by unfold CBS; omega)).1.trans (h.o1 f h0)
  have x_o2 : ∀ f, f < 2 * n → gR mc' 2 (8 * b + f) 2 = some (26, 8 * b + f) := fun f h0 => (hc 2 (8 * b + f) 2 (by unfold CBS; omega)).2.2.trans (h.o2 f h0)
  have x_o3 : ∀ f, f < 2 * n → gR mc' 2 (8 * b + f) 3 = some (25, 8 * b + f) := fun f h0 => (hc 2 (8 * b + f) 3 (by unfold CBS; omega)).2.2.trans (h.o3 f h0)
  have x_z19 : ∀ f, f < 2 * n → gZ mc' 19 (8 * b + f) = some F := fun f h0 => hz _ _ _ (by decide) (h.z19 f h0)
  have x_z26 : ∀ f, f < 2 * n → gZ mc' 26 (8 * b + f) = some E := fun f h0 => hz _ _ _ (by decide) (h.z26 f h0)
  have x_z25 : ∀ f, f < 2 * n → gZ mc' 25 (8 * b + f) = some 400 := fun f h0 => hz _ _ _ (by decide) (h.z25 f h0)
  have x_e19 : ∀ f j, f < 2 * n → j < F → gR mc' 19 (8 * b + f) j = some (4, 16 * b + fpg F f j) := fun f j h0 h1 => (hc 19 (8 * b + f) j (by unfold CBS; omega)).2.2.trans (h.e19 f j h0 h1)
  have x_h0 : ∀ s, s < n → gR mc' 8 (4 * b + s) 0 = some (2, 8 * b + 2 * s) := fun s h0 => (hc 8 (4 * b + s) 0 (by unfold CBS; omega)).2.2.trans (h.h0 s h0)
  have x_h1 : ∀ s, s < n → gR mc' 8 (4 * b + s) 1 = some (2, 8 * b + (2 * s + 1)) := fun s h0 => (hc 8 (4 * b + s) 1 (by unfold CBS; omega)).2.2.trans (h.h1 s h0)
  exact ⟨x_s, x_f0, x_f1, x_f2, x_f3, x_r4, x_r5, x_r6, x_r7, x_r8, x_r9, x_z13, x_z14, x_z15, x_z16, x_z17, x_e13, x_e14, x_e15, x_e17, x_z18, x_t0, x_t1, x_t2, x_t3, x_t4, x_z45, x_z46, x_z47, x_z48, x_z49, x_p0, x_p1, x_p2, x_p3, x_p4, x_p5, x_p6, x_p7, x_p8, x_z27, x_z28, x_z29, x_z30, x_z31, x_z32, x_z33, x_q0, x_q1, x_q2, x_q3, x_z34, x_z35, x_z36, x_z37, x_e37, x_z38, x_o0, x_o1, x_o2, x_o3, x_z19, x_z26, x_z25, x_e19, x_h0, x_h1⟩
/-- cells beside the books -/
def sdC (K s : Nat) : Prop := scC K s ∨ (K = 10 ∧ s = 5) ∨ K = 50 ∨ (K = 1 ∧ s = 5) ∨ (20 ≤ K ∧ K ≤ 24) ∨ (K = 6 ∧ s = 1) ∨ (K = 11 ∧ (s = 9 ∨ s = 7)) ∨ K = 3 ∨ K = 55
def sdM (K s : Nat) : Prop := scM K s ∨ (K = 12 ∧ (s = 1 ∨ s = 6 ∨ s = 12 ∨ s = 74)) ∨ K = 59 ∨ (62 ≤ K ∧ K ≤ 72) ∨ K = 121
theorem RR.side {N N' : Nat} {mc mm mc' mm' : MM} (h : RR N mc mm) (hN : N ≤ N') (hz : ∀ K i, K ≠ 3 → gZ mc' K i = gZ mc K i) (hz' : ∀ K i k, gZ mm K i = some k → gZ mm' K i = some k) (hC : ∀ K, K ≠ 3 → gC mc' K = gC mc K) (hc : ∀ K i s, K < 59 → ¬ sdC K s → eq3 mc mc' K i s) (hm : ∀ K i s, (K = 12 ∨ (59 ≤ K ∧ K < 131)) → ¬ sdM K s → eq3 mm mm' K i s)
    (T : RT mc' mm') (Ca : RC mc' mm') (H : RH ((2000 * N' : Nat) : Int) mc' mm') (Mi : RMi mc' mm') (Pr : RPr mc' mm') (Pc : RPc mm') (h63 : ∀ x, gN mm 63 0 x ≤ gN mm' 63 0 x) : RR N' mc' mm' := by
  have c1 : ∀ K i s, K = 0 ∨ K = 2 ∨ (4 ≤ K ∧ K ≤ 5) ∨ (7 ≤ K ∧ K ≤ 9) ∨ (13 ≤ K ∧ K < 20) ∨ (25 ≤ K ∧ K < 39) ∨ (45 ≤ K ∧ K < 50) ∨ K = 53 ∨ K = 54 ∨ (56 ≤ K ∧ K < 59) → eq3 mc mc' K i s := fun K i s hk => hc K i s (by omega) (by unfold sdC scC; omega)
  have m1 : ∀ K i s, K = 60 ∨ K = 61 ∨ (73 ≤ K ∧ K < 121) ∨ (122 ≤ K ∧ K < 127) ∨ (K = 12 ∧ (s = 3 ∨ s = 19 ∨ s = 52 ∨ s = 69)) → eq3 mm mm' K i s := fun K i s hk => hm K i s (by omega) (by unfold sdM scM; omega)
  refine ⟨h.C.mv3 (fun K i s hk => (hc K i s (by omega) (by unfold sdC scC; omega)).2.2) (fun K i k h3 hk => by rw [hz _ _ h3]; exact hk), h.M.mv2 (fun s hs => (hm 12 0 s (by omega) (by unfold sdM scM; omega)).2.2) (fun K i k hk => hz' K i k hk), T, h.Sp.keep (fun K i s hk => hc K i s (by omega) (by unfold sdC scC; omega)) (fun K i s hk => m1 K i s (by omega)),
    Ca, H, Mi, Pr, h.Nb.keep (hc 11 0 8 (by omega) (by unfold sdC scC; omega)).1 (m1 12 0 19 (by omega)).1 (fun s => (c1 56 0 s (by omega)).2.2), ?_, h.Pf.keep hN (fun K i s hk => m1 K i s (by omega)), Pc, fun K hK => ?_, fun K i hK hi => ?_, fun K i hK hi => ?_⟩
  · intro b hb
    rw [(m1 12 0 19 (by omega)).1] at hb
    obtain ⟨F, n, M, Ln, E, hB⟩ := h.Bk b hb
    have hx := hB.keep (mc' := (mc'.1, mc'.2.1, mc'.2.2.1, mc.2.2.2.1, mc'.2.2.2.2)) (mm' := mm') (fun K i k hk => hk) (fun K h1 h2 => (m1 K 0 b (by omega)).1) (fun K i s hk => c1 K i s (by unfold CBS at hk; omega)) (fun K i s hk => c1 K i s (by unfold CTx at hk; omega)) (fun K i s hk => m1 K i s (by unfold MTx at hk; omega)) (fun p _ K i s hk => c1 K i s (by unfold CPg at hk; omega)) (fun p _ K i s hk => m1 K i s (by unfold MPg at hk; omega)) (fun p _ K i s hk => c1 K i s (by unfold CPl at hk; omega)) (fun p _ K i s hk => m1 K i s (by unfold MPl at hk; omega)) (fun p _ K i s hk => c1 K i s (by unfold CFo at hk; omega)) (fun p _ K i s hk => m1 K i s (by unfold MFo at hk; omega)) (fun p f _ _ K i s hk => c1 K i s (by unfold CPn at hk; omega)) (fun p f _ _ K i s hk => m1 K i s (by unfold MPn at hk; omega)) (fun p _ K i s hk => c1 K i s (by unfold CSe at hk; omega)) (fun p _ K i s hk => m1 K i s (by unfold MSe at hk; omega)) (fun p _ K i s hk => c1 K i s (by unfold CSh at hk; omega)) (fun p _ K i s hk => m1 K i s (by unfold MSh at hk; omega)) (fun K i s hk => c1 K i s (by unfold CLv at hk; omega)) (fun K i s hk => m1 K i s (by unfold MLv at hk; omega)) (fun K i s hk => m1 K i s (by unfold MPo at hk; omega)) (by rw [(m1 12 0 69 (by omega)).1]; exact Int.le_refl _) h63
    exact ⟨F, n, M, Ln, E, hx.hP, hB.hS.keep3 hB.hP (fun K i s hk => c1 K i s (by unfold CBS at hk; omega)) (fun K i k h3 hk => by rw [hz _ _ h3]; exact hk), hx.tx, hx.pg, hx.po, hx.pl, hx.ff, hx.pn, hx.se, hx.sh, hx.lv⟩
  · rw [hC K (by unfold isBK at hK; omega), (m1 12 0 19 (by omega)).1]; exact h.Fr.n K hK
  · rw [(m1 12 0 19 (by omega)).1] at hi
    rw [hz _ _ (by unfold isBK at hK; omega)]
    refine ⟨(h.Fr.z K i hK hi).1, fun s => ?_⟩
    obtain ⟨a, b, c⟩ := c1 K i s (by unfold isBK at hK; omega)
    rw [a, b, c]
    exact (h.Fr.z K i hK hi).2 s
  · rw [(m1 12 0 19 (by omega)).1] at hi
    rw [(m1 K 0 i (by unfold isMK at hK; omega)).1]; exact h.Fr.m K i hK hi
theorem RF.zk {S : List (Nat × Nat)} {m m' : MM} {r : RV} (h : RF S m (r, m')) : ∀ K i k, gZ m K i = some k → gZ m' K i = some k := fun K i k hk => by rw [h.z]; exact hk
section OLD
variable {N : Nat} {mc mm : MM}
theorem callR_type (h : RR N mc mm) (c : Int64) (n : Int) : CalI N (f_X11_type mc 0 c n) (f_X12_type mm 0 c n) [1, 2] := by
  obtain ⟨r, mc', b, mm', e1, e2, e3, e4⟩ := call_type (c := c) (n := n) h.C h.M h.T
  have z1 := fr_f_X11_type (m0 := mc) eqF.rf _ e1
  have z2 := fr_f_X12_type (m0 := mm) eqF.rf _ e2
  exact ⟨r, mc', b, mm', e1, e2, e3, h.side (Nat.le_succ N) (fun K i _ => z1.z K i) z2.zk (fun K _ => z1.c K) (fun K i s h1 h2 => z1.at3 (by unfold sdC scC at h2; simp only [nIn, and_true] <;> omega)) (fun K i s h1 h2 => z2.at3 (by unfold sdM scM at h2; simp only [nIn, and_true] <;> omega)) e4 (h.Ca.keep (z1.at3 (by simp only [nIn, and_true] <;> omega)).1 (z2.at3 (by simp only [nIn, and_true] <;> omega)).1 (fun K _ _ k => (z1.at3 (by simp only [nIn, and_true] <;> omega)).1) (fun K _ _ k => (z2.at3 (by simp only [nIn, and_true] <;> omega)).1)) (h.H.keep (by omega) (fun K i s hk => z1.at3 (by simp only [nIn, and_true] <;> omega)) (z1.c 3) (fun K i s hk => z2.at3 (by simp only [nIn, and_true] <;> omega))) (h.Mi.keep (fun K i s hk => z1.at3 (by simp only [nIn, and_true] <;> omega)) (fun K i s hk => z2.at3 (by simp only [nIn, and_true] <;> omega))) (h.Pr.keep (fun i s _ => z1.at3 (by simp only [nIn, and_true] <;> omega)) (fun K s h1 h2 => z2.at3 (by simp only [nIn, and_true] <;> omega))) (h.Pc.keep (fun K i s hk => z2.at3 (by simp only [nIn, and_true] <;> omega))) (fun x => Int.le_of_eq (z2.at3 (by simp only [nIn, and_true] <;> omega)).1.symm)⟩
theorem callR_wipe (h : RR N mc mm) : CalI N (f_X11_wipe mc 0) (f_X12_wipe mm 0) [] := by
  obtain ⟨v, mc', mm', e1, e2, e4⟩ := call_wipe h.C h.M h.T
  have z1 := fr_f_X11_wipe (m0 := mc) eqF.rf _ e1
  have z2 := fr_f_X12_wipe (m0 := mm) eqF.rf _ e2
  refine ⟨_, mc', v, mm', e1, e2, Or.inl ⟨rfl, ?_⟩, h.side (Nat.le_succ N) (fun K i _ => z1.z K i) z2.zk (fun K _ => z1.c K) (fun K i s h1 h2 => z1.at3 (by unfold sdC scC at h2; simp only [nIn, and_true] <;> omega)) (fun K i s h1 h2 => z2.at3 (by unfold sdM scM at h2; simp only [nIn, and_true] <;> omega)) e4 (h.Ca.keep (z1.at3 (by simp only [nIn, and_true] <;> omega)).1 (z2.at3 (by simp only [nIn, and_true] <;> omega)).1 (fun K _ _ k => (z1.at3 (by simp only [nIn, and_true] <;> omega)).1) (fun K _ _ k => (z2.at3 (by simp only [nIn, and_true] <;> omega)).1)) (h.H.keep (by omega) (fun K i s hk => z1.at3 (by simp only [nIn, and_true] <;> omega)) (z1.c 3) (fun K i s hk => z2.at3 (by simp only [nIn, and_true] <;> omega))) (h.Mi.keep (fun K i s hk => z1.at3 (by simp only [nIn, and_true] <;> omega)) (fun K i s hk => z2.at3 (by simp only [nIn, and_true] <;> omega))) (h.Pr.keep (fun i s _ => z1.at3 (by simp only [nIn, and_true] <;> omega)) (fun K s h1 h2 => z2.at3 (by simp only [nIn, and_true] <;> omega))) (h.Pc.keep (fun K i s hk => z2.at3 (by simp only [nIn, and_true] <;> omega))) (fun x => Int.le_of_eq (z2.at3 (by simp only [nIn, and_true] <;> omega)).1.symm)⟩
  have e5 : mm' = sN (sN mm 12 0 0 0) 12 0 1 0 := by
    have e6 : f_X12_wipe mm 0 = some (.inl (some (aI (gN (sN mm 12 0 0 0) 12 0 1))), sN (sN mm 12 0 0 0) 12 0 1 0) := rfl
    rw [e6] at e2
    injection e2 with e2
    injection e2 with _ e2
    exact e2.symm
  rw [e5, gN_sN, if_neg (fun q => absurd q.2.2 (by decide)), gthr]
theorem callR_fault (h : RR N mc mm) : ∃ v, f_X11_fault mc 0 = some v ∧ f_X12_fault mm 0 = some (.inl (some (aI v)), sN mm 12 0 0 0) ∧ RR (N + 1) mc (sN mm 12 0 0 0) := by
  have hM1 : SM (sN mm 12 0 0 0) := (h.thr 0).M
  obtain ⟨v, e1, e2, -⟩ := fault_same h.C hM1 (h.thr 0).T
  refine ⟨v, ?_, ?_, (h.thr 0).up (Nat.le_succ N)⟩
  · unfold f_X11_fault
    rw [nk_of h.C.r0, e1]
    rfl
  · show (f_X12_tapeFault (sN mm 12 0 0 0) 0).bind _ = _
    rw [e2]
    rfl
theorem callR_hour (h : RR N mc mm) : ∃ v, f_X11_hour mc 0 = some v ∧ f_X12_hour mm 0 = some (.inl (some (aI v)), sN mm 12 0 0 0) ∧ RR (N + 1) mc (sN mm 12 0 0 0) := by
  refine ⟨gN mc 11 0 10, rfl, ?_, (h.thr 0).up (Nat.le_succ N)⟩
  show some ((.inl (some (aI (gN (sN mm 12 0 0 0) 12 0 69))), sN mm 12 0 0 0) : RV × MM) = _
  rw [gthr' _ _ (Or.inr (by decide)), h.Mi.2.1.1]
theorem callR_piece (h : RR N mc mm) (p w : Int) : CalI N (f_X11_piece mc 0 p w) (f_X12_piece mm 0 p w) [0, 1] := by
  obtain ⟨r, mc', b, mm', e1, e2, e3, e4⟩ := call_piece (p := p) (w := w) h.C h.M h.Ca
  have z1 := fr_f_X11_piece (m0 := mc) eqF.rf _ e1
  have z2 := fr_f_X12_piece (m0 := mm) eqF.rf _ e2
  exact ⟨r, mc', b, mm', e1, e2, e3, h.side (Nat.le_succ N) (fun K i _ => z1.z K i) z2.zk (fun K _ => z1.c K) (fun K i s h1 h2 => z1.at3 (by unfold sdC scC at h2; simp only [nIn, and_true] <;> omega)) (fun K i s h1 h2 => z2.at3 (by unfold sdM scM at h2; simp only [nIn, and_true] <;> omega)) (h.T.keep (z1.at3 (by simp only [nIn, and_true] <;> omega)).1 (z2.at3 (by simp only [nIn, and_true] <;> omega)).1 (fun k => (z1.at3 (by simp only [nIn, and_true] <;> omega)).1) (fun k => (z2.at3 (by simp only [nIn, and_true] <;> omega)).1)) e4 (h.H.keep (by omega) (fun K i s hk => z1.at3 (by simp only [nIn, and_true] <;> omega)) (z1.c 3) (fun K i s hk => z2.at3 (by simp only [nIn, and_true] <;> omega))) (h.Mi.keep (fun K i s hk => z1.at3 (by simp only [nIn, and_true] <;> omega)) (fun K i s hk => z2.at3 (by simp only [nIn, and_true] <;> omega))) (h.Pr.keep (fun i s _ => z1.at3 (by simp only [nIn, and_true] <;> omega)) (fun K s h1 h2 => z2.at3 (by simp only [nIn, and_true] <;> omega))) (h.Pc.keep (fun K i s hk => z2.at3 (by simp only [nIn, and_true] <;> omega))) (fun x => Int.le_of_eq (z2.at3 (by simp only [nIn, and_true] <;> omega)).1.symm)⟩
theorem callR_box (h : RR N mc mm) {p q : Int} (hq : nrm q) : CalI N (f_X11_box mc 0 p q) (f_X12_box mm 0 p q) [1, 0] := by
  obtain ⟨r, mc', b, mm', e1, e2, e3, e4⟩ := call_box (p := p) hq h.C h.M h.Ca
  have z1 := fr_f_X11_box (m0 := mc) eqF.rf _ e1
  have z2 := fr_f_X12_box (m0 := mm) eqF.rf _ e2
  exact ⟨r, mc', b, mm', e1, e2, e3, h.side (Nat.le_succ N) (fun K i _ => z1.z K i) z2.zk (fun K _ => z1.c K) (fun K i s h1 h2 => z1.at3 (by unfold sdC scC at h2; simp only [nIn, and_true] <;> omega)) (fun K i s h1 h2 => z2.at3 (by unfold sdM scM at h2; simp only [nIn, and_true] <;> omega)) (h.T.keep (z1.at3 (by simp only [nIn, and_true] <;> omega)).1 (z2.at3 (by simp only [nIn, and_true] <;> omega)).1 (fun k => (z1.at3 (by simp only [nIn, and_true] <;> omega)).1) (fun k => (z2.at3 (by simp only [nIn, and_true] <;> omega)).1)) e4 (h.H.keep (by omega) (fun K i s hk => z1.at3 (by simp only [nIn, and_true] <;> omega)) (z1.c 3) (fun K i s hk => z2.at3 (by simp only [nIn, and_true] <;> omega))) (h.Mi.keep (fun K i s hk => z1.at3 (by simp only [nIn, and_true] <;> omega)) (fun K i s hk => z2.at3 (by simp only [nIn, and_true] <;> omega))) (h.Pr.keep (fun i s _ => z1.at3 (by simp only [nIn, and_true] <;> omega)) (fun K s h1 h2 => z2.at3 (by simp only [nIn, and_true] <;> omega))) (h.Pc.keep (fun K i s hk => z2.at3 (by simp only [nIn, and_true] <;> omega))) (fun x => Int.le_of_eq (z2.at3 (by simp only [nIn, and_true] <;> omega)).1.symm)⟩
theorem callR_account (h : RR N mc mm) (w p : Int) : CalI N (f_X11_account mc 0 w p) (f_X12_account mm 0 w p) [1, 0] := by
  obtain ⟨r, mc', b, t, e1, e2, e3, e4⟩ := call_account (w := w) (p := p) h.C h.M h.H h.Pr h.Mi
  refine ⟨r, mc', b, _, e1, e3, by rw [gthr]; exact e4, ?_⟩
  rcases e2 with rfl | rfl
  · exact (h.thr t).up (Nat.le_succ N)
  · exact ((h.thr t).up (Nat.le_succ N)).bX
theorem callR_paper (h : RR N mc mm) (p : Int) : CalI N (f_X11_paper mc 0 p) (f_X12_paper mm 0 p) [0] := by
  obtain ⟨r, mc', b, mm', e1, e2, e3, e4⟩ := call_paper (p := p) h.C h.M h.Mi
  have z1 := fr_f_X11_paper (m0 := mc) eqF.rf _ e1
  have z2 := fr_f_X12_paper (m0 := mm) eqF.rf _ e2
  exact ⟨r, mc', b, mm', e1, e2, e3, h.side (Nat.le_succ N) (fun K i _ => z1.z K i) z2.zk (fun K _ => z1.c K) (fun K i s h1 h2 => z1.at3 (by unfold sdC scC at h2; simp only [nIn, and_true] <;> omega)) (fun K i s h1 h2 => z2.at3 (by unfold sdM scM at h2; simp only [nIn, and_true] <;> omega)) (h.T.keep (z1.at3 (by simp only [nIn, and_true] <;> omega)).1 (z2.at3 (by simp only [nIn, and_true] <;> omega)).1 (fun k => (z1.at3 (by simp only [nIn, and_true] <;> omega)).1) (fun k => (z2.at3 (by simp only [nIn, and_true] <;> omega)).1)) (h.Ca.keep (z1.at3 (by simp only [nIn, and_true] <;> omega)).1 (z2.at3 (by simp only [nIn, and_true] <;> omega)).1 (fun K _ _ k => (z1.at3 (by simp only [nIn, and_true] <;> omega)).1) (fun K _ _ k => (z2.at3 (by simp only [nIn, and_true] <;> omega)).1)) (h.H.keep (by omega) (fun K i s hk => z1.at3 (by simp only [nIn, and_true] <;> omega)) (z1.c 3) (fun K i s hk => z2.at3 (by simp only [nIn, and_true] <;> omega))) e4 (h.Pr.keep (fun i s _ => z1.at3 (by simp only [nIn, and_true] <;> omega)) (fun K s h1 h2 => z2.at3 (by simp only [nIn, and_true] <;> omega))) (h.Pc.keep (fun K i s hk => z2.at3 (by simp only [nIn, and_true] <;> omega))) (fun x => Int.le_of_eq (z2.at3 (by simp only [nIn, and_true] <;> omega)).1.symm)⟩
theorem callR_men (h : RR N mc mm) (p q : Int) : CalI N (f_X11_men mc 0 p q) (f_X12_men mm 0 p q) [0, 1] := by
  obtain ⟨r, mc', b, mm', e1, e2, e3, e4⟩ := call_men (p := p) (q := q) h.C h.M h.Pr
  have z1 := fr_f_X11_men (m0 := mc) eqF.rf _ e1
  have z2 := fr_f_X12_men (m0 := mm) eqF.rf _ e2
  exact ⟨r, mc', b, mm', e1, e2, e3, h.side (Nat.le_succ N) (fun K i _ => z1.z K i) z2.zk (fun K _ => z1.c K) (fun K i s h1 h2 => z1.at3 (by unfold sdC scC at h2; simp only [nIn, and_true] <;> omega)) (fun K i s h1 h2 => z2.at3 (by unfold sdM scM at h2; simp only [nIn, and_true] <;> omega)) (h.T.keep (z1.at3 (by simp only [nIn, and_true] <;> omega)).1 (z2.at3 (by simp only [nIn, and_true] <;> omega)).1 (fun k => (z1.at3 (by simp only [nIn, and_true] <;> omega)).1) (fun k => (z2.at3 (by simp only [nIn, and_true] <;> omega)).1)) (h.Ca.keep (z1.at3 (by simp only [nIn, and_true] <;> omega)).1 (z2.at3 (by simp only [nIn, and_true] <;> omega)).1 (fun K _ _ k => (z1.at3 (by simp only [nIn, and_true] <;> omega)).1) (fun K _ _ k => (z2.at3 (by simp only [nIn, and_true] <;> omega)).1)) (h.H.keep (by omega) (fun K i s hk => z1.at3 (by simp only [nIn, and_true] <;> omega)) (z1.c 3) (fun K i s hk => z2.at3 (by simp only [nIn, and_true] <;> omega))) (h.Mi.keep (fun K i s hk => z1.at3 (by simp only [nIn, and_true] <;> omega)) (fun K i s hk => z2.at3 (by simp only [nIn, and_true] <;> omega))) e4 (h.Pc.keep (fun K i s hk => z2.at3 (by simp only [nIn, and_true] <;> omega))) (fun x => Int.le_of_eq (z2.at3 (by simp only [nIn, and_true] <;> omega)).1.symm)⟩
theorem call_wear2 {mc mm : MM} {p : Int} (hC : SC mc) (hM : SM mm) (hR : RC mc mm) : ∃ r mc' b mm', f_X11_wear mc 0 p = some (r, mc') ∧ f_X12_wear mm 0 p = some (.inl (some (aI b)), mm') ∧ Ans [0, 2] r (gN mm' 12 0 0) b ∧ RC mc' mm' ∧ ∀ x, gN mm 63 0 x ≤ gN mm' 63 0 x := by
  have hR' := hR
  obtain ⟨h1, h2, h3, h4, h5, h6, h7⟩ := hR
  obtain ⟨n, hn⟩ : ∃ n : Nat, gN mm 12 0 6 = n := ⟨(gN mm 12 0 6).toNat, by omega⟩
  unfold f_X11_wear f_X12_wear
  rw [nk_of hC.r1, has_c, Option.bind_some, isIn_m, ck_of ⟨by omega, by omega⟩, Option.bind_some, h1]
  rw [hn] at h2 h3 h5 h6 h7 ⊢
  by_cases hp : 0 ≤ p ∧ p < n
  · rw [if_pos hp, if_pos (by omega), rqI mc (by decide)]
    rw [bV_ok]
    obtain ⟨k, rfl⟩ : ∃ k : Nat, p = k := ⟨p.toNat, by omega⟩
    obtain ⟨-, g2, -⟩ := h5 k (by omega)
    rw [nk_of hC.r1, nk_of hC.c1, ldN_of hC.z21 (by omega), nk_of hM.r8, ldN_of hM.z63 (by omega), show ((k : Int)).toNat = k by omega, (h4 k).2.1]
    by_cases h9 : gN mm 63 0 k = 3
    · rw [if_pos (by omega), if_neg (by omega)]
      unfold j_X11_wear_0_29 j_X12_wear_0_36
      rw [rqS0, holds_m]
      exact ⟨.inr 2, bX mc, 0, sN mm 12 0 0 2, rfl, by simp [bI], Or.inr ⟨2, 1, rfl, rfl, by rw [gthr]; rfl⟩, (hR'.thr 2).bX, fun x => by rw [gthr' _ _ (Or.inl (by decide))]; exact Int.le_refl _⟩
    · rw [if_neg (by omega), if_pos h9]
      unfold j_X11_wear_0_29 j_X12_wear_0_36
      rw [rqS mc (by decide), holds_m]
      rw [bV_ok, if_pos (show (0 : Int) = 0 from rfl), bI_ok]
      have hM1 := hM.thr 0
      rw [if_pos (by decide), nk_of hC.r1, nk_of hC.c1, ldN_of hC.z21 (by omega), ck_of ⟨by rw [show ((k : Int)).toNat = k by omega, (h4 k).2.1]; omega, by rw [show ((k : Int)).toNat = k by omega, (h4 k).2.1]; omega⟩, stN_of hC.z21 (by omega),
        nk_of hM1.r8, ldN_of hM1.z63 (by omega), gthr' _ _ (Or.inl (by decide)), show ((k : Int)).toNat = k by omega, (h4 k).2.1, ck_of ⟨by omega, by omega⟩, stN_of hM1.z63 (by omega)]
      have hC2 : SC (sN mc 21 0 k (gN mm 63 0 k + 1)) := hC.mv (fun _ _ _ _ => rfl) (fun _ _ _ q => q)
      have hM2 : SM (sN (sN mm 12 0 0 0) 63 0 k (gN mm 63 0 k + 1)) := hM1.mv (fun _ => rfl) (fun _ _ _ q => q)
      rw [show ((k : Int)).toNat = k by omega, nk_of hC2.r1, nk_of hC2.c1, ldN_of hC2.z21 (by omega), nk_of hM2.r8, ldN_of hM2.z63 (by omega), show ((k : Int)).toNat = k by omega, gN_sN, if_pos ⟨rfl, rfl, rfl⟩, gN_sN, if_pos ⟨rfl, rfl, rfl⟩]
      refine ⟨_, _, _, _, rfl, rfl, Or.inl ⟨rfl, ?_⟩, ?_, fun x => ?_⟩
      · rw [gN_sN, if_neg (fun q => absurd q.1 (by decide)), gthr]
      · have e6 : gN (sN (sN mm 12 0 0 0) 63 0 k (gN mm 63 0 k + 1)) 12 0 6 = n := by rw [gN_sN, if_neg (fun q => absurd q.1 (by decide)), gthr' _ _ (Or.inr (by decide)), hn]
        have eK : ∀ K j, K ≠ 12 → K ≠ 63 → gN (sN (sN mm 12 0 0 0) 63 0 k (gN mm 63 0 k + 1)) K 0 j = gN mm K 0 j := fun K j a b => by rw [gN_sN, if_neg (fun q => b q.1), gthr' _ _ (Or.inl a)]
        have e63 : ∀ j, gN (sN (sN mm 12 0 0 0) 63 0 k (gN mm 63 0 k + 1)) 63 0 j = if j = k then gN mm 63 0 k + 1 else gN mm 63 0 j := fun j => by
          rw [gN_sN]
          by_cases q : j = k
          · rw [if_pos ⟨rfl, rfl, q⟩, if_pos q]
          · rw [if_neg (fun z => q z.2.2), if_neg q, gthr' _ _ (Or.inl (by decide))]
        have c21 : ∀ j, gN (sN mc 21 0 k (gN mm 63 0 k + 1)) 21 0 j = if j = k then gN mm 63 0 k + 1 else gN mc 21 0 j := fun j => by
          rw [gN_sN]
          by_cases q : j = k
          · rw [if_pos ⟨rfl, rfl, q⟩, if_pos q]
          · rw [if_neg (fun z => q z.2.2), if_neg q]
        have cK : ∀ K j, K ≠ 21 → gN (sN mc 21 0 k (gN mm 63 0 k + 1)) K 0 j = gN mc K 0 j := fun K j a => by rw [gN_sN, if_neg (fun q => a q.1)]
        refine ⟨by rw [cK 1 5 (by decide), e6, h1, hn], by rw [e6]; omega, by rw [e6]; omega, fun j => ?_, fun j hj => ?_, fun j hj => ?_, fun j hj => by rw [e6] at hj; rw [e63, if_neg (by omega)]; exact h7 j hj⟩
        · rw [cK 20 j (by decide), c21, cK 22 j (by decide), cK 23 j (by decide), cK 24 j (by decide), eK 62 j (by decide) (by decide), e63, eK 64 j (by decide) (by decide), eK 65 j (by decide) (by decide), eK 66 j (by decide) (by decide), (h4 j).2.1]
          exact ⟨(h4 j).1, rfl, (h4 j).2.2.1, (h4 j).2.2.2.1, (h4 j).2.2.2.2⟩
        · rw [e6] at hj ⊢
          rw [eK 62 j (by decide) (by decide), e63, eK 65 j (by decide) (by decide)]
          obtain ⟨a, b, c⟩ := h5 j hj
          refine ⟨a, ?_, c⟩
          by_cases q : j = k
          · rw [if_pos q]; omega
          · rw [if_neg q]; exact b
        · rw [e6, eK 66 j (by decide) (by decide)]
          exact h6 j hj
      · rw [gN_sN]
        by_cases q : x = k
        · rw [if_pos ⟨rfl, rfl, q⟩, q]; omega
        · rw [if_neg (fun z => q z.2.2), gthr' _ _ (Or.inl (by decide))]; exact Int.le_refl _
  · rw [if_neg hp, if_neg (by omega), rqI0]
    unfold j_X12_wear_0_36
    rw [holds_m]
    exact ⟨.inr 0, bX mc, 0, sN mm 12 0 0 1, rfl, by simp [bI], Or.inr ⟨0, 0, rfl, rfl, by rw [gthr]; rfl⟩, (hR'.thr 1).bX, fun x => by rw [gthr' _ _ (Or.inl (by decide))]; exact Int.le_refl _⟩
theorem callR_wear (h : RR N mc mm) (p : Int) : CalI N (f_X11_wear mc 0 p) (f_X12_wear mm 0 p) [0, 2] := by
  obtain ⟨r, mc', b, mm', e1, e2, e3, e4, e5⟩ := call_wear2 (p := p) h.C h.M h.Ca
  have z1 := fr_f_X11_wear (m0 := mc) eqF.rf _ e1
  have z2 := fr_f_X12_wear (m0 := mm) eqF.rf _ e2
  exact ⟨r, mc', b, mm', e1, e2, e3, h.side (Nat.le_succ N) (fun K i _ => z1.z K i) z2.zk (fun K _ => z1.c K) (fun K i s h1 h2 => z1.at3 (by unfold sdC scC at h2; simp only [nIn, and_true] <;> omega)) (fun K i s h1 h2 => z2.at3 (by unfold sdM scM at h2; simp only [nIn, and_true] <;> omega)) (h.T.keep (z1.at3 (by simp only [nIn, and_true] <;> omega)).1 (z2.at3 (by simp only [nIn, and_true] <;> omega)).1 (fun k => (z1.at3 (by simp only [nIn, and_true] <;> omega)).1) (fun k => (z2.at3 (by simp only [nIn, and_true] <;> omega)).1)) e4 (h.H.keep (by omega) (fun K i s hk => z1.at3 (by simp only [nIn, and_true] <;> omega)) (z1.c 3) (fun K i s hk => z2.at3 (by simp only [nIn, and_true] <;> omega))) (h.Mi.keep (fun K i s hk => z1.at3 (by simp only [nIn, and_true] <;> omega)) (fun K i s hk => z2.at3 (by simp only [nIn, and_true] <;> omega))) (h.Pr.keep (fun i s _ => z1.at3 (by simp only [nIn, and_true] <;> omega)) (fun K s h1 h2 => z2.at3 (by simp only [nIn, and_true] <;> omega))) (h.Pc.keep (fun K i s hk => z2.at3 (by simp only [nIn, and_true] <;> omega))) e5⟩
/-- a piece more, on top of a box -/
theorem RPc.add {mc mm : MM} {b n : Nat} (h : RPc mm) (hR : RC mc mm) (hn : gN mm 12 0 6 = n) (hn4 : n < 400) (hb : b < 28) : RPc (sN (pOn (sN (sN mm 62 0 n b) 63 0 n 0) 64 65 66 b n) 12 0 6 (n + 1)) := by
  obtain ⟨-, -, -, -, h5, h6, -⟩ := hR
  rw [hn] at h5 h6
  have e6 : gN (sN (pOn (sN (sN mm 62 0 n b) 63 0 n 0) 64 65 66 b n) 12 0 6 (n + 1)) 12 0 6 = n + 1 := by rw [gN_sN, if_pos ⟨rfl, rfl, rfl⟩]
  have m64 : ∀ j, gN (sN (pOn (sN (sN mm 62 0 n b) 63 0 n 0) 64 65 66 b n) 12 0 6 (n + 1)) 64 0 j = if j = n then (b : Int) else gN mm 64 0 j := fun j => by simp [pOn, gN_sN]
  have m65 : ∀ j, gN (sN (pOn (sN (sN mm 62 0 n b) 63 0 n 0) 64 65 66 b n) 12 0 6 (n + 1)) 65 0 j = if j = n then gN mm 66 0 b else gN mm 65 0 j := fun j => by simp [pOn, gN_sN]
  have m66 : ∀ j, gN (sN (pOn (sN (sN mm 62 0 n b) 63 0 n 0) 64 65 66 b n) 12 0 6 (n + 1)) 66 0 j = if j = b then (n : Int) else gN mm 66 0 j := fun j => by simp [pOn, gN_sN]
  have m90 : ∀ j, gN (sN (pOn (sN (sN mm 62 0 n b) 63 0 n 0) 64 65 66 b n) 12 0 6 (n + 1)) 90 0 j = gN mm 90 0 j := fun j => by simp [pOn, gN_sN]
  have m100 : ∀ j, gN (sN (pOn (sN (sN mm 62 0 n b) 63 0 n 0) 64 65 66 b n) 12 0 6 (n + 1)) 100 0 j = gN mm 100 0 j := fun j => by simp [pOn, gN_sN]
  have ht := h.t
  have hu := h.u
  have hj := h.j
  have hh := h.h
  have hw := h.w
  have hp := h.p
  have hi := h.i
  rw [hn] at hu hj hh hw hp
  generalize (sN (pOn (sN (sN mm 62 0 n b) 63 0 n 0) 64 65 66 b n) 12 0 6 (n + 1)) = mm' at *
  have l5 : ∀ x : Nat, x < n → gN mm 65 0 x < n := fun x hx => (h5 x (by omega)).2.2.2
  have l6 : ∀ x : Nat, x < 28 → gN mm 66 0 x < n := fun x hx => (h6 x hx).2
  unfold RPc
  rw [e6]
  simp only [m64, m65, m66, m90, m100]
  refine ⟨fun b' x hb' hx => ?_, fun x y hx h1 h2 => ?_, fun x x' y hx hx' h1 h2 h3 h4 => ?_, fun b' x y hb' h1 hx h2 => ?_, fun x hx => ?_, fun q k x hq hk hk' hx => ?_, fun q k q' k' x a1 a2 a3 a4 a5 a6 a7 a8 => hi q k q' k' x a1 a2 a3 a4 a5 a6 a7 a8⟩
  · by_cases q : b' = b
    · rw [if_pos q] at hx
      rw [if_pos (show x = n by omega), q]
    · rw [if_neg q] at hx
      have := l6 b' hb'
      rw [if_neg (show ¬ x = n by omega)]
      exact ht b' x hb' hx
  · by_cases q : x = n
    · rw [if_pos q] at h2 ⊢
      have := l6 b hb
      rw [if_neg (show ¬ y = n by omega)]
      exact ht b y hb h2
    · rw [if_neg q] at h1 h2 ⊢
      have := l5 x (by omega)
      rw [if_neg (show ¬ y = n by omega)]
      exact hu x y (by omega) h1 h2
  · by_cases q : x = n
    · by_cases q' : x' = n
      · rw [q, q']
      · rw [if_pos q] at h3
        rw [if_neg q'] at h4 h2
        exact absurd h4 (hh b x' y hb h3 (by omega) h2)
    · by_cases q' : x' = n
      · rw [if_pos q'] at h4
        rw [if_neg q] at h3 h1
        exact absurd h3 (hh b x y hb h4 (by omega) h1)
      · rw [if_neg q] at h1 h3
        rw [if_neg q'] at h2 h4
        exact hj x x' y (by omega) (by omega) h1 h2 h3 h4
  · by_cases q : b' = b
    · rw [if_pos q] at h1
      by_cases q' : x = n
      · rw [if_pos q']
        have := l6 b hb
        omega
      · rw [if_neg q']
        have := l5 x (by omega)
        omega
    · rw [if_neg q] at h1
      by_cases q' : x = n
      · rw [if_pos q']
        intro z
        have y1 := ht b y hb z
        have y2 := ht b' y hb' h1
        omega
      · rw [if_neg q'] at h2 ⊢
        exact hh b' x y hb' h1 (by omega) h2
  · by_cases q : x = n
    · rw [if_pos q]; omega
    · rw [if_neg q]; exact hw x (by omega)
  · have := hp q k x hq hk hk' hx
    rw [if_neg (show ¬ x = n by omega)]
    omega
theorem cast_loop2 {mc mm : MM} {b : Nat} {k : Int} (hb : b < 28) (hk : 1 ≤ k ∧ k ≤ 40) (hC : SC mc) (hM : SM mm) (hR : RC mc mm) (hQ : RPc mm) (h0 : gN mm 12 0 0 = 0) (hcap : gN mm 12 0 6 + k ≤ 400) :
    ∃ mc' mm', lpb (fun s => b_X11_cast_51 0 b k s.1 s.2) (0, mc) = some mc' ∧ lpb (fun s => b_X12_cast_52 0 b k s.1 s.2) (0, mm) = some mm' ∧ SC mc' ∧ RC mc' mm' ∧ gN mm' 12 0 0 = 0 ∧ RPc mm' ∧ ∀ x, gN mm 63 0 x ≤ gN mm' 63 0 x := by
  obtain ⟨n, hn⟩ : ∃ n : Nat, gN mm 12 0 6 = n := ⟨(gN mm 12 0 6).toNat, by have := hR.2.1; omega⟩
  refine lpb_rel (b := fun s => b_X11_cast_51 0 b k s.1 s.2) (c := fun s => b_X12_cast_52 0 b k s.1 s.2) (fun s t => ∃ j : Nat, s.1 = j ∧ t.1 = j ∧ (j : Int) ≤ k ∧ SC s.2 ∧ SM t.2 ∧ RC s.2 t.2 ∧ gN t.2 12 0 0 = 0 ∧ gN t.2 12 0 6 = (n + j : Nat) ∧ RPc t.2 ∧ ∀ x, gN mm 63 0 x ≤ gN t.2 63 0 x) (fun x y => SC x ∧ RC x y ∧ gN y 12 0 0 = 0 ∧ RPc y ∧ ∀ x, gN mm 63 0 x ≤ gN y 63 0 x) (fun s => (k - s.1).toNat) ?_ (0, mc) (0, mm) ⟨0, rfl, rfl, by omega, hC, hM, hR, h0, by simpa using hn, hQ, fun _ => Int.le_refl _⟩
  rintro ⟨_, m1⟩ ⟨_, m2⟩ ⟨j, rfl, rfl, g1, gC, gM, gR', g0, gn, gQ, g63⟩
  simp only at g1 gC gM gR' g0 gn gQ g63
  show (∃ s' t', b_X11_cast_51 0 b k (j : Int) m1 = some (.inl s') ∧ b_X12_cast_52 0 b k (j : Int) m2 = some (.inl t') ∧ _) ∨ ∃ x y, b_X11_cast_51 0 b k (j : Int) m1 = some (.inr x) ∧ b_X12_cast_52 0 b k (j : Int) m2 = some (.inr y) ∧ _
  unfold b_X11_cast_51 b_X12_cast_52
  by_cases hc : k ≤ (j : Int)
  · right
    rw [if_pos hc, if_pos hc]
    exact ⟨_, _, rfl, rfl, gC, gR', g0, gQ, g63⟩
  · left
    have hl : n + j < 400 := by omega
    have hc1 : gN m1 1 0 5 = ((n + j : Nat) : Int) := by rw [gR'.1, gn]
    rw [if_neg hc, if_neg hc, nk_of gC.r1, add_c gC hb hc1 hl, bV_ok, ck_of ⟨by omega, by omega⟩]
    refine ⟨_, ((j : Int) + 1, sN (pOn (sN (sN m2 62 0 (n + j) b) 63 0 (n + j) 0) 64 65 66 b (n + j)) 12 0 6 (((n + j : Nat) : Int) + 1)), rfl, ?_, ⟨j + 1, by simp, by simp, by omega, ?_, ?_, gR'.add gn hl hb, ?_, ?_, gQ.add gR' gn hl hb, fun x => ?_⟩, by simp only; omega⟩
    · apply ev_eq
      refine ev_nk gM.r7 (ev_stN gM.z62 (by rw [gn]; omega) ?_)
      rw [gn, Int.toNat_natCast]
      refine ev_nk gM.r8 ?_
      rw [show gN (sN m2 62 0 (n + j) b) 12 0 6 = ((n + j : Nat) : Int) by rw [gN_sN, if_neg (fun q => absurd q.1 (by decide)), gn]]
      refine ev_stN gM.z63 (by omega) ?_
      rw [Int.toNat_natCast, show gN (sN (sN m2 62 0 (n + j) b) 63 0 (n + j) 0) 12 0 6 = ((n + j : Nat) : Int) by rw [gN_sN, if_neg (fun q => absurd q.1 (by decide)), gN_sN, if_neg (fun q => absurd q.1 (by decide)), gn]]
      have hM2 : SM (sN (sN m2 62 0 (n + j) b) 63 0 (n + j) 0) := gM.mv (fun _ => rfl) (fun _ _ _ q => q)
      rw [puts_m hM2 hb hl, bV_ok]
      rw [show gN (pOn (sN (sN m2 62 0 (n + j) b) 63 0 (n + j) 0) 64 65 66 b (n + j)) 12 0 6 = ((n + j : Nat) : Int) by simp [pOn, gN_sN, gn]]
      exact ev_ck (by omega) (ev_lt (ev_ck (by omega) (ev_some rfl)))
    · exact gC.mv (fun _ _ _ _ => rfl) (fun _ _ _ q => q)
    · exact gM.mv (fun _ => rfl) (fun _ _ _ q => q)
    · simp [pOn, gN_sN, g0]
    · simp [pOn, gN_sN]
      omega
    · have y1 := g63 x
      have y2 := gR'.2.2.2.2.2.2 x
      rw [gn] at y2
      simp [pOn, gN_sN]
      by_cases q : x = n + j
      · rw [if_pos q]; have := y2 (by omega); omega
      · rw [if_neg q]; exact y1
theorem call_cast2 {mc mm : MM} {p q : Int} (hC : SC mc) (hM : SM mm) (hR : RC mc mm) (hQ : RPc mm) : ∃ r mc' b mm', f_X11_cast mc 0 p q = some (r, mc') ∧ f_X12_cast mm 0 p q = some (.inl (some (aI b)), mm') ∧ Ans [1, 2] r (gN mm' 12 0 0) b ∧ RC mc' mm' ∧ RPc mm' ∧ ∀ x, gN mm 63 0 x ≤ gN mm' 63 0 x := by
  have h1 := hR.1
  have h2 := hR.2.1
  have h3 := hR.2.2.1
  have bad : f_X11_cast mc 0 p q = some (.inr 1, bX mc) → f_X12_cast mm 0 p q = j_X12_cast_0_21 mm 0 p q 0 → ∃ r mc' b mm', f_X11_cast mc 0 p q = some (r, mc') ∧ f_X12_cast mm 0 p q = some (.inl (some (aI b)), mm') ∧ Ans [1, 2] r (gN mm' 12 0 0) b ∧ RC mc' mm' ∧ RPc mm' ∧ ∀ x, gN mm 63 0 x ≤ gN mm' 63 0 x := by
    intro e1 e2
    refine ⟨.inr 1, bX mc, 0, sN mm 12 0 0 1, e1, ?_, Or.inr ⟨1, 0, rfl, rfl, by rw [gthr]; rfl⟩, (hR.thr 1).bX, hQ.keep (fun K i s hk => eq3.sN (by omega)), fun x => by rw [gthr' _ _ (Or.inl (by decide))]; exact Int.le_refl _⟩
    rw [e2]
    unfold j_X12_cast_0_21 j_X12_cast_0_42
    rw [holds_m]
    rfl
  have b22 : j_X11_cast_0_22 mc 0 p q = some (.inr 1, bX mc) := by
    unfold j_X11_cast_0_22 j_X11_cast_0_23
    rw [rqA0, bV_ex]
    rfl
  by_cases hp : 0 ≤ p ∧ p < 28
  · by_cases hq : 1 ≤ q ∧ q ≤ 40
    · obtain ⟨b, rfl⟩ : ∃ b : Nat, p = b := ⟨p.toNat, by omega⟩
      have e1 : f_X11_cast mc 0 (b : Int) q = j_X11_cast_0_23 mc 0 (b : Int) q 1 := by
        unfold f_X11_cast
        rw [isSort_c, Option.bind_some, if_pos hp, if_neg (by decide), if_neg (show ¬ q < 1 by omega), if_neg (show ¬ 40 < q by omega)]
      have e2 : f_X12_cast mm 0 (b : Int) q = if gN mm 12 0 6 + q ≤ 400 then j_X12_cast_0_42 mm 0 (b : Int) q 0 0 else j_X12_cast_0_42 mm 0 (b : Int) q 0 2 := by
        unfold f_X12_cast
        rw [isIn_m, Option.bind_some, if_pos (show 0 ≤ (b : Int) ∧ (b : Int) ≤ 27 by omega), if_neg (by decide), isIn_m, Option.bind_some, if_pos hq, if_pos (by decide), ck_of ⟨by omega, by omega⟩]
      have e3 : j_X11_cast_0_23 mc 0 (b : Int) q 1 = if 400 < gN mm 12 0 6 + q then j_X11_cast_0_46 mc 0 (b : Int) q 0 else j_X11_cast_0_46 mc 0 (b : Int) q 1 := by
        unfold j_X11_cast_0_23
        rw [rqA mc (by decide), bV_ok, nk_of hC.r1, h1, ck_of ⟨by omega, by omega⟩]
      rw [e1, e2, e3]
      by_cases hc : gN mm 12 0 6 + q ≤ 400
      · rw [if_neg (by omega), if_pos hc]
        unfold j_X11_cast_0_46 j_X12_cast_0_42
        rw [rqS mc (by decide), bV_ok, holds_m, if_pos (show (0 : Int) = 0 from rfl), bI_ok, if_pos (show ¬ (1 : Int) = 0 by decide)]
        obtain ⟨mc', mm', g1, g2, gC, gR', g0, gQ, g63⟩ := cast_loop2 (b := b) (k := q) (by omega) hq hC (hM.thr 0) (hR.thr 0) (hQ.keep (fun K i s hk => eq3.sN (by omega))) (gthr _ _) (by rw [gthr' _ _ (Or.inr (by decide))]; exact hc)
        rw [g1, g2, Option.bind_some, Option.bind_some]
        unfold j_X11_cast_0_70 j_X12_cast_0_102
        rw [nk_of gC.r1, gR'.1]
        exact ⟨_, _, _, _, rfl, rfl, Or.inl ⟨rfl, g0⟩, gR', gQ, fun x => by have := g63 x; rw [gthr' _ _ (Or.inl (by decide))] at this; exact this⟩
      · rw [if_pos (by omega), if_neg hc]
        unfold j_X11_cast_0_46 j_X12_cast_0_42
        rw [rqS0, bV_ex, holds_m]
        exact ⟨.inr 2, bX mc, 0, sN mm 12 0 0 2, rfl, rfl, Or.inr ⟨2, 1, rfl, rfl, by rw [gthr]; rfl⟩, (hR.thr 2).bX, hQ.keep (fun K i s hk => eq3.sN (by omega)), fun x => by rw [gthr' _ _ (Or.inl (by decide))]; exact Int.le_refl _⟩
    · refine bad ?_ ?_
      · unfold f_X11_cast
        rw [isSort_c, Option.bind_some, if_pos hp, if_neg (by decide)]
        by_cases h7 : q < 1
        · rw [if_pos h7, b22]
        · rw [if_neg h7, if_pos (by omega), b22]
      · unfold f_X12_cast
        rw [isIn_m, Option.bind_some, if_pos (show 0 ≤ p ∧ p ≤ 27 by omega), if_neg (by decide), isIn_m, Option.bind_some, if_neg hq, if_neg (by decide)]
  · refine bad ?_ ?_
    · unfold f_X11_cast
      rw [isSort_c, Option.bind_some, if_neg hp, if_pos rfl, b22]
    · unfold f_X12_cast
      rw [isIn_m, Option.bind_some, if_neg (show ¬ (0 ≤ p ∧ p ≤ 27) by omega), if_pos rfl]
theorem callR_cast (h : RR N mc mm) (p q : Int) : CalI N (f_X11_cast mc 0 p q) (f_X12_cast mm 0 p q) [1, 2] := by
  obtain ⟨r, mc', b, mm', e1, e2, e3, e4, e5, e6⟩ := call_cast2 (p := p) (q := q) h.C h.M h.Ca h.Pc
  have z1 := fr_f_X11_cast (m0 := mc) eqF.rf _ e1
  have z2 := fr_f_X12_cast (m0 := mm) eqF.rf _ e2
  exact ⟨r, mc', b, mm', e1, e2, e3, h.side (Nat.le_succ N) (fun K i _ => z1.z K i) z2.zk (fun K _ => z1.c K) (fun K i s h1 h2 => z1.at3 (by unfold sdC scC at h2; simp only [nIn, and_true] <;> omega)) (fun K i s h1 h2 => z2.at3 (by unfold sdM scM at h2; simp only [nIn, and_true] <;> omega)) (h.T.keep (z1.at3 (by simp only [nIn, and_true] <;> omega)).1 (z2.at3 (by simp only [nIn, and_true] <;> omega)).1 (fun k => (z1.at3 (by simp only [nIn, and_true] <;> omega)).1) (fun k => (z2.at3 (by simp only [nIn, and_true] <;> omega)).1)) e4 (h.H.keep (by omega) (fun K i s hk => z1.at3 (by simp only [nIn, and_true] <;> omega)) (z1.c 3) (fun K i s hk => z2.at3 (by simp only [nIn, and_true] <;> omega))) (h.Mi.keep (fun K i s hk => z1.at3 (by simp only [nIn, and_true] <;> omega)) (fun K i s hk => z2.at3 (by simp only [nIn, and_true] <;> omega))) (h.Pr.keep (fun i s _ => z1.at3 (by simp only [nIn, and_true] <;> omega)) (fun K s h1 h2 => z2.at3 (by simp only [nIn, and_true] <;> omega))) e5 e6⟩
theorem callR_hand (h : RR N mc mm) (a b c : Int) : CalI N (f_X11_hand mc 0 a b c) (f_X12_hand mm 0 a b c) [1, 2] := by
  by_cases hg : goodH a b c
  · have hR := h.H
    obtain ⟨n, hn⟩ : ∃ n : Nat, gN mm 12 0 12 = n := ⟨(gN mm 12 0 12).toNat, by have := hR.1.2.1; omega⟩
    have h1 : gN mc 11 0 7 = n := by rw [hR.1.1, hn]
    have hc3 : gC mc 3 = n := by have := hR.2.1; omega
    have hn5 : n ≤ 4 := by have := hR.1.2.2; omega
    by_cases h44 : n = 4
    · subst h44
      obtain ⟨e1, e2⟩ := hand_full hg h1 hn
      exact CalI.bad (k := 1) h e1 e2 rfl
    · have hn4 : n < 4 := by omega
      have e1 := hand_c h.C hg h1 hc3 hn4
      have e2 := hand_m h.M hg hn hn4
      obtain ⟨r, mc', v, mm', f1, f2, f3, f4⟩ := call_hand (a := a) (b := b) (c := c) h.C h.M h.H
      have g1 := f1.symm.trans e1
      injection g1 with g1
      injection g1 with g1 g2
      have z2 := fr_f_X12_hand (m0 := mm) eqF.rf _ f2
      have cz : ∀ K i s, ¬ (K = 3 ∧ s ≤ 2) → ¬ (K = 55) → ¬ (K = 11 ∧ s = 7) → eq3 mc mc' K i s := fun K i s k1 k2 k3 => by
        rw [g2]
        have e0 : eq3 mc (nW mc 3 6) K i s := ⟨by rw [gN_nW], by rw [gL_nW], by rw [gR_nW]⟩
        exact ((((e0.tr (eq3.sN (by omega))).tr (eq3.sN (by omega))).tr (eq3.sN (by omega))).tr (eq3.sR (by omega))).tr (eq3.sN (by omega))
      have czz : ∀ K i, K ≠ 3 → gZ mc' K i = gZ mc K i := fun K i hK => by
        rw [g2]
        show gZ (nW mc 3 6) K i = _
        rw [gZ_nW, if_neg (fun q => hK q.1)]
      have czc : ∀ K, K ≠ 3 → gC mc' K = gC mc K := fun K hK => by
        rw [g2]
        show gC (nW mc 3 6) K = _
        rw [gC_nW, if_neg hK]
      refine ⟨r, mc', v, mm', f1, f2, f3, h.side (Nat.le_succ N) czz z2.zk czc (fun K i s h1 h2 => cz K i s (by unfold sdC scC at h2; omega) (by unfold sdC scC at h2; omega) (by unfold sdC scC at h2; omega)) (fun K i s h1 h2 => z2.at3 (by unfold sdM scM at h2; simp only [nIn, and_true] <;> omega)) (h.T.keep (cz _ _ _ (by omega) (by omega) (by omega)).1 (z2.at3 (by simp only [nIn, and_true] <;> omega)).1 (fun k => (cz _ _ _ (by omega) (by omega) (by omega)).1) (fun k => (z2.at3 (by simp only [nIn, and_true] <;> omega)).1)) (h.Ca.keep (cz _ _ _ (by omega) (by omega) (by omega)).1 (z2.at3 (by simp only [nIn, and_true] <;> omega)).1 (fun K _ _ k => (cz _ _ _ (by omega) (by omega) (by omega)).1) (fun K _ _ k => (z2.at3 (by simp only [nIn, and_true] <;> omega)).1)) ?_ (h.Mi.keep (fun K i s hk => cz K i s (by omega) (by omega) (by omega)) (fun K i s hk => z2.at3 (by simp only [nIn, and_true] <;> omega))) (h.Pr.keep (fun i s _ => cz 6 i s (by omega) (by omega) (by omega)) (fun K s h1 h2 => z2.at3 (by simp only [nIn, and_true] <;> omega))) (h.Pc.keep (fun K i s hk => z2.at3 (by simp only [nIn, and_true] <;> omega))) (fun x => Int.le_of_eq (z2.at3 (by simp only [nIn, and_true] <;> omega)).1.symm)⟩
      obtain ⟨y1, y2, y3, y4, y5, y6⟩ := f4
      exact ⟨y1, y2, y3, y4, y5, fun k => by have := y6 k; omega⟩
  · obtain ⟨e1, e2⟩ := hand_bad h.H hg
    exact CalI.bad (k := 0) h e1 e2 rfl
end OLD
