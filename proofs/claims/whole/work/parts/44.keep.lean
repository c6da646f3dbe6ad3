/-! WHAT STAYS: each part of the relation by the cells that it speaks of. -/
def eq3 (m m' : MM) (K i s : Nat) : Prop := gN m' K i s = gN m K i s ∧ gL m' K i s = gL m K i s ∧ gR m' K i s = gR m K i s
theorem eq3.rf {m : MM} {K i s : Nat} : eq3 m m K i s := ⟨rfl, rfl, rfl⟩
theorem eq3.tr {m m1 m2 : MM} {K i s : Nat} (h : eq3 m m1 K i s) (h' : eq3 m1 m2 K i s) : eq3 m m2 K i s := ⟨h'.1.trans h.1, h'.2.1.trans h.2.1, h'.2.2.trans h.2.2⟩
theorem eq3.sN {m : MM} {K i s K' i' s' : Nat} {v : Int} (h : ¬ (K = K' ∧ i = i' ∧ s = s')) : eq3 m (sN m K' i' s' v) K i s := ⟨by rw [gN_sN, if_neg h], rfl, rfl⟩
theorem eq3.sL {m : MM} {K i s K' i' s' : Nat} {v : Int64} (h : ¬ (K = K' ∧ i = i' ∧ s = s')) : eq3 m (sL m K' i' s' v) K i s := ⟨rfl, by rw [gL_sL, if_neg h], rfl⟩
theorem eq3.sR {m : MM} {K i s K' i' s' : Nat} {v : Option (Nat × Nat)} (h : ¬ (K = K' ∧ i = i' ∧ s = s')) : eq3 m (sR m K' i' s' v) K i s := ⟨rfl, rfl, by rw [gR_sR, if_neg h]⟩
/-- not among the cells of a frame -/
def nIn (K s : Nat) : List (Nat × Nat) → Prop
  | [] => True
  | q :: S => ¬ (K = q.1 ∧ (13 ≤ K ∨ s = q.2)) ∧ nIn K s S
theorem nIn.no {K s : Nat} : ∀ {S : List (Nat × Nat)}, nIn K s S → ¬ inS S K s
  | [], _ => fun h => h.elim (fun q => by cases q) (fun q => by cases q.2)
  | q :: S, h => fun z => by
    rcases z with z | ⟨z1, z2⟩
    · rcases List.mem_cons.mp z with e | e
      · rw [← e] at h; exact h.1 ⟨rfl, Or.inr rfl⟩
      · exact h.2.no (Or.inl e)
    · rcases List.mem_cons.mp z2 with e | e
      · rw [← e] at h; exact h.1 ⟨rfl, Or.inl z1⟩
      · exact h.2.no (Or.inr ⟨z1, e⟩)
theorem eqF.at3 {S : List (Nat × Nat)} {m m' : MM} {K i s : Nat} (h : eqF S m m') (hn : nIn K s S) : eq3 m m' K i s := ⟨(h.1 K s hn.no).1 i, (h.1 K s hn.no).2.1 i, (h.1 K s hn.no).2.2 i⟩
theorem eqX.at3 {S : List (Nat × Nat)} {m m' : MM} {K i s : Nat} (h : eqX S m m') (hn : nIn K s S) : eq3 m m' K i s := ⟨(h.1 K s hn.no).1 i, (h.1 K s hn.no).2.1 i, (h.1 K s hn.no).2.2 i⟩
theorem RF.at3 {S : List (Nat × Nat)} {m m' : MM} {r : RV} {K i s : Nat} (h : RF S m (r, m')) (hn : nIn K s S) : eq3 m m' K i s := by
  cases r with
  | inl v => exact eqF.at3 h hn
  | inr e => exact eqX.at3 h hn
theorem RF.z {S : List (Nat × Nat)} {m m' : MM} {r : RV} (h : RF S m (r, m')) (K i : Nat) : gZ m' K i = gZ m K i := by
  cases r with
  | inl v => exact h.2.1 K i
  | inr e => exact h.2.1 K i
theorem BP.keep {mm mm' : MM} {b F n M Ln E : Nat} (h : BP mm b F n M Ln E) (hm : ∀ K, 73 ≤ K → K ≤ 77 → gN mm' K 0 b = gN mm K 0 b) : BP mm' b F n M Ln E :=
  ⟨by rw [hm 73 (by omega) (by omega)]; exact h.f, by rw [hm 74 (by omega) (by omega)]; exact h.n, by rw [hm 75 (by omega) (by omega)]; exact h.m, by rw [hm 76 (by omega) (by omega)]; exact h.l, by rw [hm 77 (by omega) (by omega)]; exact h.e, h.2.2.2.2.2⟩
/-- the fast cells of a book in the class's memory -/
def CBS (b K i s : Nat) : Prop := (K = 56 ∧ i = 0 ∧ s = b) ∨ (K = 0 ∧ i = b ∧ s ≤ 9) ∨ ((K = 9 ∨ (13 ≤ K ∧ K ≤ 15) ∨ K = 17) ∧ i = b ∧ (13 ≤ K ∨ s ≤ 4)) ∨ (K = 4 ∧ 16 * b ≤ i ∧ i < 16 * b + 16 ∧ s ≤ 8) ∨ (K = 5 ∧ 16 * b ≤ i ∧ i < 16 * b + 16 ∧ s ≤ 3) ∨ (K = 37 ∧ 16 * b ≤ i ∧ i < 16 * b + 16) ∨ (K = 2 ∧ 8 * b ≤ i ∧ i < 8 * b + 8 ∧ s ≤ 3) ∨ (K = 19 ∧ 8 * b ≤ i ∧ i < 8 * b + 8) ∨ (K = 8 ∧ 4 * b ≤ i ∧ i < 4 * b + 4 ∧ s ≤ 1)
theorem BS.keep {mc mc' mm : MM} {b F n M Ln E : Nat} (h : BS mc b F n M Ln E) (hP : BP mm b F n M Ln E) (hc : ∀ K i s, CBS b K i s → eq3 mc mc' K i s) (hz : ∀ K i k, gZ mc K i = some k → gZ mc' K i = some k) : BS mc' b F n M Ln E := by
  have hn := hP.hn
  have x_s : gR mc' 56 0 b = some (0, b) := (hc 56 0 b (by unfold CBS; omega)).2.2.trans (h.s)
  have x_f0 : gN mc' 0 b 0 = F := (hc 0 b 0 (by unfold CBS; omega)).1.trans (h.f0)
  have x_f1 : gN mc' 0 b 1 = M := (hc 0 b 1 (by unfold CBS; omega)).1.trans (h.f1)
  have x_f2 : gN mc' 0 b 2 = Ln := (hc 0 b 2 (by unfold CBS; omega)).1.trans (h.f2)
  have x_f3 : gN mc' 0 b 3 = E := (hc 0 b 3 (by unfold CBS; omega)).1.trans (h.f3)
  have x_r4 : gR mc' 0 b 4 = some (9, b) := (hc 0 b 4 (by unfold CBS; omega)).2.2.trans (h.r4)
  have x_r5 : gR mc' 0 b 5 = some (13, b) := (hc 0 b 5 (by unfold CBS; omega)).2.2.trans (h.r5)
  have x_r6 : gR mc' 0 b 6 = some (14, b) := (hc 0 b 6 (by unfold CBS; omega)).2.2.trans (h.r6)
  have x_r7 : gR mc' 0 b 7 = some (15, b) := (hc 0 b 7 (by unfold CBS; omega)).2.2.trans (h.r7)
  have x_r8 : gR mc' 0 b 8 = some (16, b) := (hc 0 b 8 (by unfold CBS; omega)).2.2.trans (h.r8)
  have x_r9 : gR mc' 0 b 9 = some (17, b) := (hc 0 b 9 (by unfold CBS; omega)).2.2.trans (h.r9)
  have x_z13 : gZ mc' 13 b = some (2 * (F * n)) := hz _ _ _ (h.z13)
  have x_z14 : gZ mc' 14 b = some (2 * n) := hz _ _ _ (h.z14)
  have x_z15 : gZ mc' 15 b = some n := hz _ _ _ (h.z15)
  have x_z16 : gZ mc' 16 b = some (2 * (F * n)) := hz _ _ _ (h.z16)
  have x_z17 : gZ mc' 17 b = some E := hz _ _ _ (h.z17)
  have x_e13 : ∀ p, p < 2 * (F * n) → gR mc' 13 b p = some (4, 16 * b + p) := fun p h0 => (hc 13 b p (by unfold CBS; omega)).2.2.trans (h.e13 p h0)
  have x_e14 : ∀ f, f < 2 * n → gR mc' 14 b f = some (2, 8 * b + f) := fun f h0 => (hc 14 b f (by unfold CBS; omega)).2.2.trans (h.e14 f h0)
  have x_e15 : ∀ s, s < n → gR mc' 15 b s = some (8, 4 * b + s) := fun s h0 => (hc 15 b s (by unfold CBS; omega)).2.2.trans (h.e15 s h0)
  have x_e17 : ∀ c, c < E → gR mc' 17 b c = some (18, 24 * b + c) := fun c h0 => (hc 17 b c (by unfold CBS; omega)).2.2.trans (h.e17 c h0)
  have x_z18 : ∀ c, c < E → gZ mc' 18 (24 * b + c) = some (F * n) := fun c h0 => hz _ _ _ (h.z18 c h0)
  have x_t0 : gR mc' 9 b 0 = some (45, b) := (hc 9 b 0 (by unfold CBS; omega)).2.2.trans (h.t0)
  have x_t1 : gR mc' 9 b 1 = some (46, b) := (hc 9 b 1 (by unfold CBS; omega)).2.2.trans (h.t1)
  have x_t2 : gR mc' 9 b 2 = some (47, b) := (hc 9 b 2 (by unfold CBS; omega)).2.2.trans (h.t2)
  have x_t3 : gR mc' 9 b 3 = some (48, b) := (hc 9 b 3 (by unfold CBS; omega)).2.2.trans (h.t3)
  have x_t4 : gR mc' 9 b 4 = some (49, b) := (hc 9 b 4 (by unfold CBS; omega)).2.2.trans (h.t4)
  have x_z45 : gZ mc' 45 b = some 60 := hz _ _ _ (h.z45)
  have x_z46 : gZ mc' 46 b = some 60 := hz _ _ _ (h.z46)
  have x_z47 : gZ mc' 47 b = some 60 := hz _ _ _ (h.z47)
  have x_z48 : gZ mc' 48 b = some 60 := hz _ _ _ (h.z48)
  have x_z49 : gZ mc' 49 b = some 60 := hz _ _ _ (h.z49)
  have x_p0 : ∀ p, p < 2 * (F * n) → gN mc' 4 (16 * b + p) 0 = M := fun p h0 => (hc 4 (16 * b + p) 0 (by unfold CBS; omega)).1.trans (h.p0 p h0)
  have x_p1 : ∀ p, p < 2 * (F * n) → gR mc' 4 (16 * b + p) 1 = some (27, 16 * b + p) := fun p h0 => (hc 4 (16 * b + p) 1 (by unfold CBS; omega)).2.2.trans (h.p1 p h0)
  have x_p2 : ∀ p, p < 2 * (F * n) → gR mc' 4 (16 * b + p) 2 = some (28, 16 * b + p) := fun p h0 => (hc 4 (16 * b + p) 2 (by unfold CBS; omega)).2.2.trans (h.p2 p h0)
  have x_p3 : ∀ p, p < 2 * (F * n) → gR mc' 4 (16 * b + p) 3 = some (29, 16 * b + p) := fun p h0 => (hc 4 (16 * b + p) 3 (by unfold CBS; omega)).2.2.trans (h.p3 p h0)
  have x_p4 : ∀ p, p < 2 * (F * n) → gR mc' 4 (16 * b + p) 4 = some (30, 16 * b + p) := fun p h0 => (hc 4 (16 * b + p) 4 (by unfold CBS; omega)).2.2.trans (h.p4 p h0)
  have x_p5 : ∀ p, p < 2 * (F * n) → gR mc' 4 (16 * b + p) 5 = some (31, 16 * b + p) := fun p h0 => (hc 4 (16 * b + p) 5 (by unfold CBS; omega)).2.2.trans (h.p5 p h0)
  have x_p6 : ∀ p, p < 2 * (F * n) → gR mc' 4 (16 * b + p) 6 = some (32, 16 * b + p) := fun p h0 => (hc 4 (16 * b + p) 6 (by unfold CBS; omega)).2.2.trans (h.p6 p h0)
  have x_p7 : ∀ p, p < 2 * (F * n) → gR mc' 4 (16 * b + p) 7 = some (33, 16 * b + p) := fun p h0 => (hc 4 (16 * b + p) 7 (by unfold CBS; omega)).2.2.trans (h.p7 p h0)
  have x_p8 : ∀ p, p < 2 * (F * n) → gR mc' 4 (16 * b + p) 8 = some (5, 16 * b + p) := fun p h0 => (hc 4 (16 * b + p) 8 (by unfold CBS; omega)).2.2.trans (h.p8 p h0)
  have x_z27 : ∀ p, p < 2 * (F * n) → gZ mc' 27 (16 * b + p) = some 61 := fun p h0 => hz _ _ _ (h.z27 p h0)
  have x_z28 : ∀ p, p < 2 * (F * n) → gZ mc' 28 (16 * b + p) = some 61 := fun p h0 => hz _ _ _ (h.z28 p h0)
  have x_z29 : ∀ p, p < 2 * (F * n) → gZ mc' 29 (16 * b + p) = some 61 := fun p h0 => hz _ _ _ (h.z29 p h0)
  have x_z30 : ∀ p, p < 2 * (F * n) → gZ mc' 30 (16 * b + p) = some 61 := fun p h0 => hz _ _ _ (h.z30 p h0)
  have x_z31 : ∀ p, p < 2 * (F * n) → gZ mc' 31 (16 * b + p) = some Ln := fun p h0 => hz _ _ _ (h.z31 p h0)
  have x_z32 : ∀ p, p < 2 * (F * n) → gZ mc' 32 (16 * b + p) = some Ln := fun p h0 => hz _ _ _ (h.z32 p h0)
  have x_z33 : ∀ p, p < 2 * (F * n) → gZ mc' 33 (16 * b + p) = some Ln := fun p h0 => hz _ _ _ (h.z33 p h0)
  have x_q0 : ∀ p, p < 2 * (F * n) → gR mc' 5 (16 * b + p) 0 = some (34, 16 * b + p) := fun p h0 => (hc 5 (16 * b + p) 0 (by unfold CBS; omega)).2.2.trans (h.q0 p h0)
  have x_q1 : ∀ p, p < 2 * (F * n) → gR mc' 5 (16 * b + p) 1 = some (35, 16 * b + p) := fun p h0 => (hc 5 (16 * b + p) 1 (by unfold CBS; omega)).2.2.trans (h.q1 p h0)
  have x_q2 : ∀ p, p < 2 * (F * n) → gR mc' 5 (16 * b + p) 2 = some (36, 16 * b + p) := fun p h0 => (hc 5 (16 * b + p) 2 (by unfold CBS; omega)).2.2.trans (h.q2 p h0)
  have x_q3 : ∀ p, p < 2 * (F * n) → gR mc' 5 (16 * b + p) 3 = some (37, 16 * b + p) := fun p h0 => (hc 5 (16 * b + p) 3 (by unfold CBS; omega)).2.2.trans (h.q3 p h0)
  have x_z34 : ∀ p, p < 2 * (F * n) → gZ mc' 34 (16 * b + p) = some (M * Ln) := fun p h0 => hz _ _ _ (h.z34 p h0)
  have x_z35 : ∀ p, p < 2 * (F * n) → gZ mc' 35 (16 * b + p) = some (M * Ln) := fun p h0 => hz _ _ _ (h.z35 p h0)
  have x_z36 : ∀ p, p < 2 * (F * n) → gZ mc' 36 (16 * b + p) = some (M * Ln) := fun p h0 => hz _ _ _ (h.z36 p h0)
  have x_z37 : ∀ p, p < 2 * (F * n) → gZ mc' 37 (16 * b + p) = some E := fun p h0 => hz _ _ _ (h.z37 p h0)
  have x_e37 : ∀ p s, p < 2 * (F * n) → s < E → gR mc' 37 (16 * b + p) s = some (38, 24 * (16 * b + p) + s) := fun p s h0 h1 => (hc 37 (16 * b + p) s (by unfold CBS; omega)).2.2.trans (h.e37 p s h0 h1)
  have x_z38 : ∀ p s, p < 2 * (F * n) → s < E → gZ mc' 38 (24 * (16 * b + p) + s) = some (M * Ln) := fun p s h0 h1 => hz _ _ _ (h.z38 p s h0 h1)
  have x_o0 : ∀ f, f < 2 * n → gR mc' 2 (8 * b + f) 0 = some (19, 8 * b + f) := fun f h0 => (hc 2 (8 * b + f) 0 (by unfold CBS; omega)).2.2.trans (h.o0 f h0)
  have x_o1 : ∀ f, f < 2 * n → gN mc' 2 (8 * b + f) 1 = E := fun f h0 => (hc 2 (8 * b + f) 1 (by unfold CBS; omega)).1.trans (h.o1 f h0)
  have x_o2 : ∀ f, f < 2 * n → gR mc' 2 (8 * b + f) 2 = some (26, 8 * b + f) := fun f h0 => (hc 2 (8 * b + f) 2 (by unfold CBS; omega)).2.2.trans (h.o2 f h0)
  have x_o3 : ∀ f, f < 2 * n → gR mc' 2 (8 * b + f) 3 = some (25, 8 * b + f) := fun f h0 => (hc 2 (8 * b + f) 3 (by unfold CBS; omega)).2.2.trans (h.o3 f h0)
  have x_z19 : ∀ f, f < 2 * n → gZ mc' 19 (8 * b + f) = some F := fun f h0 => hz _ _ _ (h.z19 f h0)
  have x_z26 : ∀ f, f < 2 * n → gZ mc' 26 (8 * b + f) = some E := fun f h0 => hz _ _ _ (h.z26 f h0)
  have x_z25 : ∀ f, f < 2 * n → gZ mc' 25 (8 * b + f) = some 400 := fun f h0 => hz _ _ _ (h.z25 f h0)
  have x_e19 : ∀ f j, f < 2 * n → j < F → gR mc' 19 (8 * b + f) j = some (4, 16 * b + fpg F f j) := fun f j h0 h1 => (hc 19 (8 * b + f) j (by unfold CBS; omega)).2.2.trans (h.e19 f j h0 h1)
  have x_h0 : ∀ s, s < n → gR mc' 8 (4 * b + s) 0 = some (2, 8 * b + 2 * s) := fun s h0 => (hc 8 (4 * b + s) 0 (by unfold CBS; omega)).2.2.trans (h.h0 s h0)
  have x_h1 : ∀ s, s < n → gR mc' 8 (4 * b + s) 1 = some (2, 8 * b + (2 * s + 1)) := fun s h0 => (hc 8 (4 * b + s) 1 (by unfold CBS; omega)).2.2.trans (h.h1 s h0)
  exact ⟨x_s, x_f0, x_f1, x_f2, x_f3, x_r4, x_r5, x_r6, x_r7, x_r8, x_r9, x_z13, x_z14, x_z15, x_z16, x_z17, x_e13, x_e14, x_e15, x_e17, x_z18, x_t0, x_t1, x_t2, x_t3, x_t4, x_z45, x_z46, x_z47, x_z48, x_z49, x_p0, x_p1, x_p2, x_p3, x_p4, x_p5, x_p6, x_p7, x_p8, x_z27, x_z28, x_z29, x_z30, x_z31, x_z32, x_z33, x_q0, x_q1, x_q2, x_q3, x_z34, x_z35, x_z36, x_z37, x_e37, x_z38, x_o0, x_o1, x_o2, x_o3, x_z19, x_z26, x_z25, x_e19, x_h0, x_h1⟩
theorem RSp.keep {mc mm mc' mm' : MM} (h : RSp mc mm) (hc : ∀ K i s, (K = 10 ∧ i = 0 ∧ s = 6) ∨ ((K = 53 ∨ K = 54) ∧ i = 0) → eq3 mc mc' K i s) (hm : ∀ K i s, (K = 12 ∧ i = 0 ∧ s = 3) ∨ ((K = 60 ∨ K = 61) ∧ i = 0) → eq3 mm mm' K i s) : RSp mc' mm' := by
  have a1 := (hc 10 0 6 (by omega)).1
  have a2 : ∀ s, gL mc' 53 0 s = gL mc 53 0 s := fun s => (hc 53 0 s (by omega)).2.1
  have a3 : ∀ s, gL mc' 54 0 s = gL mc 54 0 s := fun s => (hc 54 0 s (by omega)).2.1
  have b1 := (hm 12 0 3 (by omega)).1
  have b2 : ∀ s, gL mm' 60 0 s = gL mm 60 0 s := fun s => (hm 60 0 s (by omega)).2.1
  have b3 : ∀ s, gL mm' 61 0 s = gL mm 61 0 s := fun s => (hm 61 0 s (by omega)).2.1
  unfold RSp at h ⊢
  simp only [a1, a2, a3, b1, b2, b3]
  exact h
theorem RNb.keep {mc mm mc' mm' : MM} (h : RNb mc mm) (a : gN mc' 11 0 8 = gN mc 11 0 8) (b : gN mm' 12 0 19 = gN mm 12 0 19) (c : ∀ s, gR mc' 56 0 s = gR mc 56 0 s) : RNb mc' mm' := by
  unfold RNb at h ⊢
  simp only [a, b, c]
  exact h
theorem usN_congr {w w' : Nat → Int64} {n : Nat} (h : ∀ k, k < n → w' k = w k) : ∀ k, k ≤ n → usN w' k = usN w k
  | 0, _ => rfl
  | k + 1, hk => by rw [usN, usN, usN_congr h k (by omega), h k (by omega)]
theorem CFR.congr {us us' : Nat → Nat} {n lim k : Nat} (h : CFR us n lim k) (hu : ∀ j, j ≤ n → us' j = us j) : CFR us' n lim k := by
  obtain ⟨a, b, c⟩ := h
  refine ⟨a, ?_, fun j hj => by rw [hu j (by omega)]; exact c j hj⟩
  rw [hu k a]; exact b
def CTx (b K i s : Nat) : Prop := (K = 9 ∧ i = b ∧ s = 5) ∨ (45 ≤ K ∧ K ≤ 49 ∧ i = b) ∨ (K = 0 ∧ i = b ∧ s = 10) ∨ (K = 16 ∧ i = b) ∨ ((K = 53 ∨ K = 54) ∧ i = 0)
def MTx (b K i s : Nat) : Prop := ((K = 78 ∨ K = 80) ∧ i = 0 ∧ s = b) ∨ ((K = 81 ∨ K = 82) ∧ i = 0 ∧ 60 * b ≤ s ∧ s < 60 * b + 60) ∨ (K = 12 ∧ i = 0 ∧ s = 3) ∨ ((K = 60 ∨ K = 61) ∧ i = 0)
theorem RTx.keep {mc mm mc' mm' : MM} {b L M Ln : Nat} (h : RTx mc mm b L M Ln) (hc : ∀ K i s, CTx b K i s → eq3 mc mc' K i s) (hm : ∀ K i s, MTx b K i s → eq3 mm mm' K i s) : RTx mc' mm' b L M Ln := by
  have a1 := (hc 9 b 5 (by unfold CTx; omega)).1
  have a2 := (hc 0 b 10 (by unfold CTx; omega)).1
  have a3 : ∀ s, gN mc' 16 b s = gN mc 16 b s := fun s => (hc 16 b s (by unfold CTx; omega)).1
  have a45 : ∀ s, gL mc' 45 b s = gL mc 45 b s := fun s => (hc 45 b s (by unfold CTx; omega)).2.1
  have a46 : ∀ s, gL mc' 46 b s = gL mc 46 b s := fun s => (hc 46 b s (by unfold CTx; omega)).2.1
  have a47 : ∀ s, gL mc' 47 b s = gL mc 47 b s := fun s => (hc 47 b s (by unfold CTx; omega)).2.1
  have a48 : ∀ s, gN mc' 48 b s = gN mc 48 b s := fun s => (hc 48 b s (by unfold CTx; omega)).1
  have a49 : ∀ s, gN mc' 49 b s = gN mc 49 b s := fun s => (hc 49 b s (by unfold CTx; omega)).1
  have a53 : ∀ s, gL mc' 53 0 s = gL mc 53 0 s := fun s => (hc 53 0 s (by unfold CTx; omega)).2.1
  have a54 : ∀ s, gL mc' 54 0 s = gL mc 54 0 s := fun s => (hc 54 0 s (by unfold CTx; omega)).2.1
  have b78 := (hm 78 0 b (by unfold MTx; omega)).1
  have b80 := (hm 80 0 b (by unfold MTx; omega)).1
  have b3 := (hm 12 0 3 (by unfold MTx; omega)).1
  have b60 : gL mm' 60 0 = gL mm 60 0 := funext fun s => (hm 60 0 s (by unfold MTx; omega)).2.1
  have b61 : gL mm' 61 0 = gL mm 61 0 := funext fun s => (hm 61 0 s (by unfold MTx; omega)).2.1
  have b81 : ∀ k, k < 60 → gL mm' 81 0 (60 * b + k) = gL mm 81 0 (60 * b + k) := fun k hk => (hm 81 0 (60 * b + k) (by unfold MTx; omega)).2.1
  have b82 : ∀ k, k < 60 → gN mm' 82 0 (60 * b + k) = gN mm 82 0 (60 * b + k) := fun k hk => (hm 82 0 (60 * b + k) (by unfold MTx; omega)).1
  have hn := h.cnt
  refine ⟨by rw [a1, b80]; exact h.cnt, fun k hk => ?_, fun k hk => ?_, fun k hk => ?_, fun k hk => ?_, by rw [b78, b80]; exact h.pc, by rw [a2, b78]; exact h.co, fun hp p hL => ?_⟩
  · rw [b80] at hk
    rw [a45, b81 k (by omega)]; exact h.told k hk
  · rw [b80] at hk
    rw [a49, b82 k (by omega)]; exact h.ends k hk
  · rw [b80] at hk
    rw [b3, b60, b61, a48, b81 k (by omega)]; exact h.sp k hk
  · rw [b80] at hk
    rw [a48, a45, a46, a47, b3]
    rcases h.fm k hk with z | ⟨s, z1, z2, z3, z4⟩
    · exact Or.inl z
    · exact Or.inr ⟨s, z1, z2, by rw [a53]; exact z3, by rw [a54]; exact z4⟩
  · rw [b78] at hp
    obtain ⟨k, z1, z2⟩ := h.pb hp p hL
    refine ⟨k, by rw [a3]; exact z1, ?_⟩
    rw [b78, b80]
    exact z2.congr fun j hj => usN_congr (n := 60) (fun k hk => b81 k hk) j (by omega)
def CPg (b q K i s : Nat) : Prop := (K = 4 ∧ i = q ∧ 9 ≤ s) ∨ (K = 5 ∧ i = q ∧ s = 4) ∨ (27 ≤ K ∧ K ≤ 33 ∧ i = q) ∨ (46 ≤ K ∧ K ≤ 48 ∧ i = b)
def MPg (b q K i s : Nat) : Prop := (83 ≤ K ∧ K ≤ 90 ∧ i = 0 ∧ s = q) ∨ (K = 80 ∧ i = 0 ∧ s = b) ∨ (91 ≤ K ∧ K ≤ 94 ∧ i = 0 ∧ 6 * q ≤ s ∧ s < 6 * q + 6) ∨ (95 ≤ K ∧ K ≤ 98 ∧ i = 0 ∧ 60 * q ≤ s ∧ s < 60 * q + 60)
theorem RPg.keep {mc mm mc' mm' : MM} {b q M Ln : Nat} (h : RPg mc mm b q M Ln) (hL : Ln ≤ 6) (hc : ∀ K i s, CPg b q K i s → eq3 mc mc' K i s) (hm : ∀ K i s, MPg b q K i s → eq3 mm mm' K i s) : RPg mc' mm' b q M Ln := by
  have a4 : ∀ s, 9 ≤ s → gN mc' 4 q s = gN mc 4 q s := fun s hs => (hc 4 q s (by unfold CPg; omega)).1
  have a5 := (hc 5 q 4 (by unfold CPg; omega)).1
  have aK : ∀ K s, 27 ≤ K → K ≤ 33 → gN mc' K q s = gN mc K q s := fun K s h1 h2 => (hc K q s (by unfold CPg; omega)).1
  have a46 : ∀ s, gL mc' 46 b s = gL mc 46 b s := fun s => (hc 46 b s (by unfold CPg; omega)).2.1
  have a47 : ∀ s, gL mc' 47 b s = gL mc 47 b s := fun s => (hc 47 b s (by unfold CPg; omega)).2.1
  have a48 : ∀ s, gN mc' 48 b s = gN mc 48 b s := fun s => (hc 48 b s (by unfold CPg; omega)).1
  have b1 : ∀ K, 83 ≤ K → K ≤ 90 → gN mm' K 0 q = gN mm K 0 q := fun K h1 h2 => (hm K 0 q (by unfold MPg; omega)).1
  have b80 := (hm 80 0 b (by unfold MPg; omega)).1
  have b6 : ∀ K l, 91 ≤ K → K ≤ 94 → l < 6 → gN mm' K 0 (6 * q + l) = gN mm K 0 (6 * q + l) := fun K l h1 h2 h3 => (hm K 0 (6 * q + l) (by unfold MPg; omega)).1
  have b60 : ∀ K l, 95 ≤ K → K ≤ 98 → l < 60 → gN mm' K 0 (60 * q + l) = gN mm K 0 (60 * q + l) := fun K l h1 h2 h3 => (hm K 0 (60 * q + l) (by unfold MPg; omega)).1
  have bw : ∀ l, l < 60 → gL mm' 96 0 (60 * q + l) = gL mm 96 0 (60 * q + l) := fun l h3 => (hm 96 0 (60 * q + l) (by unfold MPg; omega)).2.1
  have x83 := b1 83 (by omega) (by omega)
  have x84 := b1 84 (by omega) (by omega)
  have x85 := b1 85 (by omega) (by omega)
  have x86 := b1 86 (by omega) (by omega)
  have x87 := b1 87 (by omega) (by omega)
  have x88 := b1 88 (by omega) (by omega)
  have x89 := b1 89 (by omega) (by omega)
  have x90 := b1 90 (by omega) (by omega)
  have n1 := h.wn.2.2
  have n2 := h.ln.2.2
  refine ⟨by rw [x83, x84, a4 9 (by omega)]; exact h.st, by rw [x83, x88, x89, x90]; exact h.un, by rw [x89, a4 10 (by omega)]; exact h.wn, by rw [x88, a4 11 (by omega)]; exact h.ln, by rw [x85, a4 12 (by omega), b80]; exact h.th, by rw [x87, a4 13 (by omega)]; exact h.lo, by rw [x86, a4 14 (by omega)]; exact h.cr, by rw [x90, a5]; exact h.pn, fun l hl => ?_, fun l hl => ?_, ?_, fun k hk => ?_, fun k hk => ?_, fun k hk => ?_, fun l k hl hk1 hk2 => ?_, fun k hk => ?_, ?_⟩
  · rw [x88] at hl
    rw [aK 31 l (by omega) (by omega), aK 32 l (by omega) (by omega), aK 33 l (by omega) (by omega), b6 91 l (by omega) (by omega) (by omega), b6 93 l (by omega) (by omega) (by omega), b6 94 l (by omega) (by omega) (by omega)]
    exact h.l1 l hl
  · rw [x88] at hl ⊢
    have h2 := h.l2 l hl
    rw [x89, b6 91 l (by omega) (by omega) (by omega), b6 92 l (by omega) (by omega) (by omega)]
    refine ⟨h2.1, h2.2.1, h2.2.2.1, h2.2.2.2.1, fun z => ?_⟩
    rw [b6 91 (l + 1) (by omega) (by omega) (by omega)]
    exact h2.2.2.2.2 z
  · rw [x88, x89, b6 91 0 (by omega) (by omega) (by omega)]; exact h.l0
  · rw [x89] at hk
    rw [aK 27 k (by omega) (by omega), b60 95 k (by omega) (by omega) (by omega), b80]; exact h.w1 k hk
  · rw [x89] at hk
    rw [aK 28 k (by omega) (by omega), b60 95 k (by omega) (by omega) (by omega), a48]; exact h.w2 k hk
  · rw [x89] at hk
    rw [aK 28 k (by omega) (by omega), b60 95 k (by omega) (by omega) (by omega), a46, a47, bw k (by omega)]; exact h.w3 k hk
  · rw [x88] at hl
    have h2 := h.l2 l hl
    rw [b6 91 l (by omega) (by omega) (by omega)] at hk1 hk2 ⊢
    rw [b6 92 l (by omega) (by omega) (by omega)] at hk2
    rw [b60 97 k (by omega) (by omega) (by omega), aK 29 (k - 1) (by omega) (by omega)]
    exact h.bl l k hl hk1 hk2
  · rw [x89] at hk
    rw [aK 30 k (by omega) (by omega), b60 98 k (by omega) (by omega) (by omega), x90]; exact h.f1 k hk
  · rw [x83, x89, x90, aK 30 _ (by omega) (by omega)]; exact h.f2
def CPo (b K i s : Nat) : Prop := K = 16 ∧ i = b
def MPo (b K i s : Nat) : Prop := ((K = 83 ∨ K = 85 ∨ K = 89) ∧ i = 0 ∧ 16 * b ≤ s ∧ s < 16 * b + 16) ∨ (K = 78 ∧ i = 0 ∧ s = b)
theorem RPo.keep {mc mm mc' mm' : MM} {b p L : Nat} (h : RPo mc mm b p L) (hp : p < 16) (hc : ∀ K i s, CPo b K i s → eq3 mc mc' K i s) (hm : ∀ K i s, MPo b K i s → eq3 mm mm' K i s) : RPo mc' mm' b p L := by
  have a : ∀ s, gN mc' 16 b s = gN mc 16 b s := fun s => (hc 16 b s (by unfold CPo; omega)).1
  have b78 := (hm 78 0 b (by unfold MPo; omega)).1
  have bK : ∀ K p, K = 83 ∨ K = 85 ∨ K = 89 → p < 16 → gN mm' K 0 (16 * b + p) = gN mm K 0 (16 * b + p) := fun K p hK hp => (hm K 0 (16 * b + p) (by unfold MPo; omega)).1
  have x1 := bK 83 p (by omega) hp
  have x2 := bK 85 p (by omega) hp
  have x3 := bK 89 p (by omega) hp
  have y1 := bK 83 (p - 1) (by omega) (by omega)
  have y2 := bK 85 (p - 1) (by omega) (by omega)
  unfold RPo at h ⊢
  simp only [a, b78, x1, x2, x3, y1, y2]
  exact h
def CPl (q K i s : Nat) : Prop := 34 ≤ K ∧ K ≤ 36 ∧ i = q
def MPl (q K i s : Nat) : Prop := (K = 90 ∧ i = 0 ∧ s = q) ∨ (99 ≤ K ∧ K ≤ 101 ∧ i = 0 ∧ 150 * q ≤ s ∧ s < 150 * q + 150)
theorem RPl.keep {mc mm mc' mm' : MM} {q : Nat} (h : RPl mc mm q) (h90 : gN mm 90 0 q ≤ 150) (hc : ∀ K i s, CPl q K i s → eq3 mc mc' K i s) (hm : ∀ K i s, MPl q K i s → eq3 mm mm' K i s) : RPl mc' mm' q := by
  have aK : ∀ K s, 34 ≤ K → K ≤ 36 → gN mc' K q s = gN mc K q s := fun K s h1 h2 => (hc K q s (by unfold CPl; omega)).1
  have b90 := (hm 90 0 q (by unfold MPl; omega)).1
  have bK : ∀ K l, 99 ≤ K → K ≤ 101 → l < 150 → gN mm' K 0 (150 * q + l) = gN mm K 0 (150 * q + l) := fun K l h1 h2 h3 => (hm K 0 (150 * q + l) (by unfold MPl; omega)).1
  refine ⟨fun k hk => ?_, fun k hk => ?_, fun k hk => ?_⟩ <;> rw [b90] at hk
  · rw [aK 34 k (by omega) (by omega), bK 99 k (by omega) (by omega) (by omega)]; exact h.w k hk
  · rw [aK 35 k (by omega) (by omega), bK 100 k (by omega) (by omega) (by omega)]; exact h.p k hk
  · rw [aK 36 k (by omega) (by omega), bK 100 k (by omega) (by omega) (by omega), bK 101 k (by omega) (by omega) (by omega)]; exact h.t k hk
def CFo (w K i s : Nat) : Prop := (K = 2 ∧ i = w ∧ 4 ≤ s) ∨ (K = 26 ∧ i = w)
def MFo (w K i s : Nat) : Prop := (((108 ≤ K ∧ K ≤ 111) ∨ (113 ≤ K ∧ K ≤ 115)) ∧ i = 0 ∧ s = w) ∨ (K = 112 ∧ i = 0 ∧ 26 * w ≤ s ∧ s < 26 * w + 26)
theorem RFo.keep {mc mm mc' mm' : MM} {w E : Nat} (h : RFo mc mm w E) (hE : E ≤ 24) (hc : ∀ K i s, CFo w K i s → eq3 mc mc' K i s) (hm : ∀ K i s, MFo w K i s → eq3 mm mm' K i s) (hh : gN mm 12 0 69 ≤ gN mm' 12 0 69) : RFo mc' mm' w E := by
  have a2 : ∀ s, 4 ≤ s → gN mc' 2 w s = gN mc 2 w s := fun s hs => (hc 2 w s (by unfold CFo; omega)).1
  have a26 : ∀ s, gN mc' 26 w s = gN mc 26 w s := fun s => (hc 26 w s (by unfold CFo; omega)).1
  have bK : ∀ K, (108 ≤ K ∧ K ≤ 111) ∨ (113 ≤ K ∧ K ≤ 115) → gN mm' K 0 w = gN mm K 0 w := fun K hK => (hm K 0 w (by unfold MFo; omega)).1
  have b112 : ∀ s, s < 26 → gN mm' 112 0 (26 * w + s) = gN mm 112 0 (26 * w + s) := fun s hs => (hm 112 0 (26 * w + s) (by unfold MFo; omega)).1
  have x108 := bK 108 (by omega)
  have x109 := bK 109 (by omega)
  have x110 := bK 110 (by omega)
  have x111 := bK 111 (by omega)
  have x113 := bK 113 (by omega)
  have x114 := bK 114 (by omega)
  have x115 := bK 115 (by omega)
  have hns := h.ns
  refine ⟨by rw [a2 4 (by omega), x108]; exact h.how, by rw [a2 5 (by omega), x108, x109]; exact h.sk, by rw [a2 6 (by omega), x108, x110]; exact h.pr, by rw [a2 7 (by omega), x108, x111]; exact h.ns, by rw [a26]; exact h.s0, fun z s hs => ?_, fun z => ?_, ?_, by rw [a2 10 (by omega), x108, x115]; exact h.rd⟩
  · rw [x108] at z
    rw [x111] at hs
    rw [a26, b112 s (by omega), x110]; exact h.sb z s hs
  · rw [x108] at z
    rw [a2 8 (by omega), x113]
    have := h.oh z
    omega
  · rw [a2 9 (by omega), x108, x113, x114]
    have := h.dh
    omega
theorem glF_congr {mm mm' : MM} {k its : Nat} (h0 : gN mm' 102 0 k = gN mm 102 0 k) : ∀ n, (∀ j, j < n → gN mm' 105 0 j = gN mm 105 0 j ∧ gN mm' 106 0 j = gN mm 106 0 j ∧ gN mm' 107 0 j = gN mm 107 0 j) → glF mm' k its n = glF mm k its n
  | 0, _ => h0
  | n + 1, h => by
    obtain ⟨h1, h2, h3⟩ := h n (by omega)
    rw [glF, glF, h1, h2, h3, glF_congr h0 n (fun j hj => h j (by omega))]
def CPn (q w K i s : Nat) : Prop := (K = 2 ∧ i = w ∧ s = 7) ∨ (K = 38 ∧ 24 * q ≤ i ∧ i < 24 * q + 24)
def MPn (q w K i s : Nat) : Prop := (K = 108 ∧ i = 0 ∧ s = w) ∨ ((K = 83 ∨ K = 90) ∧ i = 0 ∧ s = q) ∨ (K = 102 ∧ i = 0 ∧ 150 * q ≤ s ∧ s < 150 * q + 150) ∨ (K = 12 ∧ i = 0 ∧ s = 52) ∨ (105 ≤ K ∧ K ≤ 107 ∧ i = 0)
theorem RPn.keep {mc mm mc' mm' : MM} {q w : Nat} (h : RPn mc mm q w) (h90 : gN mm 90 0 q ≤ 150) (h7 : gN mc 2 w 7 ≤ 24) (hc : ∀ K i s, CPn q w K i s → eq3 mc mc' K i s) (hm : ∀ K i s, MPn q w K i s → eq3 mm mm' K i s) : RPn mc' mm' q w := by
  have a7 := (hc 2 w 7 (by unfold CPn; omega)).1
  have a38 : ∀ s k, s < 24 → gN mc' 38 (24 * q + s) k = gN mc 38 (24 * q + s) k := fun s k hs => (hc 38 (24 * q + s) k (by unfold CPn; omega)).1
  have b108 := (hm 108 0 w (by unfold MPn; omega)).1
  have b83 := (hm 83 0 q (by unfold MPn; omega)).1
  have b90 := (hm 90 0 q (by unfold MPn; omega)).1
  have b52 := (hm 12 0 52 (by unfold MPn; omega)).1
  have b102 : ∀ l, l < 150 → gN mm' 102 0 (150 * q + l) = gN mm 102 0 (150 * q + l) := fun l h3 => (hm 102 0 (150 * q + l) (by unfold MPn; omega)).1
  have bK : ∀ K l, 105 ≤ K → K ≤ 107 → gN mm' K 0 l = gN mm K 0 l := fun K l h1 h2 => (hm K 0 l (by unfold MPn; omega)).1
  refine ⟨by rw [b108, b83]; exact h.st, fun k s hk hs => ?_, fun n k hn hk he => ?_⟩
  · rw [b90] at hk
    rw [a7] at hs
    rw [b52, glF_congr (b102 k (by omega)) _ (fun j _ => ⟨bK 105 j (by omega) (by omega), bK 106 j (by omega) (by omega), bK 107 j (by omega) (by omega)⟩), a38 s k (by omega)]
    exact h.g k s hk hs
  · rw [b52] at hn
    rw [bK 105 n (by omega) (by omega)] at he
    rw [b108, bK 106 n (by omega) (by omega), a7]
    exact h.c n k hn hk he
def CSe (b f K i s : Nat) : Prop := K = 25 ∧ i = 8 * b + f
def MSe (b f K i s : Nat) : Prop := (K = 108 ∧ i = 0 ∧ s = 8 * b + f) ∨ (K = 90 ∧ i = 0 ∧ 16 * b ≤ s ∧ s < 16 * b + 16) ∨ ((K = 103 ∨ K = 104) ∧ i = 0 ∧ 2400 * b ≤ s ∧ s < 2400 * b + 2400)
theorem RSe.keep {mc mm mc' mm' : MM} {b F L f : Nat} (h : RSe mc mm b F L f) (hL : L ≤ 8) (h90 : ∀ p, p < 2 * L → gN mm 90 0 (16 * b + p) ≤ 150) (hc : ∀ K i s, CSe b f K i s → eq3 mc mc' K i s) (hm : ∀ K i s, MSe b f K i s → eq3 mm mm' K i s) (h63 : ∀ x, gN mm 63 0 x ≤ gN mm' 63 0 x) : RSe mc' mm' b F L f := by
  have a25 : ∀ s, gN mc' 25 (8 * b + f) s = gN mc 25 (8 * b + f) s := fun s => (hc 25 (8 * b + f) s (by unfold CSe; omega)).1
  have b108 := (hm 108 0 (8 * b + f) (by unfold MSe; omega)).1
  have b90 : ∀ p, p < 16 → gN mm' 90 0 (16 * b + p) = gN mm 90 0 (16 * b + p) := fun p hp => (hm 90 0 (16 * b + p) (by unfold MSe; omega)).1
  have bK : ∀ K p k, K = 103 ∨ K = 104 → p < 16 → k < 150 → gN mm' K 0 (150 * (16 * b + p) + k) = gN mm K 0 (150 * (16 * b + p) + k) := fun K p k hK hp hk => (hm K 0 (150 * (16 * b + p) + k) (by unfold MSe; omega)).1
  refine ⟨fun z x => ?_, fun z p hp hf k hk => ?_, fun z x hx => ?_, fun x => ?_⟩
  · rw [b108] at z
    rw [a25]; exact h.a z x
  · rw [b108] at z
    rw [b90 p (by omega)] at hk
    have := h90 p hp
    rw [bK 103 p k (by omega) (by omega) (by omega), bK 104 p k (by omega) (by omega) (by omega)]
    simp only [a25]
    exact h.s z p hp hf k hk
  · rw [b108] at z
    rw [a25]
    refine h.z z x fun p hp hf k hk => ?_
    have := h90 p hp
    rw [← bK 103 p k (by omega) (by omega) (by omega)]
    exact hx p hp hf k (by rw [b90 p (by omega)]; exact hk)
  · rw [a25]
    have := h.b x
    have := h63 x
    omega
def CSh (b s0 K i s : Nat) : Prop := K = 8 ∧ i = 4 * b + s0 ∧ 2 ≤ s
def MSh (b s0 K i s : Nat) : Prop := (117 ≤ K ∧ K ≤ 120 ∧ i = 0 ∧ s = 4 * b + s0) ∨ ((K = 108 ∨ K = 116) ∧ i = 0 ∧ 8 * b + 2 * s0 ≤ s ∧ s ≤ 8 * b + 2 * s0 + 1)
theorem RSh.keep {mc mm mc' mm' : MM} {b s E : Nat} (h : RSh mc mm b s E) (hs : s < 4) (hc : ∀ K i s', CSh b s K i s' → eq3 mc mc' K i s') (hm : ∀ K i s', MSh b s K i s' → eq3 mm mm' K i s') : RSh mc' mm' b s E := by
  have a8 : ∀ k, 2 ≤ k → gN mc' 8 (4 * b + s) k = gN mc 8 (4 * b + s) k ∧ gR mc' 8 (4 * b + s) k = gR mc 8 (4 * b + s) k := fun k hk => by
    obtain ⟨a, -, c⟩ := hc 8 (4 * b + s) k (by unfold CSh; omega); exact ⟨a, c⟩
  have bK : ∀ K, 117 ≤ K → K ≤ 120 → gN mm' K 0 (4 * b + s) = gN mm K 0 (4 * b + s) := fun K h1 h2 => (hm K 0 (4 * b + s) (by unfold MSh; omega)).1
  have bd : ∀ K d, K = 108 ∨ K = 116 → d < 2 → gN mm' K 0 (8 * b + (2 * s + d)) = gN mm K 0 (8 * b + (2 * s + d)) := fun K d hK hd => (hm K 0 (8 * b + (2 * s + d)) (by unfold MSh; omega)).1
  have b0 : gN mm' 108 0 (8 * b + 2 * s) = gN mm 108 0 (8 * b + 2 * s) := bd 108 0 (by omega) (by omega)
  refine ⟨by rw [(a8 5 (by omega)).1, bK 120 (by omega) (by omega)]; exact h.t, ?_⟩
  rw [bK 117 (by omega) (by omega), bK 118 (by omega) (by omega), bK 119 (by omega) (by omega), (a8 2 (by omega)).2, (a8 3 (by omega)).1, (a8 4 (by omega)).1, b0, bd 108 1 (by omega) (by omega)]
  rcases h.k with z | ⟨z1, z2, z3, d, e, z4, z5, z6, z7, z8⟩
  · exact Or.inl z
  · refine Or.inr ⟨z1, z2, z3, d, e, z4, z5, ?_, ?_, ?_⟩
    · rw [bd 108 d (by omega) (by omega)]; exact z6
    · rw [bd 116 d (by omega) (by omega)]; exact z7
    · rw [bd 108 e (by omega) (by omega), bd 116 e (by omega) (by omega)]; exact z8
def CLv (b K i s : Nat) : Prop := (K = 0 ∧ i = b ∧ s = 11) ∨ (K = 18 ∧ 24 * b ≤ i ∧ i < 24 * b + 24)
def MLv (b K i s : Nat) : Prop := (K = 79 ∧ i = 0 ∧ s = b) ∨ (K = 126 ∧ i = 0 ∧ 192 * b ≤ s ∧ s < 192 * b + 192) ∨ (K = 108 ∧ i = 0 ∧ 8 * b ≤ s ∧ s < 8 * b + 8)
theorem RLv.keep {mc mm mc' mm' : MM} {b n L E : Nat} (h : RLv mc mm b n L E) (hE : E ≤ 24) (hL : L ≤ 8) (hn : n ≤ 4) (hc : ∀ K i s, CLv b K i s → eq3 mc mc' K i s) (hm : ∀ K i s, MLv b K i s → eq3 mm mm' K i s) : RLv mc' mm' b n L E := by
  have a0 := (hc 0 b 11 (by unfold CLv; omega)).1
  have a18 : ∀ c k, c < 24 → gN mc' 18 (24 * b + c) k = gN mc 18 (24 * b + c) k := fun c k hc' => (hc 18 (24 * b + c) k (by unfold CLv; omega)).1
  have b79 := (hm 79 0 b (by unfold MLv; omega)).1
  have b126 : ∀ c l, c < 24 → l < 8 → gN mm' 126 0 (8 * (24 * b + c) + l) = gN mm 126 0 (8 * (24 * b + c) + l) := fun c l h1 h2 => (hm 126 0 (8 * (24 * b + c) + l) (by unfold MLv; omega)).1
  have b108 : ∀ f, f < 8 → gN mm' 108 0 (8 * b + f) = gN mm 108 0 (8 * b + f) := fun f hf => (hm 108 0 (8 * b + f) (by unfold MLv; omega)).1
  refine ⟨by rw [a0, b79]; exact h.bd, fun z c l hc' hl => ?_, fun z f hf => ?_, fun f h1 h2 => by rw [b108 f h2]; exact h.u f h1 h2⟩
  · rw [b79] at z
    rw [a18 c l (by omega), b126 c l (by omega) (by omega)]; exact h.l z c l hc' hl
  · rw [b79] at z
    rw [b108 f (by omega)]; exact h.d z f hf
theorem SC.mv2 {m m' : MM} (h : SC m) (hr : ∀ K i s, (K = 1 ∧ s ≤ 4) ∨ (K = 7 ∧ s ≤ 5) ∨ (K = 10 ∧ s ≤ 4) ∨ (K = 11 ∧ s ≤ 6) ∨ K = 57 → gR m' K i s = gR m K i s) (hz : ∀ K i n, gZ m K i = some n → gZ m' K i = some n) : SC m' := by
  unfold SC at h ⊢
  refine ⟨?_, ?_, ?_, ?_, ?_, ?_, ?_, ?_, ?_, ?_, ?_, ?_, ?_, ?_, ?_, ?_, ?_, ?_, ?_, ?_, ?_, ?_, ?_, ?_, ?_, ?_, ?_, ?_, ?_, ?_, ?_, ?_, ?_, ?_, ?_, ?_, ?_, ?_, ?_, ?_, ?_, ?_, ?_, ?_, ?_, ?_⟩
  · rw [hr _ _ _ (by decide)]; exact h.1
  · rw [hr _ _ _ (by decide)]; exact h.2.1
  · rw [hr _ _ _ (by decide)]; exact h.2.2.1
  · rw [hr _ _ _ (by decide)]; exact h.2.2.2.1
  · rw [hr _ _ _ (by decide)]; exact h.2.2.2.2.1
  · rw [hr _ _ _ (by decide)]; exact h.2.2.2.2.2.1
  · rw [hr _ _ _ (by decide)]; exact h.2.2.2.2.2.2.1
  · exact hz _ _ _ h.2.2.2.2.2.2.2.1
  · exact hz _ _ _ h.2.2.2.2.2.2.2.2.1
  · exact hz _ _ _ h.2.2.2.2.2.2.2.2.2.1
  · exact hz _ _ _ h.2.2.2.2.2.2.2.2.2.2.1
  · rw [hr _ _ _ (by decide)]; exact h.2.2.2.2.2.2.2.2.2.2.2.1
  · rw [hr _ _ _ (by decide)]; exact h.2.2.2.2.2.2.2.2.2.2.2.2.1
  · rw [hr _ _ _ (by decide)]; exact h.2.2.2.2.2.2.2.2.2.2.2.2.2.1
  · rw [hr _ _ _ (by decide)]; exact h.2.2.2.2.2.2.2.2.2.2.2.2.2.2.1
  · rw [hr _ _ _ (by decide)]; exact h.2.2.2.2.2.2.2.2.2.2.2.2.2.2.2.1
  · exact hz _ _ _ h.2.2.2.2.2.2.2.2.2.2.2.2.2.2.2.2.1
  · exact hz _ _ _ h.2.2.2.2.2.2.2.2.2.2.2.2.2.2.2.2.2.1
  · exact hz _ _ _ h.2.2.2.2.2.2.2.2.2.2.2.2.2.2.2.2.2.2.1
  · exact hz _ _ _ h.2.2.2.2.2.2.2.2.2.2.2.2.2.2.2.2.2.2.2.1
  · exact hz _ _ _ h.2.2.2.2.2.2.2.2.2.2.2.2.2.2.2.2.2.2.2.2.1
  · rw [hr _ _ _ (by decide)]; exact h.2.2.2.2.2.2.2.2.2.2.2.2.2.2.2.2.2.2.2.2.2.1
  · rw [hr _ _ _ (by decide)]; exact h.2.2.2.2.2.2.2.2.2.2.2.2.2.2.2.2.2.2.2.2.2.2.1
  · rw [hr _ _ _ (by decide)]; exact h.2.2.2.2.2.2.2.2.2.2.2.2.2.2.2.2.2.2.2.2.2.2.2.1
  · rw [hr _ _ _ (by decide)]; exact h.2.2.2.2.2.2.2.2.2.2.2.2.2.2.2.2.2.2.2.2.2.2.2.2.1
  · rw [hr _ _ _ (by decide)]; exact h.2.2.2.2.2.2.2.2.2.2.2.2.2.2.2.2.2.2.2.2.2.2.2.2.2.1
  · exact hz _ _ _ h.2.2.2.2.2.2.2.2.2.2.2.2.2.2.2.2.2.2.2.2.2.2.2.2.2.2.1
  · exact hz _ _ _ h.2.2.2.2.2.2.2.2.2.2.2.2.2.2.2.2.2.2.2.2.2.2.2.2.2.2.2.1
  · exact hz _ _ _ h.2.2.2.2.2.2.2.2.2.2.2.2.2.2.2.2.2.2.2.2.2.2.2.2.2.2.2.2.1
  · exact hz _ _ _ h.2.2.2.2.2.2.2.2.2.2.2.2.2.2.2.2.2.2.2.2.2.2.2.2.2.2.2.2.2.1
  · exact hz _ _ _ h.2.2.2.2.2.2.2.2.2.2.2.2.2.2.2.2.2.2.2.2.2.2.2.2.2.2.2.2.2.2.1
  · rw [hr _ _ _ (by decide)]; exact h.2.2.2.2.2.2.2.2.2.2.2.2.2.2.2.2.2.2.2.2.2.2.2.2.2.2.2.2.2.2.2.1
  · rw [hr _ _ _ (by decide)]; exact h.2.2.2.2.2.2.2.2.2.2.2.2.2.2.2.2.2.2.2.2.2.2.2.2.2.2.2.2.2.2.2.2.1
  · rw [hr _ _ _ (by decide)]; exact h.2.2.2.2.2.2.2.2.2.2.2.2.2.2.2.2.2.2.2.2.2.2.2.2.2.2.2.2.2.2.2.2.2.1
  · rw [hr _ _ _ (by decide)]; exact h.2.2.2.2.2.2.2.2.2.2.2.2.2.2.2.2.2.2.2.2.2.2.2.2.2.2.2.2.2.2.2.2.2.2.1
  · rw [hr _ _ _ (by decide)]; exact h.2.2.2.2.2.2.2.2.2.2.2.2.2.2.2.2.2.2.2.2.2.2.2.2.2.2.2.2.2.2.2.2.2.2.2.1
  · rw [hr _ _ _ (by decide)]; exact h.2.2.2.2.2.2.2.2.2.2.2.2.2.2.2.2.2.2.2.2.2.2.2.2.2.2.2.2.2.2.2.2.2.2.2.2.1
  · exact hz _ _ _ h.2.2.2.2.2.2.2.2.2.2.2.2.2.2.2.2.2.2.2.2.2.2.2.2.2.2.2.2.2.2.2.2.2.2.2.2.2.1
  · exact hz _ _ _ h.2.2.2.2.2.2.2.2.2.2.2.2.2.2.2.2.2.2.2.2.2.2.2.2.2.2.2.2.2.2.2.2.2.2.2.2.2.2.1
  · exact hz _ _ _ h.2.2.2.2.2.2.2.2.2.2.2.2.2.2.2.2.2.2.2.2.2.2.2.2.2.2.2.2.2.2.2.2.2.2.2.2.2.2.2.1
  · exact hz _ _ _ h.2.2.2.2.2.2.2.2.2.2.2.2.2.2.2.2.2.2.2.2.2.2.2.2.2.2.2.2.2.2.2.2.2.2.2.2.2.2.2.2.1
  · exact hz _ _ _ h.2.2.2.2.2.2.2.2.2.2.2.2.2.2.2.2.2.2.2.2.2.2.2.2.2.2.2.2.2.2.2.2.2.2.2.2.2.2.2.2.2.1
  · exact hz _ _ _ h.2.2.2.2.2.2.2.2.2.2.2.2.2.2.2.2.2.2.2.2.2.2.2.2.2.2.2.2.2.2.2.2.2.2.2.2.2.2.2.2.2.2.1
  · rw [hr _ _ _ (by decide)]; exact h.2.2.2.2.2.2.2.2.2.2.2.2.2.2.2.2.2.2.2.2.2.2.2.2.2.2.2.2.2.2.2.2.2.2.2.2.2.2.2.2.2.2.2.1
  · rw [hr _ _ _ (by decide)]; exact h.2.2.2.2.2.2.2.2.2.2.2.2.2.2.2.2.2.2.2.2.2.2.2.2.2.2.2.2.2.2.2.2.2.2.2.2.2.2.2.2.2.2.2.2.1
  · rw [hr _ _ _ (by decide)]; exact h.2.2.2.2.2.2.2.2.2.2.2.2.2.2.2.2.2.2.2.2.2.2.2.2.2.2.2.2.2.2.2.2.2.2.2.2.2.2.2.2.2.2.2.2.2
theorem SM.mv2 {m m' : MM} (h : SM m) (hr : ∀ s, (s ≠ 0 ∧ s ≠ 1 ∧ s ≠ 3 ∧ s ≠ 6 ∧ s ≠ 12 ∧ s ≠ 19 ∧ s ≠ 52 ∧ s ≠ 69 ∧ s ≠ 74 ∧ s ≠ 79) → gR m' 12 0 s = gR m 12 0 s) (hz : ∀ K i n, gZ m K i = some n → gZ m' K i = some n) : SM m' := by
  unfold SM at h ⊢
  refine ⟨⟨?_, ?_⟩, ⟨?_, ?_⟩, ⟨?_, ?_⟩, ⟨?_, ?_⟩, ⟨?_, ?_⟩, ⟨?_, ?_⟩, ⟨?_, ?_⟩, ⟨?_, ?_⟩, ⟨?_, ?_⟩, ⟨?_, ?_⟩, ⟨?_, ?_⟩, ⟨?_, ?_⟩, ⟨?_, ?_⟩, ⟨?_, ?_⟩, ⟨?_, ?_⟩, ⟨?_, ?_⟩, ⟨?_, ?_⟩, ⟨?_, ?_⟩, ⟨?_, ?_⟩, ⟨?_, ?_⟩, ⟨?_, ?_⟩, ⟨?_, ?_⟩, ⟨?_, ?_⟩, ⟨?_, ?_⟩, ⟨?_, ?_⟩, ⟨?_, ?_⟩, ⟨?_, ?_⟩, ⟨?_, ?_⟩, ⟨?_, ?_⟩, ⟨?_, ?_⟩, ⟨?_, ?_⟩, ⟨?_, ?_⟩, ⟨?_, ?_⟩, ⟨?_, ?_⟩, ⟨?_, ?_⟩, ⟨?_, ?_⟩, ⟨?_, ?_⟩, ⟨?_, ?_⟩, ⟨?_, ?_⟩, ⟨?_, ?_⟩, ⟨?_, ?_⟩, ⟨?_, ?_⟩, ⟨?_, ?_⟩, ⟨?_, ?_⟩, ⟨?_, ?_⟩, ⟨?_, ?_⟩, ⟨?_, ?_⟩, ⟨?_, ?_⟩, ⟨?_, ?_⟩, ⟨?_, ?_⟩, ⟨?_, ?_⟩, ⟨?_, ?_⟩, ⟨?_, ?_⟩, ⟨?_, ?_⟩, ⟨?_, ?_⟩, ⟨?_, ?_⟩, ⟨?_, ?_⟩, ⟨?_, ?_⟩, ⟨?_, ?_⟩, ⟨?_, ?_⟩, ⟨?_, ?_⟩, ⟨?_, ?_⟩, ⟨?_, ?_⟩, ⟨?_, ?_⟩, ⟨?_, ?_⟩, ⟨?_, ?_⟩, ⟨?_, ?_⟩, ⟨?_, ?_⟩, ⟨?_, ?_⟩, ⟨?_, ?_⟩, ⟨?_, ?_⟩, ⟨?_, ?_⟩⟩
  · rw [hr _ (by decide)]; exact h.1.1
  · exact hz _ _ _ h.1.2
  · rw [hr _ (by decide)]; exact h.2.1.1
  · exact hz _ _ _ h.2.1.2
  · rw [hr _ (by decide)]; exact h.2.2.1.1
  · exact hz _ _ _ h.2.2.1.2
  · rw [hr _ (by decide)]; exact h.2.2.2.1.1
  · exact hz _ _ _ h.2.2.2.1.2
  · rw [hr _ (by decide)]; exact h.2.2.2.2.1.1
  · exact hz _ _ _ h.2.2.2.2.1.2
  · rw [hr _ (by decide)]; exact h.2.2.2.2.2.1.1
  · exact hz _ _ _ h.2.2.2.2.2.1.2
  · rw [hr _ (by decide)]; exact h.2.2.2.2.2.2.1.1
  · exact hz _ _ _ h.2.2.2.2.2.2.1.2
  · rw [hr _ (by decide)]; exact h.2.2.2.2.2.2.2.1.1
  · exact hz _ _ _ h.2.2.2.2.2.2.2.1.2
  · rw [hr _ (by decide)]; exact h.2.2.2.2.2.2.2.2.1.1
  · exact hz _ _ _ h.2.2.2.2.2.2.2.2.1.2
  · rw [hr _ (by decide)]; exact h.2.2.2.2.2.2.2.2.2.1.1
  · exact hz _ _ _ h.2.2.2.2.2.2.2.2.2.1.2
  · rw [hr _ (by decide)]; exact h.2.2.2.2.2.2.2.2.2.2.1.1
  · exact hz _ _ _ h.2.2.2.2.2.2.2.2.2.2.1.2
  · rw [hr _ (by decide)]; exact h.2.2.2.2.2.2.2.2.2.2.2.1.1
  · exact hz _ _ _ h.2.2.2.2.2.2.2.2.2.2.2.1.2
  · rw [hr _ (by decide)]; exact h.2.2.2.2.2.2.2.2.2.2.2.2.1.1
  · exact hz _ _ _ h.2.2.2.2.2.2.2.2.2.2.2.2.1.2
  · rw [hr _ (by decide)]; exact h.2.2.2.2.2.2.2.2.2.2.2.2.2.1.1
  · exact hz _ _ _ h.2.2.2.2.2.2.2.2.2.2.2.2.2.1.2
  · rw [hr _ (by decide)]; exact h.2.2.2.2.2.2.2.2.2.2.2.2.2.2.1.1
  · exact hz _ _ _ h.2.2.2.2.2.2.2.2.2.2.2.2.2.2.1.2
  · rw [hr _ (by decide)]; exact h.2.2.2.2.2.2.2.2.2.2.2.2.2.2.2.1.1
  · exact hz _ _ _ h.2.2.2.2.2.2.2.2.2.2.2.2.2.2.2.1.2
  · rw [hr _ (by decide)]; exact h.2.2.2.2.2.2.2.2.2.2.2.2.2.2.2.2.1.1
  · exact hz _ _ _ h.2.2.2.2.2.2.2.2.2.2.2.2.2.2.2.2.1.2
  · rw [hr _ (by decide)]; exact h.2.2.2.2.2.2.2.2.2.2.2.2.2.2.2.2.2.1.1
  · exact hz _ _ _ h.2.2.2.2.2.2.2.2.2.2.2.2.2.2.2.2.2.1.2
  · rw [hr _ (by decide)]; exact h.2.2.2.2.2.2.2.2.2.2.2.2.2.2.2.2.2.2.1.1
  · exact hz _ _ _ h.2.2.2.2.2.2.2.2.2.2.2.2.2.2.2.2.2.2.1.2
  · rw [hr _ (by decide)]; exact h.2.2.2.2.2.2.2.2.2.2.2.2.2.2.2.2.2.2.2.1.1
  · exact hz _ _ _ h.2.2.2.2.2.2.2.2.2.2.2.2.2.2.2.2.2.2.2.1.2
  · rw [hr _ (by decide)]; exact h.2.2.2.2.2.2.2.2.2.2.2.2.2.2.2.2.2.2.2.2.1.1
  · exact hz _ _ _ h.2.2.2.2.2.2.2.2.2.2.2.2.2.2.2.2.2.2.2.2.1.2
  · rw [hr _ (by decide)]; exact h.2.2.2.2.2.2.2.2.2.2.2.2.2.2.2.2.2.2.2.2.2.1.1
  · exact hz _ _ _ h.2.2.2.2.2.2.2.2.2.2.2.2.2.2.2.2.2.2.2.2.2.1.2
  · rw [hr _ (by decide)]; exact h.2.2.2.2.2.2.2.2.2.2.2.2.2.2.2.2.2.2.2.2.2.2.1.1
  · exact hz _ _ _ h.2.2.2.2.2.2.2.2.2.2.2.2.2.2.2.2.2.2.2.2.2.2.1.2
  · rw [hr _ (by decide)]; exact h.2.2.2.2.2.2.2.2.2.2.2.2.2.2.2.2.2.2.2.2.2.2.2.1.1
  · exact hz _ _ _ h.2.2.2.2.2.2.2.2.2.2.2.2.2.2.2.2.2.2.2.2.2.2.2.1.2
  · rw [hr _ (by decide)]; exact h.2.2.2.2.2.2.2.2.2.2.2.2.2.2.2.2.2.2.2.2.2.2.2.2.1.1
  · exact hz _ _ _ h.2.2.2.2.2.2.2.2.2.2.2.2.2.2.2.2.2.2.2.2.2.2.2.2.1.2
  · rw [hr _ (by decide)]; exact h.2.2.2.2.2.2.2.2.2.2.2.2.2.2.2.2.2.2.2.2.2.2.2.2.2.1.1
  · exact hz _ _ _ h.2.2.2.2.2.2.2.2.2.2.2.2.2.2.2.2.2.2.2.2.2.2.2.2.2.1.2
  · rw [hr _ (by decide)]; exact h.2.2.2.2.2.2.2.2.2.2.2.2.2.2.2.2.2.2.2.2.2.2.2.2.2.2.1.1
  · exact hz _ _ _ h.2.2.2.2.2.2.2.2.2.2.2.2.2.2.2.2.2.2.2.2.2.2.2.2.2.2.1.2
  · rw [hr _ (by decide)]; exact h.2.2.2.2.2.2.2.2.2.2.2.2.2.2.2.2.2.2.2.2.2.2.2.2.2.2.2.1.1
  · exact hz _ _ _ h.2.2.2.2.2.2.2.2.2.2.2.2.2.2.2.2.2.2.2.2.2.2.2.2.2.2.2.1.2
  · rw [hr _ (by decide)]; exact h.2.2.2.2.2.2.2.2.2.2.2.2.2.2.2.2.2.2.2.2.2.2.2.2.2.2.2.2.1.1
  · exact hz _ _ _ h.2.2.2.2.2.2.2.2.2.2.2.2.2.2.2.2.2.2.2.2.2.2.2.2.2.2.2.2.1.2
  · rw [hr _ (by decide)]; exact h.2.2.2.2.2.2.2.2.2.2.2.2.2.2.2.2.2.2.2.2.2.2.2.2.2.2.2.2.2.1.1
  · exact hz _ _ _ h.2.2.2.2.2.2.2.2.2.2.2.2.2.2.2.2.2.2.2.2.2.2.2.2.2.2.2.2.2.1.2
  · rw [hr _ (by decide)]; exact h.2.2.2.2.2.2.2.2.2.2.2.2.2.2.2.2.2.2.2.2.2.2.2.2.2.2.2.2.2.2.1.1
  · exact hz _ _ _ h.2.2.2.2.2.2.2.2.2.2.2.2.2.2.2.2.2.2.2.2.2.2.2.2.2.2.2.2.2.2.1.2
  · rw [hr _ (by decide)]; exact h.2.2.2.2.2.2.2.2.2.2.2.2.2.2.2.2.2.2.2.2.2.2.2.2.2.2.2.2.2.2.2.1.1
  · exact hz _ _ _ h.2.2.2.2.2.2.2.2.2.2.2.2.2.2.2.2.2.2.2.2.2.2.2.2.2.2.2.2.2.2.2.1.2
  · rw [hr _ (by decide)]; exact h.2.2.2.2.2.2.2.2.2.2.2.2.2.2.2.2.2.2.2.2.2.2.2.2.2.2.2.2.2.2.2.2.1.1
  · exact hz _ _ _ h.2.2.2.2.2.2.2.2.2.2.2.2.2.2.2.2.2.2.2.2.2.2.2.2.2.2.2.2.2.2.2.2.1.2
  · rw [hr _ (by decide)]; exact h.2.2.2.2.2.2.2.2.2.2.2.2.2.2.2.2.2.2.2.2.2.2.2.2.2.2.2.2.2.2.2.2.2.1.1
  · exact hz _ _ _ h.2.2.2.2.2.2.2.2.2.2.2.2.2.2.2.2.2.2.2.2.2.2.2.2.2.2.2.2.2.2.2.2.2.1.2
  · rw [hr _ (by decide)]; exact h.2.2.2.2.2.2.2.2.2.2.2.2.2.2.2.2.2.2.2.2.2.2.2.2.2.2.2.2.2.2.2.2.2.2.1.1
  · exact hz _ _ _ h.2.2.2.2.2.2.2.2.2.2.2.2.2.2.2.2.2.2.2.2.2.2.2.2.2.2.2.2.2.2.2.2.2.2.1.2
  · rw [hr _ (by decide)]; exact h.2.2.2.2.2.2.2.2.2.2.2.2.2.2.2.2.2.2.2.2.2.2.2.2.2.2.2.2.2.2.2.2.2.2.2.1.1
  · exact hz _ _ _ h.2.2.2.2.2.2.2.2.2.2.2.2.2.2.2.2.2.2.2.2.2.2.2.2.2.2.2.2.2.2.2.2.2.2.2.1.2
  · rw [hr _ (by decide)]; exact h.2.2.2.2.2.2.2.2.2.2.2.2.2.2.2.2.2.2.2.2.2.2.2.2.2.2.2.2.2.2.2.2.2.2.2.2.1.1
  · exact hz _ _ _ h.2.2.2.2.2.2.2.2.2.2.2.2.2.2.2.2.2.2.2.2.2.2.2.2.2.2.2.2.2.2.2.2.2.2.2.2.1.2
  · rw [hr _ (by decide)]; exact h.2.2.2.2.2.2.2.2.2.2.2.2.2.2.2.2.2.2.2.2.2.2.2.2.2.2.2.2.2.2.2.2.2.2.2.2.2.1.1
  · exact hz _ _ _ h.2.2.2.2.2.2.2.2.2.2.2.2.2.2.2.2.2.2.2.2.2.2.2.2.2.2.2.2.2.2.2.2.2.2.2.2.2.1.2
  · rw [hr _ (by decide)]; exact h.2.2.2.2.2.2.2.2.2.2.2.2.2.2.2.2.2.2.2.2.2.2.2.2.2.2.2.2.2.2.2.2.2.2.2.2.2.2.1.1
  · exact hz _ _ _ h.2.2.2.2.2.2.2.2.2.2.2.2.2.2.2.2.2.2.2.2.2.2.2.2.2.2.2.2.2.2.2.2.2.2.2.2.2.2.1.2
  · rw [hr _ (by decide)]; exact h.2.2.2.2.2.2.2.2.2.2.2.2.2.2.2.2.2.2.2.2.2.2.2.2.2.2.2.2.2.2.2.2.2.2.2.2.2.2.2.1.1
  · exact hz _ _ _ h.2.2.2.2.2.2.2.2.2.2.2.2.2.2.2.2.2.2.2.2.2.2.2.2.2.2.2.2.2.2.2.2.2.2.2.2.2.2.2.1.2
  · rw [hr _ (by decide)]; exact h.2.2.2.2.2.2.2.2.2.2.2.2.2.2.2.2.2.2.2.2.2.2.2.2.2.2.2.2.2.2.2.2.2.2.2.2.2.2.2.2.1.1
  · exact hz _ _ _ h.2.2.2.2.2.2.2.2.2.2.2.2.2.2.2.2.2.2.2.2.2.2.2.2.2.2.2.2.2.2.2.2.2.2.2.2.2.2.2.2.1.2
  · rw [hr _ (by decide)]; exact h.2.2.2.2.2.2.2.2.2.2.2.2.2.2.2.2.2.2.2.2.2.2.2.2.2.2.2.2.2.2.2.2.2.2.2.2.2.2.2.2.2.1.1
  · exact hz _ _ _ h.2.2.2.2.2.2.2.2.2.2.2.2.2.2.2.2.2.2.2.2.2.2.2.2.2.2.2.2.2.2.2.2.2.2.2.2.2.2.2.2.2.1.2
  · rw [hr _ (by decide)]; exact h.2.2.2.2.2.2.2.2.2.2.2.2.2.2.2.2.2.2.2.2.2.2.2.2.2.2.2.2.2.2.2.2.2.2.2.2.2.2.2.2.2.2.1.1
  · exact hz _ _ _ h.2.2.2.2.2.2.2.2.2.2.2.2.2.2.2.2.2.2.2.2.2.2.2.2.2.2.2.2.2.2.2.2.2.2.2.2.2.2.2.2.2.2.1.2
  · rw [hr _ (by decide)]; exact h.2.2.2.2.2.2.2.2.2.2.2.2.2.2.2.2.2.2.2.2.2.2.2.2.2.2.2.2.2.2.2.2.2.2.2.2.2.2.2.2.2.2.2.1.1
  · exact hz _ _ _ h.2.2.2.2.2.2.2.2.2.2.2.2.2.2.2.2.2.2.2.2.2.2.2.2.2.2.2.2.2.2.2.2.2.2.2.2.2.2.2.2.2.2.2.1.2
  · rw [hr _ (by decide)]; exact h.2.2.2.2.2.2.2.2.2.2.2.2.2.2.2.2.2.2.2.2.2.2.2.2.2.2.2.2.2.2.2.2.2.2.2.2.2.2.2.2.2.2.2.2.1.1
  · exact hz _ _ _ h.2.2.2.2.2.2.2.2.2.2.2.2.2.2.2.2.2.2.2.2.2.2.2.2.2.2.2.2.2.2.2.2.2.2.2.2.2.2.2.2.2.2.2.2.1.2
  · rw [hr _ (by decide)]; exact h.2.2.2.2.2.2.2.2.2.2.2.2.2.2.2.2.2.2.2.2.2.2.2.2.2.2.2.2.2.2.2.2.2.2.2.2.2.2.2.2.2.2.2.2.2.1.1
  · exact hz _ _ _ h.2.2.2.2.2.2.2.2.2.2.2.2.2.2.2.2.2.2.2.2.2.2.2.2.2.2.2.2.2.2.2.2.2.2.2.2.2.2.2.2.2.2.2.2.2.1.2
  · rw [hr _ (by decide)]; exact h.2.2.2.2.2.2.2.2.2.2.2.2.2.2.2.2.2.2.2.2.2.2.2.2.2.2.2.2.2.2.2.2.2.2.2.2.2.2.2.2.2.2.2.2.2.2.1.1
  · exact hz _ _ _ h.2.2.2.2.2.2.2.2.2.2.2.2.2.2.2.2.2.2.2.2.2.2.2.2.2.2.2.2.2.2.2.2.2.2.2.2.2.2.2.2.2.2.2.2.2.2.1.2
  · rw [hr _ (by decide)]; exact h.2.2.2.2.2.2.2.2.2.2.2.2.2.2.2.2.2.2.2.2.2.2.2.2.2.2.2.2.2.2.2.2.2.2.2.2.2.2.2.2.2.2.2.2.2.2.2.1.1
  · exact hz _ _ _ h.2.2.2.2.2.2.2.2.2.2.2.2.2.2.2.2.2.2.2.2.2.2.2.2.2.2.2.2.2.2.2.2.2.2.2.2.2.2.2.2.2.2.2.2.2.2.2.1.2
  · rw [hr _ (by decide)]; exact h.2.2.2.2.2.2.2.2.2.2.2.2.2.2.2.2.2.2.2.2.2.2.2.2.2.2.2.2.2.2.2.2.2.2.2.2.2.2.2.2.2.2.2.2.2.2.2.2.1.1
  · exact hz _ _ _ h.2.2.2.2.2.2.2.2.2.2.2.2.2.2.2.2.2.2.2.2.2.2.2.2.2.2.2.2.2.2.2.2.2.2.2.2.2.2.2.2.2.2.2.2.2.2.2.2.1.2
  · rw [hr _ (by decide)]; exact h.2.2.2.2.2.2.2.2.2.2.2.2.2.2.2.2.2.2.2.2.2.2.2.2.2.2.2.2.2.2.2.2.2.2.2.2.2.2.2.2.2.2.2.2.2.2.2.2.2.1.1
  · exact hz _ _ _ h.2.2.2.2.2.2.2.2.2.2.2.2.2.2.2.2.2.2.2.2.2.2.2.2.2.2.2.2.2.2.2.2.2.2.2.2.2.2.2.2.2.2.2.2.2.2.2.2.2.1.2
  · rw [hr _ (by decide)]; exact h.2.2.2.2.2.2.2.2.2.2.2.2.2.2.2.2.2.2.2.2.2.2.2.2.2.2.2.2.2.2.2.2.2.2.2.2.2.2.2.2.2.2.2.2.2.2.2.2.2.2.1.1
  · exact hz _ _ _ h.2.2.2.2.2.2.2.2.2.2.2.2.2.2.2.2.2.2.2.2.2.2.2.2.2.2.2.2.2.2.2.2.2.2.2.2.2.2.2.2.2.2.2.2.2.2.2.2.2.2.1.2
  · rw [hr _ (by decide)]; exact h.2.2.2.2.2.2.2.2.2.2.2.2.2.2.2.2.2.2.2.2.2.2.2.2.2.2.2.2.2.2.2.2.2.2.2.2.2.2.2.2.2.2.2.2.2.2.2.2.2.2.2.1.1
  · exact hz _ _ _ h.2.2.2.2.2.2.2.2.2.2.2.2.2.2.2.2.2.2.2.2.2.2.2.2.2.2.2.2.2.2.2.2.2.2.2.2.2.2.2.2.2.2.2.2.2.2.2.2.2.2.2.1.2
  · rw [hr _ (by decide)]; exact h.2.2.2.2.2.2.2.2.2.2.2.2.2.2.2.2.2.2.2.2.2.2.2.2.2.2.2.2.2.2.2.2.2.2.2.2.2.2.2.2.2.2.2.2.2.2.2.2.2.2.2.2.1.1
  · exact hz _ _ _ h.2.2.2.2.2.2.2.2.2.2.2.2.2.2.2.2.2.2.2.2.2.2.2.2.2.2.2.2.2.2.2.2.2.2.2.2.2.2.2.2.2.2.2.2.2.2.2.2.2.2.2.2.1.2
  · rw [hr _ (by decide)]; exact h.2.2.2.2.2.2.2.2.2.2.2.2.2.2.2.2.2.2.2.2.2.2.2.2.2.2.2.2.2.2.2.2.2.2.2.2.2.2.2.2.2.2.2.2.2.2.2.2.2.2.2.2.2.1.1
  · exact hz _ _ _ h.2.2.2.2.2.2.2.2.2.2.2.2.2.2.2.2.2.2.2.2.2.2.2.2.2.2.2.2.2.2.2.2.2.2.2.2.2.2.2.2.2.2.2.2.2.2.2.2.2.2.2.2.2.1.2
  · rw [hr _ (by decide)]; exact h.2.2.2.2.2.2.2.2.2.2.2.2.2.2.2.2.2.2.2.2.2.2.2.2.2.2.2.2.2.2.2.2.2.2.2.2.2.2.2.2.2.2.2.2.2.2.2.2.2.2.2.2.2.2.1.1
  · exact hz _ _ _ h.2.2.2.2.2.2.2.2.2.2.2.2.2.2.2.2.2.2.2.2.2.2.2.2.2.2.2.2.2.2.2.2.2.2.2.2.2.2.2.2.2.2.2.2.2.2.2.2.2.2.2.2.2.2.1.2
  · rw [hr _ (by decide)]; exact h.2.2.2.2.2.2.2.2.2.2.2.2.2.2.2.2.2.2.2.2.2.2.2.2.2.2.2.2.2.2.2.2.2.2.2.2.2.2.2.2.2.2.2.2.2.2.2.2.2.2.2.2.2.2.2.1.1
  · exact hz _ _ _ h.2.2.2.2.2.2.2.2.2.2.2.2.2.2.2.2.2.2.2.2.2.2.2.2.2.2.2.2.2.2.2.2.2.2.2.2.2.2.2.2.2.2.2.2.2.2.2.2.2.2.2.2.2.2.2.1.2
  · rw [hr _ (by decide)]; exact h.2.2.2.2.2.2.2.2.2.2.2.2.2.2.2.2.2.2.2.2.2.2.2.2.2.2.2.2.2.2.2.2.2.2.2.2.2.2.2.2.2.2.2.2.2.2.2.2.2.2.2.2.2.2.2.2.1.1
  · exact hz _ _ _ h.2.2.2.2.2.2.2.2.2.2.2.2.2.2.2.2.2.2.2.2.2.2.2.2.2.2.2.2.2.2.2.2.2.2.2.2.2.2.2.2.2.2.2.2.2.2.2.2.2.2.2.2.2.2.2.2.1.2
  · rw [hr _ (by decide)]; exact h.2.2.2.2.2.2.2.2.2.2.2.2.2.2.2.2.2.2.2.2.2.2.2.2.2.2.2.2.2.2.2.2.2.2.2.2.2.2.2.2.2.2.2.2.2.2.2.2.2.2.2.2.2.2.2.2.2.1.1
  · exact hz _ _ _ h.2.2.2.2.2.2.2.2.2.2.2.2.2.2.2.2.2.2.2.2.2.2.2.2.2.2.2.2.2.2.2.2.2.2.2.2.2.2.2.2.2.2.2.2.2.2.2.2.2.2.2.2.2.2.2.2.2.1.2
  · rw [hr _ (by decide)]; exact h.2.2.2.2.2.2.2.2.2.2.2.2.2.2.2.2.2.2.2.2.2.2.2.2.2.2.2.2.2.2.2.2.2.2.2.2.2.2.2.2.2.2.2.2.2.2.2.2.2.2.2.2.2.2.2.2.2.2.1.1
  · exact hz _ _ _ h.2.2.2.2.2.2.2.2.2.2.2.2.2.2.2.2.2.2.2.2.2.2.2.2.2.2.2.2.2.2.2.2.2.2.2.2.2.2.2.2.2.2.2.2.2.2.2.2.2.2.2.2.2.2.2.2.2.2.1.2
  · rw [hr _ (by decide)]; exact h.2.2.2.2.2.2.2.2.2.2.2.2.2.2.2.2.2.2.2.2.2.2.2.2.2.2.2.2.2.2.2.2.2.2.2.2.2.2.2.2.2.2.2.2.2.2.2.2.2.2.2.2.2.2.2.2.2.2.2.1.1
  · exact hz _ _ _ h.2.2.2.2.2.2.2.2.2.2.2.2.2.2.2.2.2.2.2.2.2.2.2.2.2.2.2.2.2.2.2.2.2.2.2.2.2.2.2.2.2.2.2.2.2.2.2.2.2.2.2.2.2.2.2.2.2.2.2.1.2
  · rw [hr _ (by decide)]; exact h.2.2.2.2.2.2.2.2.2.2.2.2.2.2.2.2.2.2.2.2.2.2.2.2.2.2.2.2.2.2.2.2.2.2.2.2.2.2.2.2.2.2.2.2.2.2.2.2.2.2.2.2.2.2.2.2.2.2.2.2.1.1
  · exact hz _ _ _ h.2.2.2.2.2.2.2.2.2.2.2.2.2.2.2.2.2.2.2.2.2.2.2.2.2.2.2.2.2.2.2.2.2.2.2.2.2.2.2.2.2.2.2.2.2.2.2.2.2.2.2.2.2.2.2.2.2.2.2.2.1.2
  · rw [hr _ (by decide)]; exact h.2.2.2.2.2.2.2.2.2.2.2.2.2.2.2.2.2.2.2.2.2.2.2.2.2.2.2.2.2.2.2.2.2.2.2.2.2.2.2.2.2.2.2.2.2.2.2.2.2.2.2.2.2.2.2.2.2.2.2.2.2.1.1
  · exact hz _ _ _ h.2.2.2.2.2.2.2.2.2.2.2.2.2.2.2.2.2.2.2.2.2.2.2.2.2.2.2.2.2.2.2.2.2.2.2.2.2.2.2.2.2.2.2.2.2.2.2.2.2.2.2.2.2.2.2.2.2.2.2.2.2.1.2
  · rw [hr _ (by decide)]; exact h.2.2.2.2.2.2.2.2.2.2.2.2.2.2.2.2.2.2.2.2.2.2.2.2.2.2.2.2.2.2.2.2.2.2.2.2.2.2.2.2.2.2.2.2.2.2.2.2.2.2.2.2.2.2.2.2.2.2.2.2.2.2.1.1
  · exact hz _ _ _ h.2.2.2.2.2.2.2.2.2.2.2.2.2.2.2.2.2.2.2.2.2.2.2.2.2.2.2.2.2.2.2.2.2.2.2.2.2.2.2.2.2.2.2.2.2.2.2.2.2.2.2.2.2.2.2.2.2.2.2.2.2.2.1.2
  · rw [hr _ (by decide)]; exact h.2.2.2.2.2.2.2.2.2.2.2.2.2.2.2.2.2.2.2.2.2.2.2.2.2.2.2.2.2.2.2.2.2.2.2.2.2.2.2.2.2.2.2.2.2.2.2.2.2.2.2.2.2.2.2.2.2.2.2.2.2.2.2.1.1
  · exact hz _ _ _ h.2.2.2.2.2.2.2.2.2.2.2.2.2.2.2.2.2.2.2.2.2.2.2.2.2.2.2.2.2.2.2.2.2.2.2.2.2.2.2.2.2.2.2.2.2.2.2.2.2.2.2.2.2.2.2.2.2.2.2.2.2.2.2.1.2
  · rw [hr _ (by decide)]; exact h.2.2.2.2.2.2.2.2.2.2.2.2.2.2.2.2.2.2.2.2.2.2.2.2.2.2.2.2.2.2.2.2.2.2.2.2.2.2.2.2.2.2.2.2.2.2.2.2.2.2.2.2.2.2.2.2.2.2.2.2.2.2.2.2.1.1
  · exact hz _ _ _ h.2.2.2.2.2.2.2.2.2.2.2.2.2.2.2.2.2.2.2.2.2.2.2.2.2.2.2.2.2.2.2.2.2.2.2.2.2.2.2.2.2.2.2.2.2.2.2.2.2.2.2.2.2.2.2.2.2.2.2.2.2.2.2.2.1.2
  · rw [hr _ (by decide)]; exact h.2.2.2.2.2.2.2.2.2.2.2.2.2.2.2.2.2.2.2.2.2.2.2.2.2.2.2.2.2.2.2.2.2.2.2.2.2.2.2.2.2.2.2.2.2.2.2.2.2.2.2.2.2.2.2.2.2.2.2.2.2.2.2.2.2.1.1
  · exact hz _ _ _ h.2.2.2.2.2.2.2.2.2.2.2.2.2.2.2.2.2.2.2.2.2.2.2.2.2.2.2.2.2.2.2.2.2.2.2.2.2.2.2.2.2.2.2.2.2.2.2.2.2.2.2.2.2.2.2.2.2.2.2.2.2.2.2.2.2.1.2
  · rw [hr _ (by decide)]; exact h.2.2.2.2.2.2.2.2.2.2.2.2.2.2.2.2.2.2.2.2.2.2.2.2.2.2.2.2.2.2.2.2.2.2.2.2.2.2.2.2.2.2.2.2.2.2.2.2.2.2.2.2.2.2.2.2.2.2.2.2.2.2.2.2.2.2.1.1
  · exact hz _ _ _ h.2.2.2.2.2.2.2.2.2.2.2.2.2.2.2.2.2.2.2.2.2.2.2.2.2.2.2.2.2.2.2.2.2.2.2.2.2.2.2.2.2.2.2.2.2.2.2.2.2.2.2.2.2.2.2.2.2.2.2.2.2.2.2.2.2.2.1.2
  · rw [hr _ (by decide)]; exact h.2.2.2.2.2.2.2.2.2.2.2.2.2.2.2.2.2.2.2.2.2.2.2.2.2.2.2.2.2.2.2.2.2.2.2.2.2.2.2.2.2.2.2.2.2.2.2.2.2.2.2.2.2.2.2.2.2.2.2.2.2.2.2.2.2.2.2.1.1
  · exact hz _ _ _ h.2.2.2.2.2.2.2.2.2.2.2.2.2.2.2.2.2.2.2.2.2.2.2.2.2.2.2.2.2.2.2.2.2.2.2.2.2.2.2.2.2.2.2.2.2.2.2.2.2.2.2.2.2.2.2.2.2.2.2.2.2.2.2.2.2.2.2.1.2
  · rw [hr _ (by decide)]; exact h.2.2.2.2.2.2.2.2.2.2.2.2.2.2.2.2.2.2.2.2.2.2.2.2.2.2.2.2.2.2.2.2.2.2.2.2.2.2.2.2.2.2.2.2.2.2.2.2.2.2.2.2.2.2.2.2.2.2.2.2.2.2.2.2.2.2.2.2.1.1
  · exact hz _ _ _ h.2.2.2.2.2.2.2.2.2.2.2.2.2.2.2.2.2.2.2.2.2.2.2.2.2.2.2.2.2.2.2.2.2.2.2.2.2.2.2.2.2.2.2.2.2.2.2.2.2.2.2.2.2.2.2.2.2.2.2.2.2.2.2.2.2.2.2.2.1.2
  · rw [hr _ (by decide)]; exact h.2.2.2.2.2.2.2.2.2.2.2.2.2.2.2.2.2.2.2.2.2.2.2.2.2.2.2.2.2.2.2.2.2.2.2.2.2.2.2.2.2.2.2.2.2.2.2.2.2.2.2.2.2.2.2.2.2.2.2.2.2.2.2.2.2.2.2.2.2.1.1
  · exact hz _ _ _ h.2.2.2.2.2.2.2.2.2.2.2.2.2.2.2.2.2.2.2.2.2.2.2.2.2.2.2.2.2.2.2.2.2.2.2.2.2.2.2.2.2.2.2.2.2.2.2.2.2.2.2.2.2.2.2.2.2.2.2.2.2.2.2.2.2.2.2.2.2.1.2
  · rw [hr _ (by decide)]; exact h.2.2.2.2.2.2.2.2.2.2.2.2.2.2.2.2.2.2.2.2.2.2.2.2.2.2.2.2.2.2.2.2.2.2.2.2.2.2.2.2.2.2.2.2.2.2.2.2.2.2.2.2.2.2.2.2.2.2.2.2.2.2.2.2.2.2.2.2.2.2.1.1
  · exact hz _ _ _ h.2.2.2.2.2.2.2.2.2.2.2.2.2.2.2.2.2.2.2.2.2.2.2.2.2.2.2.2.2.2.2.2.2.2.2.2.2.2.2.2.2.2.2.2.2.2.2.2.2.2.2.2.2.2.2.2.2.2.2.2.2.2.2.2.2.2.2.2.2.2.1.2
  · rw [hr _ (by decide)]; exact h.2.2.2.2.2.2.2.2.2.2.2.2.2.2.2.2.2.2.2.2.2.2.2.2.2.2.2.2.2.2.2.2.2.2.2.2.2.2.2.2.2.2.2.2.2.2.2.2.2.2.2.2.2.2.2.2.2.2.2.2.2.2.2.2.2.2.2.2.2.2.2.1
  · exact hz _ _ _ h.2.2.2.2.2.2.2.2.2.2.2.2.2.2.2.2.2.2.2.2.2.2.2.2.2.2.2.2.2.2.2.2.2.2.2.2.2.2.2.2.2.2.2.2.2.2.2.2.2.2.2.2.2.2.2.2.2.2.2.2.2.2.2.2.2.2.2.2.2.2.2.2
