/-! PARTS: pages that are unlike lie in different parts. -/
section COLOR
variable {U : Nat → Nat → Prop} {S : Nat → Prop} {m n page : Nat} {P : Nat → Nat → Prop}
/-- the pages from one on find room behind those that lie in P -/
def Qc (U : Nat → Nat → Prop) (S : Nat → Prop) (m n page : Nat) (P : Nat → Nat → Prop) : Prop := ∃ c : Nat → Nat, ∀ i, page ≤ i → i < n → S i → c i < m ∧ (∀ j, P (c i) j → ¬ U i j) ∧ ∀ j, page ≤ j → j < n → S j → U i j → c i ≠ c j
def addP (P : Nat → Nat → Prop) (x page : Nat) : Nat → Nat → Prop := fun k j => P k j ∨ (k = x ∧ j = page)
theorem Qc.done (h : n ≤ page) : Qc U S m n page P := ⟨fun _ => 0, fun i h1 h2 => absurd h2 (by omega)⟩
theorem Qc.iff {S' : Nat → Prop} {P' : Nat → Nat → Prop} (hS : ∀ i, i < n → (S i ↔ S' i)) (hP : ∀ k j, P k j ↔ P' k j) : Qc U S m n page P ↔ Qc U S' m n page P' := by
  constructor
  · rintro ⟨c, hc⟩
    refine ⟨c, fun i h1 h2 h3 => ?_⟩
    obtain ⟨a1, a2, a3⟩ := hc i h1 h2 ((hS i h2).mpr h3)
    exact ⟨a1, fun j hj => a2 j ((hP _ j).mpr hj), fun j k1 k2 k3 => a3 j k1 k2 ((hS j k2).mpr k3)⟩
  · rintro ⟨c, hc⟩
    refine ⟨c, fun i h1 h2 h3 => ?_⟩
    obtain ⟨a1, a2, a3⟩ := hc i h1 h2 ((hS i h2).mp h3)
    exact ⟨a1, fun j hj => a2 j ((hP _ j).mp hj), fun j k1 k2 k3 => a3 j k1 k2 ((hS j k2).mp k3)⟩
theorem Qc.skip (h : ¬ S page) : Qc U S m n page P ↔ Qc U S m n (page + 1) P := by
  constructor
  · rintro ⟨c, hc⟩
    refine ⟨c, fun i h1 h2 h3 => ?_⟩
    obtain ⟨a1, a2, a3⟩ := hc i (by omega) h2 h3
    exact ⟨a1, a2, fun j k1 k2 k3 => a3 j (by omega) k2 k3⟩
  · rintro ⟨c, hc⟩
    refine ⟨c, fun i h1 h2 h3 => ?_⟩
    have hi : i ≠ page := fun q => h (by rw [← q]; exact h3)
    obtain ⟨a1, a2, a3⟩ := hc i (by omega) h2 h3
    refine ⟨a1, a2, fun j k1 k2 k3 => a3 j ?_ k2 k3⟩
    have hj : j ≠ page := fun q => h (by rw [← q]; exact k3)
    omega
theorem Qc.step (hsym : ∀ i j, U i j → U j i) (hir : ∀ i, ¬ U i i) (hS : S page) (hn : page < n) {used : Nat} (hu : ∀ k j, used ≤ k → ¬ P k j) : Qc U S m n page P ↔ ∃ x, x ≤ used ∧ x < m ∧ (∀ j, P x j → ¬ U page j) ∧ Qc U S m n (page + 1) (addP P x page) := by
  constructor
  · rintro ⟨c, hc⟩
    obtain ⟨b1, b2, b3⟩ := hc page (Nat.le_refl _) hn hS
    by_cases hcu : c page ≤ used
    · refine ⟨c page, hcu, b1, b2, c, fun i h1 h2 h3 => ?_⟩
      obtain ⟨a1, a2, a3⟩ := hc i (by omega) h2 h3
      refine ⟨a1, fun j hj hU => ?_, fun j k1 k2 k3 => a3 j (by omega) k2 k3⟩
      rcases hj with hj | ⟨hj1, hj2⟩
      · exact a2 j hj hU
      · rw [hj2] at hU
        exact a3 page (Nat.le_refl _) hn hS hU hj1
    · obtain ⟨c', hc'⟩ : ∃ c' : Nat → Nat, ∀ i, c' i = if c i = c page then used else if c i = used then c page else c i := ⟨_, fun _ => rfl⟩
      refine ⟨used, Nat.le_refl _, by omega, fun j hj => absurd hj (hu _ _ (Nat.le_refl _)), c', fun i h1 h2 h3 => ?_⟩
      obtain ⟨a1, a2, a3⟩ := hc i (by omega) h2 h3
      refine ⟨by rw [hc']; split <;> (try split) <;> omega, fun j hj hU => ?_, fun j k1 k2 k3 hU => ?_⟩
      · rw [hc'] at hj
        rcases hj with hj | ⟨hj1, hj2⟩
        · by_cases q1 : c i = c page
          · rw [if_pos q1] at hj
            exact hu _ _ (Nat.le_refl _) hj
          · rw [if_neg q1] at hj
            by_cases q2 : c i = used
            · rw [if_pos q2] at hj
              exact hu _ _ (by omega) hj
            · rw [if_neg q2] at hj
              exact a2 j hj hU
        · rw [hj2] at hU
          have := a3 page (Nat.le_refl _) hn hS hU
          rw [if_neg this] at hj1
          split at hj1 <;> omega
      · have := a3 j (by omega) k2 k3 hU
        rw [hc', hc']
        split <;> split <;> (try split) <;> (try split) <;> omega
  · rintro ⟨x, x1, x2, x3, c, hc⟩
    obtain ⟨c', hc'⟩ : ∃ c' : Nat → Nat, ∀ i, c' i = if i = page then x else c i := ⟨_, fun _ => rfl⟩
    refine ⟨c', fun i h1 h2 h3 => ?_⟩
    by_cases q : i = page
    · subst q
      refine ⟨by rw [hc', if_pos rfl]; exact x2, fun j hj => x3 j (by rw [hc', if_pos rfl] at hj; exact hj), fun j k1 k2 k3 hU => ?_⟩
      by_cases qj : j = i
      · rw [qj] at hU; exact absurd hU (hir i)
      · rw [hc', hc', if_pos rfl, if_neg qj]
        intro hx
        have := (hc j (by omega) k2 k3).2.1 i (Or.inr ⟨hx.symm, rfl⟩)
        exact this (hsym _ _ hU)
    · obtain ⟨a1, a2, a3⟩ := hc i (by omega) h2 h3
      refine ⟨by rw [hc', if_neg q]; exact a1, fun j hj => a2 j (Or.inl (by rw [hc', if_neg q] at hj; exact hj)), fun j k1 k2 k3 hU => ?_⟩
      rw [hc', hc', if_neg q]
      by_cases qj : j = page
      · rw [if_pos qj]
        intro hx
        rw [qj] at hU
        exact a2 page (Or.inr ⟨hx, rfl⟩) hU
      · rw [if_neg qj]
        exact a3 j (by omega) k2 k3 hU
/-- more values than places -/
theorem pig {c : Nat → Nat} {n : Nat} : ∀ (m X : Nat), (∀ x, x < m → ∃ j, j < n ∧ X.testBit j = true ∧ c j = x) → (m : Int) ≤ crd X n
  | 0, X, _ => by
    have : ∀ n, (0 : Int) ≤ crd X n := fun n => by
      induction n with
      | zero => exact Int.le_refl _
      | succ n ih =>
        unfold crd at ih ⊢
        rw [sumF]
        split <;> omega
    exact this n
  | m + 1, X, h => by
    obtain ⟨j, hj, hX, hc⟩ := h m (by omega)
    have h1 := pig m (del X j) (fun x hx => by
      obtain ⟨j', hj', hX', hc'⟩ := h x (by omega)
      refine ⟨j', hj', ?_, hc'⟩
      rw [del_bit, hX']
      have : j ≠ j' := fun q => by rw [q] at hc; omega
      simp [this])
    have h2 := crd_lt (X := del X j) (Y := X) (m := n) (l := j) (fun g hg => by
      rw [del_bit] at hg
      simp at hg
      exact hg.1) hj (by rw [del_bit]; simp) hX
    omega
def dlt (W v : Nat) : Nat := del W v
def Col (U : Nat → Nat → Prop) (W m n : Nat) : Prop := Qc U (fun i => W.testBit i = true) m n 0 (fun _ _ => False)
/-- a page with fewer that are unlike than there are parts finds room behind the others -/
theorem Col.rm (hsym : ∀ i j, U i j → U j i) (hir : ∀ i, ¬ U i i) {u W v : Nat} (hu : ∀ j, j < n → (u.testBit j = true ↔ U v j)) (hc : crd (u &&& W) n < m) : Col U (dlt W v) m n ↔ Col U W m n := by
  constructor
  · rintro ⟨c, h⟩
    have hx : ∃ x, x < m ∧ ∀ j, j < n → (u &&& W).testBit j = true → c j ≠ x := by
      refine Classical.byContradiction fun hno => ?_
      have := pig (c := c) (n := n) m (u &&& W) (fun x hx => Classical.byContradiction fun h2 => hno ⟨x, hx, fun j h3 h4 h5 => h2 ⟨j, h3, h4, h5⟩⟩)
      omega
    obtain ⟨x, hx1, hx2⟩ := hx
    have hW : ∀ i, i ≠ v → W.testBit i = true → (dlt W v).testBit i = true := fun i hi h1 => by
      unfold dlt; rw [del_bit, h1]
      have : v ≠ i := fun q => hi q.symm
      simp [this]
    obtain ⟨c', hc'⟩ : ∃ c' : Nat → Nat, ∀ i, c' i = if i = v then x else c i := ⟨_, fun _ => rfl⟩
    refine ⟨c', fun i h1 h2 h3 => ⟨?_, fun j hj => absurd hj (fun q => q), fun j k1 k2 k3 hU => ?_⟩⟩
    · rw [hc']
      by_cases q : i = v
      · rw [if_pos q]; exact hx1
      · rw [if_neg q]; exact (h i h1 h2 (hW i q h3)).1
    · rw [hc', hc']
      by_cases q : i = v
      · by_cases qj : j = v
        · rw [q, qj] at hU; exact absurd hU (hir v)
        · rw [if_pos q, if_neg qj]
          rw [q] at hU
          exact fun z => hx2 j k2 (by rw [Nat.testBit_and, (hu j k2).mpr hU, k3]; rfl) z.symm
      · by_cases qj : j = v
        · rw [if_neg q, if_pos qj]
          rw [qj] at hU
          exact fun z => hx2 i h2 (by rw [Nat.testBit_and, (hu i h2).mpr (hsym _ _ hU), h3]; rfl) z
        · rw [if_neg q, if_neg qj]
          exact (h i h1 h2 (hW i q h3)).2.2 j k1 k2 (hW j qj k3) hU
  · rintro ⟨c, h⟩
    have hW : ∀ i, (dlt W v).testBit i = true → W.testBit i = true := fun i h1 => by
      unfold dlt at h1; rw [del_bit] at h1
      simp at h1
      exact h1.1
    exact ⟨c, fun i h1 h2 h3 => ⟨(h i h1 h2 (hW i h3)).1, fun j hj => absurd hj (fun q => q), fun j k1 k2 k3 => (h i h1 h2 (hW i h3)).2.2 j k1 k2 (hW j k3)⟩⟩
/-- as many parts as pages are enough -/
theorem Col.full (hir : ∀ i, ¬ U i i) {W : Nat} (hW : ∀ i, W.testBit i = true → i < m) : Col U W m n := ⟨fun i => i, fun i h1 h2 h3 => ⟨hW i h3, fun j hj => absurd hj (fun q => q), fun j k1 k2 k3 hU hij => hir i (by
  have : i = j := hij
  rw [← this] at hU; exact hU)⟩⟩
end COLOR
def popN (x : Nat) : Nat :=
  let v1 := x - ((x >>> 1) &&& 1431655765)
  let v2 := (v1 &&& 858993459) + ((v1 >>> 2) &&& 858993459)
  let v3 := (v2 + (v2 >>> 4)) &&& 252645135
  let v4 := (v3 + (v3 >>> 8)) + ((v3 + (v3 >>> 8)) >>> 16)
  v4 &&& 63
