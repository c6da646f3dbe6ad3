/-! SET: from lines taken to lines filled out. -/
section SET
variable {N : Nat} {mc mm : MM} {b F n M Ln E d : Nat}
theorem LA.fill {q Fr To L W j : Nat} {H0 cr : Int} {s t s' t' : MM} (hA : LA mc mm s t b q d Fr To M Ln L W j H0 cr) (hs : FrC (fun K i k => K = 4 ∧ i = q ∧ k = 13) s s') (ht : FrC (fun K i k => 83 ≤ K ∧ K ≤ 87 ∧ i = 0 ∧ k = q) t t') :
    ∃ T C : Nat → Nat, (∀ k, k < L → 1 ≤ C k ∧ T k + C k ≤ W) ∧ (∀ k k', k < k' → k' < L → T k + C k ≤ T k') ∧ (∀ k, k < L → T k + C k = if k + 1 < L then T (k + 1) else W) ∧ FI mc mm s' t' b q d Fr To L W (M * L) 0 T C cr := by
  obtain ⟨T, hT⟩ : ∃ T : Nat → Nat, ∀ k, T k = (gN t 91 0 (6 * q + k)).toNat := ⟨_, fun _ => rfl⟩
  obtain ⟨C, hC⟩ : ∃ C : Nat → Nat, ∀ k, C k = (gN t 92 0 (6 * q + k)).toNat := ⟨_, fun _ => rfl⟩
  have li : ∀ k, k < L → gN s 31 q k = T k ∧ gN t 91 0 (6 * q + k) = T k ∧ gN t 92 0 (6 * q + k) = C k ∧ (1 ≤ C k ∧ T k + C k ≤ W) ∧ (T k + C k = if k + 1 < L then T (k + 1) else W) ∧ gN s 33 q k = gN t 94 0 (6 * q + k) ∧ (gN t 94 0 (6 * q + k) = 0 ∨ gN t 94 0 (6 * q + k) = 1) ∧ gN s 32 q k = gN t 93 0 (6 * q + k) ∧ 0 ≤ gN t 93 0 (6 * q + k) ∧ ∀ i, T k ≤ i → i < T k + C k → gN s 29 q i = 1 ∧ gN t 97 0 (60 * q + i) = if i = T k then 0 else 1 := fun k hk => by
    obtain ⟨T0, C0, R, f, x1, x2, x3, x4, x5, x6, x7, x8, x9, xa, xb, xc⟩ := hA.li k hk
    have eT : T k = T0 := by rw [hT, x2]; rfl
    have eC : C k = C0 := by rw [hC, x3]; rfl
    rw [eT, eC]
    refine ⟨x1, x2, x3, x4, ?_, by rw [x7, x8], by rw [x8]; omega, by rw [x5, x6], by rw [x6]; omega, xc⟩
    by_cases z : k + 1 < L
    · rw [if_pos z, hT, xb z]
      rfl
    · rw [if_neg z]
      exact xa (by omega)
  have hnx : ∀ k, k < L → T k + C k = if k + 1 < L then T (k + 1) else W := fun k hk => (li k hk).2.2.2.2.1
  have hCC : ∀ k, k < L → 1 ≤ C k ∧ T k + C k ≤ W := fun k hk => (li k hk).2.2.2.1
  refine ⟨T, C, hCC, ?_, hnx, ?_⟩
  · intro k k' hk
    induction k' with
    | zero => omega
    | succ k' ih =>
      intro hL
      by_cases z : k = k'
      · have := hnx k (by omega)
        subst z
        rw [if_pos hL] at this
        omega
      · have h1 := ih (by omega) (by omega)
        have h2 := hnx k' (by omega)
        rw [if_pos hL] at h2
        omega
  · have gs : ∀ K i k, K ≠ 4 ∨ k ≠ 13 → gN s' K i k = gN s K i k := fun K i k z => (hs.1 K i k (by omega)).1
    have gt : ∀ K i k, 88 ≤ K → gN t' K i k = gN t K i k := fun K i k z => (ht.1 K i k (by omega)).1
    have gl : ∀ k, gL t' 96 0 k = gL t 96 0 k := fun k => (ht.1 96 0 k (by omega)).2.1
    refine ⟨hA.fs.tr (hs.sub (fun K i k z => Or.inl ⟨z.1, z.2.1, by omega⟩)), hA.ft.tr (ht.sub (fun K i k z => Or.inr (Or.inl ⟨z.1, by omega, z.2.2.1, z.2.2.2⟩))), by rw [gs 4 q 14 (by omega), hA.cr], by rw [gs 4 q 10 (by omega), hA.w1], by rw [gs 4 q 11 (by omega), hA.l1], by rw [gt 88 0 q (by omega), hA.l2], fun k hk => ?_, fun k hk => ?_, fun k i _ hk z1 z2 => ?_, fun k i hk => absurd hk (Nat.not_lt_zero _), fun k hk => ?_, ?_⟩
    · obtain ⟨x1, x2, x3, x4, x5, x6, x7, x8, x9, xa⟩ := li k hk
      rw [gs 31 q k (by omega), gs 32 q k (by omega), gs 33 q k (by omega), gt 91 0 _ (by omega), gt 92 0 _ (by omega), gt 93 0 _ (by omega), gt 94 0 _ (by omega)]
      exact ⟨x1, x2, x3, x6, x7, x8, x9⟩
    · exact (hA.wd k hk).congr (gs 27 q k (by omega)) (gs 28 q k (by omega)) (gt 95 0 _ (by omega)) (gl _)
    · obtain ⟨x1, x2, x3, x4, x5, x6, x7, x8, x9, xa⟩ := li k hk
      rw [gs 29 q i (by omega), gt 97 0 _ (by omega)]
      exact xa i z1 z2
    · obtain ⟨x1, x2, x3, x4, x5, x6, x7, x8, x9, xa⟩ := li k hk
      rw [gt 97 0 _ (by omega), (xa (T k) (Nat.le_refl _) (by omega)).2, if_pos rfl]
    · rw [LtS.congr (t := t) (fun k _ => gl _), SR.congr (t := t) (fun l _ => gt 93 0 _ (by omega))]
      exact hA.us
end SET
