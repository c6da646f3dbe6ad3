/-! SET: lines taken are filled out, both sides. -/
section SET
variable {N : Nat} {mc mm : MM} {b F n M Ln E d : Nat}
theorem finish_eq (h : RR N mc mm) (hB : RBk mc mm b F n M Ln E) {p : Nat} (hp : p < 2 * (F * n)) {Fr To L W j : Nat} (hTo : (To : Int) ≤ gN mm 80 0 b) {H0 cr : Int} {s t s' t' : MM} (hA : LA mc mm s t b (16 * b + p) d Fr To M Ln L W j H0 cr) (hs : FrC (fun K i k => K = 4 ∧ i = 16 * b + p ∧ k = 13) s s') (ht : FrC (fun K i k => 83 ≤ K ∧ K ≤ 87 ∧ i = 0 ∧ k = 16 * b + p) t t') {l1 l2 l3 : Int} :
    ∃ (T C : Nat → Nat) (s2 t2 : MM), j_X4_compose_0_60 s' (16 * b + p) b = some (.inl none, s2) ∧ lpb (fun z : Int × MM => b_X12_set_248 0 l1 l2 l3 ((16 * b + p : Nat) : Int) cr z.1 z.2) (0, t') = some t2 ∧
      (∀ k, k < L → 1 ≤ C k ∧ T k + C k ≤ W) ∧ (∀ k k', k < k' → k' < L → T k + C k ≤ T k') ∧ (∀ k, k < L → T k + C k = if k + 1 < L then T (k + 1) else W) ∧
      FI mc mm s2 t2 b (16 * b + p) d Fr To L W (M * L) L T C cr ∧ Fz (16 * b + p) s' s2 ∧ Gz (16 * b + p) t' t2 := by
  have hP := hB.hP
  have hcnt := hB.tx.cnt
  have hML : M * L ≤ M * Ln := Nat.mul_le_mul_left M hA.LL
  have q4 := hP.ml
  have q5 := hA.jw
  have q6 := hA.jt
  obtain ⟨T, C, c1, c2, c3, c4⟩ := hA.fill hs ht
  obtain ⟨s2, t2, e1, e2, e3, e4, e5⟩ := fills_run (d := d) h hB hp hTo hA.LL (W := W) (B := M * L) (by omega) (by omega) (l1 := l1) (l2 := l2) (l3 := l3) c1 c2 c3 _ 0 s' t' rfl (Nat.zero_le _) c4
  refine ⟨T, C, s2, t2, ?_, e2, c1, c2, c3, e3, e4, e5⟩
  unfold j_X4_compose_0_60
  have e1' : lpb (fun z : Int × MM => b_X4_compose_63 (16 * b + p) b z.1 z.2) (0, s') = some s2 := e1
  rw [e1', Option.bind_some]
  rfl
end SET
