/-! SET: a page is composed, both sides. -/
section SET
variable {N : Nat} {mc mm : MM} {b F n M Ln E d : Nat}
/-- the model's stores behind the lines -/
theorem stores_m {t : MM} (hM : SM t) {q : Nat} (hq : q < 48) {To j cr l1 l2 l3 : Int} (hb : 0 ≤ To ∧ To ≤ 1000 ∧ 0 ≤ j ∧ j ≤ 1000) (hcr : cr = 0 ∨ cr = 1) :
    ∃ t' : MM, j_X12_set_0_182 t 0 l1 l2 l3 (q : Int) To j cr = ((lpb (fun z : Int × MM => b_X12_set_248 0 l1 l2 l3 (q : Int) cr z.1 z.2) (0, t')).bind fun z => j_X12_set_0_299 z 0 l1 l2 l3) ∧ FrC (fun K i k => 83 ≤ K ∧ K ≤ 87 ∧ i = 0 ∧ k = q) t t' ∧
      gN t' 83 0 q = 1 ∧ gN t' 84 0 q = l3 ∧ gN t' 85 0 q = j ∧ gN t' 86 0 q = cr ∧ gN t' 87 0 q = if cr = 0 then 0 else To - j := by
  have hN : ∀ (m : MM) (K i k : Nat) (v : Int), SM m → (K ≠ 12) → SM (sN m K i k v) := fun m K i k v hm _ => hm.mv (fun _ => rfl) (fun _ _ _ z => z)
  have h1 := hN t 83 0 q 1 hM (by decide)
  have h2 := hN _ 84 0 q l3 h1 (by decide)
  have h3 := hN _ 85 0 q j h2 (by decide)
  have h4 := hN _ 86 0 q cr h3 (by decide)
  refine ⟨sN (sN (sN (sN (sN t 83 0 q 1) 84 0 q l3) 85 0 q j) 86 0 q cr) 87 0 q (if cr = 0 then 0 else To - j), ?_, ?_, ?_, ?_, ?_, ?_, ?_⟩
  · unfold j_X12_set_0_182
    rw [nk_of hM.r30, stN_of hM.z83 (by omega), tnc, nk_of h1.r31, stN_of h1.z84 (by omega), tnc, nk_of h2.r32, stN_of h2.z85 (by omega), tnc, nk_of h3.r33]
    rcases hcr with z | z
    · subst z
      rw [if_pos rfl]
      unfold j_X12_set_0_223
      rw [stN_of h3.z86 (by omega), tnc, nk_of h4.r34, if_pos rfl]
      unfold j_X12_set_0_244
      rw [stN_of h4.z87 (by omega), tnc, if_pos rfl]
    · subst z
      rw [if_neg (by decide)]
      unfold j_X12_set_0_223
      rw [stN_of h3.z86 (by omega), tnc, nk_of h4.r34, if_neg (by decide), ck_of ⟨by omega, by omega⟩]
      unfold j_X12_set_0_244
      rw [stN_of h4.z87 (by omega), tnc, if_neg (by decide)]
  · exact ((((FrC.rf.sN ⟨by omega, by omega, rfl, rfl⟩).sN ⟨by omega, by omega, rfl, rfl⟩).sN ⟨by omega, by omega, rfl, rfl⟩).sN ⟨by omega, by omega, rfl, rfl⟩).sN ⟨by omega, by omega, rfl, rfl⟩
  · rw [gN_k (by decide), gN_k (by decide), gN_k (by decide), gN_k (by decide), gN_sN, if_pos ⟨rfl, rfl, rfl⟩]
  · rw [gN_k (by decide), gN_k (by decide), gN_k (by decide), gN_sN, if_pos ⟨rfl, rfl, rfl⟩]
  · rw [gN_k (by decide), gN_k (by decide), gN_sN, if_pos ⟨rfl, rfl, rfl⟩]
  · rw [gN_k (by decide), gN_sN, if_pos ⟨rfl, rfl, rfl⟩]
  · rw [gN_sN, if_pos ⟨rfl, rfl, rfl⟩]
end SET
