/-! HOW MANY BITS: bytes. -/
theorem pop_8 : ∀ a : Fin 256, ((popN a.val : Nat) : Int) = crd a.val 8 := by decide +kernel
theorem crd_add (X m : Nat) : ∀ k, crd X (m + k) = crd (X % 2 ^ m) m + crd (X / 2 ^ m) k := by
  intro k
  induction k with
  | zero =>
    show sumF _ m = sumF _ m + 0
    rw [Int.add_zero]
    exact sumF_congr m (fun j hj => by
      rw [Nat.testBit_mod_two_pow]
      simp [hj])
  | succ k ih =>
    unfold crd at ih ⊢
    rw [← Nat.add_assoc, sumF, ih, sumF, Nat.testBit_div_two_pow, Int.add_assoc, Nat.add_comm k m]
theorem pop_crd {x : Nat} (hx : x < 65536) : ((popN x : Nat) : Int) = crd x 16 := by
  have h := pop_add ⟨x / 256, by omega⟩ ⟨x % 256, by omega⟩
  have e : x % 256 + 256 * (x / 256) = x := by omega
  rw [show (16 : Nat) = 8 + 8 from rfl, crd_add, show 2 ^ 8 = 256 from rfl, ← pop_8 ⟨x % 256, by omega⟩, ← pop_8 ⟨x / 256, by omega⟩]
  simp only at h
  rw [e] at h
  rw [h]
  exact Int.natCast_add _ _
theorem bitCount_c (m : MM) {x : Nat} (hx : x < 65536) : f_J_bitCount m (x : Int) = some ((popN x : Nat) : Int) := by
  have p31 : (65536 : Nat) < 2 ^ 31 := by decide
  unfold f_J_bitCount popN
  have a0 : x >>> 1 ≤ x := Nat.shiftRight_le x 1
  have a1 : (x >>> 1) &&& 1431655765 ≤ x >>> 1 := Nat.and_le_left
  rw [show (1 : Int) = ((1 : Nat) : Int) from rfl, show (1431655765 : Int) = ((1431655765 : Nat) : Int) from rfl, iushr_nat (by omega) (by decide), iand_nat (by omega) (by decide), show (x : Int) - (((x >>> 1) &&& 1431655765 : Nat) : Int) = ((x - ((x >>> 1) &&& 1431655765) : Nat) : Int) by omega, ck_of ⟨by omega, by omega⟩, lt0_eq]
  generalize hv1 : x - ((x >>> 1) &&& 1431655765) = v1
  have b0 : v1 < 65536 := by omega
  have b1 : v1 >>> 2 ≤ v1 := Nat.shiftRight_le v1 2
  have b2 : v1 &&& 858993459 ≤ v1 := Nat.and_le_left
  have b3 : (v1 >>> 2) &&& 858993459 ≤ v1 >>> 2 := Nat.and_le_left
  rw [show (2 : Int) = ((2 : Nat) : Int) from rfl, show (858993459 : Int) = ((858993459 : Nat) : Int) from rfl, iushr_nat (by omega) (by decide), iand_nat (by omega) (by decide), iand_nat (by omega) (by decide), ← Int.natCast_add, ck_of ⟨by omega, by omega⟩, lt0_eq]
  generalize hv2 : (v1 &&& 858993459) + ((v1 >>> 2) &&& 858993459) = v2
  have d0 : v2 < 131072 := by omega
  have d1 : v2 >>> 4 ≤ v2 := Nat.shiftRight_le v2 4
  rw [show (4 : Int) = ((4 : Nat) : Int) from rfl, show (252645135 : Int) = ((252645135 : Nat) : Int) from rfl, iushr_nat (by omega) (by decide), ← Int.natCast_add, ck_of ⟨by omega, by omega⟩, lt0_eq, iand_nat (by omega) (by decide)]
  have d2 : (v2 + (v2 >>> 4)) &&& 252645135 ≤ v2 + (v2 >>> 4) := Nat.and_le_left
  generalize hv3 : (v2 + (v2 >>> 4)) &&& 252645135 = v3
  have g0 : v3 < 262144 := by omega
  have g1 : v3 >>> 8 ≤ v3 := Nat.shiftRight_le v3 8
  have g2 : (v3 + (v3 >>> 8)) >>> 16 ≤ v3 + (v3 >>> 8) := Nat.shiftRight_le _ 16
  rw [show (8 : Int) = ((8 : Nat) : Int) from rfl, show (16 : Int) = ((16 : Nat) : Int) from rfl, iushr_nat (by omega) (by decide), ← Int.natCast_add, ck_of ⟨by omega, by omega⟩, iushr_nat (by omega) (by decide), ← Int.natCast_add, ck_of ⟨by omega, by omega⟩, lt0_eq, show (63 : Int) = ((63 : Nat) : Int) from rfl, iand_nat (by omega) (by decide)]
  subst hv1
  subst hv2
  subst hv3
  rfl
