/-! HOW MANY BITS. -/
theorem iushr_nat {x s : Nat} (hx : x < 2 ^ 31) (hs : s < 32) : iushr (x : Int) (s : Int) = ((x >>> s : Nat) : Int) := by
  unfold iushr
  have e : (((Int32.ofInt (s : Int)).toUInt32 &&& Int32.toUInt32 31).toBitVec % 32).toNat = s := by
    have : ∀ s : Fin 32, (((Int32.ofInt ((s.val : Nat) : Int)).toUInt32 &&& Int32.toUInt32 31).toBitVec % 32).toNat = s.val := by decide +kernel
    exact this ⟨s, hs⟩
  refine i32_toInt ?_ (Nat.lt_of_le_of_lt (Nat.shiftRight_le x s) hx)
  show ((Int32.ofInt (x : Int)).toBitVec >>> (((Int32.ofInt (s : Int)).toUInt32 &&& Int32.toUInt32 31).toBitVec % 32)).toNat = _
  rw [BitVec.ushiftRight_eq', BitVec.toNat_ushiftRight, e, i32_bv, BitVec.toNat_ofNat, Nat.mod_eq_of_lt (by omega)]
theorem ishr_nat {x s : Nat} (hx : x < 2 ^ 31) (hs : s < 32) : ishr (x : Int) (s : Int) = ((x >>> s : Nat) : Int) := by
  unfold ishr
  have e : ((Int32.ofInt (s : Int) &&& 31).toBitVec.smod 32).toNat = s := by
    have : ∀ s : Fin 32, ((Int32.ofInt ((s.val : Nat) : Int) &&& 31).toBitVec.smod 32).toNat = s.val := by decide +kernel
    exact this ⟨s, hs⟩
  refine i32_toInt ?_ (Nat.lt_of_le_of_lt (Nat.shiftRight_le x s) hx)
  show ((Int32.ofInt (x : Int)).toBitVec.sshiftRight' ((Int32.ofInt (s : Int) &&& 31).toBitVec.smod 32)).toNat = _
  have hm : (Int32.ofInt (x : Int)).toBitVec.msb = false := by
    rw [BitVec.msb_eq_false_iff_two_mul_lt, i32_bv, BitVec.toNat_ofNat, Nat.mod_eq_of_lt (by omega)]; omega
  rw [BitVec.sshiftRight', BitVec.toNat_sshiftRight_of_msb_false hm, e, i32_bv, BitVec.toNat_ofNat, Nat.mod_eq_of_lt (by omega)]
theorem bit16 {a l : Nat} (ha : a < 2 ^ 31) (hl : l < 32) : iand (ishr (a : Int) (l : Int)) 1 = if a.testBit l = true then 1 else 0 := by
  have h1 : a >>> l < 2 ^ 31 := Nat.lt_of_le_of_lt (Nat.shiftRight_le a l) ha
  rw [ishr_nat ha hl, show (1 : Int) = ((1 : Nat) : Int) from rfl, iand_nat h1 (by decide)]
  have h2 : a >>> l &&& 1 = if a.testBit l = true then 1 else 0 := by
    rw [Nat.and_one_is_mod, Nat.testBit_eq_decide_div_mod_eq, Nat.shiftRight_eq_div_pow]
    by_cases q : a / 2 ^ l % 2 = 1
    · simp [q]
    · have : a / 2 ^ l % 2 = 0 := by omega
      simp [this]
  rw [h2]
  split <;> rfl
theorem pop_add : ∀ b a : Fin 256, popN (a.val + 256 * b.val) = popN a.val + popN b.val := by decide +kernel
