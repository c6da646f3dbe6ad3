/-! BITS, AND SETS OF FORMES. -/
theorem i32_bv {a : Nat} : (Int32.ofInt (a : Int)).toBitVec = BitVec.ofNat 32 a := by
  rw [Int32.toBitVec_ofInt, BitVec.ofInt_natCast]
theorem i32_toInt {x : Int32} {a : Nat} (h : x.toBitVec.toNat = a) (ha : a < 2 ^ 31) : x.toInt = (a : Int) := by
  show x.toBitVec.toInt = _
  rw [BitVec.toInt_eq_toNat_of_lt (by omega), h]
theorem iand_nat {a b : Nat} (ha : a < 2 ^ 31) (hb : b < 2 ^ 31) : iand (a : Int) (b : Int) = ((a &&& b : Nat) : Int) := by
  unfold iand
  refine i32_toInt ?_ (Nat.lt_of_le_of_lt Nat.and_le_left ha)
  show ((Int32.ofInt (a : Int)).toBitVec &&& (Int32.ofInt (b : Int)).toBitVec).toNat = _
  rw [i32_bv, i32_bv, BitVec.toNat_and, BitVec.toNat_ofNat, BitVec.toNat_ofNat, Nat.mod_eq_of_lt (by omega), Nat.mod_eq_of_lt (by omega)]
theorem ior_nat {a b : Nat} (ha : a < 2 ^ 31) (hb : b < 2 ^ 31) : ior' (a : Int) (b : Int) = ((a ||| b : Nat) : Int) := by
  unfold ior'
  refine i32_toInt ?_ (Nat.or_lt_two_pow ha hb)
  show ((Int32.ofInt (a : Int)).toBitVec ||| (Int32.ofInt (b : Int)).toBitVec).toNat = _
  rw [i32_bv, i32_bv, BitVec.toNat_or, BitVec.toNat_ofNat, BitVec.toNat_ofNat, Nat.mod_eq_of_lt (by omega), Nat.mod_eq_of_lt (by omega)]
theorem iandn_nat {a b : Nat} (ha : a < 2 ^ 31) (hb : b < 2 ^ 31) : iand (a : Int) (ixor' (b : Int) (-1)) = ((a ^^^ (a &&& b) : Nat) : Int) := by
  unfold iand ixor'
  rw [Int32.ofInt_toInt]
  refine i32_toInt ?_ (Nat.xor_lt_two_pow ha (Nat.lt_of_le_of_lt Nat.and_le_left ha))
  show ((Int32.ofInt (a : Int)).toBitVec &&& ((Int32.ofInt (b : Int)).toBitVec ^^^ BitVec.allOnes 32)).toNat = _
  have e : ∀ A B : BitVec 32, A &&& (B ^^^ BitVec.allOnes 32) = A ^^^ (A &&& B) := fun A B => by
    ext i hi
    simp only [BitVec.getElem_and, BitVec.getElem_xor, BitVec.getElem_allOnes]
    cases A[i] <;> cases B[i] <;> rfl
  rw [e, i32_bv, i32_bv, BitVec.toNat_xor, BitVec.toNat_and, BitVec.toNat_ofNat, BitVec.toNat_ofNat, Nat.mod_eq_of_lt (by omega), Nat.mod_eq_of_lt (by omega)]
theorem ishl_nat {l : Nat} (hl : l < 31) : ishl 1 (l : Int) = ((2 ^ l : Nat) : Int) := by
  have k : ∀ l : Fin 31, ishl 1 ((l.val : Nat) : Int) = ((2 ^ l.val : Nat) : Int) := by decide +kernel
  exact k ⟨l, hl⟩
/-- a set without one -/
def del (S l : Nat) : Nat := S ^^^ (S &&& 2 ^ l)
theorem del_bit (S l g : Nat) : (del S l).testBit g = (S.testBit g && !decide (l = g)) := by
  unfold del
  rw [Nat.testBit_xor, Nat.testBit_and, Nat.testBit_two_pow]
  cases S.testBit g <;> by_cases q : l = g <;> simp [q]
theorem del_no {S l : Nat} (h : S.testBit l = false) : del S l = S := by
  apply Nat.eq_of_testBit_eq
  intro g
  rw [del_bit]
  by_cases q : l = g
  · subst q; rw [h]; rfl
  · simp [q]
theorem lt_of_bit : ∀ (l S T : Nat), S.testBit l = true → T.testBit l = false → (∀ j, l < j → T.testBit j = S.testBit j) → T < S
  | 0, S, T, h1, h2, h3 => by
    have e : T / 2 = S / 2 := Nat.eq_of_testBit_eq fun i => by
      rw [← Nat.testBit_add_one, ← Nat.testBit_add_one]
      exact h3 (i + 1) (by omega)
    rw [Nat.testBit_zero] at h1 h2
    have h1' : S % 2 = 1 := by simpa using h1
    have h2' : ¬ T % 2 = 1 := by simpa using h2
    omega
  | l + 1, S, T, h1, h2, h3 => by
    rw [Nat.testBit_add_one] at h1 h2
    have := lt_of_bit l (S / 2) (T / 2) h1 h2 fun j hj => by
      rw [← Nat.testBit_add_one, ← Nat.testBit_add_one]
      exact h3 (j + 1) (by omega)
    omega
theorem del_lt {S l : Nat} (h : S.testBit l = true) : del S l < S := by
  refine lt_of_bit l S _ h ?_ fun j hj => ?_
  · rw [del_bit]; simp
  · rw [del_bit, decide_eq_false (show ¬ l = j by omega)]; simp
theorem del_ne {S l : Nat} : del S l = S ↔ S.testBit l = false := by
  refine ⟨fun q => ?_, del_no⟩
  by_cases z : S.testBit l = true
  · have := del_lt z; omega
  · simpa using z
/-- the sum of the first values -/
def sumF (v : Nat → Int) : Nat → Int
  | 0 => 0
  | k + 1 => sumF v k + v k
theorem sumF_congr {v w : Nat → Int} : ∀ k, (∀ j, j < k → v j = w j) → sumF v k = sumF w k
  | 0, _ => rfl
  | k + 1, h => by rw [sumF, sumF, sumF_congr k (fun j hj => h j (by omega)), h k (by omega)]
theorem sumF_zero {v : Nat → Int} : ∀ k, (∀ j, j < k → v j = 0) → sumF v k = 0
  | 0, _ => rfl
  | k + 1, h => by rw [sumF, sumF_zero k (fun j hj => h j (by omega)), h k (by omega)]; rfl
/-- how many ways to add one after the other -/
def IsV (c : Nat → Nat → Bool) (n : Nat) (V : Nat → Int) : Prop := V 0 = 1 ∧ ∀ S, 0 < S → S < 2 ^ n → V S = sumF (fun l => if S.testBit l = true ∧ c l (del S l) = true then V (del S l) else 0) n
/-- all that must lie ahead lies in the set -/
def Down (A : Nat → Nat) (S : Nat) : Prop := ∀ l g, S.testBit l = true → (A l).testBit g = true → S.testBit g = true
theorem bit_lt {S n l : Nat} (h : S < 2 ^ n) (hl : S.testBit l = true) : l < n := by
  rcases Nat.lt_or_ge l n with q | q
  · exact q
  · rw [Nat.testBit_lt_two_pow (Nat.lt_of_lt_of_le h (Nat.pow_le_pow_right (by omega) q))] at hl
    exact absurd hl (by simp)
section WAYS
variable {A : Nat → Nat} {n : Nat} {V W : Nat → Int} {c d : Nat → Nat → Bool}
/-- the first condition: all that lies ahead of l is in the rest -/
theorem ways_zero (hc : ∀ l S, c l S = true ↔ ∀ g, (A l).testBit g = true → S.testBit g = true) (hV : IsV c n V) : ∀ k S, S ≤ k → S < 2 ^ n → ¬ Down A S → V S = 0 := by
  intro k
  induction k with
  | zero =>
    intro S hS hn hd
    obtain rfl : S = 0 := by omega
    exact absurd (fun l g hl => absurd hl (by simp)) hd
  | succ k ih =>
    intro S hS hn hd
    have hS0 : 0 < S := by
      rcases Nat.eq_zero_or_pos S with q | q
      · subst q
        exact absurd (fun l g hl => absurd hl (by simp)) hd
      · exact q
    rw [hV.2 S hS0 hn]
    refine sumF_zero n fun l hl => ?_
    by_cases q : S.testBit l = true ∧ c l (del S l) = true
    · rw [if_pos q]
      have hlt := del_lt q.1
      refine ih _ (by omega) (by omega) fun hD => hd fun l' g h1 h2 => ?_
      by_cases z : l = l'
      · subst z
        have := (hc l (del S l)).mp q.2 g h2
        rw [del_bit] at this
        revert this
        cases S.testBit g <;> simp
      · have := hD l' g (by rw [del_bit, h1]; simp [z]) h2
        rw [del_bit] at this
        revert this
        cases S.testBit g <;> simp
    · rw [if_neg q]
/-- both ways to count agree on sets that hold what lies ahead -/
theorem ways_eq (hirr : ∀ l, (A l).testBit l = false) (hc : ∀ l S, c l S = true ↔ ∀ g, (A l).testBit g = true → S.testBit g = true) (hd : ∀ l S, d l S = true ↔ ∀ g, S.testBit g = true → (A g).testBit l = false) (hV : IsV c n V) (hW : IsV d n W) : ∀ k S, S ≤ k → S < 2 ^ n → Down A S → V S = W S := by
  intro k
  induction k with
  | zero =>
    intro S hS hn hD
    obtain rfl : S = 0 := by omega
    rw [hV.1, hW.1]
  | succ k ih =>
    intro S hS hn hD
    rcases Nat.eq_zero_or_pos S with q | hS0
    · subst q
      rw [hV.1, hW.1]
    · rw [hV.2 S hS0 hn, hW.2 S hS0 hn]
      refine sumF_congr n fun l hl => ?_
      by_cases q : S.testBit l = true
      · have hlt := del_lt q
        have hcl : c l (del S l) = true := (hc _ _).mpr fun g hg => by
          rw [del_bit, hD l g q hg]
          have : l ≠ g := fun z => by rw [← z, hirr] at hg; exact absurd hg (by simp)
          simp [this]
        rw [if_pos ⟨q, hcl⟩]
        by_cases z : d l (del S l) = true
        · rw [if_pos ⟨q, z⟩]
          refine ih _ (by omega) (by omega) fun l' g h1 h2 => ?_
          rw [del_bit] at h1 ⊢
          have h1' : S.testBit l' = true := by revert h1; cases S.testBit l' <;> simp
          have h3 := (hd _ _).mp z l' (by rw [del_bit]; exact h1)
          have : l ≠ g := fun z => by rw [← z, h3] at h2; exact absurd h2 (by simp)
          rw [hD l' g h1' h2]
          simp [this]
        · rw [if_neg (fun w => z w.2)]
          refine ways_zero hc hV _ _ (Nat.le_refl _) (by omega) fun hD' => z ((hd _ _).mpr fun g hg => ?_)
          cases e : (A g).testBit l
          · rfl
          · have := hD' g l hg e
            rw [del_bit] at this
            simp at this
      · rw [if_neg (fun w => q w.1), if_neg (fun w => q w.1)]
end WAYS
