/-! WORDS: the class packs eight bits a letter, the model five. -/
theorem sh_u (s : Nat) (h : s < 64) : ((Int32.ofInt (s : Int)).toInt64.toUInt64 &&& Int64.toUInt64 63) = UInt64.ofNat s := by
  have : ∀ s : Fin 64, ((Int32.ofInt ((s : Nat) : Int)).toInt64.toUInt64 &&& Int64.toUInt64 63) = UInt64.ofNat (s : Nat) := by decide +kernel
  exact this ⟨s, h⟩
theorem sh_l (s : Nat) (h : s < 64) : ((Int32.ofInt (s : Int)).toInt64 &&& 63) = Int64.ofNat s := by
  have : ∀ s : Fin 64, ((Int32.ofInt ((s : Nat) : Int)).toInt64 &&& 63) = Int64.ofNat (s : Nat) := by decide +kernel
  exact this ⟨s, h⟩
theorem i64_ext {a b : Int64} (h : a.toBitVec.toNat = b.toBitVec.toNat) : a = b := Int64.toBitVec_inj.mp (BitVec.eq_of_toNat_eq h)
theorem i64_nat (x : Nat) (h : x < 2 ^ 63) : (Int64.ofNat x).toBitVec.toNat = x := by
  show (BitVec.ofNat 64 x).toNat = x
  rw [BitVec.toNat_ofNat]
  exact Nat.mod_eq_of_lt (by omega)
theorem lushr_nat (x s : Nat) (hx : x < 2 ^ 63) (hs : s < 64) : lushr (Int64.ofNat x) (s : Int) = Int64.ofNat (x / 2 ^ s) := by
  have h2 : x / 2 ^ s < 2 ^ 63 := Nat.lt_of_le_of_lt (Nat.div_le_self _ _) hx
  apply i64_ext
  unfold lushr
  rw [sh_u s hs, i64_nat _ h2]
  show ((Int64.ofNat x).toBitVec >>> ((UInt64.ofNat s).toBitVec % 64)).toNat = _
  have e : ((UInt64.ofNat s).toBitVec % 64).toNat = s := by
    rw [BitVec.toNat_umod]
    show (BitVec.ofNat 64 s).toNat % 64 = s
    rw [BitVec.toNat_ofNat]
    omega
  rw [BitVec.ushiftRight_eq', BitVec.toNat_ushiftRight, e, i64_nat x hx, Nat.shiftRight_eq_div_pow]
theorem lshr_nat (x s : Nat) (hx : x < 2 ^ 63) (hs : s < 64) : lshr (Int64.ofNat x) (s : Int) = Int64.ofNat (x / 2 ^ s) := by
  have h2 : x / 2 ^ s < 2 ^ 63 := Nat.lt_of_le_of_lt (Nat.div_le_self _ _) hx
  apply i64_ext
  unfold lshr
  rw [sh_l s hs, i64_nat _ h2]
  show ((Int64.ofNat x).toBitVec.sshiftRight' ((Int64.ofNat s).toBitVec.smod 64)).toNat = _
  have e : ((Int64.ofNat s).toBitVec.smod 64).toNat = s := by
    have : ∀ s : Fin 64, ((Int64.ofNat (s : Nat)).toBitVec.smod 64).toNat = (s : Nat) := by decide +kernel
    exact this ⟨s, hs⟩
  have hm : (Int64.ofNat x).toBitVec.msb = false := by
    rw [BitVec.msb_eq_false_iff_two_mul_lt, i64_nat x hx]; omega
  rw [BitVec.sshiftRight', BitVec.toNat_sshiftRight_of_msb_false hm, e, i64_nat x hx, Nat.shiftRight_eq_div_pow]
theorem land_nat (x k : Nat) (hx : x < 2 ^ 63) (hk : k < 32) : (Int64.ofNat x &&& Int64.ofNat (2 ^ k - 1)) = Int64.ofNat (x % 2 ^ k) := by
  have h1 : 2 ^ k ≤ 2 ^ 31 := Nat.pow_le_pow_right (by omega) (by omega)
  have h2 : x % 2 ^ k < 2 ^ 63 := Nat.lt_of_le_of_lt (Nat.mod_le _ _) hx
  apply i64_ext
  rw [i64_nat _ h2]
  show ((Int64.ofNat x).toBitVec &&& (Int64.ofNat (2 ^ k - 1)).toBitVec).toNat = _
  rw [BitVec.toNat_and, i64_nat x hx, i64_nat _ (by omega), Nat.and_two_pow_sub_one_eq_mod]
theorem l2i_nat (x : Nat) (h : x < 2 ^ 31) : l2i (Int64.ofNat x) = (x : Int) := by
  unfold l2i
  rw [Int64.toInt32_ofNat', Int32.toInt_ofNat_of_lt h]
theorem i2l_nat (x : Nat) (h : x < 2 ^ 31) : i2l (x : Int) = Int64.ofNat x := by
  unfold i2l
  apply Int64.toInt_inj.mp
  rw [Int32.toInt_toInt64, ofT ⟨by omega, by omega⟩, Int64.toInt_ofNat_of_lt (by omega)]
theorem lshl_nat (x s : Nat) (hs : s < 64) (h : x * 2 ^ s < 2 ^ 63) : lshl (Int64.ofNat x) (s : Int) = Int64.ofNat (x * 2 ^ s) := by
  have hx : x < 2 ^ 63 := Nat.lt_of_le_of_lt (Nat.le_mul_of_pos_right _ (Nat.two_pow_pos s)) h
  apply i64_ext
  unfold lshl
  rw [sh_l s hs, i64_nat _ h]
  show ((Int64.ofNat x).toBitVec <<< ((Int64.ofNat s).toBitVec.smod 64)).toNat = _
  have e : ((Int64.ofNat s).toBitVec.smod 64).toNat = s := by
    have : ∀ s : Fin 64, ((Int64.ofNat (s : Nat)).toBitVec.smod 64).toNat = (s : Nat) := by decide +kernel
    exact this ⟨s, hs⟩
  rw [BitVec.shiftLeft_eq', BitVec.toNat_shiftLeft, e, i64_nat x hx, Nat.shiftLeft_eq, Nat.mod_eq_of_lt (by omega)]
theorem lor_nat (x y s : Nat) (hx : x < 2 ^ s) (h : x + y * 2 ^ s < 2 ^ 63) : (Int64.ofNat x ||| Int64.ofNat (y * 2 ^ s)) = Int64.ofNat (x + y * 2 ^ s) := by
  apply i64_ext
  rw [i64_nat (x + y * 2 ^ s) h]
  show ((Int64.ofNat x).toBitVec ||| (Int64.ofNat (y * 2 ^ s)).toBitVec).toNat = _
  rw [BitVec.toNat_or, i64_nat x (by omega), i64_nat _ (by omega), Nat.or_comm, Nat.mul_comm y, ← Nat.two_pow_add_eq_or_of_lt hx]
  omega
/-- a word's letters in the class's packing, in the model's -/
def cwN : List Nat → Nat
  | [] => 0
  | a :: l => (97 + a) + 256 * cwN l
def mwN : List Nat → Nat
  | [] => 0
  | a :: l => (a + 1) + 32 * mwN l
def okW (l : List Nat) : Prop := l.length ≤ 8 ∧ ∀ a ∈ l, a < 26
def WW (c w : Int64) : Prop := ∃ l, okW l ∧ c = Int64.ofNat (cwN l) ∧ w = Int64.ofNat (mwN l)
theorem cwN_lt : ∀ (l : List Nat), (∀ a ∈ l, a < 26) → 2 * cwN l < 256 ^ l.length
  | [], _ => by decide
  | a :: l, h => by
    have h1 := cwN_lt l (fun b hb => h b (List.mem_cons_of_mem _ hb))
    have h2 := h a List.mem_cons_self
    show 2 * ((97 + a) + 256 * cwN l) < 256 ^ (l.length + 1)
    rw [Nat.pow_succ]
    omega
theorem mwN_lt : ∀ (l : List Nat), (∀ a ∈ l, a < 26) → mwN l < 32 ^ l.length
  | [], _ => by decide
  | a :: l, h => by
    have h1 := mwN_lt l (fun b hb => h b (List.mem_cons_of_mem _ hb))
    have h2 := h a List.mem_cons_self
    show (a + 1) + 32 * mwN l < 32 ^ (l.length + 1)
    rw [Nat.pow_succ]
    omega
theorem pow_le_of_len {n : Nat} (h : n ≤ 8) : 256 ^ n ≤ 2 ^ 64 ∧ 32 ^ n ≤ 2 ^ 40 := ⟨Nat.le_trans (Nat.pow_le_pow_right (by omega) h) (by decide), Nat.le_trans (Nat.pow_le_pow_right (by omega) h) (by decide)⟩
theorem okW.c {l : List Nat} (h : okW l) : cwN l < 2 ^ 63 := by have h1 := cwN_lt l h.2; have h2 := (pow_le_of_len h.1).1; omega
theorem okW.m {l : List Nat} (h : okW l) : mwN l < 2 ^ 40 := by have h1 := mwN_lt l h.2; have h2 := (pow_le_of_len h.1).2; omega
theorem cwN_inj : ∀ (l k : List Nat), (∀ a ∈ l, a < 26) → (∀ a ∈ k, a < 26) → cwN l = cwN k → l = k
  | [], [], _, _, _ => rfl
  | [], b :: k, _, _, e => by
    have e : 0 = (97 + b) + 256 * cwN k := e
    omega
  | a :: l, [], _, _, e => by
    have e : (97 + a) + 256 * cwN l = 0 := e
    omega
  | a :: l, b :: k, hl, hk, e => by
    have e : (97 + a) + 256 * cwN l = (97 + b) + 256 * cwN k := e
    have h1 := hl a List.mem_cons_self
    have h2 := hk b List.mem_cons_self
    have h3 : a = b := by omega
    have h4 : cwN l = cwN k := by omega
    rw [h3, cwN_inj l k (fun x hx => hl x (List.mem_cons_of_mem _ hx)) (fun x hx => hk x (List.mem_cons_of_mem _ hx)) h4]
theorem mwN_inj : ∀ (l k : List Nat), (∀ a ∈ l, a < 26) → (∀ a ∈ k, a < 26) → mwN l = mwN k → l = k
  | [], [], _, _, _ => rfl
  | [], b :: k, _, _, e => by
    have e : 0 = (b + 1) + 32 * mwN k := e
    omega
  | a :: l, [], _, _, e => by
    have e : (a + 1) + 32 * mwN l = 0 := e
    omega
  | a :: l, b :: k, hl, hk, e => by
    have e : (a + 1) + 32 * mwN l = (b + 1) + 32 * mwN k := e
    have h1 := hl a List.mem_cons_self
    have h2 := hk b List.mem_cons_self
    have h3 : a = b := by omega
    have h4 : mwN l = mwN k := by omega
    rw [h3, mwN_inj l k (fun x hx => hl x (List.mem_cons_of_mem _ hx)) (fun x hx => hk x (List.mem_cons_of_mem _ hx)) h4]
theorem ofNat_inj {x y : Nat} (hx : x < 2 ^ 63) (hy : y < 2 ^ 63) (h : Int64.ofNat x = Int64.ofNat y) : x = y := by
  have := congrArg (fun z : Int64 => z.toBitVec.toNat) h
  simp only [i64_nat x hx, i64_nat y hy] at this
  exact this
/-- words are the same on both sides, or on neither -/
theorem WW.eq_iff {c1 w1 c2 w2 : Int64} (h1 : WW c1 w1) (h2 : WW c2 w2) : c1 = c2 ↔ w1 = w2 := by
  obtain ⟨l, hl, rfl, rfl⟩ := h1
  obtain ⟨k, hk, rfl, rfl⟩ := h2
  constructor
  · intro h
    rw [cwN_inj l k hl.2 hk.2 (ofNat_inj hl.c hk.c h)]
  · intro h
    have a := hl.m
    have b := hk.m
    rw [mwN_inj l k hl.2 hk.2 (ofNat_inj (by omega) (by omega) h)]
theorem lcm_zero {x y : Int64} : lcm' x y = 0 ↔ x = y := by
  unfold lcm'
  split
  next h =>
    refine ⟨fun q => by omega, fun q => ?_⟩
    subst q
    exact absurd h (Int64.lt_irrefl)
  next => 
    split
    next h => exact ⟨fun _ => h, fun _ => rfl⟩
    next h => exact ⟨fun q => by omega, fun q => absurd q h⟩
/-- the letter at a place, 0 behind the end -/
theorem cwN_at : ∀ (l : List Nat) (k : Nat), cwN l / 256 ^ k % 256 = (match l[k]? with | some a => 97 + a | none => 0) ∨ ¬ ∀ a ∈ l, a < 26
  | [], k => by
    left
    simp [cwN]
  | a :: l, 0 => by
    by_cases h : ∀ b ∈ a :: l, b < 26
    · left
      have h1 := h a List.mem_cons_self
      show ((97 + a) + 256 * cwN l) / 256 ^ 0 % 256 = 97 + a
      rw [Nat.pow_zero, Nat.div_one]
      omega
    · exact Or.inr h
  | a :: l, k + 1 => by
    by_cases h : ∀ b ∈ a :: l, b < 26
    · left
      have h1 := h a List.mem_cons_self
      rcases cwN_at l k with h2 | h2
      · show ((97 + a) + 256 * cwN l) / 256 ^ (k + 1) % 256 = _
        rw [Nat.pow_succ, Nat.mul_comm (256 ^ k), ← Nat.div_div_eq_div_mul, show ((97 + a) + 256 * cwN l) / 256 = cwN l by omega, h2]
        simp
      · exact absurd (fun b hb => h b (List.mem_cons_of_mem _ hb)) h2
    · exact Or.inr h
theorem mwN_at : ∀ (l : List Nat) (k : Nat), (∀ a ∈ l, a < 26) → mwN l / 32 ^ k % 32 = (match l[k]? with | some a => a + 1 | none => 0)
  | [], k, _ => by simp [mwN]
  | a :: l, 0, h => by
    have h1 := h a List.mem_cons_self
    show ((a + 1) + 32 * mwN l) / 32 ^ 0 % 32 = a + 1
    rw [Nat.pow_zero, Nat.div_one]
    omega
  | a :: l, k + 1, h => by
    have h1 := h a List.mem_cons_self
    show ((a + 1) + 32 * mwN l) / 32 ^ (k + 1) % 32 = _
    rw [Nat.pow_succ, Nat.mul_comm (32 ^ k), ← Nat.div_div_eq_div_mul, show ((a + 1) + 32 * mwN l) / 32 = mwN l by omega, mwN_at l k (fun b hb => h b (List.mem_cons_of_mem _ hb))]
    simp
theorem mwN_pos : ∀ (l : List Nat) (k : Nat), (∀ a ∈ l, a < 26) → (0 < mwN l / 32 ^ k ↔ k < l.length)
  | [], k, _ => by simp [mwN]
  | a :: l, 0, h => by
    show 0 < ((a + 1) + 32 * mwN l) / 32 ^ 0 ↔ 0 < l.length + 1
    rw [Nat.pow_zero, Nat.div_one]
    omega
  | a :: l, k + 1, h => by
    have h1 := h a List.mem_cons_self
    have h2 := mwN_pos l k (fun b hb => h b (List.mem_cons_of_mem _ hb))
    show 0 < ((a + 1) + 32 * mwN l) / 32 ^ (k + 1) ↔ k + 1 < l.length + 1
    rw [Nat.pow_succ, Nat.mul_comm (32 ^ k), ← Nat.div_div_eq_div_mul, show ((a + 1) + 32 * mwN l) / 32 = mwN l by omega, h2]
    omega
