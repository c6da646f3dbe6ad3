/-! SPELLINGS in lines that are not full. -/
section LOOSE
variable {N : Nat} {mc mm : MM} {b F n M Ln E : Nat}
theorem ior_zero {x : Nat} (h : x < 64) : ior' (x : Int) 0 = (x : Int) := by
  have := ior_nat (a := x) (b := 0) (by omega) (by decide)
  rw [Nat.or_zero] at this
  exact this
theorem ior_bit {x s : Nat} (h : x < 64) (hs : s < 6) : ior' (x : Int) (ishl 1 (s : Int)) = ((x ||| 2 ^ s : Nat) : Int) ∧ x ||| 2 ^ s < 64 := by
  have h2 : 2 ^ s < 2 ^ 6 := Nat.pow_lt_pow_right (by decide) hs
  rw [ishl_nat (by omega), ior_nat (by omega) (by omega)]
  exact ⟨rfl, Nat.or_lt_two_pow (n := 6) h h2⟩
theorem words_eq (h : RR N mc mm) (hB : RBk mc mm b F n M Ln E) {p l T C : Nat} (hp : p < 2 * (F * n)) (hl : l < 6) (hT : gN mm 91 0 (6 * (16 * b + p) + l) = T) (hC : gN mm 92 0 (6 * (16 * b + p) + l) = C) (hTC : ((T + C : Nat) : Int) ≤ gN mm 89 0 (16 * b + p)) {v : Int} (hv : v = 0 ∨ v = 1) :
    ∀ (d k x : Nat), T + C - k = d → k ≤ T + C → x < 64 → ∃ y : Nat, y < 64 ∧ lpb (fun s : Int × Int => b_X4_spellingsOf_18 mc (16 * b + p) b v ((T + C : Nat) : Int) s.1 s.2) ((x : Int), (k : Int)) = some (y : Int) ∧ lpb (fun s : Int × Int => b_X12_formsIn_25 mm 0 ((16 * b + p : Nat) : Int) v ((6 * (16 * b + p) + l : Nat) : Int) s.1 s.2) ((x : Int), ((60 * (16 * b + p) + k : Nat) : Int)) = some (y : Int) := by
  have hP := hB.hP
  have hS := hB.hS
  have q0 := hP.hb
  have q1 := hP.hn
  have hg := hB.pg p hp
  have hwn := hg.wn
  have hM := h.M
  have hSpb := h.Sp.b
  have hcnt := hB.tx.cnt
  have model : ∀ (k x : Nat), k ≤ T + C → b_X12_formsIn_25 mm 0 ((16 * b + p : Nat) : Int) v ((6 * (16 * b + p) + l : Nat) : Int) (x : Int) ((60 * (16 * b + p) + k : Nat) : Int) = if k = T + C then some (.inr (x : Int)) else (nk 96 (gR mm 12 0 43) fun i7 => ldL mm 96 i7 ((60 * (16 * b + p) + k : Nat) : Int) fun v8 => (f_X12_spellingOf mm 0 v8).bind fun v9 => if v9 = (-1) then (ck (((60 * (16 * b + p) + k : Nat) : Int) + 1) <| some (.inl ((ior' (x : Int) 0), (((60 * (16 * b + p) + k : Nat) : Int) + 1)))) else
      nk 96 (gR mm 12 0 43) fun i10 => ldL mm 96 i10 ((60 * (16 * b + p) + k : Nat) : Int) fun v11 => nk 61 (gR mm 12 0 5) fun i12 => ldL mm 61 i12 v9 fun v13 => if ¬ (lcm' v11 v13) = 0 then (j_X12_formsIn_25_94 mm 0 ((16 * b + p : Nat) : Int) v ((6 * (16 * b + p) + l : Nat) : Int) ((60 * (16 * b + p) + k : Nat) : Int) v9 (x : Int) 0) else
      j_X12_formsIn_25_94 mm 0 ((16 * b + p : Nat) : Int) v ((6 * (16 * b + p) + l : Nat) : Int) ((60 * (16 * b + p) + k : Nat) : Int) v9 (x : Int) 1) := fun k x hk => by
    unfold b_X12_formsIn_25
    rw [nk_of hM.r38, ldN_of hM.z91 (by omega), tnc, hT, nk_of hM.r39, ldN_of hM.z92 (by omega), tnc, hC, ck_of ⟨by omega, by omega⟩]
    by_cases q : k = T + C
    · rw [if_pos (show 60 * ((16 * b + p : Nat) : Int) + (T : Int) + (C : Int) ≤ ((60 * (16 * b + p) + k : Nat) : Int) by omega), if_pos q]
    · rw [if_neg (show ¬ 60 * ((16 * b + p : Nat) : Int) + (T : Int) + (C : Int) ≤ ((60 * (16 * b + p) + k : Nat) : Int) by omega), if_neg q]
  intro d
  induction d with
  | zero =>
    intro k x hd hk hx
    obtain rfl : k = T + C := by omega
    refine ⟨x, hx, ?_, ?_⟩
    · rw [lpb_eq]
      simp only
      unfold b_X4_spellingsOf_18
      rw [if_pos (Int.le_refl _), Option.bind_some, Sum.elim_inr]
    · rw [lpb_eq]
      simp only
      rw [model _ x (Nat.le_refl _), if_pos rfl, Option.bind_some, Sum.elim_inr]
  | succ d ih =>
    intro k x hd hk hx
    have hkl : (k : Int) < gN mm 89 0 (16 * b + p) := by omega
    obtain ⟨w1, w2, w3⟩ := hg.w1 k hkl
    obtain ⟨j, hj⟩ := Int.ex w2
    have hz := spell_set h.Sp hB.tx hg hkl
    have hf := hg.w2 k hkl
    rw [hj] at w1 w3 hz hf
    rw [tnc] at hz hf
    have hj60 : j < 60 := by omega
    have esp : f_X12_spellingOf mm 0 (gL mm 96 0 (60 * (16 * b + p) + k)) = some (gN mc 48 b j) := by
      obtain ⟨v9, e1, e2⟩ := spelling_m (w := gL mm 96 0 (60 * (16 * b + p) + k)) (n := (gN mm 12 0 3).toNat) hM (by omega) (by omega)
      rw [e1, e2.one hz.1]
    have ek : ((k + 1 : Nat) : Int) = (k : Int) + 1 := by omega
    have ek2 : ((60 * (16 * b + p) + (k + 1) : Nat) : Int) = ((60 * (16 * b + p) + k : Nat) : Int) + 1 := by omega
    have key : ∃ y : Nat, y < 64 ∧ b_X4_spellingsOf_18 mc (16 * b + p) b v ((T + C : Nat) : Int) (x : Int) (k : Int) = some (.inl ((y : Int), ((k + 1 : Nat) : Int))) ∧ b_X12_formsIn_25 mm 0 ((16 * b + p : Nat) : Int) v ((6 * (16 * b + p) + l : Nat) : Int) (x : Int) ((60 * (16 * b + p) + k : Nat) : Int) = some (.inl ((y : Int), ((60 * (16 * b + p) + (k + 1) : Nat) : Int))) := by
      rw [model k x hk, if_neg (by omega)]
      unfold b_X4_spellingsOf_18
      rw [if_neg (show ¬ ((T + C : Nat) : Int) ≤ (k : Int) by omega), nk_of hS.t3, nk_of (hS.p1 p hp), ldN_of (hS.z27 p hp) (by omega), tnc, w1, ldN_of hS.z48 (by omega), tnc, nk_of hM.r43, ldL_of hM.z96 (by omega), tnc, esp, Option.bind_some, ek, ek2]
      by_cases hno : gN mc 48 b j = -1
      · rw [if_pos hno, if_pos hno, ck_of ⟨by omega, by omega⟩, ck_of ⟨by omega, by omega⟩, ior_zero hx]
        exact ⟨x, hx, rfl, rfl⟩
      · obtain ⟨s, hs⟩ : ∃ s : Nat, gN mc 48 b j = s := by
          have := hz.1.told
          exact Int.ex (by omega)
        obtain ⟨hs1, hs2⟩ := hz.2 s hs
        have hs6 : s < 6 := by omega
        rw [if_neg hno, if_neg hno, hs, nk_of (hS.p2 p hp), ldN_of (hS.z28 p hp) (by omega), tnc, nk_of hM.r43, ldL_of hM.z96 (by omega), tnc, nk_of hM.r5, ldL_of hM.z61 (by omega), tnc]
        have e28 : gN mc 28 (16 * b + p) k = 0 ∨ gN mc 28 (16 * b + p) k = 1 := by
          rcases hf with q | q
          · exact Or.inl q
          · exact Or.inr q.1
        have hbit := ior_bit hx hs6
        have emod : (if ¬ lcm' (gL mm 96 0 (60 * (16 * b + p) + k)) (gL mm 61 0 s) = 0 then j_X12_formsIn_25_94 mm 0 ((16 * b + p : Nat) : Int) v ((6 * (16 * b + p) + l : Nat) : Int) ((60 * (16 * b + p) + k : Nat) : Int) (s : Int) (x : Int) 0 else j_X12_formsIn_25_94 mm 0 ((16 * b + p : Nat) : Int) v ((6 * (16 * b + p) + l : Nat) : Int) ((60 * (16 * b + p) + k : Nat) : Int) (s : Int) (x : Int) 1) = j_X12_formsIn_25_94 mm 0 ((16 * b + p : Nat) : Int) v ((6 * (16 * b + p) + l : Nat) : Int) ((60 * (16 * b + p) + k : Nat) : Int) (s : Int) (x : Int) (gN mc 28 (16 * b + p) k) := by
          rcases e28 with q | q
          · have : ¬ lcm' (gL mm 96 0 (60 * (16 * b + p) + k)) (gL mm 61 0 s) = 0 := fun z => by
              have := hs2.mp (lcm_zero.mp z)
              omega
            rw [if_pos this, q]
          · have : lcm' (gL mm 96 0 (60 * (16 * b + p) + k)) (gL mm 61 0 s) = 0 := lcm_zero.mpr (hs2.mpr q)
            rw [if_neg (fun z => z this), q]
        rw [emod]
        unfold j_X12_formsIn_25_94
        by_cases hq : gN mc 28 (16 * b + p) k = v
        · rw [if_neg (show ¬ ¬ gN mc 28 (16 * b + p) k = v from fun z => z hq), if_neg (show ¬ ¬ gN mc 28 (16 * b + p) k = v from fun z => z hq), ek2.symm, ck_of ⟨by omega, by omega⟩, ck_of ⟨by omega, by omega⟩, hbit.1]
          exact ⟨_, hbit.2, rfl, rfl⟩
        · rw [if_pos (show ¬ gN mc 28 (16 * b + p) k = v from hq), if_pos (show ¬ gN mc 28 (16 * b + p) k = v from hq), ek2.symm, ck_of ⟨by omega, by omega⟩, ck_of ⟨by omega, by omega⟩, ior_zero hx]
          exact ⟨x, hx, rfl, rfl⟩
    obtain ⟨y, hy, e1, e2⟩ := key
    obtain ⟨z, hz, e3, e4⟩ := ih (k + 1) y (by omega) (by omega) hy
    refine ⟨z, hz, ?_, ?_⟩
    · rw [lpb_eq]
      simp only
      rw [e1, Option.bind_some, Sum.elim_inl]
      exact e3
    · rw [lpb_eq]
      simp only
      rw [e2, Option.bind_some, Sum.elim_inl]
      exact e4
/-- the spellings of a page, lines that are full left out -/
theorem loose_eq (h : RR N mc mm) (hB : RBk mc mm b F n M Ln E) {p : Nat} (hp : p < 2 * (F * n)) {v : Int} (hv : v = 0 ∨ v = 1) :
    ∃ y : Nat, y < 64 ∧ f_X4_looseSpellings mc (16 * b + p) b v = some (y : Int) ∧ f_X12_looseIn mm 0 ((16 * b + p : Nat) : Int) v = some (y : Int) := by
  have hP := hB.hP
  have hS := hB.hS
  have q0 := hP.hb
  have q1 := hP.hn
  have q2 := hP.hL
  have hg := hB.pg p hp
  have hln := hg.ln
  have hcr := hg.cr
  have hM := h.M
  obtain ⟨L, hL⟩ := Int.ex hln.2.1
  have hL6 : L ≤ 6 := by omega
  have key : ∀ (d l x : Nat), L - l = d → l ≤ L → x < 64 → (gN mm 86 0 (16 * b + p) ≠ 0 → x = 0) → ∃ y : Nat, y < 64 ∧ lpb (fun s : Int × Int => b_X4_looseSpellings_5 mc (16 * b + p) b v s.1 s.2) ((x : Int), (l : Int)) = some (y : Int) ∧ lpb (fun s : Int × Int => b_X12_looseIn_5 mm 0 ((16 * b + p : Nat) : Int) v s.1 s.2) ((x : Int), (l : Int)) = some (y : Int) := by
    by_cases h86 : gN mm 86 0 (16 * b + p) = 0
    · intro d
      induction d with
      | zero =>
        intro l x hd hl hx hx0
        obtain rfl : l = L := by omega
        refine ⟨x, hx, ?_, ?_⟩
        · rw [lpb_eq]
          simp only
          unfold b_X4_looseSpellings_5
          rw [hln.1, hL, if_pos (Int.le_refl _), Option.bind_some, Sum.elim_inr]
        · rw [lpb_eq]
          simp only
          unfold b_X12_looseIn_5
          rw [nk_of hM.r35, ldN_of hM.z88 (by omega), tnc, hL, if_pos (Int.le_refl _), Option.bind_some, Sum.elim_inr]
      | succ d ih =>
        intro l x hd hl hx hx0
        have hll : (l : Int) < gN mm 88 0 (16 * b + p) := by omega
        obtain ⟨a1, a2, a3, a4, a5⟩ := hg.l1 l hll
        obtain ⟨b1, b2, b3, b4, b5⟩ := hg.l2 l hll
        have hwb := wbl_c hP hS hp hg hll
        have hwn := hg.wn
        obtain ⟨T, hT⟩ := Int.ex b1
        obtain ⟨C, hC⟩ := Int.ex (show 0 ≤ gN mm 92 0 (6 * (16 * b + p) + l) by omega)
        have el : ((l + 1 : Nat) : Int) = (l : Int) + 1 := by omega
        have hidx : 6 * ((16 * b + p : Nat) : Int) + (l : Int) = ((6 * (16 * b + p) + l : Nat) : Int) := by omega
        have key2 : ∃ y : Nat, y < 64 ∧ b_X4_looseSpellings_5 mc (16 * b + p) b v (x : Int) (l : Int) = some (.inl ((y : Int), ((l + 1 : Nat) : Int))) ∧ b_X12_looseIn_5 mm 0 ((16 * b + p : Nat) : Int) v (x : Int) (l : Int) = some (.inl ((y : Int), ((l + 1 : Nat) : Int))) := by
          unfold b_X4_looseSpellings_5 b_X12_looseIn_5 f_X4_isLoose
          rw [hln.1, hL, if_neg (show ¬ (L : Int) ≤ (l : Int) by omega), nk_of (hS.p7 p hp), ldN_of (hS.z33 p hp) (by omega), tnc, a4, nk_of hM.r35, ldN_of hM.z88 (by omega), tnc, hL, if_neg (show ¬ (L : Int) ≤ (l : Int) by omega), nk_of hM.r33, ldN_of hM.z86 (by omega), tnc, h86, if_neg (show ¬ ¬ (0 : Int) = 0 from fun q => q rfl), nk_of hM.r41, hidx, ldN_of hM.z94 (by omega), tnc]
          have skipM : j_X12_looseIn_5_60 mm 0 ((16 * b + p : Nat) : Int) v (x : Int) (l : Int) = some (.inl ((x : Int), ((l + 1 : Nat) : Int))) := by
            unfold j_X12_looseIn_5_60 j_X12_looseIn_5_61
            rw [if_pos rfl, ck_of ⟨by omega, by omega⟩, ior_zero hx, el]
          by_cases h94 : gN mm 94 0 (6 * (16 * b + p) + l) = 0
          · rw [if_neg (show ¬ ¬ gN mm 94 0 (6 * (16 * b + p) + l) = 0 from fun q => q h94), if_neg (show ¬ ¬ gN mm 94 0 (6 * (16 * b + p) + l) = 0 from fun q => q h94), nk_of (hS.p6 p hp), ldN_of (hS.z32 p hp) (by omega), tnc, a2, nk_of hM.r40, ldN_of hM.z93 (by omega), tnc]
            by_cases h93 : gN mm 93 0 (6 * (16 * b + p) + l) < 3
            · rw [if_pos h93, if_pos (show gN mm 93 0 (6 * (16 * b + p) + l) ≤ 2 by omega), Option.bind_some, if_pos rfl, ck_of ⟨by omega, by omega⟩, skipM, el]
              exact ⟨x, hx, rfl, rfl⟩
            · obtain ⟨y, hy, e1, e2⟩ := words_eq (T := T) (C := C) h hB hp (show l < 6 by omega) hT hC (by omega) hv _ T 0 rfl (by omega) (by decide)
              rw [if_neg h93, if_neg (show ¬ gN mm 93 0 (6 * (16 * b + p) + l) ≤ 2 by omega), hcr.1, h86, if_neg (show ¬ ¬ (0 : Int) = 0 from fun q => q rfl), Option.bind_some, if_neg (show ¬ (1 : Int) = 0 by decide)]
              unfold f_X4_spellingsOf j_X12_looseIn_5_61 f_X12_formsIn
              have e1' : lpb (fun s : Int × Int => b_X4_spellingsOf_18 mc (16 * b + p) b v ((T + C : Nat) : Int) s.1 s.2) (0, (T : Int)) = some (y : Int) := e1
              have e2' : lpb (fun s : Int × Int => b_X12_formsIn_25 mm 0 ((16 * b + p : Nat) : Int) v ((6 * (16 * b + p) + l : Nat) : Int) s.1 s.2) (0, ((60 * (16 * b + p) + T : Nat) : Int)) = some (y : Int) := e2
              have hor : ior' (x : Int) (y : Int) = ((x ||| y : Nat) : Int) := ior_nat (by omega) (by omega)
              rw [hwb, Option.bind_some, nk_of (hS.p5 p hp), ldN_of (hS.z31 p hp) (by omega), tnc, a1, hT, hC, ← Int.natCast_add, e1', Option.bind_some]
              unfold j_X4_spellingsOf_0_71
              rw [Option.bind_some, ck_of ⟨by omega, by omega⟩, hor, if_neg (show ¬ (1 : Int) = 0 by decide), hidx, ck_of ⟨by omega, by omega⟩, nk_of hM.r38, ldN_of hM.z91 (by omega), tnc, hT, ck_of ⟨by omega, by omega⟩, show 60 * ((16 * b + p : Nat) : Int) + (T : Int) = ((60 * (16 * b + p) + T : Nat) : Int) by omega, e2', Option.bind_some]
              unfold j_X12_formsIn_0_115
              rw [Option.bind_some, ck_of ⟨by omega, by omega⟩, hor, el]
              exact ⟨x ||| y, Nat.or_lt_two_pow (n := 6) hx hy, rfl, rfl⟩
          · rw [if_pos (show ¬ gN mm 94 0 (6 * (16 * b + p) + l) = 0 from h94), if_pos (show ¬ gN mm 94 0 (6 * (16 * b + p) + l) = 0 from h94), Option.bind_some, if_pos rfl, ck_of ⟨by omega, by omega⟩, skipM, el]
            exact ⟨x, hx, rfl, rfl⟩
        obtain ⟨y, hy, e1, e2⟩ := key2
        obtain ⟨z, hz, e3, e4⟩ := ih (l + 1) y (by omega) (by omega) hy (fun q => absurd h86 q)
        refine ⟨z, hz, ?_, ?_⟩
        · rw [lpb_eq]
          simp only
          rw [e1, Option.bind_some, Sum.elim_inl]
          exact e3
        · rw [lpb_eq]
          simp only
          rw [e2, Option.bind_some, Sum.elim_inl]
          exact e4
    · -- a page made up anew: no line is loose
      intro d
      induction d with
      | zero =>
        intro l x hd hl hx hx0
        obtain rfl : l = L := by omega
        refine ⟨x, hx, ?_, ?_⟩
        · rw [lpb_eq]
          simp only
          unfold b_X4_looseSpellings_5
          rw [hln.1, hL, if_pos (Int.le_refl _), Option.bind_some, Sum.elim_inr]
        · rw [lpb_eq]
          simp only
          unfold b_X12_looseIn_5
          rw [nk_of hM.r35, ldN_of hM.z88 (by omega), tnc, hL, if_pos (Int.le_refl _), Option.bind_some, Sum.elim_inr]
      | succ d ih =>
        intro l x hd hl hx hx0
        have hx00 := hx0 h86
        subst hx00
        have hll : (l : Int) < gN mm 88 0 (16 * b + p) := by omega
        obtain ⟨a1, a2, a3, a4, a5⟩ := hg.l1 l hll
        obtain ⟨z, hz, e3, e4⟩ := ih (l + 1) 0 (by omega) (by omega) (by decide) (fun _ => rfl)
        have el : ((l + 1 : Nat) : Int) = (l : Int) + 1 := by omega
        have em : ∀ l' : Nat, l' < L → lpb (fun s : Int × Int => b_X12_looseIn_5 mm 0 ((16 * b + p : Nat) : Int) v s.1 s.2) (((0 : Nat) : Int), (l' : Int)) = some ((0 : Nat) : Int) := fun l' hl' => by
          rw [lpb_eq]
          simp only
          unfold b_X12_looseIn_5
          rw [nk_of hM.r35, ldN_of hM.z88 (by omega), tnc, hL, if_neg (show ¬ (L : Int) ≤ (l' : Int) by omega), nk_of hM.r33, ldN_of hM.z86 (by omega), tnc, if_pos (show ¬ gN mm 86 0 (16 * b + p) = 0 from h86), Option.bind_some, Sum.elim_inr]
        have hz0 : z = 0 := by
          by_cases q : l + 1 < L
          · rw [em (l + 1) q] at e4
            have := Option.some.inj e4
            omega
          · obtain hq : l + 1 = L := by omega
            rw [hq, lpb_eq] at e4
            simp only at e4
            unfold b_X12_looseIn_5 at e4
            rw [nk_of hM.r35, ldN_of hM.z88 (by omega), tnc, hL, if_pos (Int.le_refl _), Option.bind_some, Sum.elim_inr] at e4
            have := Option.some.inj e4
            omega
        rw [hz0] at e3
        refine ⟨0, by decide, ?_, em l (by omega)⟩
        have e0 : f_X4_isLoose mc (16 * b + p) (l : Int) = some 0 := by
          unfold f_X4_isLoose
          rw [nk_of (hS.p7 p hp), ldN_of (hS.z33 p hp) (by omega), tnc, a4]
          by_cases h94 : gN mm 94 0 (6 * (16 * b + p) + l) = 0
          · rw [if_neg (show ¬ ¬ gN mm 94 0 (6 * (16 * b + p) + l) = 0 from fun q => q h94), nk_of (hS.p6 p hp), ldN_of (hS.z32 p hp) (by omega), tnc, a2]
            by_cases h93 : gN mm 93 0 (6 * (16 * b + p) + l) < 3
            · rw [if_pos h93]
            · rw [if_neg h93, hcr.1, if_pos (show ¬ gN mm 86 0 (16 * b + p) = 0 from h86)]
          · rw [if_pos (show ¬ gN mm 94 0 (6 * (16 * b + p) + l) = 0 from h94)]
        have eb : b_X4_looseSpellings_5 mc (16 * b + p) b v ((0 : Nat) : Int) (l : Int) = some (.inl (((0 : Nat) : Int), (l : Int) + 1)) := by
          unfold b_X4_looseSpellings_5
          rw [hln.1, hL, if_neg (show ¬ (L : Int) ≤ (l : Int) by omega), e0, Option.bind_some, if_pos rfl, ck_of ⟨by omega, by omega⟩]
        rw [lpb_eq]
        simp only
        rw [eb, Option.bind_some, Sum.elim_inl]
        rw [el] at e3
        exact e3
  obtain ⟨y, hy, e1, e2⟩ := key _ 0 0 rfl (by omega) (by decide) (fun _ => rfl)
  have e1' : lpb (fun s : Int × Int => b_X4_looseSpellings_5 mc (16 * b + p) b v s.1 s.2) (0, 0) = some (y : Int) := e1
  have e2' : lpb (fun s : Int × Int => b_X12_looseIn_5 mm 0 ((16 * b + p : Nat) : Int) v s.1 s.2) (0, 0) = some (y : Int) := e2
  unfold f_X4_looseSpellings f_X12_looseIn
  rw [e1', e2', Option.bind_some, Option.bind_some]
  exact ⟨y, hy, rfl, rfl⟩
end LOOSE
