/-! PARTS: the class. -/
section PART
variable {U : Nat → Nat → Prop} {u : Nat → Nat} {K : Nat}
/-- rows of pages that are unlike -/
def UR (U : Nat → Nat → Prop) (u : Nat → Nat) (K : Nat) : Prop := (K ≤ 16) ∧
  (∀ i j, U i j → U j i) ∧
  (∀ i, ¬ U i i) ∧
  (∀ p, p < K → u p < 65536) ∧
  (∀ p j, p < K → ((u p).testBit j = true ↔ U p j)) ∧
  (∀ i j, U i j → i < K ∧ j < K)
theorem UR.k {U : Nat → Nat → Prop} {u : Nat → Nat} {K : Nat} (h : UR U u K) : K ≤ 16 := h.1
theorem UR.s {U : Nat → Nat → Prop} {u : Nat → Nat} {K : Nat} (h : UR U u K) : ∀ i j, U i j → U j i := h.2.1
theorem UR.i {U : Nat → Nat → Prop} {u : Nat → Nat} {K : Nat} (h : UR U u K) : ∀ i, ¬ U i i := h.2.2.1
theorem UR.b {U : Nat → Nat → Prop} {u : Nat → Nat} {K : Nat} (h : UR U u K) : ∀ p, p < K → u p < 65536 := h.2.2.2.1
theorem UR.t {U : Nat → Nat → Prop} {u : Nat → Nat} {K : Nat} (h : UR U u K) : ∀ p j, p < K → ((u p).testBit j = true ↔ U p j) := h.2.2.2.2.1
theorem UR.l {U : Nat → Nat → Prop} {u : Nat → Nat} {K : Nat} (h : UR U u K) : ∀ i j, U i j → i < K ∧ j < K := h.2.2.2.2.2
theorem del_le {W v : Nat} : del W v ≤ W := by
  by_cases h : W.testBit v = true
  · exact Nat.le_of_lt (del_lt h)
  · rw [del_no (by simpa using h)]; exact Nat.le_refl _
theorem tight_c {m : MM} (hC : SC m) (hu : UR U u K) (hm : ∀ p, p < K → gN m 41 0 p = u p) (most : Nat) :
    ∃ W : Nat, f_X7_tightPages m 0 (K : Int) (most : Int) = some (W : Int) ∧ W < 65536 ∧ (∀ i, W.testBit i = true → i < K) ∧ (Col U W most 16 ↔ Col U (2 ^ K - 1) most 16) := by
  have hk := hu.k
  have hpow : 2 ^ K ≤ 65536 := Nat.pow_le_pow_right (by decide) hk
  have hpos : 0 < 2 ^ K := Nat.pow_pos (by decide)
  -- what a set under way is
  let G : Nat → Prop := fun W => W ≤ 2 ^ K - 1 ∧ (∀ i, W.testBit i = true → i < K) ∧ (Col U W most 16 ↔ Col U (2 ^ K - 1) most 16)
  have inner : ∀ r : Int, ∀ W p : Nat, p ≤ K → G W → Ev (lpb (fun s : Int × Int => b_X7_tightPages_18 m 0 (K : Int) (most : Int) r s.1 s.2) ((W : Int), (p : Int))) (fun z => ∃ W' : Nat, z = W' ∧ G W') := by
    intro r W p hp hG
    refine lpb_run (Φ := fun z : Int => ∃ W' : Nat, z = W' ∧ G W') (fun s : Int × Int => ∃ W p : Nat, s = ((W : Int), (p : Int)) ∧ p ≤ K ∧ G W) (fun s => (K : Int).toNat - s.2.toNat) ?_ _ ⟨W, p, rfl, hp, hG⟩
    rintro _ ⟨W, p, rfl, hp, hG⟩
    obtain ⟨g1, g2, g3⟩ := hG
    unfold b_X7_tightPages_18
    by_cases hpK : p = K
    · simp only
      rw [if_pos (show (K : Int) ≤ (p : Int) by omega)]
      exact ⟨_, rfl, W, rfl, g1, g2, g3⟩
    · have hpl : p < K := by omega
      have hand : u p &&& W ≤ W := Nat.and_le_right
      simp only
      rw [if_neg (show ¬ (K : Int) ≤ (p : Int) by omega), nk_of hC.s2, ldN_of hC.z41 (by omega), tnc, hm p hpl, iand_nat (by have := hu.b p hpl; omega) (by omega), bitCount_c m (by omega), Option.bind_some]
      have hpc := pop_crd (x := u p &&& W) (by omega)
      by_cases hv : (most : Int) ≤ ((popN (u p &&& W) : Nat) : Int)
      · rw [if_pos hv, ck_of ⟨by omega, by omega⟩]
        exact ⟨_, rfl, ⟨W, p + 1, by rw [show ((p + 1 : Nat) : Int) = (p : Int) + 1 by omega], by omega, g1, g2, g3⟩, by show K - ((p : Int) + 1).toNat < K - (p : Int).toNat; omega⟩
      · rw [if_neg hv, ishl_nat (by omega), iandn_nat (by omega) (Nat.pow_lt_pow_right (by decide) (by omega)), lt0_eq, ck_of ⟨by omega, by omega⟩]
        have hd : del W p ≤ W := del_le
        refine ⟨_, rfl, ⟨del W p, p + 1, by rw [show ((p + 1 : Nat) : Int) = (p : Int) + 1 by omega]; rfl, by omega, by omega, fun i hi => ?_, ?_⟩, by show K - ((p : Int) + 1).toNat < K - (p : Int).toNat; omega⟩
        · rw [del_bit] at hi
          simp at hi
          exact g2 i hi.1
        · rw [← g3]
          exact Col.rm (u := u p) hu.s hu.i (fun j _ => hu.t p j hpl) (by rw [← hpc]; omega)
  have outer : Ev (lpb (fun s : Int × Int => b_X7_tightPages_9 m 0 (K : Int) (most : Int) s.1 s.2) (((2 ^ K - 1 : Nat) : Int), 0)) (fun z => ∃ W' : Nat, z = W' ∧ G W') := by
    refine lpb_run (Φ := fun z : Int => ∃ W' : Nat, z = W' ∧ G W') (fun s : Int × Int => ∃ W p : Nat, s = ((W : Int), (p : Int)) ∧ p ≤ K ∧ G W) (fun s => (K : Int).toNat - s.2.toNat) ?_ _ ⟨2 ^ K - 1, 0, rfl, by omega, Nat.le_refl _, fun i hi => ?_, Iff.rfl⟩
    · rintro _ ⟨W, p, rfl, hp, hG⟩
      unfold b_X7_tightPages_9
      simp only
      by_cases hpK : p = K
      · rw [if_pos (show (K : Int) ≤ (p : Int) by omega)]
        exact ⟨_, rfl, W, rfl, hG⟩
      · rw [if_neg (show ¬ (K : Int) ≤ (p : Int) by omega)]
        obtain ⟨z, e1, W', rfl, hG'⟩ := inner (p : Int) W 0 (by omega) hG
        have e1' : lpb (fun s : Int × Int => b_X7_tightPages_18 m 0 (K : Int) (most : Int) (p : Int) s.1 s.2) ((W : Int), 0) = some (W' : Int) := e1
        rw [e1', Option.bind_some]
        unfold j_X7_tightPages_9_55
        rw [ck_of ⟨by omega, by omega⟩]
        exact ⟨_, rfl, ⟨W', p + 1, by rw [show ((p + 1 : Nat) : Int) = (p : Int) + 1 by omega], by omega, hG'⟩, by show K - ((p : Int) + 1).toNat < K - (p : Int).toNat; omega⟩
    · exact bit_lt (by omega) hi
  unfold f_X7_tightPages
  rw [ishl_nat (by omega), show ((2 ^ K : Nat) : Int) - 1 = ((2 ^ K - 1 : Nat) : Int) by omega, ck_of ⟨by omega, by omega⟩]
  obtain ⟨z, e1, W', rfl, g1, g2, g3⟩ := outer
  rw [e1, Option.bind_some]
  exact ⟨W', rfl, by omega, g2, g3⟩
/-- the parts as sets of pages -/
def PB (PS : Nat → Nat) (k j : Nat) : Prop := (PS k).testBit j = true
theorem or_pow_bit {X p j : Nat} : (X ||| 2 ^ p).testBit j = true ↔ X.testBit j = true ∨ j = p := by
  rw [Nat.testBit_or, Nat.testBit_two_pow]
  by_cases h : p = j
  · subst h; simp
  · have : j ≠ p := fun q => h q.symm
    simp [h, this]
theorem and_none {X Y : Nat} : X &&& Y = 0 ↔ ∀ j, X.testBit j = true → ¬ Y.testBit j = true := by
  constructor
  · intro h j h1 h2
    have : (X &&& Y).testBit j = true := by rw [Nat.testBit_and, h1, h2]; rfl
    rw [h] at this
    simp at this
  · intro h
    refine Nat.eq_of_testBit_eq fun j => ?_
    rw [Nat.testBit_and, Nat.zero_testBit]
    cases hx : X.testBit j
    · rfl
    · cases hy : Y.testBit j
      · rfl
      · exact absurd hy (h j hx)
abbrev Sm (s s' : MM) : Prop := FrC (fun _ _ _ => False) s s'
theorem canPart_c {W most : Nat} (hu : UR U u K) (hW : W < 65536) (hWK : ∀ i, W.testBit i = true → i < K) (hmost : most ≤ 16) :
    ∀ (d page used : Nat) (PS : Nat → Nat) (s : MM), 17 ≤ d + page → page ≤ 16 → used ≤ most → SC s → (∀ p, p < K → gN s 41 0 p = u p) → (∀ k, k < 16 → PS k < 65536 ∧ gN s 44 0 k = PS k) → (∀ k j, PB PS k j → j < page) → (∀ k j, used ≤ k → ¬ PB PS k j) →
      ∃ (r : Int) (s' : MM), f_X7_canPart d s 0 (page : Int) (used : Int) (W : Int) (most : Int) = some (.inl (some (aI r)), s') ∧ (r = 0 ∨ r = 1) ∧ (r = 1 ↔ Qc U (fun i => W.testBit i = true) most 16 page (PB PS)) ∧ Sm s s' := by
  intro d
  induction d with
  | zero => intro page used PS s h1 h2; omega
  | succ d ih =>
    intro page used PS s hd hp hused hC hrow hPS hPl hPe
    show ∃ (r : Int) (s' : MM), fb_X7_canPart (f_X7_canPart d) s 0 (page : Int) (used : Int) (W : Int) (most : Int) = _ ∧ _
    unfold fb_X7_canPart
    by_cases h16 : page = 16
    · rw [if_neg (show ¬ (page : Int) < 16 by omega)]
      exact ⟨1, s, rfl, Or.inr rfl, ⟨fun _ => Qc.done (by omega), fun _ => rfl⟩, FrC.rf⟩
    · have hp16 : page < 16 := by omega
      have hpow : 2 ^ page < 2 ^ 31 := Nat.pow_lt_pow_right (by decide) (by omega)
      rw [if_pos (show (page : Int) < 16 by omega), ishl_nat (by omega), iand_nat (by omega) hpow]
      by_cases hin : W.testBit page = true
      · have h0 : ¬ ((W &&& 2 ^ page : Nat) : Int) = 0 := fun q => by
          have := and_bit.mp (show W &&& 2 ^ page = 0 by omega)
          rw [this] at hin
          cases hin
        rw [if_pos h0]
        have hpK := hWK page hin
        have hup := hu.b page hpK
        -- a part that serves
        let V : Nat → Prop := fun x => x ≤ used ∧ x < most ∧ (∀ j, PB PS x j → ¬ U page j) ∧ Qc U (fun i => W.testBit i = true) most 16 (page + 1) (addP (PB PS) x page)
        have run : Ev (lpb (fun z : Int × Int × MM => b_X7_canPart_34 (f_X7_canPart d) 0 (page : Int) (used : Int) (W : Int) (most : Int) z.1 z.2.1 z.2.2) (0, 0, s)) (fun z => (z.1 = 0 ∨ z.1 = 1) ∧ (z.1 = 1 ↔ ∃ x, V x) ∧ Sm s z.2) := by
          refine lpb_run (Φ := fun z : Int × MM => (z.1 = 0 ∨ z.1 = 1) ∧ (z.1 = 1 ↔ ∃ x, V x) ∧ Sm s z.2) (fun z : Int × Int × MM => ∃ (c : Int) (x : Nat) (t : MM), z = (c, (x : Int), t) ∧ x ≤ used + 1 ∧ (c = 0 ∨ c = 1) ∧ (c = 1 → ∃ y, V y) ∧ (c = 0 → ∀ y, y < x → ¬ V y) ∧ Sm s t) (fun z => used + 2 - z.2.1.toNat) ?_ _ ⟨0, 0, s, rfl, by omega, Or.inl rfl, fun q => absurd q (by decide), fun _ y hy => absurd hy (by omega), FrC.rf⟩
          rintro _ ⟨c, x, t, rfl, hx, hc, hc1, hc0, hS⟩
          unfold b_X7_canPart_34
          simp only
          have fin : ((used : Int) < (x : Int) ∨ (most : Int) ≤ (x : Int)) ∨ ¬ c = 0 → (c = 0 ∨ c = 1) ∧ (c = 1 ↔ ∃ y, V y) ∧ Sm s t := fun h => by
            refine ⟨hc, ⟨hc1, fun ⟨y, hy⟩ => ?_⟩, hS⟩
            rcases hc with q | q
            · exfalso
              by_cases hyx : y < x
              · exact hc0 q y hyx hy
              · have h1 := hy.1
                have h2 := hy.2.1
                rcases h with (h | h) | h
                · omega
                · omega
                · exact h q
            · exact q
          by_cases q1 : (used : Int) < (x : Int)
          · rw [if_pos q1]
            exact ⟨_, rfl, fin (Or.inl (Or.inl q1))⟩
          · rw [if_neg q1]
            by_cases q2 : (most : Int) ≤ (x : Int)
            · rw [if_pos q2]
              exact ⟨_, rfl, fin (Or.inl (Or.inr q2))⟩
            · rw [if_neg q2]
              by_cases q3 : c = 0
              · rw [if_neg (show ¬ ¬ c = 0 from fun q => q q3)]
                have hCt : SC t := hC.mv2 (fun K i k _ => (hS.1 K i k (fun q => q)).2.2) (fun K i k hk => by rw [hS.2.1]; exact hk)
                have t44 : ∀ k, k < 16 → gN t 44 0 k = PS k := fun k hk => by rw [(hS.1 44 0 k (fun q => q)).1]; exact (hPS k hk).2
                have t41 : ∀ p, p < K → gN t 41 0 p = u p := fun p hp => by rw [(hS.1 41 0 p (fun q => q)).1]; exact hrow p hp
                have hx16 : x < 16 := by omega
                have hPx := (hPS x hx16).1
                have hup31 : u page < 2 ^ 31 := by omega
                rw [nk_of hCt.s5, ldN_of hCt.z44 (by omega), tnc, t44 x hx16, nk_of hCt.s2, ldN_of hCt.z41 (by omega), tnc, t41 page hpK, iand_nat (by omega) hup31]
                by_cases q4 : PS x &&& u page = 0
                · have hno : ∀ j, PB PS x j → ¬ U page j := fun j hj hU => (and_none.mp q4) j hj ((hu.t page j hpK).mpr hU)
                  have hpx : (PS x).testBit page = false := by
                    cases hz : (PS x).testBit page
                    · rfl
                    · exact absurd (hPl x page hz) (by omega)
                  have hor : PS x ||| 2 ^ page < 65536 := Nat.or_lt_two_pow (n := 16) hPx (Nat.pow_lt_pow_right (by decide) hp16)
                  rw [if_neg (show ¬ ¬ ((PS x &&& u page : Nat) : Int) = 0 by omega), nk_of hCt.s5, ldN_of hCt.z44 (by omega), tnc, t44 x hx16, ishl_nat (by omega), ior_nat (by omega) hpow, stN_of hCt.z44 (by omega), tnc, ck_of ⟨by omega, by omega⟩, ck_of ⟨by omega, by omega⟩]
                  have hC7 : SC (sN t 44 0 x ((PS x ||| 2 ^ page : Nat) : Int)) := hCt.mv2 (fun _ _ _ _ => rfl) (fun _ _ _ q => q)
                  have eU : (if (used : Int) < (x : Int) + 1 then (x : Int) + 1 else (used : Int)) = ((max used (x + 1) : Nat) : Int) := by
                    by_cases h : (used : Int) < (x : Int) + 1
                    · rw [if_pos h]; omega
                    · rw [if_neg h]; omega
                  obtain ⟨PS', hPS'⟩ : ∃ PS' : Nat → Nat, ∀ k, PS' k = if k = x then PS x ||| 2 ^ page else PS k := ⟨_, fun _ => rfl⟩
                  obtain ⟨r, s', e1, e2, e3, e4⟩ := ih (page + 1) (max used (x + 1)) PS' (sN t 44 0 x ((PS x ||| 2 ^ page : Nat) : Int)) (by omega) (by omega) (by omega) hC7 (fun p hp => by rw [gN_sN, if_neg (by omega)]; exact t41 p hp) (fun k hk => by
                    rw [hPS']
                    by_cases hkx : k = x
                    · exact ⟨by rw [if_pos hkx]; exact hor, by rw [gN_sN, if_pos ⟨rfl, rfl, hkx⟩, if_pos hkx]⟩
                    · exact ⟨by rw [if_neg hkx]; exact (hPS k hk).1, by rw [gN_sN, if_neg (fun z => hkx z.2.2), if_neg hkx]; exact t44 k hk⟩) (fun k j hj => by
                    unfold PB at hj
                    rw [hPS'] at hj
                    by_cases hkx : k = x
                    · rw [if_pos hkx] at hj
                      rcases or_pow_bit.mp hj with z | z
                      · have := hPl x j z; omega
                      · omega
                    · rw [if_neg hkx] at hj
                      have := hPl k j hj; omega) (fun k j hk hj => by
                    unfold PB at hj
                    rw [hPS', if_neg (by omega)] at hj
                    exact hPe k j (by omega) hj)
                  have eq1 : Qc U (fun i => W.testBit i = true) most 16 (page + 1) (PB PS') ↔ Qc U (fun i => W.testBit i = true) most 16 (page + 1) (addP (PB PS) x page) := Qc.iff (fun _ _ => Iff.rfl) (fun k j => by
                    unfold addP PB
                    rw [hPS']
                    by_cases hkx : k = x
                    · rw [if_pos hkx, or_pow_bit, hkx]
                      exact ⟨fun z => by
                        rcases z with z | z
                        · exact Or.inl z
                        · exact Or.inr ⟨rfl, z⟩, fun z => by
                        rcases z with z | z
                        · exact Or.inl z
                        · exact Or.inr z.2⟩
                    · rw [if_neg hkx]
                      exact ⟨fun z => Or.inl z, fun z => by
                        rcases z with z | z
                        · exact z
                        · exact absurd z.1 hkx⟩)
                  rw [eq1] at e3
                  rw [show (page : Int) + 1 = ((page + 1 : Nat) : Int) by omega, eU, e1, bI_ok]
                  have hC8 : SC s' := hC7.mv2 (fun K i k _ => (e4.1 K i k (fun q => q)).2.2) (fun K i k hk => by rw [e4.2.1]; exact hk)
                  have v8 : gN s' 44 0 x = ((PS x ||| 2 ^ page : Nat) : Int) := by rw [(e4.1 44 0 x (fun q => q)).1, gN_sN, if_pos ⟨rfl, rfl, rfl⟩]
                  have hback : (PS x ||| 2 ^ page) ^^^ ((PS x ||| 2 ^ page) &&& 2 ^ page) = PS x := by
                    show del (PS x ||| 2 ^ page) page = PS x
                    refine Nat.eq_of_testBit_eq fun j => ?_
                    rw [del_bit, Nat.testBit_or, Nat.testBit_two_pow]
                    by_cases hj : page = j
                    · subst hj; simp [hpx]
                    · simp [hj]
                  rw [nk_of hC8.s5, ldN_of hC8.z44 (by omega), tnc, v8, iandn_nat (by omega) hpow, hback, stN_of hC8.z44 (by omega), tnc, ck_of ⟨by omega, by omega⟩]
                  refine ⟨_, rfl, ⟨r, x + 1, sN s' 44 0 x (PS x : Int), by rw [show ((x + 1 : Nat) : Int) = (x : Int) + 1 by omega], by omega, e2, fun hr => ⟨x, by omega, by omega, hno, e3.mp hr⟩, fun hr y hy hV => ?_, ?_⟩, by show used + 2 - ((x : Int) + 1).toNat < used + 2 - (x : Int).toNat; omega⟩
                  · by_cases hyx : y = x
                    · rw [hyx] at hV
                      have := e3.mpr hV.2.2.2
                      omega
                    · exact hc0 q3 y (by omega) hV
                  · refine ⟨fun K i k _ => ⟨?_, ?_, ?_⟩, fun K i => ?_, fun K => ?_⟩
                    · by_cases z : K = 44 ∧ i = 0 ∧ k = x
                      · obtain ⟨rfl, rfl, rfl⟩ := z
                        rw [gN_sN, if_pos ⟨rfl, rfl, rfl⟩]
                        exact (hPS k hx16).2.symm
                      · rw [gN_sN, if_neg z, (e4.1 K i k (fun q => q)).1, gN_sN, if_neg z]
                        exact (hS.1 K i k (fun q => q)).1
                    · exact (e4.1 K i k (fun q => q)).2.1.trans (hS.1 K i k (fun q => q)).2.1
                    · exact (e4.1 K i k (fun q => q)).2.2.trans (hS.1 K i k (fun q => q)).2.2
                    · exact (e4.2.1 K i).trans (hS.2.1 K i)
                    · exact (e4.2.2 K).trans (hS.2.2 K)
                · rw [if_pos (show ¬ ((PS x &&& u page : Nat) : Int) = 0 by omega), ck_of ⟨by omega, by omega⟩]
                  refine ⟨_, rfl, ⟨c, x + 1, t, by rw [show ((x + 1 : Nat) : Int) = (x : Int) + 1 by omega], by omega, hc, hc1, fun hr y hy hV => ?_, hS⟩, by show used + 2 - ((x : Int) + 1).toNat < used + 2 - (x : Int).toNat; omega⟩
                  by_cases hyx : y = x
                  · rw [hyx] at hV
                    exact q4 (and_none.mpr fun j h1 h2 => hV.2.2.1 j h1 ((hu.t page j hpK).mp h2))
                  · exact hc0 q3 y (by omega) hV
              · rw [if_pos q3]
                exact ⟨_, rfl, fin (Or.inr q3)⟩
        obtain ⟨z, e1, e2, e3, e4⟩ := run
        rw [e1, Option.bind_some]
        unfold j_X7_canPart_0_123
        rw [cb_of e2]
        refine ⟨z.1, z.2, rfl, e2, ?_, e4⟩
        rw [e3]
        exact (Qc.step hu.s hu.i (S := fun i => W.testBit i = true) hin hp16 hPe).symm
      · have h0 : ((W &&& 2 ^ page : Nat) : Int) = 0 := by
          have := and_bit.mpr (show W.testBit page = false by simpa using hin)
          omega
        rw [if_neg (show ¬ ¬ ((W &&& 2 ^ page : Nat) : Int) = 0 from fun q => q h0), ck_of ⟨by omega, by omega⟩]
        obtain ⟨r, s', e1, e2, e3, e4⟩ := ih (page + 1) used PS s (by omega) (by omega) hused hC hrow hPS (fun k j hj => by have := hPl k j hj; omega) hPe
        rw [show (page : Int) + 1 = ((page + 1 : Nat) : Int) by omega, e1, bI_ok, cb_of e2]
        exact ⟨r, s', rfl, e2, by rw [e3]; exact (Qc.skip (S := fun i => W.testBit i = true) hin).symm, e4⟩
end PART
