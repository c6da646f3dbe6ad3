/-! SET: a page's part of the copy. -/
section SET
variable {N : Nat} {mc mm : MM} {b F n M Ln E : Nat}
theorem part_eq (h : RR N mc mm) (hB : RBk mc mm b F n M Ln E) {p : Nat} (hp : p < 2 * (F * n)) :
    (f_X0_firstWordOfPart mc b (p : Int) = some (-1) ∧ f_X12_hasPart mm 0 (b : Int) (p : Int) = some 0) ∨
    ∃ Fr To : Nat, Fr ≤ To ∧ (To : Int) ≤ gN mm 80 0 b ∧ f_X0_firstWordOfPart mc b (p : Int) = some (Fr : Int) ∧ f_X0_wordBehindPart mc b (p : Int) = some (To : Int) ∧ f_X12_hasPart mm 0 (b : Int) (p : Int) = some 1 ∧ f_X12_partFrom mm 0 (b : Int) (p : Int) = some (Fr : Int) ∧ f_X12_partTo mm 0 (b : Int) (p : Int) = some (To : Int) ∧
      ((gN mm 78 0 b = 0 ∧ ((p = 0 ∧ Fr = 0) ∨ (p ≠ 0 ∧ gN mm 83 0 (16 * b + (p - 1)) = 1 ∧ gN mm 85 0 (16 * b + (p - 1)) = Fr))) ∨ (gN mm 78 0 b ≠ 0 ∧ gN mc 16 b p = Fr ∧ (p + 1 < 2 * (F * n) → gN mc 16 b (p + 1) = To))) := by
  have hP := hB.hP
  have hS := hB.hS
  have hM := h.M
  have q0 := hP.hb
  have q1 := hP.hn
  have hcnt := hB.tx.cnt
  have hpc := hB.tx.pc
  have hco := hB.tx.co
  obtain ⟨nt, hnt⟩ := Int.ex hcnt.2.1
  have e29 : j_X0_wordBehindPart_0_29 mc b = some (nt : Int) := by
    unfold j_X0_wordBehindPart_0_29
    rw [nk_of hS.r4, hcnt.1, hnt]
  have e31 : j_X12_partTo_0_31 mm 0 (b : Int) = some (nt : Int) := by
    unfold j_X12_partTo_0_31
    rw [nk_of hM.r27, ldN_of hM.z80 (by omega), tnc, hnt]
  by_cases h78 : gN mm 78 0 b = 0
  · rw [if_pos h78] at hco
    have eto : f_X0_wordBehindPart mc b (p : Int) = some (nt : Int) := by
      unfold f_X0_wordBehindPart
      rw [if_pos hco, e29]
    have etm : f_X12_partTo mm 0 (b : Int) (p : Int) = some (nt : Int) := by
      unfold f_X12_partTo
      rw [nk_of hM.r25, ldN_of hM.z78 (by omega), tnc, h78, if_pos (by decide), e31]
    by_cases hp0 : p = 0
    · subst hp0
      refine Or.inr ⟨0, nt, Nat.zero_le _, by omega, ?_, eto, ?_, ?_, etm, Or.inl ⟨h78, Or.inl ⟨rfl, rfl⟩⟩⟩
      · unfold f_X0_firstWordOfPart
        rw [if_pos hco, if_neg (fun z => z rfl)]
        rfl
      · unfold f_X12_hasPart
        rw [nk_of hM.r25, ldN_of hM.z78 (by omega), tnc, h78, if_neg (by decide), if_pos (show ((0 : Nat) : Int) = 0 from rfl)]
      · unfold f_X12_partFrom
        rw [nk_of hM.r25, ldN_of hM.z78 (by omega), tnc, h78, if_pos (by decide), if_neg (fun z => z rfl)]
        rfl
    · have hpg := hB.pg (p - 1) (by omega)
      have hst := hpg.st
      have hth := hpg.th
      obtain ⟨fr, hfr⟩ := Int.ex hth.2.1
      have e13 := hS.e13 (p - 1) (by omega)
      have e1 : f_X0_firstWordOfPart mc b (p : Int) = if gN mc 4 (16 * b + (p - 1)) 9 = -1 then some (-1) else some (gN mc 4 (16 * b + (p - 1)) 12) := by
        unfold f_X0_firstWordOfPart f_X4_isSet
        rw [if_pos hco, if_pos (by omega), nk_of hS.r5, ldR_of hS.z13 (by omega), show ((p : Int) - 1).toNat = p - 1 by omega, e13, nk_some, nk_of hS.r5, ldR_of hS.z13 (by omega), show ((p : Int) - 1).toNat = p - 1 by omega, e13, nk_some]
        by_cases z : gN mc 4 (16 * b + (p - 1)) 9 = -1
        · rw [if_pos z, if_pos z, Option.bind_some, if_pos rfl]
        · rw [if_neg z, if_neg z, Option.bind_some, if_neg (by decide)]
      have e2 : f_X12_hasPart mm 0 (b : Int) (p : Int) = if gN mm 83 0 (16 * b + (p - 1)) = 0 then some 0 else some 1 := by
        unfold f_X12_hasPart
        rw [nk_of hM.r25, ldN_of hM.z78 (by omega), tnc, h78, if_neg (by decide), if_neg (by omega), nk_of hM.r30, ldN_of hM.z83 (by omega), show (16 * (b : Int) + (p : Int) - 1).toNat = 16 * b + (p - 1) by omega]
      rcases hst with ⟨s1, s2⟩ | ⟨s1, s2, s3⟩
      · refine Or.inl ⟨by rw [e1, if_pos s2], by rw [e2, if_pos s1]⟩
      · refine Or.inr ⟨fr, nt, by omega, by omega, by rw [e1, if_neg (by omega), hth.1, hfr], eto, by rw [e2, if_neg (by omega)], ?_, etm, Or.inl ⟨h78, Or.inr ⟨hp0, s1, hfr⟩⟩⟩
        unfold f_X12_partFrom
        rw [nk_of hM.r25, ldN_of hM.z78 (by omega), tnc, h78, if_pos (by decide), if_pos (by omega), nk_of hM.r32, ldN_of hM.z85 (by omega), show (16 * (b : Int) + (p : Int) - 1).toNat = 16 * b + (p - 1) by omega, hfr]
  · rw [if_neg h78] at hco
    have hpc2 : 50 ≤ gN mm 78 0 b ∧ gN mm 78 0 b ≤ 150 := by omega
    have hw : ∀ k : Nat, (k : Int) < gN mm 80 0 b → ∃ c, WW c (gL mm 81 0 (60 * b + k)) := fun k hk => ⟨_, hB.tx.told k hk⟩
    obtain ⟨k1, g1, g2⟩ := hB.tx.pb h78 p hp
    obtain ⟨v1, c1, k1', rfl, c2⟩ := castFrom_m hM hP hcnt.2 hw hpc2 (show p < 16 by omega)
    obtain rfl := g2.one c2
    have b1 : k1 ≤ nt := by have := g2.1; omega
    have efr : f_X0_firstWordOfPart mc b (p : Int) = some (k1 : Int) := by
      unfold f_X0_firstWordOfPart
      rw [if_neg (by omega), nk_of hS.r8, ldN_of hS.z16 (by omega), tnc, g1]
    have ehp : f_X12_hasPart mm 0 (b : Int) (p : Int) = some 1 := by
      unfold f_X12_hasPart
      rw [nk_of hM.r25, ldN_of hM.z78 (by omega), tnc, if_pos (by omega)]
    have epf : f_X12_partFrom mm 0 (b : Int) (p : Int) = some (k1 : Int) := by
      unfold f_X12_partFrom
      rw [nk_of hM.r25, ldN_of hM.z78 (by omega), tnc, if_neg (by omega), c1]
      rfl
    by_cases hp1 : p + 1 < 2 * (F * n)
    · obtain ⟨k2, g3, g4⟩ := hB.tx.pb h78 (p + 1) hp1
      obtain ⟨v2, c3, k2', rfl, c4⟩ := castFrom_m hM hP hcnt.2 hw hpc2 (show p + 1 < 16 by omega)
      obtain rfl := g4.one c4
      have b2 : k2 ≤ nt := by have := g4.1; omega
      refine Or.inr ⟨k1, k2, g2.mono g4 (Nat.mul_le_mul_right _ (Nat.le_succ p)), by omega, efr, ?_, ehp, epf, ?_, Or.inr ⟨h78, g1, fun _ => g3⟩⟩
      · unfold f_X0_wordBehindPart
        rw [if_neg (by omega), nk_of hS.r5, ck_of ⟨by omega, by omega⟩, lenI_of hS.z13, if_neg (by omega), nk_of hS.r8, ldN_of hS.z16 (by omega), show ((p : Int) + 1).toNat = p + 1 by omega, g3]
      · unfold f_X12_partTo
        rw [nk_of hM.r25, ldN_of hM.z78 (by omega), tnc, if_neg (by omega), pagesOf_m hM hP, Option.bind_some, ck_of ⟨by omega, by omega⟩, if_neg (by omega), ck_of ⟨by omega, by omega⟩, show (p : Int) + 1 = ((p + 1 : Nat) : Int) by omega, c3]
        rfl
    · refine Or.inr ⟨k1, nt, b1, by omega, efr, ?_, ehp, epf, ?_, Or.inr ⟨h78, g1, fun z => absurd z hp1⟩⟩
      · unfold f_X0_wordBehindPart
        rw [if_neg (by omega), nk_of hS.r5, ck_of ⟨by omega, by omega⟩, lenI_of hS.z13, if_pos (by omega), e29]
      · unfold f_X12_partTo
        rw [nk_of hM.r25, ldN_of hM.z78 (by omega), tnc, if_neg (by omega), pagesOf_m hM hP, Option.bind_some, ck_of ⟨by omega, by omega⟩, if_pos (by omega), e31]
end SET
