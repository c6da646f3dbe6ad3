/-! CAST OFF. -/
theorem usN_le {w : Nat → Int64} : ∀ {k : Nat}, (∀ j, j < k → mln (w j) ≤ 8) → usN w k ≤ 9 * k
  | 0, _ => Nat.le_refl _
  | k + 1, h => by
    have h1 := usN_le (w := w) (k := k) (fun j hj => h j (by omega))
    have h2 := h k (by omega)
    rw [usN]
    omega
theorem hold_bd {M Ln : Nat} {pc : Int} (h : M * Ln ≤ 144) (hp : pc ≤ 150) : 1 ≤ hold M Ln pc ∧ hold M Ln pc ≤ 216 := by
  unfold hold
  have h1 : M * Ln * pc.toNat ≤ 144 * 150 := Nat.mul_le_mul h (by omega)
  omega
section CAST
variable {N : Nat} {mc mm : MM} {b F n M Ln E : Nat}
def AnySet (mm : MM) (b L : Nat) : Prop := ∃ p, p < 2 * L ∧ gN mm 83 0 (16 * b + p) = 1
theorem hasSet_c (hB : RBk mc mm b F n M Ln E) : Ev (f_X0_hasSetPage mc b) (fun v => (v = 1 ∧ AnySet mm b (F * n)) ∨ (v = 0 ∧ ¬ AnySet mm b (F * n))) := by
  have hP := hB.hP
  have hS := hB.hS
  have q1 := hP.hn
  unfold f_X0_hasSetPage
  rw [nk_of hS.r5, lenI_of hS.z13]
  refine ev_lp (Sum.elim (fun r => r = 1 ∧ AnySet mm b (F * n)) fun _ => ¬ AnySet mm b (F * n)) (fun s => ∃ k : Nat, s = k ∧ k ≤ 2 * (F * n) ∧ ∀ j, j < k → gN mm 83 0 (16 * b + j) ≠ 1) (fun s => 2 * (F * n) - s.toNat) ⟨0, rfl, by omega, fun j hj => absurd hj (by omega)⟩ ?_ ?_
  · rintro _ ⟨k, rfl, hk, hg⟩
    unfold b_X0_hasSetPage_10
    refine ev_if (fun hc => ev_exit fun ⟨p, hp, z⟩ => hg p (by omega) z) fun hc => ?_
    have hk2 : k < 2 * (F * n) := by omega
    have hst := (hB.pg k hk2).st
    rw [ldR_of hS.z13 (by omega), tnc, hS.e13 k hk2, nk_some]
    unfold f_X4_isSet
    rcases hst with ⟨z1, z2⟩ | ⟨z1, z2, z3⟩
    · rw [if_pos z2, Option.bind_some]
      refine ev_ift rfl (ev_ck (by omega) (ev_back ⟨k + 1, by simp, by omega, fun j hj => ?_⟩ (by omega)))
      by_cases q : j = k
      · rw [q]; omega
      · exact hg j (by omega)
    · rw [if_neg (by omega), Option.bind_some]
      exact ev_iff (show ¬ (1 : Int) = 0 by decide) (ev_exit ⟨rfl, k, hk2, z1⟩)
  · rintro (r | u) hx
    · exact ev_some (Or.inl hx)
    · exact ev_some (Or.inr ⟨rfl, hx⟩)
theorem hasSet_m (hM : SM mm) (hB : RBk mc mm b F n M Ln E) : Ev (f_X12_hasSet mm 0 (b : Int)) (fun v => (v = 1 ∧ AnySet mm b (F * n)) ∨ (v = 0 ∧ ¬ AnySet mm b (F * n))) := by
  have hP := hB.hP
  have q0 := hP.hb
  have q1 := hP.hn
  unfold f_X12_hasSet
  refine ev_lp (fun v => (v = 1 ∧ AnySet mm b (F * n)) ∨ (v = 0 ∧ ¬ AnySet mm b (F * n))) (fun s => ∃ k : Nat, s.2 = k ∧ k ≤ 2 * (F * n) ∧ ((s.1 = 0 ∧ ∀ j, j < k → gN mm 83 0 (16 * b + j) ≠ 1) ∨ (s.1 = 1 ∧ AnySet mm b (F * n)))) (fun s => 2 * (F * n) - s.2.toNat) ⟨0, rfl, by omega, Or.inl ⟨rfl, fun j hj => absurd hj (by omega)⟩⟩ ?_ ?_
  · rintro ⟨x, _⟩ ⟨k, rfl, hk, hs⟩
    simp only at hs
    show Ev (b_X12_hasSet_4 mm 0 (b : Int) x (k : Int)) _
    unfold b_X12_hasSet_4
    rw [pagesOf_m hM hP, Option.bind_some]
    refine ev_if (fun hc => ev_exit ?_) fun hc => ?_
    · rcases hs with ⟨h1, h2⟩ | h1
      · exact Or.inr ⟨h1, fun ⟨p, hp, z⟩ => h2 p (by omega) z⟩
      · exact Or.inl h1
    · rcases hs with ⟨rfl, h2⟩ | ⟨rfl, h2⟩
      · refine ev_iff (fun q => q rfl) ?_
        have hst := (hB.pg k (by omega)).st
        rw [nk_of hM.r30, ldN_of hM.z83 (by omega), tn16]
        refine ev_if (fun he => ev_ck (by omega) (ev_back ⟨k + 1, by simp, by omega, Or.inl ⟨rfl, fun j hj => ?_⟩⟩ (by simp only; omega))) fun he => ev_ck (by omega) (ev_back ⟨k + 1, by simp, by omega, Or.inr ⟨rfl, k, by omega, by omega⟩⟩ (by simp only; omega))
        by_cases q : j = k
        · rw [q]; omega
        · exact h2 j (by omega)
      · exact ev_ift (show ¬ (1 : Int) = 0 by decide) (ev_ck (by omega) (ev_back ⟨k + 1, by simp, by omega, Or.inr ⟨rfl, h2⟩⟩ (by simp only; omega)))
  · rintro v hv
    unfold j_X12_hasSet_0_43
    exact ev_cb (by omega) (ev_some hv)
theorem castFrom_m (hM : SM mm) (hP : BP mm b F n M Ln E) (hcnt : 0 ≤ gN mm 80 0 b ∧ gN mm 80 0 b ≤ 60) (hw : ∀ k : Nat, (k : Int) < gN mm 80 0 b → ∃ c, WW c (gL mm 81 0 (60 * b + k))) (hpc : 50 ≤ gN mm 78 0 b ∧ gN mm 78 0 b ≤ 150) {p : Nat} (hp : p < 16) :
    Ev (f_X12_castFrom mm 0 (b : Int) (p : Int)) (fun v => ∃ k : Nat, v = k ∧ CFR (usN fun k => gL mm 81 0 (60 * b + k)) (gN mm 80 0 b).toNat (p * hold M Ln (gN mm 78 0 b)) k) := by
  have q0 := hP.hb
  have q4 := hP.ml
  obtain ⟨pc, hpc'⟩ := Int.ex (show 0 ≤ gN mm 78 0 b by omega)
  obtain ⟨nt, hnt⟩ := Int.ex hcnt.1
  have hh := hold_bd (M := M) (Ln := Ln) (pc := gN mm 78 0 b) q4.2 hpc.2
  have hT : p * hold M Ln (gN mm 78 0 b) ≤ 15 * 216 := Nat.mul_le_mul (by omega) hh.2
  have h1 : M * Ln * pc ≤ 144 * 150 := Nat.mul_le_mul q4.2 (by omega)
  have e1 : (M : Int) * (Ln : Int) * (pc : Int) = ((M * Ln * pc : Nat) : Int) := by rw [mulc, mulc]
  have eh : hold M Ln (gN mm 78 0 b) = max 1 (M * Ln * pc / 100) := by unfold hold; rw [hpc', tnc]
  unfold f_X12_castFrom
  rw [nk_of hM.r22, ldN_of hM.z75 (by omega), tnc, hP.m, nk_of hM.r23, ldN_of hM.z76 (by omega), tnc, hP.l, nk_of hM.r25, ldN_of hM.z78 (by omega), tnc, hpc', e1, ck_of ⟨by omega, by omega⟩, dv_of ⟨by omega, by omega⟩, show ((M * Ln * pc : Nat) : Int) / 100 = ((M * Ln * pc / 100 : Nat) : Int) by omega]
  rw [hpc'] at hT eh hh
  rw [hnt] at hcnt hw ⊢
  rw [tnc]
  refine ev_lp (fun v => ∃ k : Nat, v = k ∧ CFR (usN fun k => gL mm 81 0 (60 * b + k)) nt (p * hold M Ln (pc : Int)) k) (fun s => ∃ k : Nat, s.2 = k ∧ k ≤ nt ∧ s.1 = (usN (fun k => gL mm 81 0 (60 * b + k)) k : Nat) ∧ ∀ j, j < k → usN (fun k => gL mm 81 0 (60 * b + k)) j < p * hold M Ln (pc : Int)) (fun s => nt - s.2.toNat) ⟨0, rfl, by omega, rfl, fun j hj => absurd hj (by omega)⟩ ?_ ?_
  · rintro ⟨_, _⟩ ⟨k, rfl, hk, rfl, hg⟩
    have hus : usN (fun k => gL mm 81 0 (60 * b + k)) k ≤ 9 * k := usN_le fun j hj => by
      obtain ⟨c, hc⟩ := hw j (by omega)
      exact hc.lw.2
    show Ev (b_X12_castFrom_30 mm 0 (b : Int) (p : Int) ((M * Ln * pc / 100 : Nat) : Int) ((usN (fun k => gL mm 81 0 (60 * b + k)) k : Nat) : Int) (k : Int)) _
    unfold b_X12_castFrom_30
    rw [nk_of hM.r27, ldN_of hM.z80 (by omega), tnc, hnt]
    refine ev_if (fun hc => ev_exit ⟨k, rfl, by omega, Or.inl (by omega), hg⟩) fun hc => ?_
    have both : Ev (j_X12_castFrom_30_54 mm 0 (b : Int) (p : Int) ((M * Ln * pc / 100 : Nat) : Int) ((usN (fun k => gL mm 81 0 (60 * b + k)) k : Nat) : Int) (k : Int) ((usN (fun k => gL mm 81 0 (60 * b + k)) k : Nat) : Int) (p : Int) ((hold M Ln (pc : Int) : Nat) : Int)) (fun z => Sum.elim (fun s' : Int × Int => (∃ k : Nat, s'.2 = k ∧ k ≤ nt ∧ s'.1 = (usN (fun k => gL mm 81 0 (60 * b + k)) k : Nat) ∧ ∀ j, j < k → usN (fun k => gL mm 81 0 (60 * b + k)) j < p * hold M Ln (pc : Int)) ∧ nt - s'.2.toNat < nt - ((k : Int)).toNat) (fun v : Int => ∃ k : Nat, v = k ∧ CFR (usN fun k => gL mm 81 0 (60 * b + k)) nt (p * hold M Ln (pc : Int)) k) z) := by
      unfold j_X12_castFrom_30_54
      rw [mulc, ck_of ⟨by omega, by omega⟩]
      refine ev_if (fun hd => ev_exit ⟨k, rfl, by omega, Or.inr (by omega), hg⟩) fun hd => ?_
      obtain ⟨c, hc'⟩ := hw k (by omega)
      have h8 := hc'.lw.2
      rw [nk_of hM.r28, ldL_of hM.z81 (by omega), tn60b, hc'.len_m, Option.bind_some]
      refine ev_ck (by omega) (ev_ck (by omega) (ev_back ⟨k + 1, by simp, by omega, by simp only; rw [usN]; omega, fun j hj => ?_⟩ (by simp only; omega)))
      by_cases q : j = k
      · rw [q]; omega
      · exact hg j (by omega)
    refine ev_if (fun hd => ?_) fun hd => ?_
    · have : ((hold M Ln (pc : Int) : Nat) : Int) = 1 := by rw [eh]; omega
      rw [this] at both
      exact both
    · have : ((hold M Ln (pc : Int) : Nat) : Int) = ((M * Ln * pc / 100 : Nat) : Int) := by rw [eh]; omega
      rw [this] at both
      exact both
  · rintro v hv
    exact ev_some hv
def WPc (b K i s : Nat) : Prop := (K = 16 ∧ i = b) ∨ (K = 0 ∧ i = b ∧ s = 10)
theorem partBy_c (hP : BP mm b F n M Ln E) (hS : BS mc b F n M Ln E) (hT : RTx mc mm b (F * n) M Ln) {pc : Nat} (hpc : 50 ≤ pc ∧ pc ≤ 150) :
    Ev (f_X0_partByUnits mc b (pc : Int)) (fun r => r.1 = .inl none ∧ FrC (WPc b) mc r.2 ∧ gN r.2 0 b 10 = 1 ∧ ∀ p, p < 2 * (F * n) → ∃ k : Nat, gN r.2 16 b p = k ∧ CFR (usN fun k => gL mm 81 0 (60 * b + k)) (gN mm 80 0 b).toNat (p * hold M Ln (pc : Int)) k) := by
  have q1 := hP.hn
  have q4 := hP.ml
  have hcnt := hT.cnt
  obtain ⟨nt, hnt⟩ := Int.ex hcnt.2.1
  have hh := hold_bd (M := M) (Ln := Ln) (pc := (pc : Int)) q4.2 (by omega)
  have h1 : M * Ln * pc ≤ 144 * 150 := Nat.mul_le_mul q4.2 (by omega)
  have e1 : (M : Int) * (Ln : Int) * (pc : Int) = ((M * Ln * pc : Nat) : Int) := by rw [mulc, mulc]
  have eh : (if ((M * Ln * pc / 100 : Nat) : Int) < 1 then (1 : Int) else ((M * Ln * pc / 100 : Nat) : Int)) = ((hold M Ln (pc : Int) : Nat) : Int) := by
    unfold hold
    rw [tnc]
    split <;> omega
  unfold f_X0_partByUnits
  rw [hS.f1, hS.f2, e1, ck_of ⟨by omega, by omega⟩, dv_of ⟨by omega, by omega⟩, show ((M * Ln * pc : Nat) : Int) / 100 = ((M * Ln * pc / 100 : Nat) : Int) by omega, eh, lt0_eq]
  generalize hold M Ln (pc : Int) = H at hh
  rw [hnt, tnc]
  have hword : ∀ k : Nat, k < nt → WW (gL mc 45 b k) (gL mm 81 0 (60 * b + k)) := fun k hk => hT.told k (by omega)
  generalize hw : (fun k => gL mm 81 0 (60 * b + k)) = w
  have hwk : ∀ k, gL mm 81 0 (60 * b + k) = w k := fun k => by rw [← hw]
  have inner : ∀ (m1 : MM) (p k0 : Nat), FrC (WPc b) mc m1 → p < 16 → k0 ≤ nt → (∀ j, j < k0 → usN w j < p * H) → Ev (lpb (fun s : Int × Int => b_X0_partByUnits_37 m1 b (H : Int) (p : Int) s.1 s.2) (((usN w k0 : Nat) : Int), (k0 : Int))) (fun z => ∃ k : Nat, z = (((usN w k : Nat) : Int), (k : Int)) ∧ CFR (usN w) nt (p * H) k) := by
    intro m1 p k0 hF hp hk0 hg0
    have hT2 : p * H ≤ 15 * 216 := Nat.mul_le_mul (by omega) hh.2
    have hS1 := hF.BS hS hP (fun K i s hk => by unfold CBS at hk; unfold WPc; omega)
    refine lpb_run (fun s : Int × Int => ∃ k : Nat, s = (((usN w k : Nat) : Int), (k : Int)) ∧ k ≤ nt ∧ ∀ j, j < k → usN w j < p * H) (fun s => nt - s.2.toNat) ?_ _ ⟨k0, rfl, hk0, hg0⟩
    rintro _ ⟨k, rfl, hk, hg⟩
    have hus : usN w k ≤ 9 * k := usN_le fun j hj => by
      have := (hword j (by omega)).lw.2
      rw [hwk] at this; exact this
    show Ev (b_X0_partByUnits_37 m1 b (H : Int) (p : Int) ((usN w k : Nat) : Int) (k : Int)) _
    unfold b_X0_partByUnits_37
    rw [nk_of hS1.r4, show gN m1 9 b 5 = (nt : Int) by rw [(hF.1 9 b 5 (by unfold WPc; omega)).1, hcnt.1, hnt]]
    refine ev_if (fun hc => ev_exit ⟨k, rfl, by omega, Or.inl (by omega), hg⟩) fun hc => ?_
    rw [mulc, ck_of ⟨by omega, by omega⟩]
    refine ev_if (fun hd => ev_exit ⟨k, rfl, by omega, Or.inr (by omega), hg⟩) fun hd => ?_
    have hwk' := hword k (by omega)
    have h8 := hwk'.lw.2
    rw [nk_of hS1.r4, nk_of hS1.t0, ldL_of hS1.z45 (by omega), tnc, show gL m1 45 b k = gL mc 45 b k from (hF.1 45 b k (by unfold WPc; omega)).2.1, hwk'.len_c, Option.bind_some]
    rw [hwk] at h8 ⊢
    refine ev_ck (by omega) (ev_ck (by omega) (ev_back ⟨k + 1, by rw [usN]; simp, by omega, fun j hj => ?_⟩ (by simp only; omega)))
    by_cases q : j = k
    · rw [q]; omega
    · exact hg j (by omega)
  refine ev_lp (fun m' : MM => FrC (WPc b) mc m' ∧ ∀ p, p < 2 * (F * n) → ∃ k : Nat, gN m' 16 b p = k ∧ CFR (usN w) nt (p * H) k) (fun s => ∃ k p : Nat, s.1 = (usN w k : Nat) ∧ s.2.1 = k ∧ s.2.2.1 = p ∧ p ≤ 2 * (F * n) ∧ k ≤ nt ∧ (∀ j, j < k → usN w j < p * H) ∧ FrC (WPc b) mc s.2.2.2 ∧ ∀ q, q < p → ∃ k : Nat, gN s.2.2.2 16 b q = k ∧ CFR (usN w) nt (q * H) k) (fun s => 2 * (F * n) - s.2.2.1.toNat) ⟨0, 0, rfl, rfl, rfl, by omega, by omega, fun j hj => absurd hj (by omega), FrC.rf, fun q hq => absurd hq (by omega)⟩ ?_ ?_
  · rintro ⟨_, _, _, m1⟩ ⟨k, p, rfl, rfl, rfl, hp, hk, hg, hF, hpb⟩
    simp only at hF hpb
    have hS1 := hF.BS hS hP (fun K i s hk => by unfold CBS at hk; unfold WPc; omega)
    show Ev (b_X0_partByUnits_27 b (H : Int) ((usN w k : Nat) : Int) (k : Int) (p : Int) m1) _
    unfold b_X0_partByUnits_27
    rw [nk_of hS1.r5, lenI_of hS1.z13]
    refine ev_if (fun hc => ev_exit ⟨hF, fun q hq => hpb q (by omega)⟩) fun hc => ?_
    have hp2 : p < 2 * (F * n) := by omega
    obtain ⟨_, e3, k', rfl, hk'⟩ := inner m1 p k hF (by omega) hk hg
    rw [e3, Option.bind_some]
    unfold j_X0_partByUnits_27_81
    simp only
    have hk0 := hk'.1
    rw [nk_of hS1.r8, stN_of hS1.z16 (by omega), tnc]
    refine ev_ck (by omega) (ev_back ⟨k', p + 1, rfl, rfl, by simp, by omega, hk'.1, fun j hj => ?_, hF.sN (by unfold WPc; omega), fun q hq => ?_⟩ (by simp only; omega))
    · have := hk'.2.2 j hj
      have h9 : p * H ≤ (p + 1) * H := Nat.mul_le_mul_right H (by omega)
      omega
    · simp only
      rw [gN_sN]
      by_cases u : q = p
      · rw [if_pos ⟨rfl, rfl, u⟩, u]
        exact ⟨k', rfl, hk'⟩
      · rw [if_neg (fun z => u z.2.2)]
        exact hpb q (by omega)
  · rintro m1 ⟨hF, hpb⟩
    unfold j_X0_partByUnits_0_96
    refine ev_lt (ev_some ⟨rfl, hF.sN (by unfold WPc; omega), by rw [gN_sN, if_pos ⟨rfl, rfl, rfl⟩], fun p hp => ?_⟩)
    rw [gN_sN, if_neg (by omega)]
    exact hpb p hp
theorem call_castOff {a pc : Int} (h : RR N mc mm) : CalI N (f_X11_castOff mc 0 a pc) (f_X12_castOff mm 0 a pc) [0, 1, 2] := by
  have m78 : ∀ v : Int, v ≠ 0 → j_X12_castOff_0_78 mm 0 a pc 0 v = some (.inl (some (aI 0)), sN mm 12 0 0 v) := fun v hv => by
    unfold j_X12_castOff_0_78; rw [holds1 _ hv, bI_ok, if_neg (fun q => q rfl)]
  unfold f_X11_castOff f_X12_castOff
  by_cases hb : 0 ≤ a ∧ a < gN mm 12 0 19
  · obtain ⟨b, rfl⟩ := Int.ex hb.1
    obtain ⟨F, n, M, Ln, E, hB⟩ := h.Bk b hb.2
    have hP := hB.hP
    have hS := hB.hS
    have q0 := hP.hb
    have q1 := hP.hn
    have q2 := hP.hL
    have q3 := hP.hE
    have q4 := hP.ml
    have hT := hB.tx
    have hcnt := hT.cnt
    rw [bookAt_ok h.Nb h.C hb.2, bR_ok, nk_some, isBook_ok h.Nb hb.2, Option.bind_some, if_neg (show ¬ (1 : Int) = 0 by decide), nk_of h.M.r27, ldN_of h.M.z80 (by omega), tnc]
    obtain ⟨v2, e2, e2'⟩ := hasSet_m h.M hB
    obtain ⟨v1, e1, e1'⟩ := hasSet_c hB
    by_cases hpc : 50 ≤ pc ∧ pc ≤ 150
    · rw [if_neg (show ¬ pc < 50 by omega), if_neg (show ¬ 150 < pc by omega)]
      unfold j_X11_castOff_0_24
      rw [rqA _ (by decide), bV_ok, nk_of hS.r4, hcnt.1, hT.co, nk_of h.M.r25, ldN_of h.M.z78 (by omega), tnc]
      have c55 : j_X11_castOff_0_55 mc pc b = some (.inr 2, bX mc) := by unfold j_X11_castOff_0_55 j_X11_castOff_0_56; rw [rqS0, bV_ex]; rfl
      have m40 : j_X12_castOff_0_40 mm 0 (b : Int) pc 1 = some (.inl (some (aI 0)), sN mm 12 0 0 3) := by
        unfold j_X12_castOff_0_40 j_X12_castOff_0_41; rw [if_pos (show ¬ (1 : Int) = 0 by decide), isIn_m, Option.bind_some, if_pos hpc, if_pos (show ¬ (1 : Int) = 0 by decide), if_pos rfl, m78 3 (by decide)]
      by_cases hc0 : gN mm 80 0 b ≤ 0
      · rw [if_pos hc0, if_pos hc0, c55, m40]
        exact CalI.bad (k := 2) h rfl rfl rfl
      · rw [if_neg hc0, if_neg hc0]
        by_cases h78 : gN mm 78 0 b = 0
        · rw [if_pos h78, if_neg (show ¬ ¬ (0 : Int) = 0 by decide), if_neg (show ¬ ¬ gN mm 78 0 b = 0 from fun q => q h78), e1, e2, Option.bind_some, Option.bind_some]
          rcases e1' with ⟨rfl, hs⟩ | ⟨rfl, hs⟩
          · rcases e2' with ⟨rfl, -⟩ | ⟨rfl, z⟩
            rotate_left
            · exact absurd hs z
            rw [if_pos (show ¬ (1 : Int) = 0 by decide), if_pos (show ¬ (1 : Int) = 0 by decide), c55, m40]
            exact CalI.bad (k := 2) h rfl rfl rfl
          · rcases e2' with ⟨rfl, z⟩ | ⟨rfl, -⟩
            · exact absurd z hs
            rw [if_neg (show ¬ ¬ (0 : Int) = 0 by decide), if_neg (show ¬ ¬ (0 : Int) = 0 by decide)]
            obtain ⟨pc, rfl⟩ := Int.ex (show 0 ≤ pc by omega)
            unfold j_X11_castOff_0_56 j_X12_castOff_0_41
            obtain ⟨⟨r, m1⟩, g1, g2, g3, g4, g5⟩ := partBy_c hP hS hT (pc := pc) (by omega)
            simp only at g2 g3 g4 g5
            subst g2
            rw [rqS _ (by decide), bV_ok, g1, bV_ok, if_pos (show ¬ (1 : Int) = 0 by decide), isIn_m, Option.bind_some, if_pos hpc, if_pos (show ¬ (1 : Int) = 0 by decide), if_neg (show ¬ (1 : Int) = 0 by decide)]
            unfold j_X12_castOff_0_78
            have hM0 := h.M.thr 0
            rw [holds0, bI_ok, if_pos (show ¬ (1 : Int) = 0 by decide), nk_of hM0.r25, stN_of hM0.z78 (by omega), tnc]
            have cm : ∀ K i s', ¬ (K = 12 ∧ s' = 0) ∧ ¬ (K = 78 ∧ s' = b) → eq3 mm (sN (sN mm 12 0 0 0) 78 0 b (pc : Int)) K i s' := fun K i s' hk => (eq3.sN (by omega)).tr (eq3.sN (by omega))
            have x78 : gN (sN (sN mm 12 0 0 0) 78 0 b (pc : Int)) 78 0 b = pc := by rw [gN_sN, if_pos ⟨rfl, rfl, rfl⟩]
            have x0 : gN (sN (sN mm 12 0 0 0) 78 0 b (pc : Int)) 12 0 0 = 0 := by rw [gN_sN, if_neg (by omega), gthr]
            have hzm : ∀ K i, gZ (sN (sN mm 12 0 0 0) 78 0 b (pc : Int)) K i = gZ mm K i := fun _ _ => rfl
            generalize sN (sN mm 12 0 0 0) 78 0 b (pc : Int) = m2 at *
            have cc : ∀ K i s', ¬ (K = 16 ∧ i = b) ∧ ¬ (K = 0 ∧ i = b ∧ s' = 10) → eq3 mc m1 K i s' := fun K i s' hk => g3.1 K i s' (by unfold WPc; omega)
            have hzc := g3.2.1
            have hM2 : SM m2 := h.M.mv2 (fun s hs => (cm 12 0 s (by omega)).2.2) (fun K i k hk => by rw [hzm]; exact hk)
            have hP2 : BP m2 b F n M Ln E := hP.keep (fun K h1 h2 => (cm K 0 b (by omega)).1)
            have hS1 : BS m1 b F n M Ln E := hB.hS.keep hP (fun K i s hk => cc K i s (by unfold CBS at hk; omega)) (fun K i k hk => by rw [hzc]; exact hk)
            have y80 := (cm 80 0 b (by omega)).1
            have y81 : ∀ k, gL m2 81 0 k = gL mm 81 0 k := fun k => (cm 81 0 k (by omega)).2.1
            obtain ⟨_, g6, k2, rfl, g7⟩ := castFrom_m (p := 2 * (F * n) - 1) hM2 hP2 (by rw [y80]; omega) (fun k hk => ⟨_, by rw [y80] at hk; rw [y81]; exact hT.told k hk⟩) (by rw [x78]; omega) (by omega)
            obtain ⟨k1, g8, g9⟩ := g5 (2 * (F * n) - 1) (by omega)
            have hkk : k1 = k2 := by
              simp only [x78, y80, y81] at g7
              exact g9.one g7
            rw [nk_of hS1.r5, lenI_of hS1.z13, ck_of ⟨by omega, by omega⟩, pagesOf_m hM2 hP2, Option.bind_some, ck_of ⟨by omega, by omega⟩, show ((2 * (F * n) : Nat) : Int) - 1 = ((2 * (F * n) - 1 : Nat) : Int) by omega, g6, Option.bind_some]
            unfold f_X0_firstWordOfPart
            rw [g4, if_neg (show ¬ (1 : Int) = 0 by decide), nk_of hS1.r8, ldN_of hS1.z16 (by omega), tnc, Option.bind_some, g8, hkk]
            have hPf := h.Pf
            have hPc := h.Pc
            refine ⟨_, _, _, _, rfl, rfl, Or.inl ⟨rfl, x0⟩, h.book (b0 := b) (Nat.le_succ N) hzc (fun K i k hk => by rw [hzm]; exact hk) g3.2.2 hb.2 (fun K i s' hk => cc K i s' (by omega)) (fun K i s' hK hn => cc K i s' ⟨fun q => hn (CBk.a (by omega) q.2), fun q => hn (CBk.a (by omega) q.2.1)⟩) (fun K i s' hk => cm K i s' (by omega)) (fun K s' h1 h2 hn => cm K 0 s' ⟨by omega, fun q => hn (MBk.a (by omega) q.2)⟩) ⟨F, n, M, Ln, E, hP2, hS1, ?_, fun p hp => (hB.pg p hp).keep (by omega) (fun K i s hk => cc K i s (by unfold CPg at hk; omega)) (fun K i s hk => cm K i s (by unfold MPg at hk; omega)), fun p hp => ?_, fun p hp => (hB.pl p hp).keep (by have := (hB.pg p hp).pn; omega) (fun K i s hk => cc K i s (by unfold CPl at hk; omega)) (fun K i s hk => cm K i s (by unfold MPl at hk; omega)), fun f hf => (hB.ff f hf).keep (by omega) (fun K i s hk => cc K i s (by unfold CFo at hk; omega)) (fun K i s hk => cm K i s (by unfold MFo at hk; omega)) (by rw [(cm 12 0 69 (by omega)).1]; exact Int.le_refl _), fun p hp => (hB.pn p hp).keep (by have := (hB.pg p hp).pn; omega) (by have := (hB.ff _ (fo_lt hP.hF hp)).ns; omega) (fun K i s hk => cc K i s (by unfold CPn at hk; omega)) (fun K i s hk => cm K i s (by unfold MPn at hk; omega)), fun f hf => (hB.se f hf).keep (by omega) (fun p hp => by have := (hB.pg p hp).pn; omega) (fun K i s hk => cc K i s (by unfold CSe at hk; omega)) (fun K i s hk => cm K i s (by unfold MSe at hk; omega)) (fun x => by rw [(cm 63 0 x (by omega)).1]; exact Int.le_refl _), fun s hs => (hB.sh s hs).keep (by omega) (fun K i s' hk => cc K i s' (by unfold CSh at hk; omega)) (fun K i s' hk => cm K i s' (by unfold MSh at hk; omega)), hB.lv.keep (by omega) (by omega) (by omega) (fun K i s hk => cc K i s (by unfold CLv at hk; omega)) (fun K i s hk => cm K i s (by unfold MLv at hk; omega))⟩ (hPf.keep (Nat.le_succ N) (fun K i s' hk => cm K i s' (by omega))) (hPc.keep (fun K i s' hk => cm K i s' (by omega)))⟩
            · refine ⟨by rw [(cc 9 b 5 (by omega)).1, y80]; exact hcnt, fun k hk => ?_, fun k hk => ?_, fun k hk => ?_, fun k hk => ?_, by rw [x78, y80]; omega, by rw [g4, x78, if_neg (by omega)], fun _ p hp => ?_⟩
              · rw [y80] at hk
                rw [(cc 45 b k (by omega)).2.1, y81]; exact hT.told k hk
              · rw [y80] at hk
                rw [(cc 49 b k (by omega)).1, (cm 82 0 (60 * b + k) (by omega)).1]; exact hT.ends k hk
              · rw [y80] at hk
                rw [(cm 12 0 3 (by omega)).1, (cc 48 b k (by omega)).1, y81, show gL m2 60 0 = gL mm 60 0 from funext fun s => (cm 60 0 s (by omega)).2.1, show gL m2 61 0 = gL mm 61 0 from funext fun s => (cm 61 0 s (by omega)).2.1]
                exact hT.sp k hk
              · rw [y80] at hk
                rw [(cm 12 0 3 (by omega)).1, (cc 48 b k (by omega)).1, (cc 45 b k (by omega)).2.1, (cc 46 b k (by omega)).2.1, (cc 47 b k (by omega)).2.1]
                simp only [show ∀ s, gL m1 53 0 s = gL mc 53 0 s from fun s => (cc 53 0 s (by omega)).2.1, show ∀ s, gL m1 54 0 s = gL mc 54 0 s from fun s => (cc 54 0 s (by omega)).2.1]
                exact hT.fm k hk
              · obtain ⟨k, z1, z2⟩ := g5 p hp
                refine ⟨k, z1, ?_⟩
                simp only [x78, y80, y81]
                exact z2
            · have hno : gN m2 83 0 (16 * b + p) ≠ 1 := by
                rw [(cm 83 0 (16 * b + p) (by omega)).1]
                exact fun q => hs ⟨p, hp, q⟩
              exact ⟨fun z => absurd z hno, fun z => absurd z hno, fun z => absurd z hno, fun z => absurd z hno⟩
        · rw [if_neg h78, if_pos (show ¬ (1 : Int) = 0 by decide), if_pos (show ¬ gN mm 78 0 b = 0 from h78), c55, m40]
          exact CalI.bad (k := 2) h rfl rfl rfl
    · have e : (if pc < 50 then j_X11_castOff_0_23 mc pc b else if 150 < pc then j_X11_castOff_0_23 mc pc b else j_X11_castOff_0_24 mc pc b 1) = some (.inr 1, bX mc) := by
        have e0 : j_X11_castOff_0_23 mc pc b = some (.inr 1, bX mc) := by unfold j_X11_castOff_0_23 j_X11_castOff_0_24; rw [rqA0, bV_ex]; rfl
        rw [e0]; exact ite2 (by omega)
      have m41 : ∀ s0, j_X12_castOff_0_41 mm 0 (b : Int) pc 1 s0 = some (.inl (some (aI 0)), sN mm 12 0 0 2) := fun s0 => by
        unfold j_X12_castOff_0_41; rw [if_pos (show ¬ (1 : Int) = 0 by decide), isIn_m, Option.bind_some, if_neg hpc, if_neg (fun q => q rfl), m78 2 (by decide)]
      have m40 : j_X12_castOff_0_40 mm 0 (b : Int) pc 1 = some (.inl (some (aI 0)), sN mm 12 0 0 2) := m41 0
      rw [e, m40, m41, nk_of h.M.r25, ldN_of h.M.z78 (by omega), e2, Option.bind_some]
      refine CalI.bad (k := 1) (b := 0) h rfl ?_ rfl
      split
      · rfl
      · split
        · rfl
        · split <;> rfl
  · have m40 : j_X12_castOff_0_40 mm 0 a pc 0 = some (.inl (some (aI 0)), sN mm 12 0 0 1) := by
      unfold j_X12_castOff_0_40 j_X12_castOff_0_41; rw [if_neg (fun q => q rfl), m78 1 (by decide)]
    rw [bookAt_bad h.Nb h.C hb, bR_ex, isBook_bad h.Nb hb, Option.bind_some, if_pos rfl, m40]
    exact CalI.bad (k := 0) h rfl rfl rfl
end CAST
