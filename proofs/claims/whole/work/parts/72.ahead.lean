/-! AHEAD. -/
theorem bit_shr {a l : Nat} (ha : a < 256) (hl : l < 8) : iand (ishr (a : Int) (l : Int)) 1 = 1 ↔ a.testBit l = true := by
  have k : ∀ a : Fin 256, ∀ l : Fin 8, iand (ishr ((a.val : Nat) : Int) ((l.val : Nat) : Int)) 1 = 1 ↔ a.val.testBit l.val = true := by decide +kernel
  exact k ⟨a, ha⟩ ⟨l, hl⟩
theorem MK.upd {K m : Nat} {Q Q' : Nat → Nat → Prop} {s : MM} (h : MK K m Q s) {i a : Nat} (ha : a < 256) (h1 : ∀ f g, f < m → f ≠ i → (Q f g ↔ Q' f g)) (h2 : ∀ g, a.testBit g = true ↔ Q' i g) : MK K m Q' (sN s K 0 i (a : Int)) := fun f hf => by
  by_cases q : f = i
  · subst q
    exact ⟨a, ha, by rw [gN_sN, if_pos ⟨rfl, rfl, rfl⟩], h2⟩
  · obtain ⟨a', b1, b2, b3⟩ := h f hf
    exact ⟨a', b1, by rw [gN_sN, if_neg (fun z => q z.2.2)]; exact b2, fun g => (b3 g).trans (h1 f g hf q)⟩
section AHEAD
variable {N : Nat} {mc mm : MM} {b F n M Ln E : Nat}
theorem warshall_m {s0 : MM} (hM : SM s0) {m : Nat} (hm : 1 ≤ m ∧ m ≤ 8) {R : Nat → Nat → Prop} (hQ : MK 127 m R s0) (x y : Int) :
    Ev (lpb (fun s : Int × MM => b_X12_ahead_71 0 x y (m : Int) s.1 s.2) (0, s0)) (fun r => FrC (fun K i _ => K = 127 ∧ i = 0) s0 r ∧ MK 127 m (Wsh R m) r) := by
  refine lpb_run (fun s : Int × MM => ∃ k : Nat, s.1 = k ∧ k ≤ m ∧ FrC (fun K i _ => K = 127 ∧ i = 0) s0 s.2 ∧ MK 127 m (Wsh R k) s.2) (fun s => m - s.1.toNat) ?_ _ ⟨0, rfl, by omega, FrC.rf, hQ⟩
  rintro ⟨_, m1⟩ ⟨k, rfl, hk, hF1, hQ1⟩
  simp only at hF1 hQ1
  show Ev (b_X12_ahead_71 0 x y (m : Int) (k : Int) m1) _
  unfold b_X12_ahead_71
  refine ev_if (fun hc => ev_exit ⟨hF1, by rw [show m = k by omega] at hQ1 ⊢; exact hQ1⟩) fun hc => ?_
  have hkm : k < m := by omega
  refine ev_lp (fun r => FrC (fun K i _ => K = 127 ∧ i = 0) s0 r ∧ MK 127 m (Wsh R (k + 1)) r) (fun s : Int × MM => ∃ i : Nat, s.1 = i ∧ i ≤ m ∧ FrC (fun K i _ => K = 127 ∧ i = 0) s0 s.2 ∧ MK 127 m (fun f g => if f < i then Wsh R (k + 1) f g else Wsh R k f g) s.2) (fun s => m - s.1.toNat) ⟨0, rfl, by omega, hF1, hQ1.iff fun f g hf => by rw [if_neg (by omega)]⟩ ?_ ?_
  · rintro ⟨_, m2⟩ ⟨i, rfl, hi, hF2, hQ2⟩
    simp only at hF2 hQ2
    show Ev (b_X12_ahead_81 0 x y (m : Int) (k : Int) (i : Int) m2) _
    have hM2 := hF2.SM hM (fun s hs => by omega)
    unfold b_X12_ahead_81
    refine ev_if (fun hd => ev_exit ⟨hF2, hQ2.iff fun f g hf => by rw [if_pos (by omega)]⟩) fun hd => ?_
    have him : i < m := by omega
    obtain ⟨a, a1, a2, a3⟩ := hQ2 i him
    obtain ⟨c, c1, c2, c3⟩ := hQ2 k hkm
    simp only at a3 c3
    replace a3 : ∀ g, a.testBit g = true ↔ Wsh R k i g := fun g => by rw [a3 g, if_neg (Nat.lt_irrefl i)]
    have hrowk : ∀ g, c.testBit g = true ↔ Wsh R k k g := fun g => by
      rw [c3 g]
      by_cases z : k < i
      · rw [if_pos z]
        exact ⟨fun w => by rcases w with w | ⟨_, w⟩ <;> exact w, fun w => Or.inl w⟩
      · rw [if_neg z]
    rw [nk_of hM2.r77, ldN_of hM2.z127 (by omega), tnc, nk_of hM2.r77, ldN_of hM2.z127 (by omega), tnc, a2]
    refine ev_if (fun he => ?_) fun he => ?_
    · have hno : ¬ Wsh R k i k := fun q => he ((bit_shr a1 (by omega)).mpr ((a3 k).mpr q))
      unfold j_X12_ahead_81_123
      rw [stN_of hM2.z127 (by omega), tnc, ior0 ⟨by omega, by omega⟩, ck_of ⟨by omega, by omega⟩]
      refine ⟨_, rfl, ⟨i + 1, by simp, by omega, hF2.sN ⟨rfl, rfl⟩, hQ2.upd a1 (fun f g hf hfi => ?_) fun g => ?_⟩, by simp only; omega⟩
      · by_cases z : f < i
        · rw [if_pos z, if_pos (by omega)]
        · rw [if_neg z, if_neg (by omega)]
      · rw [if_pos (Nat.lt_succ_self i), a3 g]
        exact ⟨Or.inl, fun w => w.elim id fun w => absurd w.1 hno⟩
    · have hyes : Wsh R k i k := (a3 k).mp ((bit_shr a1 (by omega)).mp (Classical.byContradiction he))
      rw [nk_of hM2.r77, ldN_of hM2.z127 (by omega), tnc, c2]
      unfold j_X12_ahead_81_123
      rw [stN_of hM2.z127 (by omega), tnc, ior_nat (by omega) (by omega), ck_of ⟨by omega, by omega⟩]
      refine ⟨_, rfl, ⟨i + 1, by simp, by omega, hF2.sN ⟨rfl, rfl⟩, hQ2.upd (Nat.or_lt_two_pow (n := 8) a1 c1) (fun f g hf hfi => ?_) fun g => ?_⟩, by simp only; omega⟩
      · by_cases z : f < i
        · rw [if_pos z, if_pos (by omega)]
        · rw [if_neg z, if_neg (by omega)]
      · rw [if_pos (Nat.lt_succ_self i), Nat.testBit_or, Bool.or_eq_true, a3 g, hrowk g]
        exact ⟨fun w => w.imp id fun w => ⟨hyes, w⟩, fun w => w.imp id fun w => w.2⟩
  · rintro m2 ⟨hF2, hQ2⟩
    unfold j_X12_ahead_71_131
    exact ev_ck (by omega) (ev_back ⟨k + 1, by simp, by omega, hF2, hQ2⟩ (by simp only; omega))
theorem call_ahead (h : RR N mc mm) (a c d : Int) : CalI N (f_X11_ahead mc 0 a c d) (f_X12_ahead mm 0 a c d) [0, 1] := by
  have m45 : ∀ v : Int, v ≠ 0 → j_X12_ahead_0_45 mm 0 a c d 0 v = some (.inl (some (aI 0)), sN mm 12 0 0 v) := fun v hv => by
    unfold j_X12_ahead_0_45; rw [holds1 _ hv, bI_ok, if_neg (fun q => q rfl)]
  have m22 : j_X12_ahead_0_22 mm 0 a c d = some (.inl (some (aI 0)), sN mm 12 0 0 1) := by
    unfold j_X12_ahead_0_22 j_X12_ahead_0_23; rw [if_neg (fun q => q rfl), m45 1 (by decide)]
  unfold f_X11_ahead f_X12_ahead
  by_cases hb : 0 ≤ a ∧ a < gN mm 12 0 19
  · obtain ⟨b, rfl⟩ := Int.ex hb.1
    obtain ⟨F, n, M, Ln, E, hB⟩ := h.Bk b hb.2
    have hP := hB.hP
    have hS := hB.hS
    have q0 := hP.hb
    have q1 := hP.hn
    have c29 : j_X11_ahead_0_29 mc 0 c d b = some (.inr 0, bX mc) := by unfold j_X11_ahead_0_29 j_X11_ahead_0_30; rw [rqI0, bV_ex]; rfl
    rw [bookAt_ok h.Nb h.C hb.2, bR_ok, nk_some, c29]
    by_cases hc : 0 ≤ c ∧ c < (2 * n : Nat)
    · obtain ⟨f, rfl⟩ := Int.ex hc.1
      have hf : f < 2 * n := by omega
      rw [hasForme_ok hS hf, Option.bind_some, if_neg (show ¬ (1 : Int) = 0 by decide), isForme_ok h.Nb h.M hP hb.2 hf, Option.bind_some, if_neg (show ¬ (1 : Int) = 0 by decide)]
      by_cases hd : 0 ≤ d ∧ d < (2 * n : Nat)
      · obtain ⟨g, rfl⟩ := Int.ex hd.1
        have hg : g < 2 * n := by omega
        rw [hasForme_ok hS hg, Option.bind_some, if_neg (show ¬ (1 : Int) = 0 by decide), isForme_ok h.Nb h.M hP hb.2 hg, Option.bind_some, if_neg (show ¬ (1 : Int) = 0 by decide)]
        unfold j_X11_ahead_0_30 j_X12_ahead_0_23
        rw [rqI _ (by decide), bV_ok, if_pos (show ¬ (1 : Int) = 0 by decide)]
        by_cases hfg : (f : Int) = g
        · have e1 : j_X11_ahead_0_43 mc 0 (f : Int) (g : Int) b 0 = some (.inr 1, bX mc) := by unfold j_X11_ahead_0_43; rw [rqA0, bV_ex]; rfl
          rw [if_pos hfg, if_neg (fun q => q hfg), e1, m45 2 (by decide)]
          exact CalI.bad (k := 1) h rfl rfl rfl
        · rw [if_neg hfg, if_pos hfg]
          unfold j_X11_ahead_0_43 j_X12_ahead_0_45
          obtain ⟨⟨r, m1⟩, e1, e2, hF1, hQ1⟩ := readFormes_c h hB
          simp only at e2 hF1 hQ1
          subst e2
          have hC1 : SC m1 := h.C.mv2 (fun K i s hk => (hF1.1 K i s (by omega)).2.2) (fun K i k hk => by rw [hF1.2.1]; exact hk)
          have hS1 := hF1.BS hS hP (fun K i s hk => by unfold CBS at hk; omega)
          have hA : ∀ f, f < 2 * n → (if f < 2 * n then (gN m1 39 0 f).toNat else 0) < 256 ∧ gN m1 39 0 f = (if f < 2 * n then (gN m1 39 0 f).toNat else 0 : Nat) := fun f hf => by
            obtain ⟨a, a1, a2, a3⟩ := hQ1 f hf
            rw [if_pos hf, a2, tnc]
            exact ⟨a1, rfl⟩
          have hAq : ∀ f, f < 2 * n → ∀ g, (if f < 2 * n then (gN m1 39 0 f).toNat else 0).testBit g = true ↔ Qs (PrS mc b) (2 * n) (gN mm 12 0 6).toNat 0 0 f g := fun f hf g => by
            obtain ⟨a, a1, a2, a3⟩ := hQ1 f hf
            rw [if_pos hf, a2, tnc]
            exact a3 g
          obtain ⟨A, hAd⟩ : ∃ A : Nat → Nat, A = fun f => if f < 2 * n then (gN m1 39 0 f).toNat else 0 := ⟨_, rfl⟩
          have hA' : ∀ f, f < 2 * n → A f < 256 ∧ gN m1 39 0 f = A f := by rw [hAd]; exact hA
          have hAq' : ∀ f, f < 2 * n → ∀ g, (A f).testBit g = true ↔ Qs (PrS mc b) (2 * n) (gN mm 12 0 6).toNat 0 0 f g := by rw [hAd]; exact hAq
          have hAz : ∀ f, 2 * n ≤ f → A f = 0 := by rw [hAd]; exact fun f hf => if_neg (by omega)
          have hAb : ∀ x y, (A x).testBit y = true ↔ (x < 2 * n ∧ y < 2 * n ∧ ∃ p, p < (gN mm 12 0 6).toNat ∧ PrS mc b p x y) := fun x y => by
            by_cases z : x < 2 * n
            · rw [hAq' x z y, Qs.fin]
              exact ⟨fun w => ⟨z, w⟩, fun w => w.2⟩
            · rw [hAz x (by omega)]
              exact ⟨fun w => absurd w (by simp), fun w => absurd w.1 z⟩
          have hAm : ∀ i g, (A i).testBit g = true → g < 2 * n := fun i g w => ((hAb i g).mp w).2.1
          obtain ⟨_, u1, X, rfl, hX, hXb⟩ := allAheadOf_c hC1 (m := 2 * n) (f := g) (by omega) hA' hAm hg
          obtain ⟨_, u2, Y, rfl, hY, hYb⟩ := allAheadOf_c hC1 (m := 2 * n) (f := f) (by omega) hA' hAm hf
          have h0 := h.thr 0
          have hB0 := hB.thr 0
          have hP0 := hB0.hP
          obtain ⟨⟨r, m3⟩, e3, e4, hF3, hQ3⟩ := findSure_m h0.M h0.Ca hB0
          simp only at e4 hF3 hQ3
          subst e4
          have hM3 := hF3.SM h0.M (fun s hs => by omega)
          have h126 : gN (sN mm 12 0 0 0) 12 0 6 = gN mm 12 0 6 := gthr' _ _ (by omega)
          rw [h126] at hQ3
          have hQ3' : MK 127 (2 * n) (fun x y => (A y).testBit x = true) m3 := hQ3.iff fun x y hx => by
            rw [hAb, Qs.fin]
            exact ⟨fun w => ⟨w.1, hx, w.2⟩, fun w => ⟨w.1, w.2.2⟩⟩
          obtain ⟨m4, e5, hF4, hQ4⟩ := warshall_m hM3 (m := 2 * n) (by omega) hQ3' (f : Int) (g : Int)
          have hM4 := hF4.SM hM3 (fun s hs => by omega)
          have hW : ∀ x y, Wsh (fun x y => (A y).testBit x = true) (2 * n) x y ↔ Relation.TransGen (fun x y => (A x).testBit y = true) y x := fun x y => by
            rw [Wsh.iff fun x y w => hAm y x w]
            exact ⟨fun w => tr_flip w, fun w => tr_flip w⟩
          obtain ⟨p1, p2, p3, p4⟩ := hQ4 f hf
          obtain ⟨r1, r2, r3, r4⟩ := hQ4 g hg
          have b1 : X.testBit f = p1.testBit g := by
            have e : X.testBit f = true ↔ p1.testBit g = true := by rw [hXb, p4, hW]
            revert e
            cases X.testBit f <;> cases p1.testBit g <;> simp
          have b2 : Y.testBit g = r1.testBit f := by
            have e : Y.testBit g = true ↔ r1.testBit f = true := by rw [hYb, r4, hW]
            revert e
            cases Y.testBit g <;> cases r1.testBit f <;> simp
          have h2f : 2 ^ f < 2 ^ 31 := Nat.pow_lt_pow_right (by omega) (by omega)
          have h2g : 2 ^ g < 2 ^ 31 := Nat.pow_lt_pow_right (by omega) (by omega)
          have t1 : (iand (X : Int) (ishl 1 (f : Int)) = 0) ↔ X.testBit f = false := by
            rw [ishl_nat (by omega), iand_nat (by omega) h2f, ← and_bit]
            omega
          have t2 : (iand (Y : Int) (ishl 1 (g : Int)) = 0) ↔ Y.testBit g = false := by
            rw [ishl_nat (by omega), iand_nat (by omega) h2g, ← and_bit]
            omega
          have s1 := bit_shr (a := p1) (l := g) p2 (by omega)
          have s2 := bit_shr (a := r1) (l := f) r2 (by omega)
          have k2n : -2147483648 ≤ 2 * (n : Int) ∧ 2 * (n : Int) < 2147483648 := by omega
          have hfin : ∀ v : Int, RR (N + 1) m1 m4 := fun v => h.scr (Nat.le_succ N) hF1.2.1 (fun K i k hk => by rw [hF4.2.1, hF3.2.1]; exact hk) hF1.2.2 (fun K i s h1 h2 => hF1.1 K i s (fun q => h2 (by unfold scC; omega))) (fun K i s h1 h2 => ((eq3.sN (fun q => h2 (by unfold scM; omega))).tr (hF3.1 K i s (fun q => h2 (by unfold scM; omega)))).tr (hF4.1 K i s (fun q => h2 (by unfold scM; omega))))
          have hth : gN m4 12 0 0 = 0 := by rw [(hF4.1 12 0 0 (by omega)).1, (hF3.1 12 0 0 (by omega)).1, gthr]
          have e5' : lpb (fun s : Int × MM => b_X12_ahead_71 0 (f : Int) (g : Int) (2 * (n : Int)) s.1 s.2) (0, m3) = some m4 := e5
          rw [rqA _ (by decide), bV_ok, nk_of h.C.r6, nk_of h.C.r1, e1, bV_ok, nk_of hC1.r6, nk_of hS1.r6, lenI_of hS1.z14, u1, Option.bind_some, nk_of hC1.r6, nk_of hS1.r6, lenI_of hS1.z14, u2, Option.bind_some]
          rw [holds0, bI_ok, if_pos (show ¬ (1 : Int) = 0 by decide), nk_of h0.M.r21, ldN_of h0.M.z74 (by omega), tnc, hP0.n, ck_of k2n, e3, bV_ok, e5', Option.bind_some]
          unfold j_X12_ahead_0_137
          rw [nk_of hM4.r77, ldN_of hM4.z127 (by omega), tnc, p3, nk_of hM4.r77, ldN_of hM4.z127 (by omega), tnc, r3]
          by_cases z1 : X.testBit f = true
          · rw [if_neg (fun q => by rw [t1.mp q] at z1; exact absurd z1 (by simp)), if_neg (fun q => q (s1.mpr (by rw [← b1]; exact z1)))]
            exact ⟨_, _, _, _, rfl, rfl, Or.inl ⟨rfl, hth⟩, hfin 0⟩
          · rw [if_pos (t1.mpr (by simpa using z1)), if_pos (fun q => z1 (by rw [b1]; exact s1.mp q))]
            by_cases z2 : Y.testBit g = true
            · rw [if_neg (fun q => by rw [t2.mp q] at z2; exact absurd z2 (by simp)), if_neg (fun q => q (s2.mpr (by rw [← b2]; exact z2)))]
              exact ⟨_, _, _, _, rfl, rfl, Or.inl ⟨rfl, hth⟩, hfin 0⟩
            · rw [if_pos (t2.mpr (by simpa using z2)), if_pos (fun q => z2 (by rw [b2]; exact s2.mp q))]
              exact ⟨_, _, _, _, rfl, rfl, Or.inl ⟨rfl, hth⟩, hfin 0⟩
      · rw [hasForme_bad hS hd, Option.bind_some, if_pos rfl, isForme_bad h.Nb h.M hP hb.2 hd, Option.bind_some, if_pos rfl, m22]
        exact CalI.bad (k := 0) h rfl rfl rfl
    · rw [hasForme_bad hS hc, Option.bind_some, if_pos rfl, isForme_bad h.Nb h.M hP hb.2 hc, Option.bind_some, if_pos rfl, m22]
      exact CalI.bad (k := 0) h rfl rfl rfl
  · rw [bookAt_bad h.Nb h.C hb, bR_ex, isForme_b0 h.Nb hb, Option.bind_some, if_pos rfl, m22]
    exact CalI.bad (k := 0) h rfl rfl rfl
end AHEAD
