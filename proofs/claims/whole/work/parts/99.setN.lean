/-! SET: the call. -/
section SET
variable {N : Nat} {mc mm : MM} {b F n M Ln E : Nat}
set_option maxHeartbeats 4000000 in
theorem set_run (h : RR N mc mm) (hU : UI mm) (hN : N ≤ 600) (hB : RBk mc mm b F n M Ln E) (hb : (b : Int) < gN mm 12 0 19) {p d : Nat} (hp : p < 2 * (F * n)) (hd : (d : Int) < gN mm 12 0 12) (hun : gN mm 83 0 (16 * b + p) = 0) (h00 : gN mm 12 0 0 = 0) {Fr To : Nat} (hFT : Fr ≤ To) (hTo : (To : Int) ≤ gN mm 80 0 b) (hwb : f_X0_wordBehindPart mc b (p : Int) = some (To : Int))
    (hpt : PtR mc mm b p (F * n) Fr To) {y0 : Nat → MM → Option (RV × MM)} :
    ∃ (s' t' : MM) (la : Nat), j_X11_set_0_68 mc 0 (b : Int) (p : Int) (d : Int) b (16 * b + p) d (Fr : Int) 1 = some (.inl (some (aI (la : Int))), s') ∧
      bI (f_X12_laysLines mm 0 (b : Int) ((16 * b + p : Nat) : Int) (d : Int) (Fr : Int) (To : Int) 0) (fun v15 m14 => nk 78 (gR m14 12 0 25) fun i16 => ldN m14 78 i16 (b : Int) fun v17 => if v17 ≤ 0 then (j_X12_set_0_151 m14 0 (b : Int) (p : Int) (d : Int) ((16 * b + p : Nat) : Int) (Fr : Int) (To : Int) (gN mm 70 0 d) v15) else
        if (To : Int) ≤ v15 then (j_X12_set_0_151 m14 0 (b : Int) (p : Int) (d : Int) ((16 * b + p : Nat) : Int) (Fr : Int) (To : Int) (gN mm 70 0 d) v15) else
        j_X12_set_0_152 m14 0 (b : Int) (p : Int) (d : Int) ((16 * b + p : Nat) : Int) (Fr : Int) (To : Int) (gN mm 70 0 d) v15 1) y0 = some (.inl (some (aI (la : Int))), t') ∧
      RR (N + 1) s' t' ∧ UI t' ∧ gN t' 12 0 0 = 0 := by
  have hP := hB.hP
  have q0 := hP.hb
  have q1 := hP.hn
  have q2 := hP.hL
  have q3 := hP.ml
  have hcnt := hB.tx.cnt
  have hco := hB.tx.co
  have hpg := hB.pg p hp
  have hcr := hpg.cr
  have hlo := hpg.lo
  have hUq := hU _ hun
  have hpun := hpg.un hun
  have hpn := hpg.pn
  have hH1 := h.H.1
  obtain ⟨h6a, h6b, h6c⟩ := h.H.2.2.2.2.2 d
  obtain ⟨s2, t2, L, W, j, cr, T, C, a1, a2, a3, a4, a5, a6, a7, a8, a9, a10, hF, b1, b2, b3, b4, b5, b6, b7, b8⟩ := composed_eq (d := d) (co := gN mc 0 b 10) (H0 := ((2000 * N : Nat) : Int)) h hB hp hd hTo hFT (by omega) (s := mc) (t := mm) FrC.rf FrC.rf (by omega) rfl (by omega) h6a hco (y0 := y0)
  have q9 : L ≤ Ln := a3
  have hML : M * L ≤ M * Ln := Nat.mul_le_mul_left M a3
  have hus := hF.us
  have hLt : LtS t2 (16 * b + p) W ≤ M * Ln := by omega
  have hW : W ≤ 60 := by omega
  have hC2 := Fsc.C h.C hF.fs
  have hS2 := Fsc.S hB hF.fs
  have hM2 := Fsm.Md h.M hF.ft
  have gs : ∀ K i k, ¬ ScW (16 * b + p) d K i k → eq3 mc s2 K i k := hF.fs.1
  have gt : ∀ K i k, ¬ SmW (16 * b + p) d K i k → eq3 mm t2 K i k := hF.ft.1
  have hC3 : SC (sN s2 4 (16 * b + p) 9 (d : Int)) := hC2.mv2 (fun _ _ _ _ => rfl) (fun _ _ _ q => q)
  have hS3 : BS (sN s2 4 (16 * b + p) 9 (d : Int)) b F n M Ln E := hS2.keep hP (fun K i s hk => eq3.sN (by unfold CBS at hk; omega)) (fun _ _ _ q => q)
  have g3 : ∀ K i k, ¬ (K = 4 ∧ k = 9) → eq3 s2 (sN s2 4 (16 * b + p) 9 (d : Int)) K i k := fun K i k z => eq3.sN (by omega)
  have kR : RC (sN s2 4 (16 * b + p) 9 (d : Int)) t2 := h.Ca.keep (by rw [(g3 1 0 5 (by omega)).1, (gs 1 0 5 (by unfold ScW; omega)).1]) (gt 12 0 6 (by unfold SmW; omega)).1 (fun K h1 h2 k => by rw [(g3 K 0 k (by omega)).1, (gs K 0 k (by unfold ScW; omega)).1]) (fun K h1 h2 k => (gt K 0 k (by unfold SmW; omega)).1)
  have kP : RPc (sN t2 90 0 (16 * b + p) 0) := h.Pc.eqN (fun K k hK => by
    by_cases z : K = 90 ∧ k = 16 * b + p
    · rw [gN_sN, if_pos ⟨z.1, rfl, z.2⟩, z.1, z.2, hpun.2.2]
    · rw [gN_sN, if_neg (fun y => z ⟨y.1, y.2.2⟩), (gt K 0 k (by unfold SmW; omega)).1]) (by rw [gN_k (by decide), (gt 12 0 6 (by unfold SmW; omega)).1])
  obtain ⟨s4, t4, K, la, d1, d2, hQ⟩ := places_eq (mc := mc) (s2 := sN s2 4 (16 * b + p) 9 (d : Int)) (t2 := t2) (h0 := gN mm 71 0 d) (Fr := Fr) (To := To) (W := W) (p := p) (d := d) hP hC3 hM2 hS3 hp (by omega) (by omega) hW (by omega) (by rw [(g3 4 _ 10 (by omega)).1]; exact hF.w1) b7 hLt (fun k hk => (hF.wd k hk).congr (g3 27 _ k (by omega)).1 (g3 28 _ k (by omega)).1 rfl rfl) (fun K i hK => by rw [(g3 K b i (by omega)).2.1, (gs K b i (by unfold ScW; omega)).2.1]) (by rw [(g3 5 _ 4 (by omega)).1, (gs 5 _ 4 (by unfold ScW; omega)).1]; omega) (gt 71 0 d (by unfold SmW; omega)).1 kR kP
  have n1 := hQ.pl.n1
  have hla := hQ.pl.la
  have hhd := hQ.pl.hd
  have hus2 := hQ.us
  have g4 : ∀ K i k, ¬ PwC1 (16 * b + p) K i k → eq3 (sN s2 4 (16 * b + p) 9 (d : Int)) s4 K i k := hQ.fs.1
  have g5 : ∀ K i k, ¬ PwM1 (16 * b + p) d K i k → eq3 t2 t4 K i k := hQ.ft.1
  have hS4 := PwC1.S hS3 hP hQ.fs
  have e34 : gN (sN s4 30 (16 * b + p) W (K : Int)) 3 d 4 = gN mm 71 0 d := by
    rw [gN_k (by decide), (g4 3 d 4 (by unfold PwC1 PwC; omega)).1, (g3 3 d 4 (by omega)).1, (gs 3 d 4 (by unfold ScW; omega)).1, h6b.1]
  have e54 : gN (sN s4 30 (16 * b + p) W (K : Int)) 5 (16 * b + p) 4 = K := by rw [gN_k (by decide), n1]
  have hS5 : BS (sN s4 30 (16 * b + p) W (K : Int)) b F n M Ln E := hS4.keep hP (fun K i s hk => eq3.sN (by unfold CBS at hk; omega)) (fun _ _ _ q => q)
  -- the memory behind
  have gx : ∀ K' i k, ¬ (K' = 30 ∧ i = 16 * b + p ∧ k = W) → ¬ (K' = 3 ∧ k = 4) → eq3 s4 (sN (sN s4 30 (16 * b + p) W (K : Int)) 3 d 4 (gN mm 71 0 d + ((K : Int) - la))) K' i k := fun K' i k z1 z2 => (eq3.sN (by omega)).tr (eq3.sN (by omega))
  have hfin : FrC (SCw (16 * b + p) d) mc (sN (sN s4 30 (16 * b + p) W (K : Int)) 3 d 4 (gN mm 71 0 d + ((K : Int) - la))) := by
    have f1 : FrC (SCw (16 * b + p) d) mc s2 := hF.fs.sub fun K i k z => SCw.of1 z
    have f2 : FrC (SCw (16 * b + p) d) (sN s2 4 (16 * b + p) 9 (d : Int)) s4 := hQ.fs.sub fun K i k z => SCw.of2 z
    exact (((f1.sN (by unfold SCw; omega)).tr f2).sN (by unfold SCw; omega)).sN (by unfold SCw; omega)
  have hfinm : FrC (SMw (16 * b + p) d) mm t4 := by
    have f1 : FrC (SMw (16 * b + p) d) mm t2 := hF.ft.sub fun K i k z => SMw.of1 z
    have f2 : FrC (SMw (16 * b + p) d) t2 t4 := hQ.ft.sub fun K i k z => SMw.of2 z
    exact f1.tr f2
  -- a cell of the class that only the lines write; one of the model
  have kc : ∀ K' i k, ¬ (K' = 4 ∧ k = 9) → ¬ (K' = 30 ∧ i = 16 * b + p) → ¬ (K' = 3 ∧ k = 4) → ¬ PwC (16 * b + p) K' i k → eq3 s2 (sN (sN s4 30 (16 * b + p) W (K : Int)) 3 d 4 (gN mm 71 0 d + ((K : Int) - la))) K' i k := fun K' i k z1 z2 z3 z4 => ((g3 K' i k z1).tr (g4 K' i k (fun q => q.elim z4 z2))).tr (gx K' i k (by omega) z3)
  have km : ∀ K' k, ¬ PwM1 (16 * b + p) d K' 0 k → eq3 t2 t4 K' 0 k := fun K' k z => g5 K' 0 k z
  have hD : SD mc mm (sN (sN s4 30 (16 * b + p) W (K : Int)) 3 d 4 (gN mm 71 0 d + ((K : Int) - la))) t4 N b p d F (F * n) M Ln Fr To L W K (j : Int) cr T C := by
    have kc4 : ∀ k, k ≠ 9 → gN (sN (sN s4 30 (16 * b + p) W (K : Int)) 3 d 4 (gN mm 71 0 d + ((K : Int) - la))) 4 (16 * b + p) k = gN s2 4 (16 * b + p) k := fun k z => (kc 4 _ k (by omega) (by omega) (by omega) (by unfold PwC; omega)).1
    have kcw : ∀ K' k, 27 ≤ K' → K' ≤ 33 → K' ≠ 30 → gN (sN (sN s4 30 (16 * b + p) W (K : Int)) 3 d 4 (gN mm 71 0 d + ((K : Int) - la))) K' (16 * b + p) k = gN s2 K' (16 * b + p) k := fun K' k z1 z2 z3 => (kc K' _ k (by omega) (by omega) (by omega) (by unfold PwC; omega)).1
    have kx : ∀ K' i k, K' ≠ 30 → K' ≠ 3 → gN (sN (sN s4 30 (16 * b + p) W (K : Int)) 3 d 4 (gN mm 71 0 d + ((K : Int) - la))) K' i k = gN s4 K' i k := fun K' i k z1 z2 => (gx K' i k (by omega) (by omega)).1
    have kmq : ∀ K', 83 ≤ K' → K' ≤ 89 → gN t4 K' 0 (16 * b + p) = gN t2 K' 0 (16 * b + p) := fun K' z1 z2 => (km K' _ (by unfold PwM1 PwM; omega)).1
    have kml : ∀ K' k, 91 ≤ K' → K' ≤ 97 → gN t4 K' 0 k = gN t2 K' 0 k := fun K' k z1 z2 => (km K' _ (by unfold PwM1 PwM; omega)).1
    refine ⟨?_, by rw [kc4 10 (by decide)]; exact hF.w1, by rw [kc4 11 (by decide)]; exact hF.l1, by rw [kc4 12 (by decide), b1], by rw [kc4 13 (by decide), kmq 87 (by omega) (by omega), b2], by rw [kc4 14 (by decide)]; exact hF.cr, by rw [kx 5 _ 4 (by decide) (by decide)]; exact n1, by rw [kmq 83 (by omega) (by omega), b3], by rw [kmq 84 (by omega) (by omega), b4], by rw [kmq 85 (by omega) (by omega), b5], by rw [kmq 86 (by omega) (by omega), b6], by rw [kmq 88 (by omega) (by omega)]; exact hF.l2, by rw [kmq 89 (by omega) (by omega), b7], hQ.pl.n2, ⟨a3, by omega, a7⟩, by omega, ⟨a5, a6⟩, fun k hk => ⟨(a8 k hk).1, (a8 k hk).2, a10 k hk⟩, fun k hk => ?_, fun k hk => ?_, fun k i hk h1 h2 => ?_, fun k hk => ?_, fun k hk => ?_, ?_, ?_, fun k hk => ?_, ?_, hQ.pl.pc, ?_, ?_, hpt⟩
    · rw [kx 4 _ 9 (by decide) (by decide), (g4 4 _ 9 (by unfold PwC1 PwC; omega)).1, gN_sN, if_pos ⟨rfl, rfl, rfl⟩]
    · rw [kcw 31 k (by omega) (by omega) (by decide), kcw 32 k (by omega) (by omega) (by decide), kcw 33 k (by omega) (by omega) (by decide), kml 91 _ (by omega) (by omega), kml 92 _ (by omega) (by omega), kml 93 _ (by omega) (by omega), kml 94 _ (by omega) (by omega)]
      exact hF.ln k hk
    · exact (hF.wd k hk).congr (kcw 27 k (by omega) (by omega) (by decide)) (kcw 28 k (by omega) (by omega) (by decide)) (kml 95 _ (by omega) (by omega)) (km 96 _ (by unfold PwM1 PwM; omega)).2.1
    · rw [kml 97 _ (by omega) (by omega), kcw 29 i (by omega) (by omega) (by decide)]
      exact hF.fl k i hk hk h1 h2
    · rw [kml 97 _ (by omega) (by omega)]
      exact hF.ze k hk
    · rw [gN_k (by decide), gN_sN, if_neg (by omega)]
      exact hQ.f1 k hk
    · rw [gN_k (by decide), gN_sN, if_pos ⟨rfl, rfl, rfl⟩]
    · exact hQ.pl.pl.keep (by have := hQ.pl.n2; omega) (fun K' i k hk => gx K' i k (by unfold CPl at hk; omega) (by unfold CPl at hk; omega)) (fun _ _ _ _ => eq3.rf)
    · rw [kx 38 _ k (by decide) (by decide)]
      exact hQ.pl.g k hk
    · exact hQ.pl.rc.keep (kx 1 0 5 (by decide) (by decide)) rfl (fun K' h1 h2 k => kx K' 0 k (by omega) (by omega)) (fun _ _ _ _ => rfl)
    · rw [(kc 3 d 3 (by omega) (by omega) (by omega) (by unfold PwC; omega)).1, (km 70 d (by unfold PwM1 PwM; omega)).1]
      refine ⟨b8.1, b8.2.1, ?_⟩
      have := b8.2.2
      omega
    · rw [gN_sN, if_pos ⟨rfl, rfl, rfl⟩]
      omega
  obtain ⟨w1, w2⟩ := set_fin h hU hB hb hp hd hun hTo hfin hfinm hD
  refine ⟨_, t4, la, ?_, ?_, w1, w2, ?_⟩
  · unfold j_X11_set_0_68
    rw [rqS _ (by decide), bV_ok, nk_of hB.hS.r4, hwb, Option.bind_some, a1, bV_ok, lt_eq, nk_of hS3.r4, nk_of hC3.r1, ck_of ⟨by omega, by omega⟩, d1, bI_ok, nk_of (hS5.p8 p hp), e34, e54, ck_of ⟨by omega, by omega⟩, lt_eq]
  · rw [a2]
    unfold j_X12_set_0_299
    rw [d2, bI_ok]
  · rw [(g5 12 0 0 (by unfold PwM1 PwM; omega)).1, (gt 12 0 0 (by unfold SmW; omega)).1, h00]
theorem UI.thr {mm : MM} (h : UI mm) (v : Int) : UI (sN mm 12 0 0 v) := fun q hq => by
  rw [gthr' _ _ (Or.inl (by decide))] at hq ⊢
  rw [gthr' _ _ (Or.inl (by decide))]
  exact h q hq
/-- a call's answer, with the unset pages -/
def CalU (N : Nat) (o1 o2 : MO) (xs : List Nat) : Prop := ∃ r mc' b mm', o1 = some (r, mc') ∧ o2 = some (.inl (some (aI b)), mm') ∧ Ans xs r (gN mm' 12 0 0) b ∧ RR (N + 1) mc' mm' ∧ UI mm'
theorem CalU.bad {o1 o2 : MO} {xs : List Nat} {mc mm : MM} {e k : Nat} {b : Int} (h : RR N mc mm) (hU : UI mm) (h1 : o1 = some (.inr e, bX mc)) (h2 : o2 = some (.inl (some (aI b)), sN mm 12 0 0 ((k + 1 : Nat) : Int))) (hx : xs[k]? = some e) : CalU N o1 o2 xs :=
  ⟨_, _, _, _, h1, h2, Or.inr ⟨e, k, rfl, hx, gthr _ _⟩, ((h.thr _).up (Nat.le_succ N)).bX, hU.thr _⟩
theorem call_set (h : RR N mc mm) (hU : UI mm) (hN : N ≤ 600) (a c e : Int) : CalU N (f_X11_set mc 0 a c e) (f_X12_set mm 0 a c e) [0, 2] := by
  have m84 : ∀ (x v : Int), v ≠ 0 → j_X12_set_0_84 mm 0 a c e x 0 v = some (.inl (some (aI 0)), sN mm 12 0 0 v) := fun x v hv => by
    unfold j_X12_set_0_84; rw [holds1 _ hv, bI_ok, if_neg (fun q => q rfl)]
  have m21 : j_X12_set_0_21 mm 0 a c e = some (.inl (some (aI 0)), sN mm 12 0 0 1) := by
    unfold j_X12_set_0_21 j_X12_set_0_22 j_X12_set_0_39; rw [if_pos rfl, if_neg (fun q => q rfl), m84 _ 1 (by decide)]
  have hH := h.H.1
  unfold f_X11_set f_X12_set
  by_cases hb : 0 ≤ a ∧ a < gN mm 12 0 19
  · obtain ⟨b, rfl⟩ := Int.ex hb.1
    obtain ⟨F, n, M, Ln, E, hB⟩ := h.Bk b hb.2
    have hP := hB.hP
    have hS := hB.hS
    have q0 := hP.hb
    have q1 := hP.hn
    rw [bookAt_ok h.Nb h.C hb.2, bR_ok, nk_some]
    by_cases hc : 0 ≤ c ∧ c < (2 * (F * n) : Nat)
    · obtain ⟨p, rfl⟩ := Int.ex hc.1
      have hp : p < 2 * (F * n) := by omega
      rw [pageOf_ok hS hp, bR_ok, nk_some, isPage_ok h.Nb h.M hP hb.2 hp, Option.bind_some, if_neg (show ¬ (1 : Int) = 0 by decide), handAt_c h.C h.H, isHand_m _ hH.2, Option.bind_some]
      by_cases he : 0 ≤ e ∧ e < gN mm 12 0 12
      · obtain ⟨d, rfl⟩ := Int.ex he.1
        have hcnt := hB.tx.cnt
        have hst := (hB.pg p hp).st
        rw [if_pos he, if_pos he, if_neg (show ¬ (1 : Int) = 0 by decide), bR_ok, tnc, nk_some, nk_of hS.r4, hcnt.1]
        unfold j_X12_set_0_22 j_X12_set_0_39
        rw [if_neg (show ¬ (1 : Int) = 0 by decide), ck_of ⟨by omega, by omega⟩, if_pos (show ¬ (1 : Int) = 0 by decide), nk_of h.M.r27, ldN_of h.M.z80 (by omega), tnc]
        have m79 : ∀ x : Int, j_X12_set_0_79 mm 0 (b : Int) (p : Int) (d : Int) x 0 = some (.inl (some (aI 0)), sN mm 12 0 0 2) := fun x => by
          unfold j_X12_set_0_79; rw [m84 _ 2 (by decide)]
        have e45 : j_X11_set_0_45 mc 0 (b : Int) (p : Int) (d : Int) b (16 * b + p) d = some (.inr 2, bX mc) := by
          unfold j_X11_set_0_45 j_X11_set_0_46; rw [rqS0, bV_ex]; rfl
        by_cases h0 : gN mm 80 0 b = 0
        · rw [if_pos (by omega), if_pos h0, e45, m79]
          exact CalU.bad (k := 1) h hU rfl rfl rfl
        · rw [if_neg (by omega), if_neg h0, nk_of h.M.r30, ldN_of h.M.z83 (by omega), tn16]
          unfold f_X4_isSet
          rcases hst with ⟨s1, s2⟩ | ⟨s1, s2, s3⟩
          · rw [if_pos s2, Option.bind_some, if_neg (fun z => z rfl), if_neg (fun z => z s1)]
            unfold j_X11_set_0_46
            rw [rqS _ (by decide), bV_ok]
            have h68 : ∀ v : Int, j_X11_set_0_68 mc 0 (b : Int) (p : Int) (d : Int) b (16 * b + p) d v 0 = some (.inr 2, bX mc) := fun v => by
              unfold j_X11_set_0_68; rw [rqS0, bV_ex]; rfl
            rcases part_eq h hB hp with ⟨g1, g2⟩ | ⟨Fr, To, g1, g2, g3, g4, g5, -⟩
            · rw [g1, g2, Option.bind_some, Option.bind_some, if_pos rfl, if_neg (fun z => z rfl), h68, m79]
              exact CalU.bad (k := 1) h hU rfl rfl rfl
            · obtain hx := part_eq (h.thr 0) (hB.thr 0) hp
              rcases hx with ⟨k1, -⟩ | ⟨Fr', To', k1, k2, k3, k4, k5, k6, k7, k8⟩
              · rw [g3] at k1
                have := Option.some.inj k1
                omega
              · have e1 : Fr' = Fr := by
                  rw [g3] at k3
                  have := Option.some.inj k3
                  omega
                subst e1
                obtain ⟨s', t', la, r1, r2, r3, r4, r5⟩ := set_run (d := d) (h.thr 0) (hU.thr 0) hN (hB.thr 0) (by rw [gthr' _ _ (Or.inr (by decide))]; exact hb.2) hp (by rw [gthr' _ _ (Or.inr (by decide))]; exact he.2) (by rw [gthr' _ _ (Or.inl (by decide))]; exact s1) (gthr _ _) k1 k2 k4 k8 (y0 := x0)
                rw [g3, g5, Option.bind_some, Option.bind_some, if_neg (show ¬ (Fr' : Int) = -1 by omega), if_pos (show ¬ (1 : Int) = 0 by decide), r1]
                have hM1 := (h.thr 0).M
                unfold j_X12_set_0_84
                rw [holds0, bI_ok, if_pos (show ¬ (1 : Int) = 0 by decide), k6, Option.bind_some, k7, Option.bind_some, nk_of hM1.r16, ldN_of hM1.z70 (by omega), tnc, show 16 * (b : Int) + (p : Int) = ((16 * b + p : Nat) : Int) by omega]
                exact ⟨_, _, _, _, rfl, r2, Or.inl ⟨rfl, r5⟩, r3, r4⟩
          · rw [if_neg (by omega), Option.bind_some, if_pos (show ¬ (1 : Int) = 0 by decide), if_pos (by omega), e45, m79]
            exact CalU.bad (k := 1) h hU rfl rfl rfl
      · rw [if_neg he, if_neg he, if_pos rfl, m21, bR_ex]
        exact CalU.bad (k := 0) h hU rfl rfl rfl
    · rw [pageOf_bad hS hc, bR_ex, isPage_bad h.Nb h.M hP hb.2 hc, Option.bind_some, if_pos rfl, m21]
      exact CalU.bad (k := 0) h hU rfl rfl rfl
  · rw [bookAt_bad h.Nb h.C hb, bR_ex, isPage_b0 h.Nb hb, Option.bind_some, if_pos rfl, m21]
    exact CalU.bad (k := 0) h hU rfl rfl rfl
end SET
