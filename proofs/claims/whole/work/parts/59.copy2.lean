/-! COPY. -/
theorem isText_c {m : MM} {v : Int} (h : f_X10_faultPlace m 0 = some v) : f_X10_isText m 0 = some (if v = -1 then 1 else 0) := by
  unfold f_X10_isText
  rw [h, Option.bind_some]
  by_cases q : v = -1
  · rw [if_neg (fun z => z q), if_pos q]
  · rw [if_pos q, if_neg q]
section COPY
variable {N : Nat} {mc mm : MM} {b F n M Ln E : Nat}
/-- after scratch alone the relation stands -/
theorem RR.scrC {mc' : MM} (h : RR N mc mm) (hF : FrC WSp mc mc') : RR N mc' mm :=
  h.scr (Nat.le_refl _) hF.2.1 (fun _ _ _ q => q) hF.2.2 (fun K i s h1 h2 => hF.1 K i s (fun q => h2 (by unfold WSp at q; unfold scC; omega))) (fun _ _ _ _ _ => eq3.rf)
theorem call_copy {a : Int} (h : RR N mc mm) : CalI N (f_X11_copy mc 0 a) (f_X12_copy mm 0 a) [0, 1, 2] := by
  have m95 : ∀ v : Int, v ≠ 0 → j_X12_copy_0_95 mm 0 a 0 v = some (.inl (some (aI 0)), sN mm 12 0 0 v) := fun v hv => by
    unfold j_X12_copy_0_95; rw [holds1 _ hv, bI_ok, if_neg (fun q => q rfl)]
  obtain ⟨T, hTM, hTC⟩ := tm_of h
  obtain ⟨fv, ef1, ef2, ef3, ef4⟩ := fault_same h.C h.M h.T
  unfold f_X11_copy f_X12_copy
  rw [ef2]
  by_cases hb : 0 ≤ a ∧ a < gN mm 12 0 19
  · obtain ⟨b, rfl⟩ := Int.ex hb.1
    obtain ⟨F, n, M, Ln, E, hB⟩ := h.Bk b hb.2
    have hP := hB.hP
    have hS := hB.hS
    have q0 := hP.hb
    have q1 := hP.hn
    have q2 := hP.hL
    have q3 := hP.hE
    have q4 := hP.ml
    have hT := hB.tx
    have hcnt := hT.cnt
    rw [bookAt_ok h.Nb h.C hb.2, bR_ok, nk_some, nk_of h.C.r0, isText_c ef1, Option.bind_some, isBook_ok h.Nb hb.2, Option.bind_some, Option.bind_some]
    by_cases hf : fv = -1
    · rw [if_pos hf, rqA _ (by decide), bV_ok, nk_of h.C.r0, if_neg (fun q => q hf)]
      have hok : TextOK (fun k => gN mm 59 0 k) T := by
        obtain ⟨v, e1, e2⟩ := fault_m hTM
        rw [ef2] at e1
        cases e1
        exact e2 hf
      obtain ⟨⟨r, m1⟩, e1, e2, hF1, hSp1⟩ := splitText_c hok hTC
      simp only at e2 hF1 hSp1
      subst e2
      have hhalf := (sps_half hok T (Nat.le_refl T)).1
      have hT40 := hTM.h
      have h1 := h.scrC hF1
      have hB1 : RBk m1 mm b F n M Ln E := hB.scr hF1.2.1 (fun K i s hk => hF1.1 K i s (by unfold WSp; omega)) (fun _ _ _ _ => eq3.rf)
      have hS1 := hB1.hS
      have hcnt1 := hB1.tx.cnt
      rw [e1, bI_ok, nk_of hS1.r4, hcnt1.1]
      generalize hnw : sps (fun k => gN mm 59 0 k) T = nw at hhalf
      rw [ck_of ⟨by omega, by omega⟩]
      unfold j_X12_copy_0_19
      rw [if_neg (show ¬ (1 : Int) = 0 by decide), if_neg (show ¬ (1 : Int) = 0 by decide), nk_of h.M.r27, ldN_of h.M.z80 (by omega), tnc, tapeWords_m hTM, Option.bind_some, hnw, ck_of ⟨by omega, by omega⟩]
      have c56 : j_X11_copy_0_56 m1 0 b ((nw + 1 : Nat) : Int) = some (.inr 2, bX m1) := by unfold j_X11_copy_0_56 j_X11_copy_0_57; rw [rqS0, bV_ex]; rfl
      have m65 : j_X12_copy_0_65 mm 0 (b : Int) 1 1 = some (.inl (some (aI 0)), sN mm 12 0 0 3) := by
        unfold j_X12_copy_0_65 j_X12_copy_0_66; rw [if_pos (show ¬ (1 : Int) = 0 by decide), if_pos (show ¬ (1 : Int) = 0 by decide), if_pos rfl, m95 3 (by decide)]
      have refuse : CalI N (some (.inr 2, bX m1)) (some (.inl (some (aI 0)), sN mm 12 0 0 3)) [0, 1, 2] := CalI.bad (k := 2) h1 rfl rfl rfl
      by_cases hc60 : 60 < gN mm 80 0 b + ((nw + 1 : Nat) : Int)
      · rw [if_pos hc60, if_pos hc60, c56, m65]; exact refuse
      · rw [if_neg hc60, if_neg hc60, hB1.tx.co, nk_of h.M.r25, ldN_of h.M.z78 (by omega), tnc]
        by_cases h78 : gN mm 78 0 b = 0
        · obtain ⟨v2, g2, g2'⟩ := hasSet_m h.M hB1
          obtain ⟨v1, g1, g1'⟩ := hasSet_c hB1
          rw [if_pos h78, if_neg (show ¬ ¬ (0 : Int) = 0 by decide), if_neg (show ¬ ¬ gN mm 78 0 b = 0 from fun q => q h78), g1, g2, Option.bind_some, Option.bind_some]
          rcases g1' with ⟨rfl, hs⟩ | ⟨rfl, hs⟩
          · rcases g2' with ⟨rfl, -⟩ | ⟨rfl, z⟩
            rotate_left
            · exact absurd hs z
            rw [if_pos (show ¬ (1 : Int) = 0 by decide), if_pos (show ¬ (1 : Int) = 0 by decide), c56, m65]; exact refuse
          · rcases g2' with ⟨rfl, z⟩ | ⟨rfl, -⟩
            · exact absurd z hs
            rw [if_neg (show ¬ ¬ (0 : Int) = 0 by decide), if_neg (show ¬ ¬ (0 : Int) = 0 by decide)]
            unfold j_X11_copy_0_57 j_X12_copy_0_66
            rw [rqS _ (by decide), bV_ok, if_pos (show ¬ (1 : Int) = 0 by decide), if_pos (show ¬ (1 : Int) = 0 by decide), if_neg (show ¬ (1 : Int) = 0 by decide)]
            unfold j_X12_copy_0_95
            have hF0 : FrC (fun K i s => K = 12 ∧ s = 0) mm (sN mm 12 0 0 0) := FrC.rf.sN ⟨rfl, rfl⟩
            have hTM0 : TM (sN mm 12 0 0 0) (fun k => gN mm 59 0 k) T := hTM.mv hF0 (by omega) (fun s => by omega) (fun s hs => by omega)
            rw [holds0, bI_ok, if_pos (show ¬ (1 : Int) = 0 by decide), tapeWords_m hTM0, Option.bind_some, hnw]
            obtain ⟨n0, hn0⟩ := Int.ex hcnt.2.1
            have hRT0 : RTx m1 (sN mm 12 0 0 0) b (F * n) M Ln := (hB1.thr 0).tx
            have hSp0 : RSp m1 (sN mm 12 0 0 0) := (h1.thr 0).Sp
            obtain ⟨m3, m4, k1, k2, k3, k4, k5, k6, k7⟩ := lpb_rel (b := fun s : Int × MM => b_X11_copy_63 0 b ((nw + 1 : Nat) : Int) s.1 s.2) (c := fun s : Int × MM => b_X12_copy_112 0 (b : Int) ((nw + 1 : Nat) : Int) s.1 s.2)
              (fun s t => ∃ i : Nat, s.1 = i ∧ t.1 = i ∧ i ≤ nw + 1 ∧ FrC (WAc b) m1 s.2 ∧ FrC (fun K i s => (K = 12 ∧ s = 0) ∨ WAm b K i s) mm t.2 ∧ gN t.2 12 0 0 = 0 ∧ RTx s.2 t.2 b (F * n) M Ln ∧ gN t.2 80 0 b = ((n0 + i : Nat) : Int))
              (fun m3 m4 => FrC (WAc b) m1 m3 ∧ FrC (fun K i s => (K = 12 ∧ s = 0) ∨ WAm b K i s) mm m4 ∧ gN m4 12 0 0 = 0 ∧ RTx m3 m4 b (F * n) M Ln ∧ (n0 : Int) ≤ gN m4 80 0 b) (fun s => nw + 1 - s.1.toNat) (by
              rintro ⟨_, m3⟩ ⟨_, m4⟩ ⟨i, rfl, rfl, hi, f1, f2, f3, f4, f5⟩
              simp only at f1 f2 f3 f4 f5
              have hS3 := f1.BS hS1 hP (fun K i s hk => by unfold CBS at hk; unfold WAc; omega)
              have hP4 := f2.BP hP (fun K h1 h2 => by unfold WAm; omega)
              have hM4 := f2.SM h.M (fun s hs => by unfold WAm at hs; omega)
              have hC3 : SC m3 := h1.C.mv2 (fun K i s hk => (f1.1 K i s (by unfold WAc; omega)).2.2) (fun K i k hk => by rw [f1.2.1]; exact hk)
              have hSp3 : RSp m3 m4 := hSp0.keep (fun K i s hk => f1.1 K i s (by unfold WAc; omega)) (fun K i s hk => ⟨by rw [(f2.1 K i s (by unfold WAm; omega)).1, gthr' _ _ (by omega)], (f2.1 K i s (by unfold WAm; omega)).2.1, (f2.1 K i s (by unfold WAm; omega)).2.2⟩)
              have hTM4 : TM m4 (fun k => gN mm 59 0 k) T := hTM.mv f2 (by unfold WAm; omega) (fun s => by unfold WAm; omega) (fun s hs => by unfold WAm at hs; omega)
              show (∃ s' t', b_X11_copy_63 0 b ((nw + 1 : Nat) : Int) (i : Int) m3 = some (.inl s') ∧ b_X12_copy_112 0 (b : Int) ((nw + 1 : Nat) : Int) (i : Int) m4 = some (.inl t') ∧ _) ∨ ∃ v v', b_X11_copy_63 0 b ((nw + 1 : Nat) : Int) (i : Int) m3 = some (.inr v) ∧ b_X12_copy_112 0 (b : Int) ((nw + 1 : Nat) : Int) (i : Int) m4 = some (.inr v') ∧ _
              by_cases q : ((nw + 1 : Nat) : Int) ≤ i
              · right
                unfold b_X11_copy_63 b_X12_copy_112
                rw [if_pos q, if_pos q]
                exact ⟨_, _, rfl, rfl, f1, f2, f3, f4, by omega⟩
              · have hi2 : i ≤ sps (fun k => gN mm 59 0 k) T := by omega
                obtain ⟨_, w1, e, he1, he2, rfl⟩ := tapeWord_m hok hTM4 hi2
                have hww : WW (Int64.ofNat (cwN (wl (fun k => gN mm 59 0 k) e))) (Int64.ofNat (mwN (wl (fun k => gN mm 59 0 k) e))) := ⟨_, wl_ok hok he1.1, rfl, rfl⟩
                obtain ⟨s1, s2⟩ := hSp1 e he1
                rw [he2] at s1 s2
                have he01 : ∀ c : Prop, [Decidable c] → ((if c then (1 : Int) else 0) = 0 ∨ (if c then (1 : Int) else 0) = 1) := fun c _ => by split <;> omega
                have hk5 : gN m3 9 b 5 = ((n0 + i : Nat) : Int) := by rw [f4.cnt.1, f5]
                obtain ⟨v, x, y, r1, r2, r3⟩ := add_run hC3 hS3 hSp3 hk5 (by omega) hww (he01 (e = T ∨ gN mm 59 0 e = 47))
                left
                have d1 : b_X11_copy_63 0 b ((nw + 1 : Nat) : Int) (i : Int) m3 = some (.inl ((i : Int) + 1, addC m3 b (n0 + i) (Int64.ofNat (cwN (wl (fun k => gN mm 59 0 k) e))) x y v (if e = T ∨ gN mm 59 0 e = 47 then 1 else 0))) := by
                  unfold b_X11_copy_63
                  rw [if_neg q, nk_of hS3.r4, nk_of hC3.r0, nk_of hC3.w1, ldL_of hC3.z51 (by omega), tnc, show gL m3 51 0 i = gL m1 51 0 i from (f1.1 51 0 i (by unfold WAc; omega)).2.1, s1, nk_of hC3.r0, nk_of hC3.w2, ldN_of hC3.z52 (by omega), tnc, show gN m3 52 0 i = gN m1 52 0 i from (f1.1 52 0 i (by unfold WAc; omega)).1, s2, nk_of hC3.r0, r1, bV_ok, ck_of ⟨by omega, by omega⟩]
                have hM5 : SM (sL m4 81 0 (60 * b + (n0 + i)) (Int64.ofNat (mwN (wl (fun k => gN mm 59 0 k) e)))) := hM4.mv (fun _ => rfl) (fun _ _ _ q => q)
                have hTM5 : TM (sL m4 81 0 (60 * b + (n0 + i)) (Int64.ofNat (mwN (wl (fun k => gN mm 59 0 k) e)))) (fun k => gN mm 59 0 k) T := ⟨hM5, hTM4.n, hTM4.h, hTM4.t⟩
                obtain ⟨_, u1, e', he1', he2', rfl⟩ := tapeEnds_m hTM5 hi2
                have hee : e' = e := bnd_one he1' he1 (by rw [he2, he2'])
                subst hee
                have d2 : b_X12_copy_112 0 (b : Int) ((nw + 1 : Nat) : Int) (i : Int) m4 = some (.inl ((i : Int) + 1, addM m4 b (n0 + i) (Int64.ofNat (mwN (wl (fun k => gN mm 59 0 k) e'))) (if e' = T ∨ gN mm 59 0 e' = 47 then 1 else 0))) := by
                  unfold b_X12_copy_112
                  rw [if_neg q, nk_of hM4.r28, nk_of hM4.r27, ldN_of hM4.z80 (by omega), tnc, f5, w1, Option.bind_some, show (60 * (b : Int) + ((n0 + i : Nat) : Int)) = ((60 * b + (n0 + i) : Nat) : Int) by omega, stL_of hM4.z81 (by omega), tnc, nk_of hM5.r29, nk_of hM5.r27, ldN_of hM5.z80 (by omega), tnc]
                  rw [show gN (sL m4 81 0 (60 * b + (n0 + i)) (Int64.ofNat (mwN (wl (fun k => gN mm 59 0 k) e')))) 80 0 b = ((n0 + i : Nat) : Int) from f5, u1, Option.bind_some, cb_of (he01 _), show (60 * (b : Int) + ((n0 + i : Nat) : Int)) = ((60 * b + (n0 + i) : Nat) : Int) by omega, stN_of hM5.z82 (by omega), tnc]
                  have hM6 : ∀ z, SM (sN (sL m4 81 0 (60 * b + (n0 + i)) (Int64.ofNat (mwN (wl (fun k => gN mm 59 0 k) e')))) 82 0 (60 * b + (n0 + i)) z) := fun z => hM5.mv (fun _ => rfl) (fun _ _ _ q => q)
                  rw [nk_of (hM6 _).r27, ldN_of (hM6 _).z80 (by omega), tnc, show ∀ z, gN (sN (sL m4 81 0 (60 * b + (n0 + i)) (Int64.ofNat (mwN (wl (fun k => gN mm 59 0 k) e')))) 82 0 (60 * b + (n0 + i)) z) 80 0 b = ((n0 + i : Nat) : Int) from fun z => by rw [gN_sN, if_neg (by omega)]; exact f5, ck_of ⟨by omega, by omega⟩, stN_of (hM6 _).z80 (by omega), tnc, ck_of ⟨by omega, by omega⟩]
                  rfl
                have h784 : gN m4 78 0 b = 0 := by rw [(f2.1 78 0 b (by unfold WAm; omega)).1, h78]
                refine ⟨_, _, d1, d2, ⟨i + 1, by simp, by simp, by omega, addC_fr f1 (fun _ _ _ q => q), addM_fr (by omega) f2 (fun _ _ _ q => Or.inr q), ?_, f4.add h784 f5 (by omega) hww (he01 _) r2 r3, ?_⟩, by simp only; omega⟩
                · simp only
                  unfold addM
                  rw [gN_sN, if_neg (by omega), gN_sN, if_neg (by omega), gN_sL, f3]
                · simp only
                  unfold addM
                  rw [gN_sN, if_pos ⟨rfl, rfl, rfl⟩]
                  omega) (0, m1) (0, sN mm 12 0 0 0) ⟨0, rfl, rfl, by omega, FrC.rf, FrC.rf.sN (Or.inl ⟨rfl, rfl⟩), gthr _ _, hRT0, by rw [gthr' _ _ (Or.inl (by decide))]; exact hn0⟩
            rw [k1, k2, Option.bind_some, Option.bind_some]
            unfold j_X11_copy_0_106 j_X12_copy_0_179
            have hC3 : SC m3 := h1.C.mv2 (fun K i s hk => (k3.1 K i s (by unfold WAc; omega)).2.2) (fun K i k hk => by rw [k3.2.1]; exact hk)
            have hS3 := k3.BS hS1 hP (fun K i s hk => by unfold CBS at hk; unfold WAc; omega)
            have hM4 := k4.SM h.M (fun s hs => by unfold WAm at hs; omega)
            have hM5 : SM (sN m4 12 0 1 0) := hM4.mv (fun _ => rfl) (fun _ _ _ q => q)
            rw [nk_of hC3.r0, lt_eq, nk_of (show gR (sN m3 10 0 5 0) 0 b 4 = some (9, b) from hS3.r4), lt_eq, nk_of hM5.r27, ldN_of hM5.z80 (by omega), tnc]
            have x9 : gN (sN m3 10 0 5 0) 9 b 5 = gN (sN m4 12 0 1 0) 80 0 b := by rw [gN_sN, if_neg (by omega), gN_sN, if_neg (by omega), k6.cnt.1]
            rw [x9]
            have hPf := h.Pf
            have hPc := h.Pc
            have cc : ∀ K i s', ¬ (45 ≤ K ∧ K ≤ 49 ∧ i = b) ∧ ¬ (K = 9 ∧ i = b ∧ s' = 5) ∧ ¬ (K = 10 ∧ s' = 5) ∧ ¬ (K = 51 ∨ K = 52) → eq3 mc (sN m3 10 0 5 0) K i s' := fun K i s' hk => ((hF1.1 K i s' (by unfold WSp; omega)).tr (k3.1 K i s' (by unfold WAc; omega))).tr (eq3.sN (by omega))
            have cm : ∀ K i s', ¬ (K = 12 ∧ (s' = 0 ∨ s' = 1)) ∧ ¬ ((K = 81 ∨ K = 82) ∧ i = 0 ∧ 60 * b ≤ s' ∧ s' < 60 * b + 60) ∧ ¬ (K = 80 ∧ i = 0 ∧ s' = b) → eq3 mm (sN m4 12 0 1 0) K i s' := fun K i s' hk => (k4.1 K i s' (by unfold WAm; omega)).tr (eq3.sN (by omega))
            have hzc : ∀ K i, gZ (sN m3 10 0 5 0) K i = gZ mc K i := fun K i => (k3.2.1 K i).trans (hF1.2.1 K i)
            have hCC : ∀ K, gC (sN m3 10 0 5 0) K = gC mc K := fun K => (k3.2.2 K).trans (hF1.2.2 K)
            have hzm : ∀ K i k, gZ mm K i = some k → gZ (sN m4 12 0 1 0) K i = some k := fun K i k hk => by rw [← k4.2.1] at hk; exact hk
            have cb : ∀ K i s', isBK K → ¬ CBk b K i → eq3 mc (sN m3 10 0 5 0) K i s' := fun K i s' hK hn => cc K i s' ⟨fun q => hn (CBk.a (by omega) q.2.2), fun q => hn (CBk.a (by omega) q.2.1), by unfold isBK at hK; omega, by unfold isBK at hK; omega⟩
            have mb : ∀ K s', 78 ≤ K → K ≤ 126 → K < 105 ∨ 107 < K → K < 121 ∨ 125 < K → ¬ MBk b K s' → eq3 mm (sN m4 12 0 1 0) K 0 s' := fun K s' h1 h2 h3 h4 hn => cm K 0 s' ⟨by omega, fun q => hn (MBk.b q.1 q.2.2), fun q => hn (MBk.a (by omega) q.2.2)⟩
            have hkt : RTx (sN m3 10 0 5 0) (sN m4 12 0 1 0) b (F * n) M Ln := k6.keep (fun K i s hk => eq3.sN (by unfold CTx at hk; omega)) (fun K i s hk => eq3.sN (by unfold MTx at hk; omega))
            refine ⟨_, _, _, _, rfl, rfl, Or.inl ⟨rfl, by rw [gN_sN, if_neg (by omega), k5]⟩, ?_⟩
            refine h.one (b0 := b) hzc hCC hb.2 (cm 12 0 19 (by omega)).1 (h.C.mv2 (fun K i s hk => (cc K i s (by omega)).2.2) (fun K i k hk => by rw [hzc]; exact hk)) (h.M.mv2 (fun s hs => (cm 12 0 s (by omega)).2.2) hzm) ⟨by rw [gN_sN, if_pos ⟨rfl, rfl, rfl⟩, gN_sN, if_pos ⟨rfl, rfl, rfl⟩], by rw [gN_sN, if_pos ⟨rfl, rfl, rfl⟩]; omega, by rw [gN_sN, if_pos ⟨rfl, rfl, rfl⟩]; omega, fun k hk => by rw [gN_sN, if_pos ⟨rfl, rfl, rfl⟩] at hk; omega⟩ (h.Sp.keep (fun K i s hk => cc K i s (by omega)) (fun K i s hk => cm K i s (by omega)))
              (h.Ca.keep (cc 1 0 5 (by omega)).1 (cm 12 0 6 (by omega)).1 (fun K h1 h2 k => (cc K 0 k (by omega)).1) (fun K h1 h2 k => (cm K 0 k (by omega)).1)) (h.H.keep (by omega) (fun K i s hk => cc K i s (by omega)) (hCC 3) (fun K i s hk => cm K i s (by omega))) (h.Mi.keep (fun K i s hk => cc K i s (by omega)) (fun K i s hk => cm K i s (by omega))) (h.Pr.keep (fun i s _ => cc 6 i s (by omega)) (fun K s h1 h2 => cm K 0 s (by omega))) (h.Nb.keep (cc 11 0 8 (by omega)).1 (cm 12 0 19 (by omega)).1 (fun s => (cc 56 0 s (by omega)).2.2))
              (fun K i s hk => cc K i s (by omega)) cb (fun K i s hk => cm K i s (by omega)) mb (fun b' p f hbb hb3 hp hf h90 h7 hx => hx.other hbb hp hf cb mb (fun K i s hk => cm K i s (by omega)) h90 h7) (by rw [(cm 12 0 69 (by omega)).1]; exact Int.le_refl _) (fun x => by rw [(cm 63 0 x (by omega)).1]; exact Int.le_refl _) ⟨F, n, M, Ln, E, hP.keep (fun K h1 h2 => (cm K 0 b (by omega)).1), hB.hS.keep hP (fun K i s hk => cc K i s (by unfold CBS at hk; omega)) (fun K i k hk => by rw [hzc]; exact hk), hkt, fun p hp => ?_, fun p hp => (hB.po p hp).keep (by omega) (fun K i s hk => cc K i s (by unfold CPo at hk; omega)) (fun K i s hk => cm K i s (by unfold MPo at hk; omega)), fun p hp => (hB.pl p hp).keep (by have := (hB.pg p hp).pn; omega) (fun K i s hk => cc K i s (by unfold CPl at hk; omega)) (fun K i s hk => cm K i s (by unfold MPl at hk; omega)), fun f hf => (hB.ff f hf).keep (by omega) (fun K i s hk => cc K i s (by unfold CFo at hk; omega)) (fun K i s hk => cm K i s (by unfold MFo at hk; omega)) (by rw [(cm 12 0 69 (by omega)).1]; exact Int.le_refl _), fun p hp => (hB.pn p hp).keep (by have := (hB.pg p hp).pn; omega) (by have := (hB.ff _ (fo_lt hP.hF hp)).ns; omega) (fun K i s hk => cc K i s (by unfold CPn at hk; omega)) (fun K i s hk => cm K i s (by unfold MPn at hk; omega)), fun f hf => (hB.se f hf).keep (by omega) (fun p hp => by have := (hB.pg p hp).pn; omega) (fun K i s hk => cc K i s (by unfold CSe at hk; omega)) (fun K i s hk => cm K i s (by unfold MSe at hk; omega)) (fun x => by rw [(cm 63 0 x (by omega)).1]; exact Int.le_refl _), fun s hs => (hB.sh s hs).keep (by omega) (fun K i s' hk => cc K i s' (by unfold CSh at hk; omega)) (fun K i s' hk => cm K i s' (by unfold MSh at hk; omega)), hB.lv.keep (by omega) (by omega) (by omega) (fun K i s hk => cc K i s (by unfold CLv at hk; omega)) (fun K i s hk => cm K i s (by unfold MLv at hk; omega))⟩ (hPf.keep (Nat.le_succ N) (fun K i s' hk => cm K i s' (by omega))) (hPc.keep (fun K i s' hk => cm K i s' (by omega)))
            have hg := hB.pg p hp
            have hun : gN mm 83 0 (16 * b + p) = 0 := by
              rcases hg.st with z | z
              · exact z.1
              · exact absurd ⟨p, hp, z.1⟩ hs
            obtain ⟨u1, u2, u3⟩ := hg.un hun
            have x83 := (cm 83 0 (16 * b + p) (by omega)).1
            have x84 := (cm 84 0 (16 * b + p) (by omega)).1
            have x85 := (cm 85 0 (16 * b + p) (by omega)).1
            have x86 := (cm 86 0 (16 * b + p) (by omega)).1
            have x87 := (cm 87 0 (16 * b + p) (by omega)).1
            have x88 := (cm 88 0 (16 * b + p) (by omega)).1
            have x89 := (cm 89 0 (16 * b + p) (by omega)).1
            have x90 := (cm 90 0 (16 * b + p) (by omega)).1
            have y4 : ∀ s, gN (sN m3 10 0 5 0) 4 (16 * b + p) s = gN mc 4 (16 * b + p) s := fun s => (cc 4 (16 * b + p) s (by omega)).1
            have hth := hg.th
            have hc5 := hkt.cnt
            have hup : gN mm 80 0 b ≤ gN (sN m4 12 0 1 0) 80 0 b := by rw [gN_sN, if_neg (by omega)]; omega
            refine ⟨by rw [x83, x84, y4]; exact hg.st, by rw [x83, x88, x89, x90]; exact hg.un, by rw [x89, y4]; exact hg.wn, by rw [x88, y4]; exact hg.ln, by rw [x85, y4]; omega, by rw [x87, y4]; exact hg.lo, by rw [x86, y4]; exact hg.cr, by rw [x90, (cc 5 (16 * b + p) 4 (by omega)).1]; exact hg.pn, fun l hl => by rw [x88] at hl; omega, fun l hl => by rw [x88] at hl; omega, ⟨fun z => by rw [x88] at z; omega, fun _ => by rw [x89]; exact u2⟩, fun l hl => by rw [x89] at hl; omega, fun l hl => by rw [x89] at hl; omega, fun l hl => by rw [x89] at hl; omega, fun l k hl => by rw [x88] at hl; omega, fun l hl => by rw [x89] at hl; omega, fun z => by rw [x83] at z; omega⟩
        · rw [if_neg h78, if_pos (show ¬ (1 : Int) = 0 by decide), if_pos (show ¬ gN mm 78 0 b = 0 from h78), c56, m65]; exact refuse
    · rw [if_neg hf, rqA0, bV_ex, if_pos hf]
      unfold j_X12_copy_0_19 j_X12_copy_0_65 j_X12_copy_0_66
      rw [if_neg (show ¬ (1 : Int) = 0 by decide), if_pos rfl, if_pos (show ¬ (1 : Int) = 0 by decide), if_neg (fun q => q rfl), m95 2 (by decide)]
      exact CalI.bad (k := 1) h rfl rfl rfl
  · have m19 : ∀ s0, j_X12_copy_0_19 mm 0 a 0 s0 = some (.inl (some (aI 0)), sN mm 12 0 0 1) := fun s0 => by
      unfold j_X12_copy_0_19 j_X12_copy_0_65 j_X12_copy_0_66; rw [if_pos rfl, if_neg (fun q => q rfl), m95 1 (by decide)]
    rw [bookAt_bad h.Nb h.C hb, bR_ex, isBook_bad h.Nb hb, Option.bind_some, Option.bind_some, m19, m19]
    refine CalI.bad (k := 0) (b := 0) h rfl ?_ rfl
    split <;> rfl
end COPY
