/-! LAY, EXCHANGE, CANCEL, BIND. -/
section LEAF
variable {N : Nat} {mc mm : MM} {b F n M Ln E : Nat}
theorem call_lay {a s t : Int} (h : RR N mc mm) : CalV N (f_X11_lay mc 0 a s t) (f_X12_lay mm 0 a s t) [0, 1, 2] := by
  have m75 : ∀ v : Int, v ≠ 0 → j_X12_lay_0_75 mm 0 a s t 0 v = some (.inl none, sN mm 12 0 0 v) := fun v hv => by
    unfold j_X12_lay_0_75; rw [holds1 _ hv, bI_ok, if_pos rfl]
  have m28 : j_X12_lay_0_28 mm 0 a s t = some (.inl none, sN mm 12 0 0 1) := by
    unfold j_X12_lay_0_28 j_X12_lay_0_29; rw [if_neg (fun q => q rfl), m75 1 (by decide)]
  unfold f_X11_lay f_X12_lay
  by_cases hb : 0 ≤ a ∧ a < gN mm 12 0 19
  · obtain ⟨b, rfl⟩ := Int.ex hb.1
    obtain ⟨F, n, M, Ln, E, hB⟩ := h.Bk b hb.2
    have hP := hB.hP
    have hS := hB.hS
    have q0 := hP.hb
    have q1 := hP.hn
    have q2 := hP.hL
    have q3 := hP.hE
    have q4 := hP.ml
    have c25 : j_X11_lay_0_25 mc s t b = some (.inr 0, bX mc) := by unfold j_X11_lay_0_25 j_X11_lay_0_26; rw [rqI0, bV_ex]; rfl
    rw [bookAt_ok h.Nb h.C hb.2, bR_ok, nk_some, isBook_ok h.Nb hb.2, Option.bind_some, if_neg (show ¬ (1 : Int) = 0 by decide), nk_of h.M.r21, ldN_of h.M.z74 (by omega), tnc, hP.n, ck_of ⟨by omega, by omega⟩, isIn_m, Option.bind_some]
    by_cases hs : 0 ≤ s ∧ s < (n : Nat)
    · obtain ⟨s, rfl⟩ := Int.ex hs.1
      have hs2 : s < n := by omega
      rw [if_neg (show ¬ (s : Int) < 0 by omega), nk_of hS.r7, lenI_of hS.z15, if_neg (show ¬ (n : Int) ≤ (s : Int) by omega), if_pos (show 0 ≤ (s : Int) ∧ (s : Int) ≤ (n : Int) - 1 by omega), if_neg (show ¬ (1 : Int) = 0 by decide)]
      unfold j_X11_lay_0_26 j_X12_lay_0_29
      rw [rqI _ (by decide), bV_ok, if_pos (show ¬ (1 : Int) = 0 by decide), nk_of h.M.r24, ldN_of h.M.z77 (by omega), tnc, hP.e, ck_of ⟨by omega, by omega⟩, isIn_m, Option.bind_some, hS.f3]
      by_cases ht : 0 ≤ t ∧ t < (E : Nat)
      · obtain ⟨t, rfl⟩ := Int.ex ht.1
        rw [if_neg (show ¬ (t : Int) < 0 by omega), if_neg (show ¬ (E : Int) ≤ (t : Int) by omega), if_pos (show 0 ≤ (t : Int) ∧ (t : Int) ≤ (E : Int) - 1 by omega), if_pos (show ¬ (1 : Int) = 0 by decide), nk_of h.M.r26, ldN_of h.M.z79 (by omega), tnc]
        unfold j_X11_lay_0_47
        rw [rqA _ (by decide), bV_ok, hB.lv.bd.1]
        rcases hB.lv.bd.2 with hbd | hbd
        · rw [hbd, if_neg (fun q => q rfl), if_pos rfl]
          unfold j_X11_lay_0_63 j_X12_lay_0_75
          have hM := h.M.thr 0
          rw [rqS _ (by decide), bV_ok, nk_of hS.r7, ldR_of hS.z15 (by omega), tnc, hS.e15 _ hs2, nk_some, holds0, bI_ok, if_neg (show ¬ (1 : Int) = 0 by decide), nk_of hM.r68, stN_of hM.z120 (by omega), tn4]
          have hPf := h.Pf
          have hPc := h.Pc
          have cc : ∀ K i s', ¬ (K = 8 ∧ i = 4 * b + s ∧ s' = 5) → eq3 mc (sN mc 8 (4 * b + s) 5 (t : Int)) K i s' := fun K i s' hk => eq3.sN hk
          have cm : ∀ K i s', ¬ (K = 12 ∧ s' = 0) ∧ ¬ (K = 120 ∧ s' = 4 * b + s) → eq3 mm (sN (sN mm 12 0 0 0) 120 0 (4 * b + s) (t : Int)) K i s' := fun K i s' hk => (eq3.sN (by omega)).tr (eq3.sN (by omega))
          have hzc : ∀ K i, gZ (sN mc 8 (4 * b + s) 5 (t : Int)) K i = gZ mc K i := fun _ _ => rfl
          refine ⟨_, _, _, rfl, rfl, Or.inl ⟨rfl, by rw [gN_sN, if_neg (by omega), gthr]⟩, h.book (b0 := b) (Nat.le_succ N) hzc (fun _ _ _ q => q) (fun _ => rfl) hb.2 (fun K i s' hk => cc K i s' (by omega)) (fun K i s' hK hn => cc K i s' (fun q => hn (CBk.d q.1 (by omega)))) (fun K i s' hk => cm K i s' (by omega)) (fun K s' h1 h2 hn => cm K 0 s' ⟨by omega, fun q => hn (MBk.i (by omega) (by omega))⟩) ?_ (hPf.keep (Nat.le_succ N) (fun K i s' hk => cm K i s' (by omega))) (hPc.keep (fun K i s' hk => cm K i s' (by omega)))⟩
          refine ⟨F, n, M, Ln, E, hP.keep (fun K h1 h2 => (cm K 0 b (by omega)).1), hB.hS.keep hP (fun K i s hk => cc K i s (by unfold CBS at hk; omega)) (fun K i k hk => by rw [hzc]; exact hk), hB.tx.keep (fun K i s hk => cc K i s (by unfold CTx at hk; omega)) (fun K i s hk => cm K i s (by unfold MTx at hk; omega)), fun p hp => (hB.pg p hp).keep (by omega) (fun K i s hk => cc K i s (by unfold CPg at hk; omega)) (fun K i s hk => cm K i s (by unfold MPg at hk; omega)), fun p hp => (hB.po p hp).keep (by omega) (fun K i s hk => cc K i s (by unfold CPo at hk; omega)) (fun K i s hk => cm K i s (by unfold MPo at hk; omega)), fun p hp => (hB.pl p hp).keep (by have := (hB.pg p hp).pn; omega) (fun K i s hk => cc K i s (by unfold CPl at hk; omega)) (fun K i s hk => cm K i s (by unfold MPl at hk; omega)), fun f hf => (hB.ff f hf).keep (by omega) (fun K i s hk => cc K i s (by unfold CFo at hk; omega)) (fun K i s hk => cm K i s (by unfold MFo at hk; omega)) (by rw [(cm 12 0 69 (by omega)).1]; exact Int.le_refl _), fun p hp => (hB.pn p hp).keep (by have := (hB.pg p hp).pn; omega) (by have := (hB.ff _ (fo_lt hP.hF hp)).ns; omega) (fun K i s hk => cc K i s (by unfold CPn at hk; omega)) (fun K i s hk => cm K i s (by unfold MPn at hk; omega)), fun f hf => (hB.se f hf).keep (by omega) (fun p hp => by have := (hB.pg p hp).pn; omega) (fun K i s hk => cc K i s (by unfold CSe at hk; omega)) (fun K i s hk => cm K i s (by unfold MSe at hk; omega)) (fun x => by rw [(cm 63 0 x (by omega)).1]; exact Int.le_refl _), fun s' hs' => ?_, hB.lv.keep (by omega) (by omega) (by omega) (fun K i s hk => cc K i s (by unfold CLv at hk; omega)) (fun K i s hk => cm K i s (by unfold MLv at hk; omega))⟩
          have hx := hB.sh s' hs'
          refine ⟨?_, ?_⟩
          · rw [gN_sN, gN_sN]
            by_cases q : s' = s
            · rw [if_pos (by omega), if_pos (by omega)]
              exact ⟨rfl, by omega, by omega⟩
            · rw [if_neg (by omega), if_neg (by omega), gthr' _ _ (Or.inl (by decide))]
              exact hx.t
          · have e1 : ∀ K j, K ≠ 12 → K ≠ 120 → gN (sN (sN mm 12 0 0 0) 120 0 (4 * b + s) (t : Int)) K 0 j = gN mm K 0 j := fun K j h1 h2 => (cm K 0 j (by omega)).1
            rw [show gR (sN mc 8 (4 * b + s) 5 (t : Int)) 8 (4 * b + s') 2 = gR mc 8 (4 * b + s') 2 from rfl, (cc 8 (4 * b + s') 3 (by omega)).1, (cc 8 (4 * b + s') 4 (by omega)).1, e1 117 _ (by decide) (by decide), e1 118 _ (by decide) (by decide), e1 119 _ (by decide) (by decide), e1 108 _ (by decide) (by decide), e1 108 _ (by decide) (by decide)]
            simp only [e1 108 _ (by decide) (by decide), e1 116 _ (by decide) (by decide)]
            exact hx.k
        · rw [hbd, if_pos (show ¬ (1 : Int) = 0 by decide), if_neg (show ¬ (1 : Int) = 0 by decide), m75 3 (by decide)]
          unfold j_X11_lay_0_63
          rw [rqS0, bV_ex]
          exact CalV.bad (k := 2) h rfl rfl rfl
      · have e : (if t < 0 then j_X11_lay_0_46 mc (s : Int) t b else if (E : Int) ≤ t then j_X11_lay_0_46 mc (s : Int) t b else j_X11_lay_0_47 mc (s : Int) t b 1) = some (.inr 1, bX mc) := by
          have e0 : j_X11_lay_0_46 mc (s : Int) t b = some (.inr 1, bX mc) := by unfold j_X11_lay_0_46 j_X11_lay_0_47; rw [rqA0, bV_ex]; rfl
          rw [e0]; exact ite2 (by omega)
        rw [e, if_neg (show ¬ (0 ≤ t ∧ t ≤ (E : Int) - 1) by omega), if_neg (fun q => q rfl), m75 2 (by decide)]
        exact CalV.bad (k := 1) h rfl rfl rfl
    · have e : (if s < 0 then j_X11_lay_0_25 mc s t b else nk 15 (gR mc 0 b 7) fun i4 => if (lenI mc 15 i4) ≤ s then j_X11_lay_0_25 mc s t b else j_X11_lay_0_26 mc s t b 1) = some (.inr 0, bX mc) := by
        rw [c25, nk_of hS.r7, lenI_of hS.z15]; exact ite2 (by omega)
      rw [e, if_neg (show ¬ (0 ≤ s ∧ s ≤ (n : Int) - 1) by omega), if_pos rfl, m28]
      exact CalV.bad (k := 0) h rfl rfl rfl
  · rw [bookAt_bad h.Nb h.C hb, bR_ex, isBook_bad h.Nb hb, Option.bind_some, if_pos rfl, m28]
    exact CalV.bad (k := 0) h rfl rfl rfl
theorem call_exchange {a c d l : Int} (h : RR N mc mm) : CalV N (f_X11_exchange mc 0 a c d l) (f_X12_exchange mm 0 a c d l) [0, 2] := by
  have m59 : ∀ v : Int, v ≠ 0 → j_X12_exchange_0_59 mm 0 a c d l 0 v = some (.inl none, sN mm 12 0 0 v) := fun v hv => by
    unfold j_X12_exchange_0_59; rw [holds1 _ hv, bI_ok, if_pos rfl]
  have m32 : j_X12_exchange_0_32 mm 0 a c d l = some (.inl none, sN mm 12 0 0 1) := by
    unfold j_X12_exchange_0_32 j_X12_exchange_0_33; rw [if_neg (fun q => q rfl), m59 1 (by decide)]
  unfold f_X11_exchange f_X12_exchange
  by_cases hb : 0 ≤ a ∧ a < gN mm 12 0 19
  · obtain ⟨b, rfl⟩ := Int.ex hb.1
    obtain ⟨F, n, M, Ln, E, hB⟩ := h.Bk b hb.2
    have hP := hB.hP
    have hS := hB.hS
    have q0 := hP.hb
    have q1 := hP.hn
    have q2 := hP.hL
    have q3 := hP.hE
    have q4 := hP.ml
    have c39 : j_X11_exchange_0_39 mc c d l b = some (.inr 0, bX mc) := by unfold j_X11_exchange_0_39 j_X11_exchange_0_40; rw [rqI0, bV_ex]; rfl
    rw [bookAt_ok h.Nb h.C hb.2, bR_ok, nk_some]
    by_cases hc : 0 ≤ c ∧ c < (E : Nat)
    · obtain ⟨c, rfl⟩ := Int.ex hc.1
      have hc2 : c < E := by omega
      rw [hasCopy_ok hS hc2, Option.bind_some, if_neg (show ¬ (1 : Int) = 0 by decide), isCopy_ok h.Nb h.M hP hb.2 hc2, Option.bind_some, if_neg (show ¬ (1 : Int) = 0 by decide)]
      by_cases hd : 0 ≤ d ∧ d < (E : Nat)
      · obtain ⟨d, rfl⟩ := Int.ex hd.1
        have hd2 : d < E := by omega
        rw [hasCopy_ok hS hd2, Option.bind_some, if_neg (show ¬ (1 : Int) = 0 by decide), isCopy_ok h.Nb h.M hP hb.2 hd2, Option.bind_some, if_neg (show ¬ (1 : Int) = 0 by decide)]
        by_cases hl : 0 ≤ l ∧ l < (F * n : Nat)
        · obtain ⟨l, rfl⟩ := Int.ex hl.1
          have hl2 : l < F * n := by omega
          rw [hasLeaf_ok hP hS hl2, Option.bind_some, if_neg (show ¬ (1 : Int) = 0 by decide), isLeaf_ok h.Nb h.M hP hb.2 hl2, Option.bind_some, if_neg (show ¬ (1 : Int) = 0 by decide)]
          unfold j_X11_exchange_0_40 j_X12_exchange_0_33
          rw [rqI _ (by decide), bV_ok, if_pos (show ¬ (1 : Int) = 0 by decide), nk_of h.M.r26, ldN_of h.M.z79 (by omega), tnc, hB.lv.bd.1]
          rcases hB.lv.bd.2 with hbd | hbd
          · rw [hbd, rqS0, bV_ex, if_pos rfl, m59 2 (by decide)]
            exact CalV.bad (k := 1) h rfl rfl rfl
          · rw [hbd, rqS _ (by decide), bV_ok, if_neg (show ¬ (1 : Int) = 0 by decide)]
            unfold j_X12_exchange_0_59
            have hM := h.M.thr 0
            obtain ⟨x1, x2, x3⟩ := hB.lv.l hbd c l hc2 hl2
            obtain ⟨y1, y2, y3⟩ := hB.lv.l hbd d l hd2 hl2
            have g1 : ∀ j, gN (sN mm 12 0 0 0) 126 0 j = gN mm 126 0 j := fun j => gthr' _ _ (Or.inl (by decide))
            rw [nk_of hS.r9, ldR_of hS.z17 (by omega), tnc, hS.e17 c hc2, nk_some, ldN_of (hS.z18 c hc2) (by omega), tnc, nk_of hS.r9, ldR_of hS.z17 (by omega), tnc, hS.e17 c hc2, nk_some, nk_of hS.r9, ldR_of hS.z17 (by omega), tnc, hS.e17 d hd2, nk_some, ldN_of (hS.z18 d hd2) (by omega), tnc, stN_of (hS.z18 c hc2) (by omega), tnc]
            rw [show gR (sN mc 18 (24 * b + c) l (gN mc 18 (24 * b + d) l)) 0 b 9 = some (17, b) from hS.r9, nk_some, ldR_of (show gZ (sN mc 18 (24 * b + c) l (gN mc 18 (24 * b + d) l)) 17 b = some E from hS.z17) (by omega), tnc, show gR (sN mc 18 (24 * b + c) l (gN mc 18 (24 * b + d) l)) 17 b d = some (18, 24 * b + d) from hS.e17 d hd2, nk_some, stN_of (show gZ (sN mc 18 (24 * b + c) l (gN mc 18 (24 * b + d) l)) 18 (24 * b + d) = some (F * n) from hS.z18 d hd2) (by omega), tnc]
            rw [holds0, bI_ok, if_neg (show ¬ (1 : Int) = 0 by decide), nk_of hM.r76, leafAt_m _ b c l q0 (by omega) (by omega), Option.bind_some, ldN_of hM.z126 (by omega), tnc, nk_of hM.r76, Option.bind_some, nk_of hM.r76, leafAt_m _ b d l q0 (by omega) (by omega), Option.bind_some, ldN_of hM.z126 (by omega), tnc, stN_of hM.z126 (by omega), tnc, g1, g1]
            rw [show gR (sN (sN mm 12 0 0 0) 126 0 (8 * (24 * b + c) + l) (gN mm 126 0 (8 * (24 * b + d) + l))) 12 0 76 = some (126, 0) from hM.r76, nk_some, leafAt_m _ b d l q0 (by omega) (by omega), Option.bind_some, stN_of (show gZ (sN (sN mm 12 0 0 0) 126 0 (8 * (24 * b + c) + l) (gN mm 126 0 (8 * (24 * b + d) + l))) 126 0 = some 576 from hM.z126) (by omega), tnc, x1, y1]
            have hPf := h.Pf
            have hPc := h.Pc
            generalize gN mm 126 0 (8 * (24 * b + c) + l) = vc at x1 x2 x3
            generalize gN mm 126 0 (8 * (24 * b + d) + l) = vd at y1 y2 y3
            have cc : ∀ K i s', ¬ (K = 18 ∧ 24 * b ≤ i ∧ i < 24 * b + 24) → eq3 mc (sN (sN mc 18 (24 * b + c) l vd) 18 (24 * b + d) l vc) K i s' := fun K i s' hk => (eq3.sN (by omega)).tr (eq3.sN (by omega))
            have cm : ∀ K i s', ¬ (K = 12 ∧ s' = 0) ∧ ¬ (K = 126 ∧ 192 * b ≤ s' ∧ s' < 192 * b + 192) → eq3 mm (sN (sN (sN mm 12 0 0 0) 126 0 (8 * (24 * b + c) + l) vd) 126 0 (8 * (24 * b + d) + l) vc) K i s' := fun K i s' hk => ((eq3.sN (by omega)).tr (eq3.sN (by omega))).tr (eq3.sN (by omega))
            have hzc : ∀ K i, gZ (sN (sN mc 18 (24 * b + c) l vd) 18 (24 * b + d) l vc) K i = gZ mc K i := fun _ _ => rfl
            refine ⟨_, _, _, rfl, rfl, Or.inl ⟨rfl, by rw [gN_sN, if_neg (by omega), gN_sN, if_neg (by omega), gthr]⟩, h.book (b0 := b) (Nat.le_succ N) hzc (fun _ _ _ q => q) (fun _ => rfl) hb.2 (fun K i s' hk => cc K i s' (by omega)) (fun K i s' hK hn => cc K i s' (fun q => hn (CBk.e q.1 q.2))) (fun K i s' hk => cm K i s' (by omega)) (fun K s' h1 h2 hn => cm K 0 s' ⟨by omega, fun q => hn (MBk.j q.1 q.2)⟩) ⟨F, n, M, Ln, E, hP.keep (fun K h1 h2 => (cm K 0 b (by omega)).1), hB.hS.keep hP (fun K i s hk => cc K i s (by unfold CBS at hk; omega)) (fun K i k hk => by rw [hzc]; exact hk), hB.tx.keep (fun K i s hk => cc K i s (by unfold CTx at hk; omega)) (fun K i s hk => cm K i s (by unfold MTx at hk; omega)), fun p hp => (hB.pg p hp).keep (by omega) (fun K i s hk => cc K i s (by unfold CPg at hk; omega)) (fun K i s hk => cm K i s (by unfold MPg at hk; omega)), fun p hp => (hB.po p hp).keep (by omega) (fun K i s hk => cc K i s (by unfold CPo at hk; omega)) (fun K i s hk => cm K i s (by unfold MPo at hk; omega)), fun p hp => (hB.pl p hp).keep (by have := (hB.pg p hp).pn; omega) (fun K i s hk => cc K i s (by unfold CPl at hk; omega)) (fun K i s hk => cm K i s (by unfold MPl at hk; omega)), fun f hf => (hB.ff f hf).keep (by omega) (fun K i s hk => cc K i s (by unfold CFo at hk; omega)) (fun K i s hk => cm K i s (by unfold MFo at hk; omega)) (by rw [(cm 12 0 69 (by omega)).1]; exact Int.le_refl _), fun p hp => (hB.pn p hp).keep (by have := (hB.pg p hp).pn; omega) (by have := (hB.ff _ (fo_lt hP.hF hp)).ns; omega) (fun K i s hk => cc K i s (by unfold CPn at hk; omega)) (fun K i s hk => cm K i s (by unfold MPn at hk; omega)), fun f hf => (hB.se f hf).keep (by omega) (fun p hp => by have := (hB.pg p hp).pn; omega) (fun K i s hk => cc K i s (by unfold CSe at hk; omega)) (fun K i s hk => cm K i s (by unfold MSe at hk; omega)) (fun x => by rw [(cm 63 0 x (by omega)).1]; exact Int.le_refl _), fun s hs => (hB.sh s hs).keep (by omega) (fun K i s' hk => cc K i s' (by unfold CSh at hk; omega)) (fun K i s' hk => cm K i s' (by unfold MSh at hk; omega)), ?_⟩ (hPf.keep (Nat.le_succ N) (fun K i s' hk => cm K i s' (by omega))) (hPc.keep (fun K i s' hk => cm K i s' (by omega)))⟩
            refine ⟨by rw [(cc 0 b 11 (by omega)).1, (cm 79 0 b (by omega)).1]; exact hB.lv.bd, fun _ c' l' hc' hl' => ?_, fun _ f hf => by rw [(cm 108 0 (8 * b + f) (by omega)).1]; exact hB.lv.d hbd f hf, fun f h1 h2 => by rw [(cm 108 0 (8 * b + f) (by omega)).1]; exact hB.lv.u f h1 h2⟩
            have hx := hB.lv.l hbd c' l' hc' hl'
            have z1 : gN (sN (sN mc 18 (24 * b + c) l vd) 18 (24 * b + d) l vc) 18 (24 * b + c') l' = if c' = d ∧ l' = l then vc else if c' = c ∧ l' = l then vd else gN mc 18 (24 * b + c') l' := by
              rw [gN_sN, gN_sN]
              split <;> split <;> (try split) <;> (try split) <;> first | rfl | omega
            have z2 : gN (sN (sN (sN mm 12 0 0 0) 126 0 (8 * (24 * b + c) + l) vd) 126 0 (8 * (24 * b + d) + l) vc) 126 0 (8 * (24 * b + c') + l') = if c' = d ∧ l' = l then vc else if c' = c ∧ l' = l then vd else gN mm 126 0 (8 * (24 * b + c') + l') := by
              rw [gN_sN, gN_sN, g1]
              split <;> split <;> (try split) <;> (try split) <;> first | rfl | omega
            rw [z1, z2]
            by_cases u1 : c' = d ∧ l' = l
            · rw [if_pos u1, if_pos u1]
              exact ⟨rfl, x2, x3⟩
            · rw [if_neg u1, if_neg u1]
              by_cases u2 : c' = c ∧ l' = l
              · rw [if_pos u2, if_pos u2]
                exact ⟨rfl, y2, y3⟩
              · rw [if_neg u2, if_neg u2]
                exact hx
        · rw [hasLeaf_bad hP hS hl, Option.bind_some, if_pos rfl, c39, isLeaf_bad h.Nb h.M hP hb.2 hl, Option.bind_some, if_pos rfl, m32]
          exact CalV.bad (k := 0) h rfl rfl rfl
      · rw [hasCopy_bad hS hd, Option.bind_some, if_pos rfl, c39, isCopy_bad h.Nb h.M hP hb.2 hd, Option.bind_some, if_pos rfl, m32]
        exact CalV.bad (k := 0) h rfl rfl rfl
    · rw [hasCopy_bad hS hc, Option.bind_some, if_pos rfl, c39, isCopy_bad h.Nb h.M hP hb.2 hc, Option.bind_some, if_pos rfl, m32]
      exact CalV.bad (k := 0) h rfl rfl rfl
  · rw [bookAt_bad h.Nb h.C hb, bR_ex, isCopy_b0 h.Nb hb, Option.bind_some, if_pos rfl, m32]
    exact CalV.bad (k := 0) h rfl rfl rfl
end LEAF
