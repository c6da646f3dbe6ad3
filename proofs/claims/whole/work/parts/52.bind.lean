/-! CANCEL, BIND. -/
/-- memory differs in W alone; nothing is made -/
def FrC (W : Nat → Nat → Nat → Prop) (m m' : MM) : Prop := (∀ K i s, ¬ W K i s → eq3 m m' K i s) ∧ (∀ K i, gZ m' K i = gZ m K i) ∧ ∀ K, gC m' K = gC m K
theorem FrC.rf {W : Nat → Nat → Nat → Prop} {m : MM} : FrC W m m := ⟨fun _ _ _ _ => eq3.rf, fun _ _ => rfl, fun _ => rfl⟩
theorem FrC.tr {W : Nat → Nat → Nat → Prop} {m m1 m2 : MM} (h : FrC W m m1) (h' : FrC W m1 m2) : FrC W m m2 := ⟨fun K i s hk => (h.1 K i s hk).tr (h'.1 K i s hk), fun K i => (h'.2.1 K i).trans (h.2.1 K i), fun K => (h'.2.2 K).trans (h.2.2 K)⟩
theorem FrC.sub {W W' : Nat → Nat → Nat → Prop} {m m' : MM} (h : FrC W m m') (hs : ∀ K i s, W K i s → W' K i s) : FrC W' m m' := ⟨fun K i s hk => h.1 K i s (fun q => hk (hs K i s q)), h.2⟩
theorem FrC.sN {W : Nat → Nat → Nat → Prop} {m m1 : MM} {K i s : Nat} {v : Int} (h : FrC W m m1) (hW : W K i s) : FrC W m (sN m1 K i s v) := ⟨fun K' i' s' hk => (h.1 K' i' s' hk).tr (eq3.sN (fun q => hk (by rw [q.1, q.2.1, q.2.2]; exact hW))), h.2⟩
theorem FrC.sL {W : Nat → Nat → Nat → Prop} {m m1 : MM} {K i s : Nat} {v : Int64} (h : FrC W m m1) (hW : W K i s) : FrC W m (sL m1 K i s v) := ⟨fun K' i' s' hk => (h.1 K' i' s' hk).tr (eq3.sL (fun q => hk (by rw [q.1, q.2.1, q.2.2]; exact hW))), h.2⟩
theorem FrC.sR {W : Nat → Nat → Nat → Prop} {m m1 : MM} {K i s : Nat} {v : Option (Nat × Nat)} (h : FrC W m m1) (hW : W K i s) : FrC W m (sR m1 K i s v) := ⟨fun K' i' s' hk => (h.1 K' i' s' hk).tr (eq3.sR (fun q => hk (by rw [q.1, q.2.1, q.2.2]; exact hW))), h.2⟩
theorem FrC.BS {W : Nat → Nat → Nat → Prop} {m m1 mm : MM} {b F n M Ln E : Nat} (h : FrC W m m1) (hS : BS m b F n M Ln E) (hP : BP mm b F n M Ln E) (hW : ∀ K i s, CBS b K i s → ¬ W K i s) : BS m1 b F n M Ln E := hS.keep hP (fun K i s hk => h.1 K i s (hW K i s hk)) (fun K i k hk => by rw [h.2.1]; exact hk)
theorem FrC.BP {W : Nat → Nat → Nat → Prop} {m m1 : MM} {b F n M Ln E : Nat} (h : FrC W m m1) (hP : BP m b F n M Ln E) (hW : ∀ K, 73 ≤ K → K ≤ 77 → ¬ W K 0 b) : BP m1 b F n M Ln E := hP.keep fun K h1 h2 => (h.1 K 0 b (hW K h1 h2)).1
theorem FrC.SM {W : Nat → Nat → Nat → Prop} {m m1 : MM} (h : FrC W m m1) (hM : SM m) (hW : ∀ s, W 12 0 s → s = 0 ∨ s = 1 ∨ s = 3 ∨ s = 6 ∨ s = 12 ∨ s = 19 ∨ s = 52 ∨ s = 69 ∨ s = 74 ∨ s = 79) : SM m1 := hM.mv2 (fun s hs => (h.1 12 0 s (fun q => by have := hW s q; omega)).2.2) (fun K i k hk => by rw [h.2.1]; exact hk)
section LEAF
variable {N : Nat} {mc mm : MM} {b F n M Ln E : Nat}
def WLc (b K i s : Nat) : Prop := K = 18 ∧ 24 * b ≤ i ∧ i < 24 * b + 24
def WLm (b K i s : Nat) : Prop := (K = 12 ∧ s = 0) ∨ (K = 79 ∧ s = b) ∨ (K = 126 ∧ 192 * b ≤ s ∧ s < 192 * b + 192)
theorem call_cancel {a c l : Int} (h : RR N mc mm) : CalI N (f_X11_cancel mc 0 a c l) (f_X12_cancel mm 0 a c l) [0, 2] := by
  have m49 : ∀ v : Int, v ≠ 0 → j_X12_cancel_0_49 mm 0 a c l 0 v = some (.inl (some (aI 0)), sN mm 12 0 0 v) := fun v hv => by
    unfold j_X12_cancel_0_49; rw [holds1 _ hv, bI_ok, if_neg (fun q => q rfl)]
  have m22 : j_X12_cancel_0_22 mm 0 a c l = some (.inl (some (aI 0)), sN mm 12 0 0 1) := by
    unfold j_X12_cancel_0_22 j_X12_cancel_0_23; rw [if_neg (fun q => q rfl), m49 1 (by decide)]
  unfold f_X11_cancel f_X12_cancel
  by_cases hb : 0 ≤ a ∧ a < gN mm 12 0 19
  · obtain ⟨b, rfl⟩ := Int.ex hb.1
    obtain ⟨F, n, M, Ln, E, hB⟩ := h.Bk b hb.2
    have hP := hB.hP
    have hS := hB.hS
    have q0 := hP.hb
    have q1 := hP.hn
    have q2 := hP.hL
    have q3 := hP.hE
    have q4 := hP.ml
    have c29 : j_X11_cancel_0_29 mc c l b = some (.inr 0, bX mc) := by unfold j_X11_cancel_0_29 j_X11_cancel_0_30; rw [rqI0, bV_ex]; rfl
    rw [bookAt_ok h.Nb h.C hb.2, bR_ok, nk_some]
    by_cases hc : 0 ≤ c ∧ c < (E : Nat)
    · obtain ⟨c, rfl⟩ := Int.ex hc.1
      have hc2 : c < E := by omega
      rw [hasCopy_ok hS hc2, Option.bind_some, if_neg (show ¬ (1 : Int) = 0 by decide), isCopy_ok h.Nb h.M hP hb.2 hc2, Option.bind_some, if_neg (show ¬ (1 : Int) = 0 by decide)]
      by_cases hl : 0 ≤ l ∧ l < (F * n : Nat)
      · obtain ⟨l, rfl⟩ := Int.ex hl.1
        have hl2 : l < F * n := by omega
        rw [hasLeaf_ok hP hS hl2, Option.bind_some, if_neg (show ¬ (1 : Int) = 0 by decide), isLeaf_ok h.Nb h.M hP hb.2 hl2, Option.bind_some, if_neg (show ¬ (1 : Int) = 0 by decide)]
        unfold j_X11_cancel_0_30 j_X12_cancel_0_23
        rw [rqI _ (by decide), bV_ok, if_pos (show ¬ (1 : Int) = 0 by decide), nk_of h.M.r26, ldN_of h.M.z79 (by omega), tnc, hB.lv.bd.1]
        rcases hB.lv.bd.2 with hbd | hbd
        · rw [hbd, rqS0, bV_ex, if_pos rfl, m49 2 (by decide)]
          exact CalI.bad (k := 1) h rfl rfl rfl
        · rw [hbd, rqS _ (by decide), bV_ok, if_neg (show ¬ (1 : Int) = 0 by decide)]
          unfold j_X12_cancel_0_49
          rw [holds0, bI_ok, if_pos (show ¬ (1 : Int) = 0 by decide)]
          obtain ⟨⟨x1, m1⟩, ⟨x2, m2⟩, e1, e2, rfl, f1, f2, f3, f4⟩ := lpb_rel (b := fun s : Int × Int × MM => b_X11_cancel_47 (l : Int) b s.1 s.2.1 s.2.2) (c := fun s : Int × Int × MM => b_X12_cancel_63 0 (b : Int) (l : Int) s.1 s.2.1 s.2.2)
            (fun s t => ∃ k : Nat, s.2.1 = k ∧ t.2.1 = k ∧ c ≤ k ∧ k ≤ E ∧ s.1 = t.1 ∧ 0 ≤ s.1 ∧ s.1 ≤ k ∧ FrC (WLc b) mc s.2.2 ∧ FrC (WLm b) mm t.2.2 ∧ gN t.2.2 12 0 0 = 0 ∧ gN t.2.2 79 0 b = 1 ∧ ∀ c' l', c' < E → l' < F * n → gN s.2.2 18 (24 * b + c') l' = gN t.2.2 126 0 (8 * (24 * b + c') + l') ∧ -1 ≤ gN t.2.2 126 0 (8 * (24 * b + c') + l') ∧ gN t.2.2 126 0 (8 * (24 * b + c') + l') < E)
            (fun x y => x.1 = y.1 ∧ FrC (WLc b) mc x.2 ∧ FrC (WLm b) mm y.2 ∧ (gN y.2 12 0 0 = 0 ∧ gN y.2 79 0 b = 1) ∧ ∀ c' l', c' < E → l' < F * n → gN x.2 18 (24 * b + c') l' = gN y.2 126 0 (8 * (24 * b + c') + l') ∧ -1 ≤ gN y.2 126 0 (8 * (24 * b + c') + l') ∧ gN y.2 126 0 (8 * (24 * b + c') + l') < E) (fun s => E - s.2.1.toNat) (by
            rintro ⟨x, _, m1⟩ ⟨_, _, m2⟩ ⟨k, rfl, rfl, hk1, hk2, rfl, hx1, hx2, f1, f2, f3, f3', f4⟩
            simp only at hx1 hx2 f1 f2 f3 f3' f4
            have hS1 := f1.BS hS hP (fun K i s hk => by unfold CBS at hk; unfold WLc; omega)
            have hP2 := f2.BP hP (fun K h1 h2 => by unfold WLm; omega)
            have hM2 := f2.SM h.M (fun s hs => by unfold WLm at hs; omega)
            have d1 : b_X11_cancel_47 (l : Int) b x (k : Int) m1 = if (E : Int) ≤ k then some (.inr (x, m1)) else if gN m1 18 (24 * b + k) l = -1 then some (.inl (x, (k : Int) + 1, m1)) else some (.inl (x + 1, (k : Int) + 1, sN m1 18 (24 * b + k) l (-1))) := by
              unfold b_X11_cancel_47
              rw [hS1.f3]
              by_cases q : (E : Int) ≤ k
              · rw [if_pos q, if_pos q]
              · have q' : k < E := by omega
                rw [if_neg q, if_neg q, nk_of hS1.r9, ldR_of hS1.z17 (by omega), tnc, hS1.e17 k q', nk_some, ldN_of (hS1.z18 k q') (by omega), tnc, nk_of hS1.r9, ldR_of hS1.z17 (by omega), tnc, hS1.e17 k q', nk_some, stN_of (hS1.z18 k q') (by omega), tnc]
                simp (disch := omega) only [ck_of]
            have d2 : b_X12_cancel_63 0 (b : Int) (l : Int) x (k : Int) m2 = if (E : Int) ≤ k then some (.inr (x, m2)) else if gN m2 126 0 (8 * (24 * b + k) + l) = -1 then some (.inl (x, (k : Int) + 1, sN m2 126 0 (8 * (24 * b + k) + l) (-1))) else some (.inl (x + 1, (k : Int) + 1, sN m2 126 0 (8 * (24 * b + k) + l) (-1))) := by
              unfold b_X12_cancel_63 j_X12_cancel_63_97
              rw [nk_of hM2.r24, ldN_of hM2.z77 (by omega), tnc, hP2.e]
              by_cases q : (E : Int) ≤ k
              · rw [if_pos q, if_pos q]
              · rw [if_neg q, if_neg q, nk_of hM2.r76, leafAt_m _ b k l q0 (by omega) (by omega), Option.bind_some, ldN_of hM2.z126 (by omega), tnc]
                simp (disch := omega) only [ck_of, nk_of hM2.r76, Option.bind_some, leafAt_m _ b k l q0, stN_of hM2.z126, tnc, Int.add_zero]
                split <;> (try split) <;> first | rfl | contradiction
            show (∃ s' t', b_X11_cancel_47 (l : Int) b x (k : Int) m1 = some (.inl s') ∧ b_X12_cancel_63 0 (b : Int) (l : Int) x (k : Int) m2 = some (.inl t') ∧ _) ∨ ∃ v v', b_X11_cancel_47 (l : Int) b x (k : Int) m1 = some (.inr v) ∧ b_X12_cancel_63 0 (b : Int) (l : Int) x (k : Int) m2 = some (.inr v') ∧ _
            rw [d1, d2]
            by_cases q : (E : Int) ≤ k
            · rw [if_pos q, if_pos q]
              exact Or.inr ⟨_, _, rfl, rfl, rfl, f1, f2, ⟨f3, f3'⟩, f4⟩
            · have q' : k < E := by omega
              obtain ⟨g1, g2, g3⟩ := f4 k l q' hl2
              rw [if_neg q, if_neg q, g1]
              have W1 : WLc b 18 (24 * b + k) l := by unfold WLc; omega
              have W2 : WLm b 126 0 (8 * (24 * b + k) + l) := by unfold WLm; omega
              have v2 : ∀ c' l', c' < E → l' < F * n → gN (sN m2 126 0 (8 * (24 * b + k) + l) (-1)) 126 0 (8 * (24 * b + c') + l') = if c' = k ∧ l' = l then -1 else gN m2 126 0 (8 * (24 * b + c') + l') := by
                intro c' l' h1 h2
                rw [gN_sN]
                split <;> split <;> first | rfl | omega
              have v1 : ∀ c' l', gN (sN m1 18 (24 * b + k) l (-1)) 18 (24 * b + c') l' = if c' = k ∧ l' = l then -1 else gN m1 18 (24 * b + c') l' := by
                intro c' l'
                rw [gN_sN]
                split <;> split <;> first | rfl | omega
              have t0 : gN (sN m2 126 0 (8 * (24 * b + k) + l) (-1)) 12 0 0 = 0 ∧ gN (sN m2 126 0 (8 * (24 * b + k) + l) (-1)) 79 0 b = 1 := ⟨by rw [gN_sN, if_neg (by omega)]; exact f3, by rw [gN_sN, if_neg (by omega)]; exact f3'⟩
              left
              by_cases u : gN m2 126 0 (8 * (24 * b + k) + l) = -1
              · rw [if_pos u, if_pos u]
                refine ⟨_, _, rfl, rfl, ⟨k + 1, by simp, by simp, by omega, by omega, rfl, hx1, by simp only; omega, f1, f2.sN W2, t0.1, t0.2, fun c' l' h1 h2 => ?_⟩, by simp only; omega⟩
                simp only
                rw [v2 c' l' h1 h2]
                obtain ⟨y1, y2, y3⟩ := f4 c' l' h1 h2
                by_cases w : c' = k ∧ l' = l
                · rw [if_pos w, w.1, w.2, g1, u]; omega
                · rw [if_neg w]; exact ⟨y1, y2, y3⟩
              · rw [if_neg u, if_neg u]
                refine ⟨_, _, rfl, rfl, ⟨k + 1, by simp, by simp, by omega, by omega, rfl, by simp only; omega, by simp only; omega, f1.sN W1, f2.sN W2, t0.1, t0.2, fun c' l' h1 h2 => ?_⟩, by simp only; omega⟩
                simp only
                rw [v2 c' l' h1 h2, v1]
                obtain ⟨y1, y2, y3⟩ := f4 c' l' h1 h2
                by_cases w : c' = k ∧ l' = l
                · rw [if_pos w, if_pos w]; omega
                · rw [if_neg w, if_neg w]; exact ⟨y1, y2, y3⟩) (0, (c : Int), mc) (0, (c : Int), sN mm 12 0 0 0) ⟨c, rfl, rfl, by omega, by omega, rfl, by simp only; omega, by simp only; omega, FrC.rf, FrC.rf.sN (by unfold WLm; omega), gthr _ _, by rw [gthr' _ _ (Or.inl (by decide))]; exact hbd, fun c' l' h1 h2 => by
              simp only
              rw [gthr' _ _ (Or.inl (by decide))]; exact hB.lv.l hbd c' l' h1 h2⟩
          simp only at f1 f2 f3 f4
          rw [e1, e2, Option.bind_some, Option.bind_some]
          have hPf := h.Pf
          have hPc := h.Pc
          have cc : ∀ K i s', ¬ (K = 18 ∧ 24 * b ≤ i ∧ i < 24 * b + 24) → eq3 mc m1 K i s' := fun K i s' hk => f1.1 K i s' hk
          have cm : ∀ K i s', ¬ (K = 12 ∧ s' = 0) ∧ ¬ (K = 79 ∧ s' = b) ∧ ¬ (K = 126 ∧ 192 * b ≤ s' ∧ s' < 192 * b + 192) → eq3 mm m2 K i s' := fun K i s' hk => f2.1 K i s' (by unfold WLm; omega)
          have hzc : ∀ K i, gZ m1 K i = gZ mc K i := f1.2.1
          refine ⟨_, _, _, _, rfl, rfl, Or.inl ⟨rfl, f3.1⟩, h.book (b0 := b) (Nat.le_succ N) hzc (fun K i k hk => by rw [f2.2.1]; exact hk) f1.2.2 hb.2 (fun K i s' hk => cc K i s' (by omega)) (fun K i s' hK hn => cc K i s' (fun q => hn (CBk.e q.1 q.2))) (fun K i s' hk => cm K i s' (by omega)) (fun K s' h1 h2 hn => cm K 0 s' ⟨by omega, fun q => hn (MBk.a (by omega) q.2), fun q => hn (MBk.j q.1 q.2)⟩) ⟨F, n, M, Ln, E, hP.keep (fun K h1 h2 => (cm K 0 b (by omega)).1), hB.hS.keep hP (fun K i s hk => cc K i s (by unfold CBS at hk; omega)) (fun K i k hk => by rw [hzc]; exact hk), hB.tx.keep (fun K i s hk => cc K i s (by unfold CTx at hk; omega)) (fun K i s hk => cm K i s (by unfold MTx at hk; omega)), fun p hp => (hB.pg p hp).keep (by omega) (fun K i s hk => cc K i s (by unfold CPg at hk; omega)) (fun K i s hk => cm K i s (by unfold MPg at hk; omega)), fun p hp => (hB.po p hp).keep (by omega) (fun K i s hk => cc K i s (by unfold CPo at hk; omega)) (fun K i s hk => cm K i s (by unfold MPo at hk; omega)), fun p hp => (hB.pl p hp).keep (by have := (hB.pg p hp).pn; omega) (fun K i s hk => cc K i s (by unfold CPl at hk; omega)) (fun K i s hk => cm K i s (by unfold MPl at hk; omega)), fun f hf => (hB.ff f hf).keep (by omega) (fun K i s hk => cc K i s (by unfold CFo at hk; omega)) (fun K i s hk => cm K i s (by unfold MFo at hk; omega)) (by rw [(cm 12 0 69 (by omega)).1]; exact Int.le_refl _), fun p hp => (hB.pn p hp).keep (by have := (hB.pg p hp).pn; omega) (by have := (hB.ff _ (fo_lt hP.hF hp)).ns; omega) (fun K i s hk => cc K i s (by unfold CPn at hk; omega)) (fun K i s hk => cm K i s (by unfold MPn at hk; omega)), fun f hf => (hB.se f hf).keep (by omega) (fun p hp => by have := (hB.pg p hp).pn; omega) (fun K i s hk => cc K i s (by unfold CSe at hk; omega)) (fun K i s hk => cm K i s (by unfold MSe at hk; omega)) (fun x => by rw [(cm 63 0 x (by omega)).1]; exact Int.le_refl _), fun s hs => (hB.sh s hs).keep (by omega) (fun K i s' hk => cc K i s' (by unfold CSh at hk; omega)) (fun K i s' hk => cm K i s' (by unfold MSh at hk; omega)), ?_⟩ (hPf.keep (Nat.le_succ N) (fun K i s' hk => cm K i s' (by omega))) (hPc.keep (fun K i s' hk => cm K i s' (by omega)))⟩
          exact ⟨by rw [(cc 0 b 11 (by omega)).1, f3.2, hB.lv.bd.1, hbd]; exact ⟨rfl, Or.inr rfl⟩, fun _ => f4, fun _ f hf => by rw [(cm 108 0 (8 * b + f) (by omega)).1]; exact hB.lv.d hbd f hf, fun f h1 h2 => by rw [(cm 108 0 (8 * b + f) (by omega)).1]; exact hB.lv.u f h1 h2⟩
      · rw [hasLeaf_bad hP hS hl, Option.bind_some, if_pos rfl, c29, isLeaf_bad h.Nb h.M hP hb.2 hl, Option.bind_some, if_pos rfl, m22]
        exact CalI.bad (k := 0) h rfl rfl rfl
    · rw [hasCopy_bad hS hc, Option.bind_some, if_pos rfl, c29, isCopy_bad h.Nb h.M hP hb.2 hc, Option.bind_some, if_pos rfl, m22]
      exact CalI.bad (k := 0) h rfl rfl rfl
  · rw [bookAt_bad h.Nb h.C hb, bR_ex, isCopy_b0 h.Nb hb, Option.bind_some, if_pos rfl, m22]
    exact CalI.bad (k := 0) h rfl rfl rfl
theorem isPrinted_c (hP : BP mm b F n M Ln E) (hS : BS mc b F n M Ln E) (hF : ∀ f, f < 2 * n → gN mc 2 (8 * b + f) 4 = gN mm 108 0 (8 * b + f) ∧ gN mm 108 0 (8 * b + f) ≤ 4) :
    Ev (f_X0_isPrinted mc b) (fun v => (v = 1 ∧ ∀ f, f < 2 * n → 3 ≤ gN mm 108 0 (8 * b + f)) ∨ (v = 0 ∧ ∃ f, f < 2 * n ∧ gN mm 108 0 (8 * b + f) < 3)) := by
  have q1 := hP.hn
  unfold f_X0_isPrinted
  rw [nk_of hS.r6, lenI_of hS.z14]
  refine ev_lp (Sum.elim (fun r => r = 0 ∧ ∃ f, f < 2 * n ∧ gN mm 108 0 (8 * b + f) < 3) fun _ => ∀ f, f < 2 * n → 3 ≤ gN mm 108 0 (8 * b + f)) (fun s => ∃ k : Nat, s = k ∧ k ≤ 2 * n ∧ ∀ f, f < k → 3 ≤ gN mm 108 0 (8 * b + f)) (fun s => 2 * n - s.toNat) ⟨0, rfl, by omega, fun f hf => absurd hf (by omega)⟩ ?_ ?_
  · rintro _ ⟨k, rfl, hk, hg⟩
    unfold b_X0_isPrinted_10
    refine ev_if (fun hc => ev_exit fun f hf => hg f (by omega)) fun hc => ?_
    have hk2 : k < 2 * n := by omega
    obtain ⟨g1, g2⟩ := hF k hk2
    rw [ldR_of hS.z14 (by omega), tnc, hS.e14 k hk2, nk_some]
    unfold f_X2_wasDone
    rw [g1]
    by_cases h3 : 3 ≤ gN mm 108 0 (8 * b + k)
    · have e : (if gN mm 108 0 (8 * b + k) = 3 then (some 1 : Option Int) else if ¬ gN mm 108 0 (8 * b + k) = 4 then some 0 else some 1) = some 1 := by
        split
        · rfl
        · rw [if_neg (by omega)]
      rw [e, Option.bind_some]
      refine ev_ift (show ¬ (1 : Int) = 0 by decide) (ev_ck (by omega) (ev_back ⟨k + 1, by simp, by omega, fun f hf => ?_⟩ (by omega)))
      by_cases q : f = k
      · rw [q]; exact h3
      · exact hg f (by omega)
    · rw [if_neg (by omega), if_pos (by omega), Option.bind_some]
      exact ev_iff (fun q => q rfl) (ev_exit ⟨rfl, k, hk2, by omega⟩)
  · rintro (r | u) hx
    · exact ev_some (Or.inr hx)
    · exact ev_some (Or.inl ⟨rfl, hx⟩)
theorem isPrinted_m (hM : SM mm) (hP : BP mm b F n M Ln E) (s0 : Int) (hs0 : s0 = 0 ∨ s0 = 1) :
    Ev (lpb (fun s : Int × Int => b_X12_bind_28 mm 0 (b : Int) 1 s.1 s.2) (s0, 0)) (fun v => (v = 1 ∧ s0 = 1 ∧ ∀ f, f < 2 * n → 3 ≤ gN mm 108 0 (8 * b + f)) ∨ (v = 0 ∧ (s0 = 0 ∨ ∃ f, f < 2 * n ∧ gN mm 108 0 (8 * b + f) < 3))) := by
  have q0 := hP.hb
  have q1 := hP.hn
  refine lpb_run (fun s : Int × Int => ∃ k : Nat, s.2 = k ∧ k ≤ 2 * n ∧ ((s.1 = 1 ∧ s0 = 1 ∧ ∀ f, f < k → 3 ≤ gN mm 108 0 (8 * b + f)) ∨ (s.1 = 0 ∧ (s0 = 0 ∨ ∃ f, f < 2 * n ∧ gN mm 108 0 (8 * b + f) < 3)))) (fun s => 2 * n - s.2.toNat) ?_ _ ⟨0, rfl, by omega, ?_⟩
  · rintro ⟨x, _⟩ ⟨k, rfl, hk, hs⟩
    simp only at hs
    show Ev (b_X12_bind_28 mm 0 (b : Int) 1 x (k : Int)) _
    unfold b_X12_bind_28
    refine ev_iff (show ¬ (1 : Int) = 0 by decide) ?_
    rw [nk_of hM.r21, ldN_of hM.z74 (by omega), tnc, hP.n, ck_of ⟨by omega, by omega⟩]
    refine ev_if (fun hc => ev_exit ?_) fun hc => ?_
    · rcases hs with ⟨h1, h2, h3⟩ | ⟨h1, h2⟩
      · exact Or.inl ⟨h1, h2, fun f hf => h3 f (by omega)⟩
      · exact Or.inr ⟨h1, h2⟩
    · rcases hs with ⟨h1, h2, h3⟩ | ⟨h1, h2⟩
      · refine ev_iff (by omega) ?_
        rw [nk_of hM.r56, ldN_of hM.z108 (by omega), tn8]
        refine ev_if (fun hd => ev_ck (by omega) (ev_back ⟨k + 1, by simp, by omega, Or.inr ⟨rfl, Or.inr ⟨k, by omega, hd⟩⟩⟩ (by simp only; omega))) fun hd => ev_ck (by omega) (ev_back ⟨k + 1, by simp, by omega, Or.inl ⟨rfl, h2, fun f hf => ?_⟩⟩ (by simp only; omega))
        by_cases q : f = k
        · rw [q]; omega
        · exact h3 f (by omega)
      · exact ev_ift h1 (ev_ck (by omega) (ev_back ⟨k + 1, by simp, by omega, Or.inr ⟨rfl, h2⟩⟩ (by simp only; omega)))
  · rcases hs0 with rfl | rfl
    · exact Or.inr ⟨rfl, Or.inl rfl⟩
    · exact Or.inl ⟨rfl, rfl, fun f hf => absurd hf (by omega)⟩
theorem call_bind {a : Int} (h : RR N mc mm) : CalI N (f_X11_bind mc 0 a) (f_X12_bind mm 0 a) [0, 2] := by
  have m95 : ∀ v : Int, v ≠ 0 → j_X12_bind_0_95 mm 0 a 0 v = some (.inl (some (aI 0)), sN mm 12 0 0 v) := fun v hv => by
    unfold j_X12_bind_0_95; rw [holds1 _ hv, bI_ok, if_neg (fun q => q rfl)]
  unfold f_X11_bind f_X12_bind
  by_cases hb : 0 ≤ a ∧ a < gN mm 12 0 19
  · obtain ⟨b, rfl⟩ := Int.ex hb.1
    obtain ⟨F, n, M, Ln, E, hB⟩ := h.Bk b hb.2
    have hP := hB.hP
    have hS := hB.hS
    have q0 := hP.hb
    have q1 := hP.hn
    have q2 := hP.hL
    have q3 := hP.hE
    have q4 := hP.ml
    have c24 : j_X11_bind_0_24 mc b = some (.inr 2, bX mc) := by unfold j_X11_bind_0_24 j_X11_bind_0_25; rw [rqS0, bV_ex]; rfl
    rw [bookAt_ok h.Nb h.C hb.2, bR_ok, nk_some, isBook_ok h.Nb hb.2, Option.bind_some, if_neg (show ¬ (1 : Int) = 0 by decide), nk_of h.M.r26, ldN_of h.M.z79 (by omega), tnc, hB.lv.bd.1]
    have hF : ∀ f, f < 2 * n → gN mc 2 (8 * b + f) 4 = gN mm 108 0 (8 * b + f) ∧ gN mm 108 0 (8 * b + f) ≤ 4 := fun f hf => ⟨(hB.ff f hf).how.1, (hB.ff f hf).how.2.2⟩
    have bad : ∀ s0 : Int, (s0 = 0 ∨ s0 = 1) → (s0 = 0 ∨ ∃ f, f < 2 * n ∧ gN mm 108 0 (8 * b + f) < 3) → j_X12_bind_0_24 mm 0 (b : Int) 1 s0 = some (.inl (some (aI 0)), sN mm 12 0 0 2) := by
      intro s0 hs0 hs1
      unfold j_X12_bind_0_24
      obtain ⟨v, e1, e2⟩ := isPrinted_m h.M hP s0 hs0
      rw [e1, Option.bind_some]
      unfold j_X12_bind_0_77
      rcases e2 with ⟨rfl, w1, w2⟩ | ⟨rfl, w⟩
      · rcases hs1 with z | ⟨f, z1, z2⟩
        · omega
        · have := w2 f z1; omega
      · rw [if_pos (show ¬ (1 : Int) = 0 by decide), if_pos rfl, m95 2 (by decide)]
    rcases hB.lv.bd.2 with hbd | hbd
    · rw [hbd, if_neg (fun q => q rfl), if_neg (fun q => q rfl)]
      obtain ⟨v, e1, e2⟩ := isPrinted_c hP hS hF
      rw [e1, Option.bind_some]
      rcases e2 with ⟨rfl, hd⟩ | ⟨rfl, hd⟩
      · rw [if_neg (show ¬ (1 : Int) = 0 by decide)]
        unfold j_X11_bind_0_25 f_X0_gather j_X12_bind_0_24
        rw [rqS _ (by decide), bV_ok]
        obtain ⟨v, e1, e2⟩ := isPrinted_m h.M hP 1 (Or.inr rfl)
        rw [e1, Option.bind_some]
        unfold j_X12_bind_0_77
        rcases e2 with ⟨rfl, _, _⟩ | ⟨rfl, z | ⟨f, z1, z2⟩⟩
        rotate_left
        · omega
        · have := hd f z1; omega
        rw [if_pos (show ¬ (1 : Int) = 0 by decide), if_neg (show ¬ (1 : Int) = 0 by decide)]
        unfold j_X12_bind_0_95
        have hM0 := h.M.thr 0
        rw [holds0, bI_ok, if_pos (show ¬ (1 : Int) = 0 by decide), nk_of hM0.r26, stN_of hM0.z79 (by omega), tnc]
        have val : ∀ c l : Nat, c < 24 → l < F * n → ∃ s, l / F = s ∧ s < n := fun c l _ hl => ⟨_, rfl, leaf_lt hP.hF hl⟩
        -- leaves one by one
        have inner : ∀ (c : Nat) (m1 m2 : MM), c < E → FrC (WLc b) mc m1 → FrC (WLm b) mm m2 → gN m2 12 0 0 = 0 ∧ gN m2 79 0 b = 1 → (∀ c' l', c' < c → l' < F * n → gN m1 18 (24 * b + c') l' = gN m2 126 0 (8 * (24 * b + c') + l') ∧ -1 ≤ gN m2 126 0 (8 * (24 * b + c') + l') ∧ gN m2 126 0 (8 * (24 * b + c') + l') < E) →
            ∃ m1' m2', lpb (fun s : Int × MM => b_X0_gather_12 b (c : Int) s.1 s.2) (0, m1) = some m1' ∧ lpb (fun s : Int × MM => b_X12_bind_127 0 (b : Int) (c : Int) s.1 s.2) (0, m2) = some m2' ∧ FrC (WLc b) mc m1' ∧ FrC (WLm b) mm m2' ∧ (gN m2' 12 0 0 = 0 ∧ gN m2' 79 0 b = 1) ∧ ∀ c' l', c' < c + 1 → l' < F * n → gN m1' 18 (24 * b + c') l' = gN m2' 126 0 (8 * (24 * b + c') + l') ∧ -1 ≤ gN m2' 126 0 (8 * (24 * b + c') + l') ∧ gN m2' 126 0 (8 * (24 * b + c') + l') < E := by
          intro c m1 m2 hc f1 f2 f3 f4
          refine lpb_rel (b := fun s : Int × MM => b_X0_gather_12 b (c : Int) s.1 s.2) (c := fun s : Int × MM => b_X12_bind_127 0 (b : Int) (c : Int) s.1 s.2) (fun s t => ∃ k : Nat, s.1 = k ∧ t.1 = k ∧ k ≤ F * n ∧ FrC (WLc b) mc s.2 ∧ FrC (WLm b) mm t.2 ∧ (gN t.2 12 0 0 = 0 ∧ gN t.2 79 0 b = 1) ∧ ∀ c' l', (c' < c ∧ l' < F * n) ∨ (c' = c ∧ l' < k) → gN s.2 18 (24 * b + c') l' = gN t.2 126 0 (8 * (24 * b + c') + l') ∧ -1 ≤ gN t.2 126 0 (8 * (24 * b + c') + l') ∧ gN t.2 126 0 (8 * (24 * b + c') + l') < E) _ (fun s => F * n - s.1.toNat) ?_ (0, m1) (0, m2) ⟨0, rfl, rfl, by omega, f1, f2, f3, fun c' l' hcl => f4 c' l' (by omega) (by omega)⟩
          rintro ⟨_, m1⟩ ⟨_, m2⟩ ⟨k, rfl, rfl, hk, f1, f2, f3, f4⟩
          simp only at f1 f2 f3 f4
          have hS1 := f1.BS hS hP (fun K i s hk => by unfold CBS at hk; unfold WLc; omega)
          have hP2 := f2.BP hP (fun K h1 h2 => by unfold WLm; omega)
          have hM2 := f2.SM h.M (fun s hs => by unfold WLm at hs; omega)
          show (∃ s' t', b_X0_gather_12 b (c : Int) (k : Int) m1 = some (.inl s') ∧ b_X12_bind_127 0 (b : Int) (c : Int) (k : Int) m2 = some (.inl t') ∧ _) ∨ ∃ v v', b_X0_gather_12 b (c : Int) (k : Int) m1 = some (.inr v) ∧ b_X12_bind_127 0 (b : Int) (c : Int) (k : Int) m2 = some (.inr v') ∧ _
          have p1 : b_X0_gather_12 b (c : Int) (k : Int) m1 = if ((F * n : Nat) : Int) ≤ k then some (.inr m1) else some (.inl ((k : Int) + 1, sN m1 18 (24 * b + c) k (((c : Int) + gN mm 120 0 (4 * b + k / F)) % E))) := by
            unfold b_X0_gather_12
            rw [nk_of hS1.r9, ldR_of hS1.z17 (by omega), tnc, hS1.e17 c hc, nk_some, lenI_of (hS1.z18 c hc)]
            by_cases q : ((F * n : Nat) : Int) ≤ k
            · rw [if_pos q, if_pos q]
            · obtain ⟨s, hs, hs2⟩ := val c k (by omega) (by omega)
              have hF' := hP.hF
              have ht := (hB.sh s hs2).t
              have et : gN m1 8 (4 * b + s) 5 = gN mm 120 0 (4 * b + s) := by rw [(f1.1 8 (4 * b + s) 5 (by unfold WLc; omega)).1]; exact ht.1
              rw [if_neg q, if_neg q, hs, nk_of hS1.r9, ldR_of hS1.z17 (by omega), tnc, hS1.e17 c hc, nk_some, nk_of hS1.r7, hS1.f0, dv_of ⟨by omega, by omega⟩, divL hs, ldR_of hS1.z15 (by omega), tnc, hS1.e15 s hs2, nk_some, hS1.f3, et, ck_of ⟨by omega, by omega⟩, dv_of ⟨by omega, by omega⟩, stN_of (hS1.z18 c hc) (by omega), tnc, ck_of ⟨by omega, by omega⟩]
          have p2 : b_X12_bind_127 0 (b : Int) (c : Int) (k : Int) m2 = if ((F * n : Nat) : Int) ≤ k then some (.inr m2) else some (.inl ((k : Int) + 1, sN m2 126 0 (8 * (24 * b + c) + k) (((c : Int) + gN mm 120 0 (4 * b + k / F)) % E))) := by
            unfold b_X12_bind_127
            rw [pagesOf_m hM2 hP2, Option.bind_some, dv_of ⟨by omega, by omega⟩, show ((2 * (F * n) : Nat) : Int) / 2 = ((F * n : Nat) : Int) by omega]
            by_cases q : ((F * n : Nat) : Int) ≤ k
            · rw [if_pos q, if_pos q]
            · obtain ⟨s, hs, hs2⟩ := val c k (by omega) (by omega)
              have hF' := hP.hF
              have ht := (hB.sh s hs2).t
              have et : gN m2 120 0 (4 * b + s) = gN mm 120 0 (4 * b + s) := (f2.1 120 0 (4 * b + s) (by unfold WLm; omega)).1
              rw [if_neg q, if_neg q, hs, nk_of hM2.r76, leafAt_m _ b c k q0 (by omega) (by omega), Option.bind_some, nk_of hM2.r68, nk_of hM2.r20, ldN_of hM2.z73 (by omega), tnc, hP2.f, dv_of ⟨by omega, by omega⟩, divL hs, ldN_of hM2.z120 (by omega), tn4, et, nk_of hM2.r24, ldN_of hM2.z77 (by omega), tnc, hP2.e, ck_of ⟨by omega, by omega⟩, dv_of ⟨by omega, by omega⟩, stN_of hM2.z126 (by omega), tnc, ck_of ⟨by omega, by omega⟩]
          rw [p1, p2]
          by_cases q : ((F * n : Nat) : Int) ≤ k
          · rw [if_pos q, if_pos q]
            exact Or.inr ⟨_, _, rfl, rfl, f1, f2, f3, fun c' l' h1 h2 => f4 c' l' (by omega)⟩
          · rw [if_neg q, if_neg q]
            have hE0 : (0 : Int) < E := by omega
            have r1 := Int.emod_nonneg ((c : Int) + gN mm 120 0 (4 * b + k / F)) (show (E : Int) ≠ 0 by omega)
            have r2 := Int.emod_lt_of_pos ((c : Int) + gN mm 120 0 (4 * b + k / F)) hE0
            generalize ((c : Int) + gN mm 120 0 (4 * b + k / F)) % E = v at r1 r2
            refine Or.inl ⟨_, _, rfl, rfl, ⟨k + 1, by simp, by simp, by omega, f1.sN (by unfold WLc; omega), f2.sN (by unfold WLm; omega), ⟨by simp only; rw [gN_sN, if_neg (by omega)]; exact f3.1, by simp only; rw [gN_sN, if_neg (by omega)]; exact f3.2⟩, fun c' l' hcl => ?_⟩, by simp only; omega⟩
            simp only
            rw [gN_sN, gN_sN]
            by_cases w : c' = c ∧ l' = k
            · rw [if_pos (by omega), if_pos (by omega)]; omega
            · rw [if_neg (by omega), if_neg (by omega)]
              exact f4 c' l' (by omega)
        obtain ⟨m1, m2, e1, e2, f1, f2, f3, f4⟩ := lpb_rel (b := fun s : Int × MM => b_X0_gather_2 b s.1 s.2) (c := fun s : Int × MM => b_X12_bind_113 0 (b : Int) s.1 s.2) (fun s t => ∃ k : Nat, s.1 = k ∧ t.1 = k ∧ k ≤ E ∧ FrC (WLc b) mc s.2 ∧ FrC (WLm b) mm t.2 ∧ (gN t.2 12 0 0 = 0 ∧ gN t.2 79 0 b = 1) ∧ ∀ c' l', c' < k → l' < F * n → gN s.2 18 (24 * b + c') l' = gN t.2 126 0 (8 * (24 * b + c') + l') ∧ -1 ≤ gN t.2 126 0 (8 * (24 * b + c') + l') ∧ gN t.2 126 0 (8 * (24 * b + c') + l') < E)
          (fun m1 m2 => FrC (WLc b) mc m1 ∧ FrC (WLm b) mm m2 ∧ (gN m2 12 0 0 = 0 ∧ gN m2 79 0 b = 1) ∧ ∀ c' l', c' < E → l' < F * n → gN m1 18 (24 * b + c') l' = gN m2 126 0 (8 * (24 * b + c') + l') ∧ -1 ≤ gN m2 126 0 (8 * (24 * b + c') + l') ∧ gN m2 126 0 (8 * (24 * b + c') + l') < E) (fun s => E - s.1.toNat) (by
          rintro ⟨_, m1⟩ ⟨_, m2⟩ ⟨k, rfl, rfl, hk, f1, f2, f3, f4⟩
          simp only at f1 f2 f3 f4
          have hS1 := f1.BS hS hP (fun K i s hk => by unfold CBS at hk; unfold WLc; omega)
          have hP2 := f2.BP hP (fun K h1 h2 => by unfold WLm; omega)
          have hM2 := f2.SM h.M (fun s hs => by unfold WLm at hs; omega)
          show (∃ s' t', b_X0_gather_2 b (k : Int) m1 = some (.inl s') ∧ b_X12_bind_113 0 (b : Int) (k : Int) m2 = some (.inl t') ∧ _) ∨ ∃ v v', b_X0_gather_2 b (k : Int) m1 = some (.inr v) ∧ b_X12_bind_113 0 (b : Int) (k : Int) m2 = some (.inr v') ∧ _
          unfold b_X0_gather_2 b_X12_bind_113
          rw [hS1.f3, nk_of hM2.r24, ldN_of hM2.z77 (by omega), tnc, hP2.e]
          by_cases q : (E : Int) ≤ k
          · rw [if_pos q, if_pos q]
            exact Or.inr ⟨_, _, rfl, rfl, f1, f2, f3, fun c' l' h1 h2 => f4 c' l' (by omega) h2⟩
          · rw [if_neg q, if_neg q]
            obtain ⟨m1', m2', g1, g2, g3, g4, g5, g6⟩ := inner k m1 m2 (by omega) f1 f2 f3 f4
            rw [g1, g2, Option.bind_some, Option.bind_some]
            unfold j_X0_gather_2_58 j_X12_bind_113_186
            simp (disch := omega) only [ck_of]
            exact Or.inl ⟨_, _, rfl, rfl, ⟨k + 1, by simp, by simp, by omega, g3, g4, g5, g6⟩, by simp only; omega⟩) (0, mc) (0, sN (sN mm 12 0 0 0) 79 0 b 1) ⟨0, rfl, rfl, by omega, FrC.rf, (FrC.rf.sN (by unfold WLm; omega)).sN (by unfold WLm; omega), ⟨by simp only; rw [gN_sN, if_neg (by omega), gthr], by simp only; rw [gN_sN, if_pos ⟨rfl, rfl, rfl⟩]⟩, fun c' l' h1 => absurd h1 (by omega)⟩
        rw [e1, e2, Option.bind_some, Option.bind_some]
        unfold j_X0_gather_0_64 j_X12_bind_0_192
        have hP2 := f2.BP hP (fun K h1 h2 => by unfold WLm; omega)
        have hM2 := f2.SM h.M (fun s hs => by unfold WLm at hs; omega)
        have hS1 := f1.BS hS hP (fun K i s hk => by unfold CBS at hk; unfold WLc; omega)
        rw [lt_eq, bV_ok, show gN (sN m1 0 b 11 1) 0 b 3 = (E : Int) by rw [gN_sN, if_neg (by omega), hS1.f3], nk_of hM2.r24, ldN_of hM2.z77 (by omega), tnc, hP2.e]
        have hPf := h.Pf
        have hPc := h.Pc
        have cc : ∀ K i s', ¬ (K = 18 ∧ 24 * b ≤ i ∧ i < 24 * b + 24) ∧ ¬ (K = 0 ∧ i = b ∧ s' = 11) → eq3 mc (sN m1 0 b 11 1) K i s' := fun K i s' hk => (f1.1 K i s' hk.1).tr (eq3.sN hk.2)
        have cm : ∀ K i s', ¬ (K = 12 ∧ s' = 0) ∧ ¬ (K = 79 ∧ s' = b) ∧ ¬ (K = 126 ∧ 192 * b ≤ s' ∧ s' < 192 * b + 192) → eq3 mm m2 K i s' := fun K i s' hk => f2.1 K i s' (by unfold WLm; omega)
        have hzc : ∀ K i, gZ (sN m1 0 b 11 1) K i = gZ mc K i := f1.2.1
        refine ⟨_, _, _, _, rfl, rfl, Or.inl ⟨rfl, f3.1⟩, h.book (b0 := b) (Nat.le_succ N) hzc (fun K i k hk => by rw [f2.2.1]; exact hk) f1.2.2 hb.2 (fun K i s' hk => cc K i s' (by omega)) (fun K i s' hK hn => cc K i s' ⟨fun q => hn (CBk.e q.1 q.2), fun q => hn (CBk.a (by omega) q.2.1)⟩) (fun K i s' hk => cm K i s' (by omega)) (fun K s' h1 h2 hn => cm K 0 s' ⟨by omega, fun q => hn (MBk.a (by omega) q.2), fun q => hn (MBk.j q.1 q.2)⟩) ⟨F, n, M, Ln, E, hP.keep (fun K h1 h2 => (cm K 0 b (by omega)).1), hB.hS.keep hP (fun K i s hk => cc K i s (by unfold CBS at hk; omega)) (fun K i k hk => by rw [hzc]; exact hk), hB.tx.keep (fun K i s hk => cc K i s (by unfold CTx at hk; omega)) (fun K i s hk => cm K i s (by unfold MTx at hk; omega)), fun p hp => (hB.pg p hp).keep (by omega) (fun K i s hk => cc K i s (by unfold CPg at hk; omega)) (fun K i s hk => cm K i s (by unfold MPg at hk; omega)), fun p hp => (hB.po p hp).keep (by omega) (fun K i s hk => cc K i s (by unfold CPo at hk; omega)) (fun K i s hk => cm K i s (by unfold MPo at hk; omega)), fun p hp => (hB.pl p hp).keep (by have := (hB.pg p hp).pn; omega) (fun K i s hk => cc K i s (by unfold CPl at hk; omega)) (fun K i s hk => cm K i s (by unfold MPl at hk; omega)), fun f hf => (hB.ff f hf).keep (by omega) (fun K i s hk => cc K i s (by unfold CFo at hk; omega)) (fun K i s hk => cm K i s (by unfold MFo at hk; omega)) (by rw [(cm 12 0 69 (by omega)).1]; exact Int.le_refl _), fun p hp => (hB.pn p hp).keep (by have := (hB.pg p hp).pn; omega) (by have := (hB.ff _ (fo_lt hP.hF hp)).ns; omega) (fun K i s hk => cc K i s (by unfold CPn at hk; omega)) (fun K i s hk => cm K i s (by unfold MPn at hk; omega)), fun f hf => (hB.se f hf).keep (by omega) (fun p hp => by have := (hB.pg p hp).pn; omega) (fun K i s hk => cc K i s (by unfold CSe at hk; omega)) (fun K i s hk => cm K i s (by unfold MSe at hk; omega)) (fun x => by rw [(cm 63 0 x (by omega)).1]; exact Int.le_refl _), fun s hs => (hB.sh s hs).keep (by omega) (fun K i s' hk => cc K i s' (by unfold CSh at hk; omega)) (fun K i s' hk => cm K i s' (by unfold MSh at hk; omega)), ?_⟩ (hPf.keep (Nat.le_succ N) (fun K i s' hk => cm K i s' (by omega))) (hPc.keep (fun K i s' hk => cm K i s' (by omega)))⟩
        refine ⟨by rw [gN_sN, if_pos ⟨rfl, rfl, rfl⟩, f3.2]; exact ⟨rfl, Or.inr rfl⟩, fun _ c' l' h1 h2 => ?_, fun _ f hf => by rw [(cm 108 0 (8 * b + f) (by omega)).1]; exact hd f hf, fun f h1 h2 => by rw [(cm 108 0 (8 * b + f) (by omega)).1]; exact hB.lv.u f h1 h2⟩
        rw [gN_sN, if_neg (by omega)]
        exact f4 c' l' h1 h2
      · rw [if_pos rfl, c24, bad 1 (Or.inr rfl) (Or.inr hd)]
        exact CalI.bad (k := 1) h rfl rfl rfl
    · rw [hbd, if_pos (show ¬ (1 : Int) = 0 by decide), if_pos (show ¬ (1 : Int) = 0 by decide), c24]
      unfold j_X12_bind_0_23
      rw [bad 0 (Or.inl rfl) (Or.inl rfl)]
      exact CalI.bad (k := 1) h rfl rfl rfl
  · have m23 : j_X12_bind_0_23 mm 0 a 0 = some (.inl (some (aI 0)), sN mm 12 0 0 1) := by
      unfold j_X12_bind_0_23 j_X12_bind_0_24
      have e : lpb (fun s : Int × Int => b_X12_bind_28 mm 0 a 0 s.1 s.2) (0, 0) = some 0 := by
        rw [lpb_eq]
        rfl
      rw [e, Option.bind_some]
      unfold j_X12_bind_0_77
      rw [if_neg (fun q => q rfl), m95 1 (by decide)]
    rw [bookAt_bad h.Nb h.C hb, bR_ex, isBook_bad h.Nb hb, Option.bind_some, if_pos rfl, m23]
    exact CalI.bad (k := 0) h rfl rfl rfl
end LEAF
