/-! SPELLING. -/
section SPELL
variable {N : Nat} {mc mm : MM}
def AnyCopy (mm : MM) : Prop := ∃ b : Nat, (b : Int) < gN mm 12 0 19 ∧ gN mm 80 0 b ≠ 0
theorem someCopy_c (h : RR N mc mm) : Ev (f_X11_someBookHasCopy mc 0) (fun v => (v = 1 ∧ AnyCopy mm) ∨ (v = 0 ∧ ¬ AnyCopy mm)) := by
  have hnb := h.Nb.r
  unfold f_X11_someBookHasCopy
  rw [nk_of h.C.r3, lenI_of h.C.z56]
  refine ev_lp (Sum.elim (fun r => r = 1 ∧ AnyCopy mm) fun _ => ¬ AnyCopy mm) (fun s => ∃ k : Nat, s = k ∧ k ≤ 3 ∧ ∀ j : Nat, j < k → (j : Int) < gN mm 12 0 19 → gN mm 80 0 j = 0) (fun s => 3 - s.toNat) ⟨0, rfl, by omega, fun j hj => absurd hj (by omega)⟩ ?_ ?_
  · rintro _ ⟨k, rfl, hk, hg⟩
    unfold b_X11_someBookHasCopy_10
    refine ev_if (fun hc => ev_exit ?_) fun hc => ?_
    · rintro ⟨b, h1, h2⟩
      exact h2 (hg b (by omega) h1)
    · rw [ldR_of h.C.z56 (by omega), tnc]
      by_cases q : (k : Int) < gN mm 12 0 19
      · rw [h.Nb.s k q, if_neg (fun z => by cases z), nk_some]
        obtain ⟨F, n, M, Ln, E, hB⟩ := h.Bk k q
        have hcnt := hB.tx.cnt
        rw [nk_of hB.hS.r4, hcnt.1]
        refine ev_if (fun hd => ev_ck (by omega) (ev_back ⟨k + 1, by simp, by omega, fun j hj hj2 => ?_⟩ (by omega))) fun hd => ev_exit ⟨rfl, k, q, by omega⟩
        by_cases e : j = k
        · rw [e]; omega
        · exact hg j (by omega) hj2
      · rw [h.Nb.z k (by omega), if_pos rfl]
        exact ev_ck (by omega) (ev_back ⟨k + 1, by simp, by omega, fun j hj hj2 => hg j (by omega) hj2⟩ (by omega))
  · rintro (r | u) hx
    · exact ev_some (Or.inl hx)
    · exact ev_some (Or.inr ⟨rfl, hx⟩)
theorem someCopy_m (h : RR N mc mm) {x : Int} (hx : x = 0 ∨ x = 1) : Ev (lpb (fun s : Int × Int => b_X12_spelling_17 mm 0 s.1 s.2) (x, 0)) (fun v => (v = 1 ∧ x = 1 ∧ ¬ AnyCopy mm) ∨ (v = 0 ∧ (x = 0 ∨ AnyCopy mm))) := by
  have hnb := h.Nb.r
  have hM := h.M
  refine lpb_run (fun s : Int × Int => ∃ k : Nat, s.2 = k ∧ (k : Int) ≤ gN mm 12 0 19 ∧ ((s.1 = 1 ∧ x = 1 ∧ ∀ j : Nat, j < k → gN mm 80 0 j = 0) ∨ (s.1 = 0 ∧ (x = 0 ∨ AnyCopy mm)))) (fun s => 3 - s.2.toNat) ?_ _ ⟨0, rfl, by omega, ?_⟩
  · rintro ⟨y, _⟩ ⟨k, rfl, hk, hs⟩
    simp only at hs
    show Ev (b_X12_spelling_17 mm 0 y (k : Int)) _
    unfold b_X12_spelling_17
    refine ev_if (fun hc => ev_exit ?_) fun hc => ?_
    · rcases hs with ⟨h1, h2, h3⟩ | h1
      · exact Or.inl ⟨h1, h2, fun ⟨b, g1, g2⟩ => g2 (h3 b (by omega))⟩
      · exact Or.inr h1
    · rcases hs with ⟨rfl, h2, h3⟩ | ⟨rfl, h2⟩
      · refine ev_iff (show ¬ (1 : Int) = 0 by decide) ?_
        rw [nk_of hM.r27, ldN_of hM.z80 (by omega), tnc]
        refine ev_if (fun hd => ev_ck (by omega) (ev_back ⟨k + 1, by simp, by omega, Or.inr ⟨rfl, Or.inr ⟨k, by omega, hd⟩⟩⟩ (by simp only; omega))) fun hd => ev_ck (by omega) (ev_back ⟨k + 1, by simp, by omega, Or.inl ⟨rfl, h2, fun j hj => ?_⟩⟩ (by simp only; omega))
        by_cases e : j = k
        · rw [e]; omega
        · exact h3 j (by omega)
      · exact ev_ift rfl (ev_ck (by omega) (ev_back ⟨k + 1, by simp, by omega, Or.inr ⟨rfl, h2⟩⟩ (by simp only; omega)))
  · rcases hx with rfl | rfl
    · exact Or.inr ⟨rfl, Or.inl rfl⟩
    · exact Or.inl ⟨rfl, rfl, fun j hj => absurd hj (by omega)⟩
theorem spelling_m_bad (h : RR N mc mm) (hs : f_X12_isSpelling mm 0 = some 0) : f_X12_spelling mm 0 = some (.inl (some (aI 0)), sN mm 12 0 0 1) := by
  have go : ∀ x : Int, x = 0 ∨ x = 1 → j_X12_spelling_0_14 mm 0 x = some (.inl (some (aI 0)), sN mm 12 0 0 1) := fun x hx => by
    obtain ⟨v, e1, -⟩ := someCopy_m h hx
    unfold j_X12_spelling_0_14
    rw [e1, Option.bind_some]
    unfold j_X12_spelling_0_50 j_X12_spelling_0_71
    rw [hs, Option.bind_some, if_neg (fun q => q rfl), holds1 _ (by decide), bI_ok, if_neg (fun q => q rfl)]
  unfold f_X12_spelling
  rw [go 0 (Or.inl rfl), go 1 (Or.inr rfl)]
  split <;> rfl
theorem spelling_m_no (h : RR N mc mm) (hs : f_X12_isSpelling mm 0 = some 1) (hn : 6 ≤ gN mm 12 0 3 ∨ AnyCopy mm) : f_X12_spelling mm 0 = some (.inl (some (aI 0)), sN mm 12 0 0 2) := by
  have go : ∀ x : Int, (x = 0 ∨ x = 1) → (x = 0 ∨ AnyCopy mm) → j_X12_spelling_0_14 mm 0 x = some (.inl (some (aI 0)), sN mm 12 0 0 2) := fun x hx hx2 => by
    obtain ⟨v, e1, e2⟩ := someCopy_m h hx
    have hv : v = 0 := by
      rcases e2 with ⟨z1, z2, z3⟩ | z
      · rcases hx2 with q | q
        · omega
        · exact absurd q z3
      · exact z.1
    subst hv
    unfold j_X12_spelling_0_14
    rw [e1, Option.bind_some]
    unfold j_X12_spelling_0_50 j_X12_spelling_0_71
    rw [hs, Option.bind_some, if_pos (show ¬ (1 : Int) = 0 by decide), if_pos rfl, holds1 _ (by decide), bI_ok, if_neg (fun q => q rfl)]
  unfold f_X12_spelling
  by_cases q : 6 ≤ gN mm 12 0 3
  · rw [if_pos q]
    exact go 0 (Or.inl rfl) (Or.inl rfl)
  · rw [if_neg q]
    exact go 1 (Or.inr rfl) (Or.inr (hn.resolve_left q))
theorem spelling_m_ok (h : RR N mc mm) (hs : f_X12_isSpelling mm 0 = some 1) (hn : ¬ 6 ≤ gN mm 12 0 3) (ha : ¬ AnyCopy mm) : f_X12_spelling mm 0 = j_X12_spelling_0_71 mm 0 0 0 := by
  unfold f_X12_spelling
  rw [if_neg hn]
  obtain ⟨v, e1, e2⟩ := someCopy_m h (x := 1) (Or.inr rfl)
  have hv : v = 1 := by
    rcases e2 with ⟨z1, z2, z3⟩ | ⟨z1, z2 | z2⟩
    · exact z1
    · omega
    · exact absurd z2 ha
  subst hv
  unfold j_X12_spelling_0_14
  rw [e1, Option.bind_some]
  unfold j_X12_spelling_0_50
  rw [hs, Option.bind_some, if_pos (show ¬ (1 : Int) = 0 by decide), if_neg (show ¬ (1 : Int) = 0 by decide)]
/-- a spelling more -/
theorem RSp.add {mc mm mc' mm' : MM} {n : Nat} {c0 c1 w0 w1 : Int64} (h : RSp mc mm) (hn : gN mm 12 0 3 = n) (h6 : n < 6)
    (hw0 : WW c0 w0) (hw1 : WW c1 w1) (hl : mln w0 + 1 ≤ mln w1 ∧ mln w1 ≤ mln w0 + 3)
    (s0 : ∀ s, s < n → gL mm 60 0 s ≠ w0 ∧ gL mm 61 0 s ≠ w0) (s1 : ∀ s, s < n → gL mm 60 0 s ≠ w1 ∧ gL mm 61 0 s ≠ w1)
    (a6 : gN mc' 10 0 6 = n + 1) (b3 : gN mm' 12 0 3 = n + 1) (a53 : ∀ s, gL mc' 53 0 s = if s = n then c0 else gL mc 53 0 s) (a54 : ∀ s, gL mc' 54 0 s = if s = n then c1 else gL mc 54 0 s)
    (b60 : ∀ s, gL mm' 60 0 s = if s = n then w0 else gL mm 60 0 s) (b61 : ∀ s, gL mm' 61 0 s = if s = n then w1 else gL mm 61 0 s) : RSp mc' mm' := by
  have hw01 : w0 ≠ w1 := fun q => by rw [q] at hl; omega
  refine ⟨by rw [a6, b3], by rw [b3]; omega, fun s hs => ?_, fun s hs => ?_, fun s t hs ht hst => ?_⟩
  · rw [b3] at hs
    rw [a53, a54, b60, b61]
    by_cases q : s = n
    · rw [if_pos q, if_pos q, if_pos q, if_pos q]; exact ⟨hw0, hw1⟩
    · rw [if_neg q, if_neg q, if_neg q, if_neg q]; exact h.w s (by omega)
  · rw [b3] at hs
    rw [b60, b61]
    by_cases q : s = n
    · rw [if_pos q, if_pos q]; exact hl
    · rw [if_neg q, if_neg q]; exact h.l s (by omega)
  · rw [b3] at hs ht
    rw [b60, b61, b60, b61]
    by_cases q : s = n
    · have q' : ¬ t = n := fun z => hst (by rw [q, z])
      rw [if_pos q, if_pos q, if_neg q', if_neg q']
      have z0 := s0 t (by omega)
      have z1 := s1 t (by omega)
      exact ⟨z0.1.symm, z1.2.symm, z0.2.symm⟩
    · by_cases q' : t = n
      · rw [if_neg q, if_neg q, if_pos q', if_pos q']
        have z0 := s0 s (by omega)
        have z1 := s1 s (by omega)
        exact ⟨z0.1, z1.2, z1.1⟩
      · rw [if_neg q, if_neg q, if_neg q', if_neg q']; exact h.d s t (by omega) (by omega) hst
theorem SpR.no {n : Nat} {br am : Nat → Int64} {w : Int64} {v : Int} (h : SpR n br am w v) (hv : v = -1) : ∀ s, s < n → br s ≠ w ∧ am s ≠ w := by
  rcases h with ⟨-, h⟩ | ⟨s, h1, h2, -⟩
  · exact h
  · omega
theorem call_spelling (h : RR N mc mm) : CalI N (f_X11_spelling mc 0) (f_X12_spelling mm 0) [1, 2] := by
  obtain ⟨T, hTM, hTC⟩ := tm_of h
  obtain ⟨fv, ef1, ef2, ef3, ef4⟩ := fault_same h.C h.M h.T
  have r1 : ∀ {m1 : MM}, FrC WSp mc m1 → f_X10_isPair mc 0 = some (.inl (some (aI 0)), m1) → f_X12_isSpelling mm 0 = some 0 → CalI N (f_X11_spelling mc 0) (f_X12_spelling mm 0) [1, 2] := fun {m1} hF e1 e2 => by
    refine CalI.bad (k := 0) (h.scrC hF) (e := 1) ?_ (spelling_m_bad h e2) rfl
    unfold f_X11_spelling
    rw [nk_of h.C.r0, e1, bI_ok, rqA0, bV_ex]
    rfl
  by_cases hf : fv = -1
  · have hok : TextOK (fun k => gN mm 59 0 k) T := by
      obtain ⟨v, e1, e2⟩ := fault_m hTM
      rw [ef2] at e1
      cases e1
      exact e2 hf
    obtain ⟨⟨r, m1⟩, e1, e2, hF1, hSp1⟩ := splitText_c hok hTC
    simp only at e2 hF1 hSp1
    subst e2
    have h1 := h.scrC hF1
    have hs40 := sps_le (t := fun k => gN mm 59 0 k) T
    have hT40 := hTM.h
    have hsp : f_X10_isPair mc 0 = (if ¬ ((sps (fun k => gN mm 59 0 k) T + 1 : Nat) : Int) = 2 then (some (.inl (some (aI 0)), m1)) else nk 52 (gR m1 10 0 2) fun i4 => ldN m1 52 i4 0 fun v5 => if ¬ v5 = 0 then (some (.inl (some (aI 0)), m1)) else some (.inl (some (aI 1)), m1)) := by
      unfold f_X10_isPair
      rw [isText_c ef1, Option.bind_some, if_pos hf, if_neg (show ¬ (1 : Int) = 0 by decide), e1, bI_ok]
    have hms : f_X12_isSpelling mm 0 = (if ¬ ((sps (fun k => gN mm 59 0 k) T + 1 : Nat) : Int) = 2 then (some 0) else
      (f_X12_tapeEnds mm 0 0).bind fun v3 => if v3 = 0 then ((f_X12_tapeWord mm 0 1).bind fun v4 => (f_X12_letters mm v4).bind fun v5 => (f_X12_tapeWord mm 0 0).bind fun v6 => (f_X12_letters mm v6).bind fun v7 => ck (v5 - v7) <| (f_X12_isIn mm (v5 - v7) 1 3).bind fun v8 => if v8 = 0 then (some 0) else
      (f_X12_tapeWord mm 0 0).bind fun v9 => (f_X12_spellingOf mm 0 v9).bind fun v10 => if ¬ v10 = (-1) then (some 0) else
      (f_X12_tapeWord mm 0 1).bind fun v11 => (f_X12_spellingOf mm 0 v11).bind fun v12 => if ¬ v12 = (-1) then (some 0) else
      some 1) else some 0) := by
      unfold f_X12_isSpelling
      rw [ef2, Option.bind_some, if_neg (fun q => q hf), tapeWords_m hTM, Option.bind_some]
    by_cases hq2 : sps (fun k => gN mm 59 0 k) T = 1
    · rw [if_neg (fun q => q (by omega))] at hsp hms
      obtain ⟨_, t0, e0, he0, hs0, rfl⟩ := tapeWord_m hok hTM (i := 0) (by omega)
      obtain ⟨_, t1, e1', he1, hs1, rfl⟩ := tapeWord_m hok hTM (i := 1) (by omega)
      obtain ⟨_, t2, e2', he2, hs2, rfl⟩ := tapeEnds_m hTM (i := 0) (by omega)
      have hee : e2' = e0 := bnd_one he2 he0 (by rw [hs0, hs2])
      subst hee
      obtain ⟨p1, p2⟩ := hSp1 e2' he0
      obtain ⟨p3, -⟩ := hSp1 e1' he1
      rw [hs0] at p1 p2
      rw [hs1] at p3
      have w0 : WW (Int64.ofNat (cwN (wl (fun k => gN mm 59 0 k) e2'))) (Int64.ofNat (mwN (wl (fun k => gN mm 59 0 k) e2'))) := ⟨_, wl_ok hok he0.1, rfl, rfl⟩
      have w1 : WW (Int64.ofNat (cwN (wl (fun k => gN mm 59 0 k) e1'))) (Int64.ofNat (mwN (wl (fun k => gN mm 59 0 k) e1'))) := ⟨_, wl_ok hok he1.1, rfl, rfl⟩
      have hF0 : FrC (fun K i s => K = 12 ∧ s = 0) mm (sN mm 12 0 0 0) := FrC.rf.sN ⟨rfl, rfl⟩
      have hTM0 : TM (sN mm 12 0 0 0) (fun k => gN mm 59 0 k) T := hTM.mv hF0 (by omega) (fun s => by omega) (fun s hs => by omega)
      have t0' : f_X12_tapeWord (sN mm 12 0 0 0) 0 0 = some (Int64.ofNat (mwN (wl (fun k => gN mm 59 0 k) e2'))) := by
        obtain ⟨_, t3, e3, he3, hs3, rfl⟩ := tapeWord_m hok hTM0 (i := 0) (by omega)
        have : e3 = e2' := bnd_one he3 he0 (by rw [hs0, hs3])
        subst this
        exact t3
      have t1' : ∀ k x, f_X12_tapeWord (sL (sN mm 12 0 0 0) 60 0 k x) 0 1 = some (Int64.ofNat (mwN (wl (fun k => gN mm 59 0 k) e1'))) := fun k x => by
        have hTM1 : TM (sL (sN mm 12 0 0 0) 60 0 k x) (fun k => gN mm 59 0 k) T := ⟨hTM0.M.mv2 (fun _ _ => rfl) (fun _ _ _ q => q), hTM0.n, hTM0.h, hTM0.t⟩
        obtain ⟨_, t3, e3, he3, hs3, rfl⟩ := tapeWord_m hok hTM1 (i := 1) (by omega)
        have : e3 = e1' := bnd_one he3 he1 (by rw [hs1, hs3])
        subst this
        exact t3
      generalize Int64.ofNat (cwN (wl (fun k => gN mm 59 0 k) e2')) = c0 at *
      generalize Int64.ofNat (mwN (wl (fun k => gN mm 59 0 k) e2')) = x0 at *
      generalize Int64.ofNat (cwN (wl (fun k => gN mm 59 0 k) e1')) = c1 at *
      generalize Int64.ofNat (mwN (wl (fun k => gN mm 59 0 k) e1')) = x1 at *
      rw [nk_of h1.C.w2, ldN_of h1.C.z52 (by omega), show (0 : Int).toNat = 0 from rfl, p2] at hsp
      rw [show (f_X12_tapeEnds mm 0 0) = _ from t2, Option.bind_some] at hms
      by_cases hend : e2' = T ∨ gN mm 59 0 e2' = 47
      · rw [if_pos hend] at hsp hms
        rw [if_pos (show ¬ (1 : Int) = 0 by decide)] at hsp
        rw [if_neg (show ¬ (1 : Int) = 0 by decide)] at hms
        exact r1 hF1 hsp hms
      · rw [if_neg hend] at hsp hms
        rw [if_neg (fun q => q rfl)] at hsp
        have l0 := w0.lw.2
        have l1 := w1.lw.2
        rw [if_pos rfl, show (f_X12_tapeWord mm 0 1) = _ from t1, Option.bind_some, w1.len_m, Option.bind_some, show (f_X12_tapeWord mm 0 0) = _ from t0, Option.bind_some, w0.len_m, Option.bind_some, ck_of ⟨by omega, by omega⟩, isIn_m, Option.bind_some, Option.bind_some] at hms
        have hcs : f_X11_spelling mc 0 = if ((mln x1 : Int) - (mln x0 : Int)) < 1 then (j_X11_spelling_0_57 m1 0 c0 c1) else if 3 < ((mln x1 : Int) - (mln x0 : Int)) then (j_X11_spelling_0_57 m1 0 c0 c1) else j_X11_spelling_0_58 m1 0 c0 c1 1 := by
          unfold f_X11_spelling
          rw [nk_of h.C.r0, hsp, bI_ok, rqA _ (by decide), bV_ok, nk_of h1.C.r0, nk_of h1.C.w1, ldL_of h1.C.z51 (by omega), show (0 : Int).toNat = 0 from rfl, p1, nk_of h1.C.r0, nk_of h1.C.w1, ldL_of h1.C.z51 (by omega), show (1 : Int).toNat = 1 from rfl, p3, w1.len_c, Option.bind_some, w0.len_c, Option.bind_some, ck_of ⟨by omega, by omega⟩]
        have a1 : ∀ s, f_X11_spelling mc 0 = some (.inr 1, bX m1) → f_X12_isSpelling mm 0 = some s → s = 0 → CalI N (f_X11_spelling mc 0) (f_X12_spelling mm 0) [1, 2] := fun s q1 q2 q3 => by
          subst q3
          exact CalI.bad (k := 0) h1 q1 (spelling_m_bad h q2) rfl
        by_cases hl : mln x0 + 1 ≤ mln x1 ∧ mln x1 ≤ mln x0 + 3
        · rw [if_neg (by omega), if_neg (by omega)] at hcs
          rw [if_pos (show 1 ≤ (mln x1 : Int) - (mln x0 : Int) ∧ (mln x1 : Int) - (mln x0 : Int) ≤ 3 by omega), if_neg (show ¬ (1 : Int) = 0 by decide)] at hms
          obtain ⟨nS, hnS⟩ := Int.ex h.Sp.b.1
          have hnS6 : nS ≤ 6 := by have := h.Sp.b.2; omega
          have hcS : gN m1 10 0 6 = nS := by rw [h1.Sp.c]; exact hnS
          obtain ⟨u0, g0, k0⟩ := spelling_c (w := c0) h1.C hcS hnS6
          obtain ⟨u1, g1, k1⟩ := spelling_c (w := c1) h1.C hcS hnS6
          obtain ⟨y0, g2, k2⟩ := spelling_m (w := x0) h.M hnS hnS6
          obtain ⟨y1, g3, k3⟩ := spelling_m (w := x1) h.M hnS hnS6
          have hy0 : u0 = y0 := (k0.rel (fun s hs => (h1.Sp.w s (by omega)).1) (fun s hs => (h1.Sp.w s (by omega)).2) w0).one k2
          have hy1 : u1 = y1 := (k1.rel (fun s hs => (h1.Sp.w s (by omega)).1) (fun s hs => (h1.Sp.w s (by omega)).2) w1).one k3
          subst hy0
          subst hy1
          rw [g2, Option.bind_some, Option.bind_some, g3, Option.bind_some] at hms
          have c89 : j_X11_spelling_0_89 m1 0 c0 c1 = some (.inr 1, bX m1) := by unfold j_X11_spelling_0_89 j_X11_spelling_0_90; rw [rqA0, bV_ex]; rfl
          have hcs2 : f_X11_spelling mc 0 = if ¬ u0 = -1 then some (.inr 1, bX m1) else if ¬ u1 = -1 then some (.inr 1, bX m1) else j_X11_spelling_0_90 m1 0 c0 c1 1 := by
            rw [hcs]
            unfold j_X11_spelling_0_58
            rw [rqA _ (by decide), bV_ok, nk_of h1.C.r0, g0, Option.bind_some, c89, nk_of h1.C.r0, g1, Option.bind_some]
          by_cases hu0 : u0 = -1
          · rw [if_neg (fun q => q hu0)] at hcs2 hms
            by_cases hu1 : u1 = -1
            · rw [if_neg (fun q => q hu1)] at hcs2 hms
              obtain ⟨v, f1, f2⟩ := someCopy_c h1
              have c116 : j_X11_spelling_0_116 m1 0 c0 c1 = some (.inr 2, bX m1) := by unfold j_X11_spelling_0_116 j_X11_spelling_0_117; rw [rqS0, bV_ex]; rfl
              have hcs3 : f_X11_spelling mc 0 = if 6 ≤ gN mm 12 0 3 then some (.inr 2, bX m1) else if ¬ v = 0 then some (.inr 2, bX m1) else j_X11_spelling_0_117 m1 0 c0 c1 1 := by
                rw [hcs2]
                unfold j_X11_spelling_0_90
                rw [rqA _ (by decide), bV_ok, nk_of h1.C.r0, h1.Sp.c, c116, f1, Option.bind_some]
              by_cases hn6 : 6 ≤ gN mm 12 0 3
              · rw [if_pos hn6] at hcs3
                exact CalI.bad (k := 1) h1 hcs3 (spelling_m_no h hms (Or.inl hn6)) rfl
              · rw [if_neg hn6] at hcs3
                rcases f2 with ⟨rfl, ha⟩ | ⟨rfl, ha⟩
                · rw [if_pos (show ¬ (1 : Int) = 0 by decide)] at hcs3
                  exact CalI.bad (k := 1) h1 hcs3 (spelling_m_no h hms (Or.inr ha)) rfl
                · rw [if_neg (fun q => q rfl)] at hcs3
                  have hcs4 : f_X11_spelling mc 0 = some (.inl (some (aI nS)), sN (sL (sL (sN m1 10 0 5 0) 53 0 nS c0) 54 0 nS c1) 10 0 6 (nS + 1)) := by
                    rw [hcs3]
                    unfold j_X11_spelling_0_117
                    rw [rqS _ (by decide), bV_ok, nk_of h1.C.r0, lt_eq]
                    have hC2 : SC (sN m1 10 0 5 0) := h1.C.mv2 (fun _ _ _ _ => rfl) (fun _ _ _ q => q)
                    have hC3 : SC (sL (sN m1 10 0 5 0) 53 0 nS c0) := h1.C.mv2 (fun _ _ _ _ => rfl) (fun _ _ _ q => q)
                    have e6 : gN (sN m1 10 0 5 0) 10 0 6 = nS := by rw [gN_sN, if_neg (by omega), hcS]
                    have e6' : gN (sL (sN m1 10 0 5 0) 53 0 nS c0) 10 0 6 = nS := e6
                    have e6'' : gN (sL (sL (sN m1 10 0 5 0) 53 0 nS c0) 54 0 nS c1) 10 0 6 = nS := e6
                    rw [nk_of hC2.r0]
                    unfold f_X10_addSpelling j_X10_addSpelling_0_42
                    rw [nk_of hC2.w3, lenI_of hC2.z53, e6, if_neg (by omega), nk_of hC2.w3, stL_of hC2.z53 (by omega), tnc, nk_of hC3.w4, e6', stL_of hC3.z54 (by omega), tnc, e6'', ck_of ⟨by omega, by omega⟩, lt_eq, gN_sN, if_pos ⟨rfl, rfl, rfl⟩, ck_of ⟨by omega, by omega⟩, bI_ok, show (nS : Int) + 1 - 1 = nS by omega]
                  have hms4 : f_X12_spelling mm 0 = some (.inl (some (aI nS)), sN (sN (sL (sL (sN mm 12 0 0 0) 60 0 nS x0) 61 0 nS x1) 12 0 3 (nS + 1)) 12 0 1 0) := by
                    rw [spelling_m_ok h hms hn6 ha]
                    unfold j_X12_spelling_0_71
                    have hM2 : SM (sN mm 12 0 0 0) := hTM0.M
                    have hM3 : SM (sL (sN mm 12 0 0 0) 60 0 nS x0) := hM2.mv2 (fun _ _ => rfl) (fun _ _ _ q => q)
                    have e3 : gN (sN mm 12 0 0 0) 12 0 3 = nS := by rw [gthr' _ _ (by omega), hnS]
                    have e3' : gN (sL (sN mm 12 0 0 0) 60 0 nS x0) 12 0 3 = nS := e3
                    have e3'' : gN (sL (sL (sN mm 12 0 0 0) 60 0 nS x0) 61 0 nS x1) 12 0 3 = nS := e3
                    have e3f : gN (sN (sN (sL (sL (sN mm 12 0 0 0) 60 0 nS x0) 61 0 nS x1) 12 0 3 ((nS : Int) + 1)) 12 0 1 0) 12 0 3 = nS + 1 := by rw [gN_sN, if_neg (by omega), gN_sN, if_pos ⟨rfl, rfl, rfl⟩]
                    rw [holds0, bI_ok, if_pos (show ¬ (1 : Int) = 0 by decide), nk_of hM2.r4, t0', Option.bind_some, e3, stL_of hM2.z60 (by omega), tnc, nk_of hM3.r5, t1', Option.bind_some, e3', stL_of hM3.z61 (by omega), tnc, e3'', ck_of ⟨by omega, by omega⟩, lt_eq, lt_eq, e3f, ck_of ⟨by omega, by omega⟩, show (nS : Int) + 1 - 1 = nS by omega]
                  have cc : ∀ K i s', ¬ (K = 10 ∧ (s' = 5 ∨ s' = 6)) ∧ ¬ (51 ≤ K ∧ K ≤ 54) → eq3 mc (sN (sL (sL (sN m1 10 0 5 0) 53 0 nS c0) 54 0 nS c1) 10 0 6 (nS + 1)) K i s' := fun K i s' hk => ((((hF1.1 K i s' (by unfold WSp; omega)).tr (eq3.sN (by omega))).tr (eq3.sL (by omega))).tr (eq3.sL (by omega))).tr (eq3.sN (by omega))
                  have cm : ∀ K i s', ¬ (K = 12 ∧ (s' = 0 ∨ s' = 1 ∨ s' = 3)) ∧ ¬ (K = 60 ∨ K = 61) → eq3 mm (sN (sN (sL (sL (sN mm 12 0 0 0) 60 0 nS x0) 61 0 nS x1) 12 0 3 (nS + 1)) 12 0 1 0) K i s' := fun K i s' hk => ((((eq3.sN (by omega)).tr (eq3.sL (by omega))).tr (eq3.sL (by omega))).tr (eq3.sN (by omega))).tr (eq3.sN (by omega))
                  have hSp' : RSp (sN (sL (sL (sN m1 10 0 5 0) 53 0 nS c0) 54 0 nS c1) 10 0 6 (nS + 1)) (sN (sN (sL (sL (sN mm 12 0 0 0) 60 0 nS x0) 61 0 nS x1) 12 0 3 (nS + 1)) 12 0 1 0) := by
                    refine h1.Sp.add hnS (by omega) w0 w1 hl (k2.no hu0) (k3.no hu1) ?_ ?_ (fun s => ?_) (fun s => ?_) (fun s => ?_) (fun s => ?_)
                    · rw [gN_sN, if_pos ⟨rfl, rfl, rfl⟩]
                    · rw [gN_sN, if_neg (by omega), gN_sN, if_pos ⟨rfl, rfl, rfl⟩]
                    · rw [gL_sN, gL_sL, if_neg (by omega), gL_sL]
                      by_cases q : s = nS
                      · rw [if_pos ⟨rfl, rfl, q⟩, if_pos q]
                      · rw [if_neg (fun z => q z.2.2), if_neg q]; rfl
                    · rw [gL_sN, gL_sL]
                      by_cases q : s = nS
                      · rw [if_pos ⟨rfl, rfl, q⟩, if_pos q]
                      · rw [if_neg (fun z => q z.2.2), if_neg q, gL_sL, if_neg (by omega)]; rfl
                    · rw [gL_sN, gL_sN, gL_sL, if_neg (by omega), gL_sL]
                      by_cases q : s = nS
                      · rw [if_pos ⟨rfl, rfl, q⟩, if_pos q]
                      · rw [if_neg (fun z => q z.2.2), if_neg q]; rfl
                    · rw [gL_sN, gL_sN, gL_sL]
                      by_cases q : s = nS
                      · rw [if_pos ⟨rfl, rfl, q⟩, if_pos q]
                      · rw [if_neg (fun z => q z.2.2), if_neg q, gL_sL, if_neg (by omega)]; rfl
                  have hthr : gN (sN (sN (sL (sL (sN mm 12 0 0 0) 60 0 nS x0) 61 0 nS x1) 12 0 3 (nS + 1)) 12 0 1 0) 12 0 0 = 0 := by rw [gN_sN, if_neg (by omega), gN_sN, if_neg (by omega)]; exact gthr mm 0
                  have h5 : gN (sN (sL (sL (sN m1 10 0 5 0) 53 0 nS c0) 54 0 nS c1) 10 0 6 (nS + 1)) 10 0 5 = 0 := by
                    rw [gN_sN, if_neg (by omega)]
                    show gN (sN m1 10 0 5 0) 10 0 5 = 0
                    rw [gN_sN, if_pos ⟨rfl, rfl, rfl⟩]
                  have h11 : gN (sN (sN (sL (sL (sN mm 12 0 0 0) 60 0 nS x0) 61 0 nS x1) 12 0 3 (nS + 1)) 12 0 1 0) 12 0 1 = 0 := by rw [gN_sN, if_pos ⟨rfl, rfl, rfl⟩]
                  have hzc : ∀ K i, gZ (sN (sL (sL (sN m1 10 0 5 0) 53 0 nS c0) 54 0 nS c1) 10 0 6 (nS + 1)) K i = gZ mc K i := hF1.2.1
                  have hCC : ∀ K, gC (sN (sL (sL (sN m1 10 0 5 0) 53 0 nS c0) 54 0 nS c1) 10 0 6 (nS + 1)) K = gC mc K := hF1.2.2
                  have hzm : ∀ K i k, gZ mm K i = some k → gZ (sN (sN (sL (sL (sN mm 12 0 0 0) 60 0 nS x0) 61 0 nS x1) 12 0 3 (nS + 1)) 12 0 1 0) K i = some k := fun _ _ _ q => q
                  refine ⟨_, _, _, _, hcs4, hms4, Or.inl ⟨rfl, hthr⟩, ?_⟩
                  clear hcs hcs2 hcs3 hcs4 hms hms4 hsp r1 a1
                  generalize (sN (sL (sL (sN m1 10 0 5 0) 53 0 nS c0) 54 0 nS c1) 10 0 6 (nS + 1)) = mc' at *
                  generalize (sN (sN (sL (sL (sN mm 12 0 0 0) 60 0 nS x0) 61 0 nS x1) 12 0 3 (nS + 1)) 12 0 1 0) = mm' at *
                  refine ⟨h.C.mv2 (fun K i s hk => (cc K i s (by omega)).2.2) (fun K i k hk => by rw [hzc]; exact hk), h.M.mv2 (fun s hs => (cm 12 0 s (by omega)).2.2) hzm, ⟨by rw [h5, h11], by omega, by omega, fun k hk => by omega⟩, hSp',
                    h.Ca.keep (cc 1 0 5 (by omega)).1 (cm 12 0 6 (by omega)).1 (fun K h1 h2 k => (cc K 0 k (by omega)).1) (fun K h1 h2 k => (cm K 0 k (by omega)).1), h.H.keep (by omega) (fun K i s hk => cc K i s (by omega)) (hCC 3) (fun K i s hk => cm K i s (by omega)), h.Mi.keep (fun K i s hk => cc K i s (by omega)) (fun K i s hk => cm K i s (by omega)), h.Pr.keep (fun i s _ => cc 6 i s (by omega)) (fun K s h1 h2 => cm K 0 s (by omega)), h.Nb.keep (cc 11 0 8 (by omega)).1 (cm 12 0 19 (by omega)).1 (fun s => (cc 56 0 s (by omega)).2.2), fun b hb => ?_, h.Pf.keep (Nat.le_succ N) (fun K i s hk => cm K i s (by omega)), h.Pc.keep (fun K i s hk => cm K i s (by omega)), h.Fr.keep (cm 12 0 19 (by omega)).1 hCC hzc (fun K i s hK _ => cc K i s (by unfold isBK at hK; omega)) (fun K i hK _ => (cm K 0 i (by unfold isMK at hK; omega)).1)⟩
                  rw [(cm 12 0 19 (by omega)).1] at hb
                  obtain ⟨F, n, M, Ln, E, hB⟩ := h.Bk b hb
                  have hP := hB.hP
                  have q0 := hP.hb
                  have q1 := hP.hn
                  have q2 := hP.hL
                  have q3 := hP.hE
                  have q4 := hP.ml
                  have hx := hB.tx
                  have h80 : gN mm 80 0 b = 0 := by
                    refine Classical.byContradiction fun q => ha ⟨b, hb, q⟩
                  have b80 : gN mm' 80 0 b = gN mm 80 0 b := (cm 80 0 b (by omega)).1
                  have b78 : gN mm' 78 0 b = gN mm 78 0 b := (cm 78 0 b (by omega)).1
                  refine ⟨F, n, M, Ln, E, hP.keep (fun K h1 h2 => (cm K 0 b (by omega)).1), hB.hS.keep hP (fun K i s hk => cc K i s (by unfold CBS at hk; omega)) (fun K i k hk => by rw [hzc]; exact hk), ⟨by rw [(cc 9 b 5 (by omega)).1, b80]; exact hx.cnt, fun k hk => by omega, fun k hk => by omega, fun k hk => by omega, fun k hk => by omega, by rw [b78, b80]; exact hx.pc, by rw [(cc 0 b 10 (by omega)).1, b78]; exact hx.co, fun z p hp => ?_⟩, fun p hp => (hB.pg p hp).keep (by omega) (fun K i s hk => cc K i s (by unfold CPg at hk; omega)) (fun K i s hk => cm K i s (by unfold MPg at hk; omega)), fun p hp => (hB.po p hp).keep (by omega) (fun K i s hk => cc K i s (by unfold CPo at hk; omega)) (fun K i s hk => cm K i s (by unfold MPo at hk; omega)), fun p hp => (hB.pl p hp).keep (by have := (hB.pg p hp).pn; omega) (fun K i s hk => cc K i s (by unfold CPl at hk; omega)) (fun K i s hk => cm K i s (by unfold MPl at hk; omega)), fun f hf => (hB.ff f hf).keep (by omega) (fun K i s hk => cc K i s (by unfold CFo at hk; omega)) (fun K i s hk => cm K i s (by unfold MFo at hk; omega)) (by rw [(cm 12 0 69 (by omega)).1]; exact Int.le_refl _), fun p hp => (hB.pn p hp).keep (by have := (hB.pg p hp).pn; omega) (by have := (hB.ff _ (fo_lt hP.hF hp)).ns; omega) (fun K i s hk => cc K i s (by unfold CPn at hk; omega)) (fun K i s hk => cm K i s (by unfold MPn at hk; omega)), fun f hf => (hB.se f hf).keep (by omega) (fun p hp => by have := (hB.pg p hp).pn; omega) (fun K i s hk => cc K i s (by unfold CSe at hk; omega)) (fun K i s hk => cm K i s (by unfold MSe at hk; omega)) (fun x => by rw [(cm 63 0 x (by omega)).1]; exact Int.le_refl _), fun s hs => (hB.sh s hs).keep (by omega) (fun K i s' hk => cc K i s' (by unfold CSh at hk; omega)) (fun K i s' hk => cm K i s' (by unfold MSh at hk; omega)), hB.lv.keep (by omega) (by omega) (by omega) (fun K i s hk => cc K i s (by unfold CLv at hk; omega)) (fun K i s hk => cm K i s (by unfold MLv at hk; omega))⟩
                  rw [b78] at z ⊢
                  have := hx.pc
                  omega
            · rw [if_pos hu1] at hcs2 hms
              exact a1 0 hcs2 hms rfl
          · rw [if_pos hu0] at hcs2 hms
            exact a1 0 hcs2 hms rfl
        · have c57 : j_X11_spelling_0_57 m1 0 c0 c1 = some (.inr 1, bX m1) := by unfold j_X11_spelling_0_57 j_X11_spelling_0_58; rw [rqA0, bV_ex]; rfl
          rw [if_neg (show ¬ (1 ≤ (mln x1 : Int) - (mln x0 : Int) ∧ _) by omega), if_pos rfl] at hms
          refine a1 0 ?_ hms rfl
          rw [hcs, c57]
          split
          · rfl
          · rw [if_pos (by omega)]
    · rw [if_pos (by omega)] at hsp hms
      exact r1 hF1 hsp hms
  · refine r1 (m1 := mc) FrC.rf ?_ ?_
    · unfold f_X10_isPair
      rw [isText_c ef1, Option.bind_some, if_neg hf, if_pos rfl]
    · unfold f_X12_isSpelling
      rw [ef2, Option.bind_some, if_pos hf]
end SPELL
