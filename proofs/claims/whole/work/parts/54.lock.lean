/-! LOCK. -/
theorem RPf.st {mm mm' : MM} {N N' : Nat} (h : RPf mm N) (hN : N ≤ N') (hm : ∀ K i s, (122 ≤ K ∧ K ≤ 125 ∧ i = 0) ∨ (K = 12 ∧ i = 0 ∧ (s = 19 ∨ s = 52 ∨ s = 69)) ∨ (K = 74 ∧ i = 0) → eq3 mm mm' K i s) (hs : ∀ x, gN mm 108 0 x = 2 → gN mm' 108 0 x = 2) : RPf mm' N' := by
  have bK : ∀ K s, 122 ≤ K → K ≤ 125 → gN mm' K 0 s = gN mm K 0 s := fun K s h1 h2 => (hm K 0 s (by omega)).1
  have b122 := fun s => bK 122 s (by omega) (by omega)
  have b123 := fun s => bK 123 s (by omega) (by omega)
  have b124 := fun s => bK 124 s (by omega) (by omega)
  have b125 := fun s => bK 125 s (by omega) (by omega)
  have b19 := (hm 12 0 19 (by omega)).1
  have b52 := (hm 12 0 52 (by omega)).1
  have b69 := (hm 12 0 69 (by omega)).1
  have b74 : ∀ s, gN mm' 74 0 s = gN mm 74 0 s := fun s => (hm 74 0 s (by omega)).1
  unfold RPf at h ⊢
  simp only [b122, b123, b124, b125, b19, b52, b69, b74]
  obtain ⟨h1, h2, h3, h4, h5, h6⟩ := h
  refine ⟨fun p hp => ?_, h2, h3, h4, fun k hk => by have := h5 k hk; omega, by omega⟩
  rcases h1 p hp with z | ⟨b, f, n, z1, z2, z3, z4, z5⟩
  · exact Or.inl z
  · exact Or.inr ⟨b, f, n, z1, z2, z3, z4, hs _ z5⟩
section LOCK
variable {N : Nat} {mc mm : MM} {b F n M Ln E : Nat}
/-- all pages of a forme are set -/
def AllSet (mm : MM) (b F L f : Nat) : Prop := ∀ p, p < 2 * L → fo F p = f → gN mm 83 0 (16 * b + p) = 1
theorem allSet_c (hB : RBk mc mm b F n M Ln E) {f : Nat} (hf : f < 2 * n) : Ev (f_X2_allPagesSet mc (8 * b + f)) (fun v => (v = 1 ∧ AllSet mm b F (F * n) f) ∨ (v = 0 ∧ ¬ AllSet mm b F (F * n) f)) := by
  have hP := hB.hP
  have hS := hB.hS
  have q1 := hP.hn
  have hF := hP.hF
  unfold f_X2_allPagesSet
  rw [nk_of (hS.o0 f hf), lenI_of (hS.z19 f hf)]
  refine ev_lp (Sum.elim (fun r => r = 0 ∧ ¬ AllSet mm b F (F * n) f) fun _ => AllSet mm b F (F * n) f) (fun s => ∃ k : Nat, s = k ∧ k ≤ F ∧ ∀ j, j < k → gN mm 83 0 (16 * b + fpg F f j) = 1) (fun s => F - s.toNat) ⟨0, rfl, by omega, fun j hj => absurd hj (by omega)⟩ ?_ ?_
  · rintro _ ⟨k, rfl, hk, hg⟩
    unfold b_X2_allPagesSet_10
    refine ev_if (fun hc => ev_exit fun p hp hfo => ?_) fun hc => ?_
    · have := hg (pif F p) (by have := pif_lt (p := p) hF; omega)
      rw [← hfo, fpg_fo hF] at this
      exact this
    · have hk2 : k < F := by omega
      have hp := fpg_lt hF hf hk2
      have hst := (hB.pg _ hp).st
      rw [ldR_of (hS.z19 f hf) (by omega), tnc, hS.e19 f k hf hk2, nk_some]
      unfold f_X4_isSet
      rcases hst with ⟨z1, z2⟩ | ⟨z1, z2, z3⟩
      · rw [if_pos z2, Option.bind_some]
        refine ev_iff (fun q => q rfl) (ev_exit ⟨rfl, fun q => ?_⟩)
        have := q _ hp (fo_fpg hF (by omega) hk2)
        omega
      · rw [if_neg (by omega), Option.bind_some]
        refine ev_ift (show ¬ (1 : Int) = 0 by decide) (ev_ck (by omega) (ev_back ⟨k + 1, by simp, by omega, fun j hj => ?_⟩ (by omega)))
        by_cases q : j = k
        · rw [q]; exact z1
        · exact hg j (by omega)
  · rintro (r | u) hx
    · exact ev_some (Or.inr hx)
    · exact ev_some (Or.inl ⟨rfl, hx⟩)
theorem isWhole_m (hM : SM mm) (hB : RBk mc mm b F n M Ln E) {f : Nat} : Ev (f_X12_isWhole mm 0 (b : Int) (f : Int)) (fun v => (v = 1 ∧ AllSet mm b F (F * n) f) ∨ (v = 0 ∧ ¬ AllSet mm b F (F * n) f)) := by
  have hP := hB.hP
  have q0 := hP.hb
  have q1 := hP.hn
  unfold f_X12_isWhole
  refine ev_lp (fun v => (v = 1 ∧ AllSet mm b F (F * n) f) ∨ (v = 0 ∧ ¬ AllSet mm b F (F * n) f)) (fun s => ∃ k : Nat, s.2 = k ∧ k ≤ 2 * (F * n) ∧ ((s.1 = 1 ∧ ∀ p, p < k → fo F p = f → gN mm 83 0 (16 * b + p) = 1) ∨ (s.1 = 0 ∧ ¬ AllSet mm b F (F * n) f))) (fun s => 2 * (F * n) - s.2.toNat) ⟨0, rfl, by omega, Or.inl ⟨rfl, fun p hp => absurd hp (by omega)⟩⟩ ?_ ?_
  · rintro ⟨x, _⟩ ⟨k, rfl, hk, hs⟩
    simp only at hs
    show Ev (b_X12_isWhole_5 mm 0 (b : Int) (f : Int) x (k : Int)) _
    unfold b_X12_isWhole_5
    rw [pagesOf_m hM hP, Option.bind_some]
    refine ev_if (fun hc => ev_exit ?_) fun hc => ?_
    · rcases hs with ⟨h1, h2⟩ | h1
      · exact Or.inl ⟨h1, fun p hp => h2 p (by omega)⟩
      · exact Or.inr h1
    · rcases hs with ⟨rfl, h2⟩ | ⟨rfl, h2⟩
      · refine ev_iff (show ¬ (1 : Int) = 0 by decide) ?_
        rw [formeOf_m hM hP (by omega), Option.bind_some]
        refine ev_if (fun hd => ev_ck (by omega) (ev_back ⟨k + 1, by simp, by omega, Or.inl ⟨rfl, fun p hp hpf => ?_⟩⟩ (by simp only; omega))) fun hd => ?_
        · by_cases q : p = k
          · rw [q] at hpf; exact absurd (by rw [hpf]) hd
          · exact h2 p (by omega) hpf
        · have hfo : fo F k = f := by omega
          have hst := (hB.pg k (by omega)).st
          rw [nk_of hM.r30, ldN_of hM.z83 (by omega), tn16]
          refine ev_if (fun he => ev_ck (by omega) (ev_back ⟨k + 1, by simp, by omega, Or.inr ⟨rfl, fun q => ?_⟩⟩ (by simp only; omega))) fun he => ev_ck (by omega) (ev_back ⟨k + 1, by simp, by omega, Or.inl ⟨rfl, fun p hp hpf => ?_⟩⟩ (by simp only; omega))
          · have := q k (by omega) hfo
            omega
          · by_cases q : p = k
            · rw [q]; omega
            · exact h2 p (by omega) hpf
      · exact ev_ift rfl (ev_ck (by omega) (ev_back ⟨k + 1, by simp, by omega, Or.inr ⟨rfl, h2⟩⟩ (by simp only; omega)))
  · rintro v hv
    unfold j_X12_isWhole_0_57
    exact ev_cb (by omega) (ev_some hv)
/-- a skeleton is in use -/
def SkUsed (mm : MM) (sk : Int) : Prop := ∃ b f : Nat, (b : Int) < gN mm 12 0 19 ∧ f < 8 ∧ 1 ≤ gN mm 108 0 (8 * b + f) ∧ gN mm 108 0 (8 * b + f) ≤ 3 ∧ gN mm 109 0 (8 * b + f) = sk
theorem holdsSk_c (hB : RBk mc mm b F n M Ln E) {sk : Int} (hsk : 0 ≤ sk) : Ev (f_X0_holdsSkeleton mc b sk) (fun v => (v = 1 ∧ ∃ f, f < 8 ∧ 1 ≤ gN mm 108 0 (8 * b + f) ∧ gN mm 108 0 (8 * b + f) ≤ 3 ∧ gN mm 109 0 (8 * b + f) = sk) ∨ (v = 0 ∧ ¬ ∃ f, f < 8 ∧ 1 ≤ gN mm 108 0 (8 * b + f) ∧ gN mm 108 0 (8 * b + f) ≤ 3 ∧ gN mm 109 0 (8 * b + f) = sk)) := by
  have hP := hB.hP
  have hS := hB.hS
  have q1 := hP.hn
  unfold f_X0_holdsSkeleton
  rw [nk_of hS.r6, lenI_of hS.z14]
  refine ev_lp (Sum.elim (fun r => r = 1 ∧ ∃ f, f < 8 ∧ 1 ≤ gN mm 108 0 (8 * b + f) ∧ gN mm 108 0 (8 * b + f) ≤ 3 ∧ gN mm 109 0 (8 * b + f) = sk) fun _ => ¬ ∃ f, f < 8 ∧ 1 ≤ gN mm 108 0 (8 * b + f) ∧ gN mm 108 0 (8 * b + f) ≤ 3 ∧ gN mm 109 0 (8 * b + f) = sk) (fun s => ∃ k : Nat, s = k ∧ k ≤ 2 * n ∧ ∀ f, f < k → ¬ (1 ≤ gN mm 108 0 (8 * b + f) ∧ gN mm 108 0 (8 * b + f) ≤ 3 ∧ gN mm 109 0 (8 * b + f) = sk)) (fun s => 2 * n - s.toNat) ⟨0, rfl, by omega, fun j hj => absurd hj (by omega)⟩ ?_ ?_
  · rintro _ ⟨k, rfl, hk, hg⟩
    unfold b_X0_holdsSkeleton_11
    refine ev_if (fun hc => ev_exit ?_) fun hc => ?_
    · rintro ⟨f, hf, g1, g2, g3⟩
      by_cases q : f < 2 * n
      · exact hg f (by omega) ⟨g1, g2, g3⟩
      · have := hB.lv.u f (by omega) hf
        omega
    · have hk2 : k < 2 * n := by omega
      have hf := hB.ff k hk2
      have hf1 := hf.how
      have hf2 := hf.sk
      rw [ldR_of hS.z14 (by omega), tnc, hS.e14 k hk2, nk_some, hf1.1]
      have go : ¬ (1 ≤ gN mm 108 0 (8 * b + k) ∧ gN mm 108 0 (8 * b + k) ≤ 3 ∧ gN mm 109 0 (8 * b + k) = sk) → ∀ f, f < k + 1 → ¬ (1 ≤ gN mm 108 0 (8 * b + f) ∧ gN mm 108 0 (8 * b + f) ≤ 3 ∧ gN mm 109 0 (8 * b + f) = sk) := fun q f hf => by
        by_cases z : f = k
        · rw [z]; exact q
        · exact hg f (by omega)
      refine ev_if (fun h1 => ev_ck (by omega) (ev_back ⟨k + 1, by simp, by omega, go (by omega)⟩ (by omega))) fun h1 => ev_if (fun h2 => ev_ck (by omega) (ev_back ⟨k + 1, by simp, by omega, go (by omega)⟩ (by omega))) fun h2 => ev_exit ⟨rfl, k, by omega, by omega, by omega, by omega⟩
  · rintro (r | u) hx
    · exact ev_some (Or.inl hx)
    · exact ev_some (Or.inr ⟨rfl, hx⟩)
theorem isInUse_c (h : RR N mc mm) {sk : Int} (hsk : 0 ≤ sk) : Ev (f_X11_isInUse mc 0 sk) (fun v => (v = 1 ∧ SkUsed mm sk) ∨ (v = 0 ∧ ¬ SkUsed mm sk)) := by
  have hr := h.Nb.r
  unfold f_X11_isInUse
  rw [nk_of h.C.r3, lenI_of h.C.z56]
  refine ev_lp (Sum.elim (fun r => r = 1 ∧ SkUsed mm sk) fun _ => ¬ SkUsed mm sk) (fun s => ∃ k : Nat, s = k ∧ k ≤ 3 ∧ ∀ b f : Nat, b < k → (b : Int) < gN mm 12 0 19 → f < 8 → ¬ (1 ≤ gN mm 108 0 (8 * b + f) ∧ gN mm 108 0 (8 * b + f) ≤ 3 ∧ gN mm 109 0 (8 * b + f) = sk)) (fun s => 3 - s.toNat) ⟨0, rfl, by omega, fun j _ hj => absurd hj (by omega)⟩ ?_ ?_
  · rintro _ ⟨k, rfl, hk, hg⟩
    unfold b_X11_isInUse_11
    refine ev_if (fun hc => ev_exit ?_) fun hc => ?_
    · rintro ⟨b, f, g0, g1, g2, g3, g4⟩
      exact hg b f (by omega) g0 g1 ⟨g2, g3, g4⟩
    · rw [ldR_of h.C.z56 (by omega), tnc]
      by_cases hk2 : (k : Int) < gN mm 12 0 19
      · obtain ⟨F, n, M, Ln, E, hB⟩ := h.Bk k hk2
        obtain ⟨v, e1, e2⟩ := holdsSk_c hB hsk
        rw [h.Nb.s k hk2, if_neg (fun q => by cases q), nk_some, e1, Option.bind_some]
        rcases e2 with ⟨rfl, f, z0, z1, z2, z3⟩ | ⟨rfl, z⟩
        · exact ev_iff (show ¬ (1 : Int) = 0 by decide) (ev_exit ⟨rfl, k, f, hk2, z0, z1, z2, z3⟩)
        · refine ev_ift rfl (ev_ck (by omega) (ev_back ⟨k + 1, by simp, by omega, fun b f hb1 hb2 hf hx => ?_⟩ (by omega)))
          by_cases q : b = k
          · rw [q] at hx; exact z ⟨f, hf, hx.1, hx.2.1, hx.2.2⟩
          · exact hg b f (by omega) hb2 hf hx
      · rw [h.Nb.z k (by omega), if_pos rfl]
        refine ev_ck (by omega) (ev_back ⟨k + 1, by simp, by omega, fun b f hb1 hb2 hf hx => hg b f (by omega) hb2 hf hx⟩ (by omega))
  · rintro (r | u) hx
    · exact ev_some (Or.inl hx)
    · exact ev_some (Or.inr ⟨rfl, hx⟩)
theorem isUsed_m (h : RR N mc mm) {sk : Int} : Ev (f_X12_isUsed mm 0 sk) (fun v => (v = 1 ∧ SkUsed mm sk) ∨ (v = 0 ∧ ¬ SkUsed mm sk)) := by
  have hr := h.Nb.r
  have hM := h.M
  obtain ⟨nb, hnb⟩ := Int.ex hr.1
  unfold f_X12_isUsed
  refine ev_lp (fun v => (v = 1 ∧ SkUsed mm sk) ∨ (v = 0 ∧ ¬ SkUsed mm sk)) (fun s => ∃ k : Nat, s.2 = k ∧ k ≤ 8 * nb ∧ ((s.1 = 0 ∧ ∀ x, x < k → ¬ (1 ≤ gN mm 108 0 x ∧ gN mm 108 0 x ≤ 3 ∧ gN mm 109 0 x = sk)) ∨ (s.1 = 1 ∧ SkUsed mm sk))) (fun s => 8 * nb - s.2.toNat) ⟨0, rfl, by omega, Or.inl ⟨rfl, fun p hp => absurd hp (by omega)⟩⟩ ?_ ?_
  · rintro ⟨x, _⟩ ⟨k, rfl, hk, hs⟩
    simp only at hs
    show Ev (b_X12_isUsed_4 mm 0 sk x (k : Int)) _
    unfold b_X12_isUsed_4
    rw [hnb, ck_of ⟨by omega, by omega⟩]
    refine ev_if (fun hc => ev_exit ?_) fun hc => ?_
    · rcases hs with ⟨h1, h2⟩ | h1
      · refine Or.inr ⟨h1, fun ⟨b, f, g0, g1, g2, g3, g4⟩ => h2 (8 * b + f) (by omega) ⟨g2, g3, g4⟩⟩
      · exact Or.inl h1
    · rcases hs with ⟨rfl, h2⟩ | ⟨rfl, h2⟩
      · refine ev_iff (fun q => q rfl) ?_
        rw [nk_of hM.r56, ldN_of hM.z108 (by omega), tnc, isIn_m, Option.bind_some]
        have go : ¬ (1 ≤ gN mm 108 0 k ∧ gN mm 108 0 k ≤ 3 ∧ gN mm 109 0 k = sk) → ∀ x, x < k + 1 → ¬ (1 ≤ gN mm 108 0 x ∧ gN mm 108 0 x ≤ 3 ∧ gN mm 109 0 x = sk) := fun q x hx => by
          by_cases z : x = k
          · rw [z]; exact q
          · exact h2 x (by omega)
        by_cases hin : 1 ≤ gN mm 108 0 k ∧ gN mm 108 0 k ≤ 3
        · rw [if_pos hin, if_neg (show ¬ (1 : Int) = 0 by decide), nk_of hM.r57, ldN_of hM.z109 (by omega), tnc]
          refine ev_if (fun hd => ev_ck (by omega) (ev_back ⟨k + 1, by simp, by omega, Or.inl ⟨rfl, go (by omega)⟩⟩ (by simp only; omega))) fun hd => ev_ck (by omega) (ev_back ⟨k + 1, by simp, by omega, Or.inr ⟨rfl, k / 8, k % 8, by omega, by omega, ?_⟩⟩ (by simp only; omega))
          rw [show 8 * (k / 8) + k % 8 = k by omega]
          omega
        · rw [if_neg hin, if_pos rfl]
          exact ev_ck (by omega) (ev_back ⟨k + 1, by simp, by omega, Or.inl ⟨rfl, go (by omega)⟩⟩ (by simp only; omega))
      · exact ev_ift (show ¬ (1 : Int) = 0 by decide) (ev_ck (by omega) (ev_back ⟨k + 1, by simp, by omega, Or.inr ⟨rfl, h2⟩⟩ (by simp only; omega)))
  · rintro v hv
    unfold j_X12_isUsed_0_55
    exact ev_cb (by omega) (ev_some hv)
theorem call_lock {a f sk : Int} (h : RR N mc mm) : CalV N (f_X11_lock mc 0 a f sk) (f_X12_lock mm 0 a f sk) [0, 1, 2] := by
  have m106 : ∀ (x v : Int), v ≠ 0 → j_X12_lock_0_106 mm 0 sk x 0 v = some (.inl none, sN mm 12 0 0 v) := fun x v hv => by
    unfold j_X12_lock_0_106; rw [holds1 _ hv, bI_ok, if_pos rfl]
  have m74 : ∀ v x : Int, j_X12_lock_0_74 mm 0 sk 0 v x = some (.inl none, sN mm 12 0 0 1) := fun v x => by
    unfold j_X12_lock_0_74 j_X12_lock_0_75; rw [if_neg (fun q => q rfl), m106 v 1 (by decide)]
  have m23 : j_X12_lock_0_23 mm 0 a f sk 0 0 = some (.inl none, sN mm 12 0 0 1) := by
    unfold j_X12_lock_0_23; rw [isIn_m, Option.bind_some, if_pos rfl, m74]
  unfold f_X11_lock f_X12_lock
  by_cases hb : 0 ≤ a ∧ a < gN mm 12 0 19
  · obtain ⟨b, rfl⟩ := Int.ex hb.1
    obtain ⟨F, n, M, Ln, E, hB⟩ := h.Bk b hb.2
    have hP := hB.hP
    have hS := hB.hS
    have q0 := hP.hb
    have q1 := hP.hn
    have q2 := hP.hL
    have q3 := hP.hE
    have q4 := hP.ml
    rw [bookAt_ok h.Nb h.C hb.2, bR_ok, nk_some]
    by_cases hf : 0 ≤ f ∧ f < (2 * n : Nat)
    · obtain ⟨f, rfl⟩ := Int.ex hf.1
      have hf2 : f < 2 * n := by omega
      have hff := hB.ff f hf2
      rw [formeOf_ok hS hf2, bR_ok, nk_some, isForme_ok h.Nb h.M hP hb.2 hf2, Option.bind_some, if_neg (show ¬ (1 : Int) = 0 by decide), ck_of ⟨by omega, by omega⟩]
      unfold j_X12_lock_0_23
      rw [isIn_m, Option.bind_some, if_neg (show ¬ (1 : Int) = 0 by decide)]
      by_cases hsk : 0 ≤ sk ∧ sk ≤ 5
      · rw [if_neg (show ¬ sk < 0 by omega), if_neg (show ¬ 6 ≤ sk by omega), if_pos hsk, if_neg (show ¬ (1 : Int) = 0 by decide), nk_of h.M.r56, ldN_of h.M.z108 (by omega), tn8]
        unfold j_X11_lock_0_26
        rw [rqA _ (by decide), bV_ok, hff.how.1]
        have c57 : j_X11_lock_0_57 mc sk (8 * b + f) = some (.inr 2, bX mc) := by unfold j_X11_lock_0_57 j_X11_lock_0_58; rw [rqS0, bV_ex]; rfl
        have m74' : ∀ x : Int, j_X12_lock_0_74 mm 0 sk 1 x 1 = some (.inl none, sN mm 12 0 0 3) := fun x => by
          unfold j_X12_lock_0_74 j_X12_lock_0_75; rw [if_pos (show ¬ (1 : Int) = 0 by decide), if_pos (show ¬ (1 : Int) = 0 by decide), if_pos rfl, m106 x 3 (by decide)]
        by_cases hst : gN mm 108 0 (8 * b + f) = 0
        · rw [if_neg (fun q => q hst), if_neg (fun q => q hst)]
          obtain ⟨v1, e1, e1'⟩ := allSet_c hB hf2
          obtain ⟨v2, e2, e2'⟩ := isWhole_m h.M hB (f := f)
          rw [e1, e2, Option.bind_some, Option.bind_some]
          rcases e1' with ⟨rfl, hall⟩ | ⟨rfl, hall⟩
          · rcases e2' with ⟨rfl, -⟩ | ⟨rfl, z⟩
            rotate_left
            · exact absurd hall z
            rw [if_neg (show ¬ (1 : Int) = 0 by decide), if_neg (show ¬ (1 : Int) = 0 by decide)]
            obtain ⟨v3, e3, e3'⟩ := isInUse_c h hsk.1
            obtain ⟨v4, e4, e4'⟩ := isUsed_m h (sk := sk)
            rw [e3, e4, Option.bind_some, Option.bind_some]
            rcases e3' with ⟨rfl, hu⟩ | ⟨rfl, hu⟩
            · rcases e4' with ⟨rfl, -⟩ | ⟨rfl, z⟩
              · rw [if_pos (show ¬ (1 : Int) = 0 by decide), if_pos (show ¬ (1 : Int) = 0 by decide), c57, m74']
                exact CalV.bad (k := 2) h rfl rfl rfl
              · exact absurd hu z
            · rcases e4' with ⟨rfl, z⟩ | ⟨rfl, -⟩
              · exact absurd z hu
              · rw [if_neg (fun q => q rfl), if_neg (fun q => q rfl)]
                unfold j_X11_lock_0_58 j_X12_lock_0_75
                rw [rqS _ (by decide), bV_ok, lt_eq, lt_eq, if_pos (show ¬ (1 : Int) = 0 by decide), if_pos (show ¬ (1 : Int) = 0 by decide), if_neg (show ¬ (1 : Int) = 0 by decide)]
                unfold j_X12_lock_0_106
                have hM := h.M.thr 0
                have ew : (8 * (b : Int) + (f : Int)).toNat = 8 * b + f := tn8 b f
                rw [holds0, bI_ok, if_neg (show ¬ (1 : Int) = 0 by decide), nk_of hM.r56, stN_of hM.z108 (by omega), ew]
                rw [nk_of (show gR (sN (sN mm 12 0 0 0) 108 0 (8 * b + f) 1) 12 0 57 = some (109, 0) from hM.r57), stN_of (show gZ (sN (sN mm 12 0 0 0) 108 0 (8 * b + f) 1) 109 0 = some 24 from hM.z109) (by omega), ew]
                rw [nk_of (show gR (sN (sN (sN mm 12 0 0 0) 108 0 (8 * b + f) 1) 109 0 (8 * b + f) sk) 12 0 59 = some (111, 0) from hM.r59), stN_of (show gZ (sN (sN (sN mm 12 0 0 0) 108 0 (8 * b + f) 1) 109 0 (8 * b + f) sk) 111 0 = some 24 from hM.z111) (by omega), ew]
                rw [nk_of (show gR (sN (sN (sN (sN mm 12 0 0 0) 108 0 (8 * b + f) 1) 109 0 (8 * b + f) sk) 111 0 (8 * b + f) 1) 12 0 60 = some (112, 0) from hM.r60), stN_of (show gZ (sN (sN (sN (sN mm 12 0 0 0) 108 0 (8 * b + f) 1) 109 0 (8 * b + f) sk) 111 0 (8 * b + f) 1) 112 0 = some 624 from hM.z112) (by omega), tn26]
                have hPf := h.Pf
                have hPc := h.Pc
                have cc : ∀ K i s', ¬ (K = 2 ∧ i = 8 * b + f ∧ (s' = 4 ∨ s' = 5)) → eq3 mc (sN (sN mc 2 (8 * b + f) 5 sk) 2 (8 * b + f) 4 1) K i s' := fun K i s' hk => (eq3.sN (by omega)).tr (eq3.sN (by omega))
                have cm : ∀ K i s', ¬ (K = 12 ∧ s' = 0) ∧ ¬ ((K = 108 ∨ K = 109 ∨ K = 111) ∧ s' = 8 * b + f) ∧ ¬ (K = 112 ∧ s' = 26 * (8 * b + f)) → eq3 mm (sN (sN (sN (sN (sN mm 12 0 0 0) 108 0 (8 * b + f) 1) 109 0 (8 * b + f) sk) 111 0 (8 * b + f) 1) 112 0 (26 * (8 * b + f)) 0) K i s' := fun K i s' hk => ((((eq3.sN (by omega)).tr (eq3.sN (by omega))).tr (eq3.sN (by omega))).tr (eq3.sN (by omega))).tr (eq3.sN (by omega))
                have w4 : gN (sN (sN mc 2 (8 * b + f) 5 sk) 2 (8 * b + f) 4 1) 2 (8 * b + f) 4 = 1 := by rw [gN_sN, if_pos ⟨rfl, rfl, rfl⟩]
                have w5 : gN (sN (sN mc 2 (8 * b + f) 5 sk) 2 (8 * b + f) 4 1) 2 (8 * b + f) 5 = sk := by rw [gN_sN, if_neg (by omega), gN_sN, if_pos ⟨rfl, rfl, rfl⟩]
                have x108 : gN (sN (sN (sN (sN (sN mm 12 0 0 0) 108 0 (8 * b + f) 1) 109 0 (8 * b + f) sk) 111 0 (8 * b + f) 1) 112 0 (26 * (8 * b + f)) 0) 108 0 (8 * b + f) = 1 := by rw [gN_sN, if_neg (by omega), gN_sN, if_neg (by omega), gN_sN, if_neg (by omega), gN_sN, if_pos ⟨rfl, rfl, rfl⟩]
                have x109 : gN (sN (sN (sN (sN (sN mm 12 0 0 0) 108 0 (8 * b + f) 1) 109 0 (8 * b + f) sk) 111 0 (8 * b + f) 1) 112 0 (26 * (8 * b + f)) 0) 109 0 (8 * b + f) = sk := by rw [gN_sN, if_neg (by omega), gN_sN, if_neg (by omega), gN_sN, if_pos ⟨rfl, rfl, rfl⟩]
                have x111 : gN (sN (sN (sN (sN (sN mm 12 0 0 0) 108 0 (8 * b + f) 1) 109 0 (8 * b + f) sk) 111 0 (8 * b + f) 1) 112 0 (26 * (8 * b + f)) 0) 111 0 (8 * b + f) = 1 := by rw [gN_sN, if_neg (by omega), gN_sN, if_pos ⟨rfl, rfl, rfl⟩]
                have x112 : gN (sN (sN (sN (sN (sN mm 12 0 0 0) 108 0 (8 * b + f) 1) 109 0 (8 * b + f) sk) 111 0 (8 * b + f) 1) 112 0 (26 * (8 * b + f)) 0) 112 0 (26 * (8 * b + f)) = 0 := by rw [gN_sN, if_pos ⟨rfl, rfl, rfl⟩]
                have hthr : gN (sN (sN (sN (sN (sN mm 12 0 0 0) 108 0 (8 * b + f) 1) 109 0 (8 * b + f) sk) 111 0 (8 * b + f) 1) 112 0 (26 * (8 * b + f)) 0) 12 0 0 = 0 := by rw [gN_sN, if_neg (by omega), gN_sN, if_neg (by omega), gN_sN, if_neg (by omega), gN_sN, if_neg (by omega), gthr]
                have hzc : ∀ K i, gZ (sN (sN mc 2 (8 * b + f) 5 sk) 2 (8 * b + f) 4 1) K i = gZ mc K i := fun _ _ => rfl
                have hzm : ∀ K i k, gZ mm K i = some k → gZ (sN (sN (sN (sN (sN mm 12 0 0 0) 108 0 (8 * b + f) 1) 109 0 (8 * b + f) sk) 111 0 (8 * b + f) 1) 112 0 (26 * (8 * b + f)) 0) K i = some k := fun _ _ _ q => q
                have hCC : ∀ K, gC (sN (sN mc 2 (8 * b + f) 5 sk) 2 (8 * b + f) 4 1) K = gC mc K := fun _ => rfl
                generalize (sN (sN mc 2 (8 * b + f) 5 sk) 2 (8 * b + f) 4 1) = mc' at *
                generalize (sN (sN (sN (sN (sN mm 12 0 0 0) 108 0 (8 * b + f) 1) 109 0 (8 * b + f) sk) 111 0 (8 * b + f) 1) 112 0 (26 * (8 * b + f)) 0) = mm' at *
                have y7 : gN mc' 2 (8 * b + f) 7 = 1 := by rw [(cc 2 (8 * b + f) 7 (by omega)).1]; have := hff.ns; omega
                have hbd : gN mm 79 0 b = 0 := by
                  rcases hB.lv.bd.2 with z | z
                  · exact z
                  · have := hB.lv.d z f hf2; omega
                refine ⟨_, _, _, rfl, rfl, Or.inl ⟨rfl, hthr⟩, h.book (b0 := b) (Nat.le_succ N) hzc hzm hCC hb.2 (fun K i s' hk => cc K i s' (by omega)) (fun K i s' hK hn => cc K i s' (fun q => hn (CBk.b (by omega) (by omega)))) (fun K i s' hk => cm K i s' (by omega)) (fun K s' h1 h2 hn => cm K 0 s' ⟨by omega, fun q => hn (MBk.g (by omega) (by omega)), fun q => hn (MBk.h q.1 (by omega))⟩) ⟨F, n, M, Ln, E, hP.keep (fun K h1 h2 => (cm K 0 b (by omega)).1), hB.hS.keep hP (fun K i s hk => cc K i s (by unfold CBS at hk; omega)) (fun K i k hk => by rw [hzc]; exact hk), hB.tx.keep (fun K i s hk => cc K i s (by unfold CTx at hk; omega)) (fun K i s hk => cm K i s (by unfold MTx at hk; omega)), fun p hp => (hB.pg p hp).keep (by omega) (fun K i s hk => cc K i s (by unfold CPg at hk; omega)) (fun K i s hk => cm K i s (by unfold MPg at hk; omega)), fun p hp => (hB.po p hp).keep (by omega) (fun K i s hk => cc K i s (by unfold CPo at hk; omega)) (fun K i s hk => cm K i s (by unfold MPo at hk; omega)), fun p hp => (hB.pl p hp).keep (by have := (hB.pg p hp).pn; omega) (fun K i s hk => cc K i s (by unfold CPl at hk; omega)) (fun K i s hk => cm K i s (by unfold MPl at hk; omega)), fun f' hf' => ?_, fun p hp => ?_, fun f' hf' => ?_, fun s hs => ?_, ?_⟩ (hPf.st (Nat.le_succ N) (fun K i s' hk => cm K i s' (by omega)) (fun x hx => by
                  by_cases q : x = 8 * b + f
                  · rw [q] at hx; omega
                  · rw [(cm 108 0 x (by omega)).1]; exact hx)) (hPc.keep (fun K i s' hk => cm K i s' (by omega)))⟩
                · by_cases q : f' = f
                  · subst q
                    have z1 := hff.pr
                    have z2 := hff.dh
                    have z3 := hff.rd
                    refine ⟨by rw [w4, x108]; omega, by rw [w5, x108, x109]; omega, ?_, by rw [y7, x108, x111]; omega, by rw [(cc 26 (8 * b + f') 0 (by omega)).1]; exact hff.s0, fun _ s hs => ?_, fun z => by rw [x108] at z; omega, ?_, ?_⟩
                    · rw [(cc 2 (8 * b + f') 6 (by omega)).1, (cm 110 0 (8 * b + f') (by omega)).1, x108]
                      omega
                    · rw [x111] at hs
                      obtain rfl : s = 0 := by omega
                      rw [(cc 26 (8 * b + f') 0 (by omega)).1, hff.s0, Nat.add_zero, x112, (cm 110 0 (8 * b + f') (by omega)).1]
                      omega
                    · rw [(cc 2 (8 * b + f') 9 (by omega)).1, x108, (cm 114 0 (8 * b + f') (by omega)).1, (cm 113 0 (8 * b + f') (by omega)).1]
                      omega
                    · rw [(cc 2 (8 * b + f') 10 (by omega)).1, x108]
                      omega
                  · exact (hB.ff f' hf').keep (by omega) (fun K i s' hk => cc K i s' (by unfold CFo at hk; omega)) (fun K i s' hk => cm K i s' (by unfold MFo at hk; omega)) (by rw [(cm 12 0 69 (by omega)).1]; exact Int.le_refl _)
                · have hpg := (hB.pg p hp).pn
                  have hfl := fo_lt hP.hF hp
                  have hns := (hB.ff _ hfl).ns
                  by_cases q : fo F p = f
                  · have hx := hB.pn p hp
                    rw [q] at hx ⊢
                    have hm83 := (cm 83 0 (16 * b + p) (by omega)).1
                    have hm90 := (cm 90 0 (16 * b + p) (by omega)).1
                    have hm52 := (cm 12 0 52 (by omega)).1
                    have hgl : ∀ k s, glF mm' k s (gN mm' 12 0 52).toNat = glF mm k s (gN mm 12 0 52).toNat := fun k s => by
                      rw [hm52]
                      exact glF_congr (cm 102 0 k (by omega)).1 _ (fun j _ => ⟨(cm 105 0 j (by omega)).1, (cm 106 0 j (by omega)).1, (cm 107 0 j (by omega)).1⟩)
                    have y7' : gN mc 2 (8 * b + f) 7 = 1 := by have := hff.ns; omega
                    refine ⟨fun _ => by rw [hm83]; exact hall p hp q, fun k s hk hs => ?_, fun j k hj hk he => ?_⟩
                    · rw [hm90] at hk
                      rw [y7] at hs
                      rw [hgl, (cc 38 (24 * (16 * b + p) + s) k (by omega)).1]
                      exact hx.g k s hk (by rw [y7']; exact hs)
                    · rw [hm52] at hj
                      rw [(cm 105 0 j (by omega)).1] at he
                      have := (hx.c j k hj hk he).1
                      omega
                  · exact (hB.pn p hp).keep (by omega) (by omega) (fun K i s' hk => cc K i s' (by unfold CPn at hk; omega)) (fun K i s' hk => cm K i s' (by unfold MPn at hk; omega))
                · have hx := hB.se f' hf'
                  by_cases q : f' = f
                  · subst q
                    have a25 : ∀ x, gN mc' 25 (8 * b + f') x = gN mc 25 (8 * b + f') x := fun x => (cc 25 (8 * b + f') x (by omega)).1
                    refine ⟨fun _ x => by rw [a25]; exact hx.a (by omega) x, fun z => by rw [x108] at z; omega, fun z => by rw [x108] at z; omega, fun x => by rw [a25, (cm 63 0 x (by omega)).1]; exact hx.b x⟩
                  · exact hx.keep (by omega) (fun p hp => by have := (hB.pg p hp).pn; omega) (fun K i s' hk => cc K i s' (by unfold CSe at hk; omega)) (fun K i s' hk => cm K i s' (by unfold MSe at hk; omega)) (fun x => by rw [(cm 63 0 x (by omega)).1]; exact Int.le_refl _)
                · have hx := hB.sh s hs
                  have a8 : ∀ k, gN mc' 8 (4 * b + s) k = gN mc 8 (4 * b + s) k := fun k => (cc 8 (4 * b + s) k (by omega)).1
                  have a82 : gR mc' 8 (4 * b + s) 2 = gR mc 8 (4 * b + s) 2 := (cc 8 (4 * b + s) 2 (by omega)).2.2
                  have bK : ∀ K, 116 ≤ K → K ≤ 120 → ∀ j, gN mm' K 0 j = gN mm K 0 j := fun K h1 h2 j => (cm K 0 j (by omega)).1
                  have st1 : ∀ j, gN mm' 108 0 j = gN mm 108 0 j ∨ (j = 8 * b + f ∧ gN mm' 108 0 j = 1 ∧ gN mm 108 0 j = 0) := fun j => by
                    by_cases q : j = 8 * b + f
                    · exact Or.inr ⟨q, by rw [q]; exact x108, by rw [q]; exact hst⟩
                    · exact Or.inl (cm 108 0 j (by omega)).1
                  refine ⟨by rw [a8, bK 120 (by omega) (by omega)]; exact hx.t, ?_⟩
                  rw [a82, a8, a8, bK 117 (by omega) (by omega), bK 118 (by omega) (by omega), bK 119 (by omega) (by omega)]
                  rcases hx.k with ⟨k1, k2, k3, k4⟩ | ⟨k1, k2, k3, d, e, k4, k5, k6, k7, k8⟩
                  · refine Or.inl ⟨k1, k2, ?_, ?_⟩
                    · have := st1 (8 * b + 2 * s); omega
                    · have := st1 (8 * b + (2 * s + 1)); omega
                  · refine Or.inr ⟨k1, k2, k3, d, e, k4, k5, ?_, ?_, fun z => ?_⟩
                    · have := st1 (8 * b + (2 * s + d)); omega
                    · rw [bK 116 (by omega) (by omega)]; exact k7
                    · rw [bK 116 (by omega) (by omega)]
                      refine k8 ?_
                      have := st1 (8 * b + (2 * s + e)); omega
                · have hx := hB.lv
                  refine ⟨by rw [(cc 0 b 11 (by omega)).1, (cm 79 0 b (by omega)).1]; exact hx.bd, fun z => ?_, fun z => ?_, fun f' h1 h2 => ?_⟩
                  · rw [(cm 79 0 b (by omega)).1] at z; omega
                  · rw [(cm 79 0 b (by omega)).1] at z; omega
                  · rw [(cm 108 0 (8 * b + f') (by omega)).1]; exact hx.u f' h1 h2
          · rcases e2' with ⟨rfl, z⟩ | ⟨rfl, -⟩
            · exact absurd z hall
            · rw [if_pos rfl, if_pos rfl, c57, m74']
              exact CalV.bad (k := 2) h rfl rfl rfl
        · rw [if_pos hst, if_pos hst, c57, m74']
          exact CalV.bad (k := 2) h rfl rfl rfl
      · have e : (if sk < 0 then j_X11_lock_0_25 mc 0 sk (8 * b + f) else if 6 ≤ sk then j_X11_lock_0_25 mc 0 sk (8 * b + f) else j_X11_lock_0_26 mc 0 sk (8 * b + f) 1) = some (.inr 1, bX mc) := by
          have e0 : j_X11_lock_0_25 mc 0 sk (8 * b + f) = some (.inr 1, bX mc) := by unfold j_X11_lock_0_25 j_X11_lock_0_26; rw [rqA0, bV_ex]; rfl
          rw [e0]; exact ite2 (by omega)
        rw [e, if_neg hsk, if_pos rfl]
        unfold j_X12_lock_0_74 j_X12_lock_0_75
        rw [if_pos (show ¬ (1 : Int) = 0 by decide), if_neg (fun q => q rfl), m106 _ 2 (by decide)]
        exact CalV.bad (k := 1) h rfl rfl rfl
    · rw [formeOf_bad hS hf, bR_ex, isForme_bad h.Nb h.M hP hb.2 hf, Option.bind_some, if_pos rfl, m23]
      exact CalV.bad (k := 0) h rfl rfl rfl
  · rw [bookAt_bad h.Nb h.C hb, bR_ex, isForme_b0 h.Nb hb, Option.bind_some, if_pos rfl, m23]
    exact CalV.bad (k := 0) h rfl rfl rfl
end LOCK
