/-! SHARED. -/
section SHARED
variable {N : Nat} {mc mm : MM} {b F n M Ln E : Nat}
theorem seenIn_m (hM : SM mm) (hB : RBk mc mm b F n M Ln E) {f : Nat} (hf : f < 2 * n) {x : Nat} (hx : x < 400) : f_X12_seenIn mm 0 (b : Int) (f : Int) (x : Int) = some (gN mc 25 (8 * b + f) x) := by
  have hP := hB.hP
  have q0 := hP.hb
  have q1 := hP.hn
  have q4 := hP.ml
  have hse := hB.se f hf
  apply ev_eq
  unfold f_X12_seenIn
  rw [nk_of hM.r56, ldN_of hM.z108 (by omega), tn8]
  refine ev_if (fun h3 => ?_) fun h3 => ev_some (hse.a (by omega) x).symm
  refine ev_lp (Sum.elim (fun r => r = gN mc 25 (8 * b + f) x) fun _ => ∀ p, p < 2 * (F * n) → fo F p = f → ∀ k : Nat, (k : Int) < gN mm 90 0 (16 * b + p) → gN mm 103 0 (150 * (16 * b + p) + k) ≠ x) (fun s => ∃ p : Nat, s = p ∧ p ≤ 2 * (F * n) ∧ ∀ p', p' < p → fo F p' = f → ∀ k : Nat, (k : Int) < gN mm 90 0 (16 * b + p') → gN mm 103 0 (150 * (16 * b + p') + k) ≠ x) (fun s => 2 * (F * n) - s.toNat) ⟨0, rfl, by omega, fun p' hp' => absurd hp' (by omega)⟩ ?_ ?_
  · rintro _ ⟨p, rfl, hp, hg⟩
    unfold b_X12_seenIn_20
    rw [pagesOf_m hM hP, Option.bind_some]
    refine ev_if (fun hc => ev_exit fun p' hp' => hg p' (by omega)) fun hc => ?_
    have hp2 : p < 2 * (F * n) := by omega
    have hpn := (hB.pg p hp2).pn
    refine ev_ck (by omega) (ev_ck (by omega) ?_)
    refine ev_lp (Sum.elim (fun r => r = gN mc 25 (8 * b + f) x) fun _ => fo F p = f → ∀ k : Nat, (k : Int) < gN mm 90 0 (16 * b + p) → gN mm 103 0 (150 * (16 * b + p) + k) ≠ x) (fun s => ∃ k : Nat, s = ((150 * (16 * b + p) + k : Nat) : Int) ∧ (k : Int) ≤ gN mm 90 0 (16 * b + p) ∧ ∀ k', k' < k → gN mm 103 0 (150 * (16 * b + p) + k') ≠ x) (fun s => (150 * (16 * b + p) + gN mm 90 0 (16 * b + p) - s).toNat) ⟨0, by simp, by omega, fun k' hk' => absurd hk' (by omega)⟩ ?_ ?_
    · rintro _ ⟨k, rfl, hk, hk2⟩
      unfold b_X12_seenIn_47
      rw [nk_of hM.r37, ldN_of hM.z90 (by omega), tn16]
      refine ev_ck (by omega) (ev_if (fun hd => ev_exit fun _ k' hk' => hk2 k' (by omega)) fun hd => ?_)
      rw [formeOf_m hM hP (show p < 16 by omega), Option.bind_some]
      refine ev_if (fun he => ev_exit fun z => absurd (by rw [z]) he) fun he => ?_
      have hfo : fo F p = f := by omega
      rw [nk_of hM.r50, ldN_of hM.z103 (by omega), tnc]
      refine ev_if (fun hg' => ev_ck (by omega) (ev_back ⟨k + 1, by simp; omega, by omega, fun k' hk' => ?_⟩ (by omega))) fun hg' => ?_
      · by_cases q : k' = k
        · rw [q]; exact hg'
        · exact hk2 k' (by omega)
      · rw [nk_of hM.r51, ldN_of hM.z104 (by omega), tnc]
        refine ev_exit ?_
        rcases hse.s h3 p hp2 hfo k (by omega) with z | ⟨x', z1, z2, z3⟩
        · omega
        · have : x' = x := by omega
          subst this
          exact z3
    · rintro (r | u) hr
      · exact ev_exit hr
      · rw [Sum.elim_inr] at hr ⊢
        unfold j_X12_seenIn_20_102
        refine ev_ck (by omega) (ev_back ⟨p + 1, by simp, by omega, fun p' hp' hfo => ?_⟩ (by omega))
        by_cases q : p' = p
        · subst q
          exact hr hfo
        · exact hg p' (by omega) hfo
  · rintro (r | u) hr
    · exact ev_some hr
    · exact ev_some (hse.z h3 x hr).symm
theorem call_shared (h : RR N mc mm) (a c d : Int) : Qry (f_X11_shared mc 0 a c d) (f_X12_shared mm 0 a c d) [0, 1] mc mm := by
  have m45 : ∀ v : Int, v ≠ 0 → j_X12_shared_0_45 mm 0 a c d 0 v = some (.inl (some (aI 0)), sN mm 12 0 0 v) := fun v hv => by
    unfold j_X12_shared_0_45; rw [holds1 _ hv, bI_ok, if_neg (fun q => q rfl)]
  have m22 : j_X12_shared_0_22 mm 0 a c d = some (.inl (some (aI 0)), sN mm 12 0 0 1) := by
    unfold j_X12_shared_0_22 j_X12_shared_0_23; rw [if_neg (fun q => q rfl), m45 1 (by decide)]
  unfold f_X11_shared f_X12_shared
  by_cases hb : 0 ≤ a ∧ a < gN mm 12 0 19
  · obtain ⟨b, rfl⟩ := Int.ex hb.1
    obtain ⟨F, n, M, Ln, E, hB⟩ := h.Bk b hb.2
    have hP := hB.hP
    have hS := hB.hS
    have q0 := hP.hb
    have q1 := hP.hn
    rw [bookAt_ok h.Nb h.C hb.2, bR_ok, nk_some]
    by_cases hc : 0 ≤ c ∧ c < (2 * n : Nat)
    · obtain ⟨f, rfl⟩ := Int.ex hc.1
      have hf : f < 2 * n := by omega
      rw [formeOf_ok hS hf, bR_ok, nk_some, isForme_ok h.Nb h.M hP hb.2 hf, Option.bind_some, if_neg (show ¬ (1 : Int) = 0 by decide)]
      by_cases hd : 0 ≤ d ∧ d < (2 * n : Nat)
      · obtain ⟨g, rfl⟩ := Int.ex hd.1
        have hg : g < 2 * n := by omega
        rw [formeOf_ok hS hg, bR_ok, nk_some, isForme_ok h.Nb h.M hP hb.2 hg, Option.bind_some, if_neg (show ¬ (1 : Int) = 0 by decide)]
        unfold j_X12_shared_0_23
        rw [if_pos (show ¬ (1 : Int) = 0 by decide)]
        by_cases hfg : (f : Int) = g
        · rw [if_pos hfg, if_neg (fun q => q hfg), m45 2 (by decide)]
          have e1 : j_X11_shared_0_33 mc 0 (8 * b + f) (8 * b + g) 0 = some (.inr 1, bX mc) := by unfold j_X11_shared_0_33; rw [rqA0, bV_ex]; rfl
          rw [e1]
          exact Qry.bad (k := 1) rfl rfl rfl
        · rw [if_neg hfg, if_pos hfg]
          unfold j_X11_shared_0_33 j_X12_shared_0_45
          rw [rqA _ (by decide), bV_ok, holds0, bI_ok, if_pos (show ¬ (1 : Int) = 0 by decide)]
          have h1 := h.thr 0
          have hB1 := hB.thr 0
          have hP1 := hB1.hP
          have hM1 := h1.M
          have sf := fun (x : Nat) (hx : x < 400) => seenIn_m hM1 hB1 hf hx
          have sg := fun (x : Nat) (hx : x < 400) => seenIn_m hM1 hB1 hg hx
          have bf := (hB1.se f hf).b
          have bg := (hB1.se g hg).b
          have hCa := h1.Ca
          have kf := (hB1.ff f hf).sk
          have kg := (hB1.ff g hg).sk
          generalize hm1 : sN mm 12 0 0 0 = m1 at *
          obtain ⟨v, y, e1, e2, rfl, hv⟩ := lpb_rel (b := fun s : Int × Int => b_X11_shared_42 mc 0 (8 * b + f) (8 * b + g) s.1 s.2) (c := fun s : Int × Int => b_X12_shared_59 m1 0 (b : Int) (f : Int) (g : Int) s.1 s.2)
            (fun s t => ∃ x : Nat, s.2 = x ∧ s = t ∧ x ≤ 400 ∧ 0 ≤ s.1 ∧ s.1 ≤ x) (fun x y => x = y ∧ 0 ≤ x ∧ x ≤ 400) (fun s => 400 - s.2.toNat) (by
            rintro ⟨w, _⟩ _ ⟨x, rfl, rfl, hx, hw, hw2⟩
            simp only at hw hw2
            show (∃ s' t', b_X11_shared_42 mc 0 (8 * b + f) (8 * b + g) w (x : Int) = some (.inl s') ∧ b_X12_shared_59 m1 0 (b : Int) (f : Int) (g : Int) w (x : Int) = some (.inl t') ∧ _) ∨ ∃ v v', b_X11_shared_42 mc 0 (8 * b + f) (8 * b + g) w (x : Int) = some (.inr v) ∧ b_X12_shared_59 m1 0 (b : Int) (f : Int) (g : Int) w (x : Int) = some (.inr v') ∧ _
            unfold b_X11_shared_42 b_X12_shared_59
            rw [nk_of h.C.r1, hCa.1]
            by_cases q : gN m1 12 0 6 ≤ (x : Int)
            · right
              rw [if_pos q, if_pos q]
              exact ⟨_, _, rfl, rfl, rfl, by omega, by omega⟩
            · left
              have h400 := hCa.2.2.1
              have hx4 : x < 400 := by omega
              have b1 := bf x
              have b2 := bg x
              have back : ∀ w' : Int, 0 ≤ w' → w' ≤ x + 1 → ∃ s' t' : Int × Int, some (Sum.inl (w', (x : Int) + 1) : (Int × Int) ⊕ Int) = some (.inl s') ∧ some (Sum.inl (w', (x : Int) + 1) : (Int × Int) ⊕ Int) = some (.inl t') ∧ (∃ x : Nat, s'.2 = x ∧ s' = t' ∧ x ≤ 400 ∧ 0 ≤ s'.1 ∧ s'.1 ≤ x) ∧ 400 - s'.2.toNat < 400 - (x : Int).toNat := fun w' h1 h2 => ⟨_, _, rfl, rfl, ⟨x + 1, by simp, rfl, by omega, h1, by simpa using h2⟩, by simp only; omega⟩
              have k0 : -2147483648 ≤ w ∧ w < 2147483648 := by omega
              have k1 : -2147483648 ≤ w + 1 ∧ w + 1 < 2147483648 := by omega
              have k2 : -2147483648 ≤ (x : Int) + 1 ∧ (x : Int) + 1 < 2147483648 := by omega
              rw [if_neg q, if_neg q, nk_of (hS.o3 f hf), ldN_of (hS.z25 f hf) (by omega), tnc, nk_of (hS.o3 g hg), ldN_of (hS.z25 g hg) (by omega), tnc, nk_of hM1.r8, ldN_of hM1.z63 (by omega), tnc, sf x hx4, sg x hx4, Option.bind_some, Option.bind_some]
              simp only [ck_of k0, ck_of k1, ck_of k2, Int.add_zero]
              by_cases c1 : gN mc 25 (8 * b + f) x ≤ 0
              · rw [if_pos c1]
                have e : (if gN m1 63 0 x ≤ 0 then some (Sum.inl (w, (x : Int) + 1) : (Int × Int) ⊕ Int) else some (Sum.inl (w, (x : Int) + 1))) = some (Sum.inl (w, (x : Int) + 1)) := by split <;> rfl
                rw [e]
                exact back w hw (by omega)
              · rw [if_neg c1, if_neg (show ¬ gN m1 63 0 x ≤ 0 by omega)]
                by_cases c2 : gN mc 25 (8 * b + g) x ≤ 0
                · rw [if_pos c2]
                  exact back w hw (by omega)
                · rw [if_neg c2]
                  exact back (w + 1) (by omega) (by omega)) (0, 0) (0, 0) ⟨0, rfl, rfl, by omega, by simp, by simp⟩
          rw [e1, e2, Option.bind_some, Option.bind_some]
          unfold j_X11_shared_0_85 j_X12_shared_0_116
          have k0 : -2147483648 ≤ v ∧ v < 2147483648 := by omega
          have k1 : -2147483648 ≤ v + 1000 ∧ v + 1000 < 2147483648 := by omega
          have k2 : -2147483648 ≤ 8 * (b : Int) + (f : Int) ∧ 8 * (b : Int) + (f : Int) < 2147483648 := by omega
          have k3 : -2147483648 ≤ 8 * (b : Int) + (g : Int) ∧ 8 * (b : Int) + (g : Int) < 2147483648 := by omega
          have e0 : j_X11_shared_0_111 mc v = some (.inl (some (aI v)), mc) := by unfold j_X11_shared_0_111 j_X11_shared_0_112; rw [if_pos rfl]
          rw [e0, ck_of k2, ck_of k3, nk_of hM1.r56, ldN_of hM1.z108 (by omega), tn8, nk_of hM1.r56, ldN_of hM1.z108 (by omega), tn8, nk_of hM1.r57, ldN_of hM1.z109 (by omega), tn8, nk_of hM1.r57, ldN_of hM1.z109 (by omega), tn8]
          simp only [ck_of k0, ck_of k1, Int.add_zero]
          by_cases c1 : gN m1 108 0 (8 * b + f) = 0
          · rw [if_pos (show gN mc 2 (8 * b + f) 5 = -1 by omega), if_pos c1]
            exact Qry.ok rfl (by rw [hm1])
          · rw [if_neg (show ¬ gN mc 2 (8 * b + f) 5 = -1 by omega), if_neg c1]
            by_cases c2 : gN m1 108 0 (8 * b + g) = 0
            · rw [if_pos (show ¬ gN mc 2 (8 * b + f) 5 = gN mc 2 (8 * b + g) 5 by omega), if_pos c2]
              exact Qry.ok rfl (by rw [hm1])
            · rw [if_neg c2]
              by_cases c3 : gN m1 109 0 (8 * b + f) = gN m1 109 0 (8 * b + g)
              · rw [if_neg (show ¬ ¬ gN mc 2 (8 * b + f) 5 = gN mc 2 (8 * b + g) 5 by omega), if_neg (show ¬ ¬ gN m1 109 0 (8 * b + f) = gN m1 109 0 (8 * b + g) from fun q => q c3)]
                have e4 : j_X11_shared_0_112 mc v 1 = some (.inl (some (aI (v + 1000))), mc) := by unfold j_X11_shared_0_112; rw [if_neg (show ¬ (1 : Int) = 0 by decide), ck_of k1]
                rw [e4]
                exact Qry.ok rfl (by rw [hm1])
              · rw [if_pos (show ¬ gN mc 2 (8 * b + f) 5 = gN mc 2 (8 * b + g) 5 by omega), if_pos c3]
                exact Qry.ok rfl (by rw [hm1])
      · rw [formeOf_bad hS hd, bR_ex, isForme_bad h.Nb h.M hP hb.2 hd, Option.bind_some, if_pos rfl, m22]
        exact Qry.bad (k := 0) rfl rfl rfl
    · rw [formeOf_bad hS hc, bR_ex, isForme_bad h.Nb h.M hP hb.2 hc, Option.bind_some, if_pos rfl, m22]
      exact Qry.bad (k := 0) rfl rfl rfl
  · rw [bookAt_bad h.Nb h.C hb, bR_ex, isForme_b0 h.Nb hb, Option.bind_some, if_pos rfl, m22]
    exact Qry.bad (k := 0) rfl rfl rfl
end SHARED
