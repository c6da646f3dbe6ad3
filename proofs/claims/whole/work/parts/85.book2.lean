/-! BOOK: the call. -/
section BOOK
variable {N : Nat} {mc mm : MM} {b F n M Ln E : Nat}
def goodB (a c d e g : Int) : Prop := (a = 2 ∨ a = 4 ∨ a = 8) ∧ (1 ≤ c ∧ c ≤ 8 / a) ∧ (10 ≤ d ∧ d ≤ 24) ∧ (1 ≤ e ∧ e ≤ 6) ∧ 2 ≤ g ∧ g ≤ 24
theorem book_badc {a c d e g : Int} (hg : ¬ goodB a c d e g) : f_X11_book mc 0 a c d e g = some (.inr 1, bX mc) := by
  have x21 : j_X11_book_0_21 mc 0 a c d e g 0 = some (.inr 1, bX mc) := by unfold j_X11_book_0_21; rw [rqA0, bV_ex]; rfl
  have x41 : j_X11_book_0_41 mc 0 a c d e g = some (.inr 1, bX mc) := by unfold j_X11_book_0_41 j_X11_book_0_42; rw [rqA0, bV_ex]; rfl
  have x61 : j_X11_book_0_61 mc 0 a c d e g = some (.inr 1, bX mc) := by unfold j_X11_book_0_61 j_X11_book_0_62; rw [rqA0, bV_ex]; rfl
  have x82 : j_X11_book_0_82 mc 0 a c d e g = some (.inr 1, bX mc) := by unfold j_X11_book_0_82 j_X11_book_0_83; rw [rqA0, bV_ex]; rfl
  have x103 : j_X11_book_0_103 mc 0 a c d e g = some (.inr 1, bX mc) := by unfold j_X11_book_0_103 j_X11_book_0_104; rw [rqA0, bV_ex]; rfl
  have x16 : (a = 2 ∨ a = 4 ∨ a = 8) → j_X11_book_0_16 mc 0 a c d e g = some (.inr 1, bX mc) := fun ha => by
    unfold j_X11_book_0_16 j_X11_book_0_21
    rw [rqA _ (by decide), bV_ok]
    by_cases h1 : c < 1
    · rw [if_pos h1, x41]
    · rw [if_neg h1, dv_of ⟨by omega, by omega⟩]
      by_cases h2 : 8 / a < c
      · rw [if_pos h2, x41]
      · rw [if_neg h2]
        unfold j_X11_book_0_42
        rw [rqA _ (by decide), bV_ok]
        by_cases h3 : d < 10
        · rw [if_pos h3, x61]
        · by_cases h4 : 24 < d
          · rw [if_neg h3, if_pos h4, x61]
          · rw [if_neg h3, if_neg h4]
            unfold j_X11_book_0_62
            rw [rqA _ (by decide), bV_ok]
            by_cases h5 : e < 1
            · rw [if_pos h5, x82]
            · by_cases h6 : 6 < e
              · rw [if_neg h5, if_pos h6, x82]
              · rw [if_neg h5, if_neg h6]
                unfold j_X11_book_0_83
                rw [rqA _ (by decide), bV_ok]
                by_cases h7 : g < 2
                · rw [if_pos h7, x103]
                · by_cases h8 : 24 < g
                  · rw [if_neg h7, if_pos h8, x103]
                  · exact absurd ⟨ha, ⟨by omega, by omega⟩, ⟨by omega, by omega⟩, ⟨by omega, by omega⟩, by omega, by omega⟩ hg
  unfold f_X11_book
  by_cases h2 : a = 2
  · rw [if_pos h2, x16 (by omega)]
  · by_cases h4 : a = 4
    · rw [if_neg h2, if_pos h4, x16 (by omega)]
    · by_cases h8 : a = 8
      · rw [if_neg h2, if_neg h4, if_neg (show ¬ ¬ a = 8 from fun q => q h8), x16 (by omega)]
      · rw [if_neg h2, if_neg h4, if_pos h8, x21]
theorem book_badm {a c d e g : Int} (hg : ¬ goodB a c d e g) : f_X12_book mm 0 a c d e g = some (.inl (some (aI 0)), sN mm 12 0 0 1) := by
  have x77 : j_X12_book_0_77 mm 0 a c d e g = some (.inl (some (aI 0)), sN mm 12 0 0 1) := by
    unfold j_X12_book_0_77 j_X12_book_0_78 j_X12_book_0_103
    rw [if_neg (show ¬ ¬ (0 : Int) = 0 from fun q => q rfl), holds1 _ (by decide), bI_ok, if_neg (show ¬ ¬ (0 : Int) = 0 from fun q => q rfl)]
  have x21 : j_X12_book_0_21 mm 0 a c d e g 0 = some (.inl (some (aI 0)), sN mm 12 0 0 1) := by unfold j_X12_book_0_21; rw [if_pos rfl, x77]
  have x16 : (a = 2 ∨ a = 4 ∨ a = 8) → j_X12_book_0_16 mm 0 a c d e g = some (.inl (some (aI 0)), sN mm 12 0 0 1) := fun ha => by
    unfold j_X12_book_0_16 j_X12_book_0_21
    rw [if_neg (show ¬ (1 : Int) = 0 by decide), dv_of ⟨by omega, by omega⟩, isIn_m, Option.bind_some]
    by_cases h1 : 1 ≤ c ∧ c ≤ 8 / a
    · rw [if_pos h1, if_neg (show ¬ (1 : Int) = 0 by decide), isIn_m, Option.bind_some]
      by_cases h3 : 10 ≤ d ∧ d ≤ 24
      · rw [if_pos h3, if_neg (show ¬ (1 : Int) = 0 by decide), isIn_m, Option.bind_some]
        by_cases h5 : 1 ≤ e ∧ e ≤ 6
        · rw [if_pos h5, if_neg (show ¬ (1 : Int) = 0 by decide), isIn_m, Option.bind_some, if_neg (show ¬ (2 ≤ g ∧ g ≤ 24) from fun q => hg ⟨ha, h1, h3, h5, q⟩), if_pos rfl, x77]
        · rw [if_neg h5, if_pos rfl, x77]
      · rw [if_neg h3, if_pos rfl, x77]
    · rw [if_neg h1, if_pos rfl, x77]
  unfold f_X12_book
  by_cases h2 : a = 2
  · rw [if_pos h2, x16 (by omega)]
  · by_cases h4 : a = 4
    · rw [if_neg h2, if_pos h4, x16 (by omega)]
    · by_cases h8 : a = 8
      · rw [if_neg h2, if_neg h4, if_neg (show ¬ ¬ a = 8 from fun q => q h8), x16 (by omega)]
      · rw [if_neg h2, if_neg h4, if_pos h8, x21]
theorem book_goodc {a c d e g : Int} (hg : goodB a c d e g) : f_X11_book mc 0 a c d e g = if 3 ≤ gN mc 11 0 8 then j_X11_book_0_120 mc 0 a c d e g 0 else j_X11_book_0_120 mc 0 a c d e g 1 := by
  obtain ⟨h1, h2, h3, h4, h5⟩ := hg
  have x16 : j_X11_book_0_16 mc 0 a c d e g = if 3 ≤ gN mc 11 0 8 then j_X11_book_0_120 mc 0 a c d e g 0 else j_X11_book_0_120 mc 0 a c d e g 1 := by
    unfold j_X11_book_0_16 j_X11_book_0_21
    rw [rqA _ (by decide), bV_ok, if_neg (show ¬ c < 1 by omega), dv_of ⟨by omega, by omega⟩, if_neg (show ¬ 8 / a < c by omega)]
    unfold j_X11_book_0_42
    rw [rqA _ (by decide), bV_ok, if_neg (show ¬ d < 10 by omega), if_neg (show ¬ 24 < d by omega)]
    unfold j_X11_book_0_62
    rw [rqA _ (by decide), bV_ok, if_neg (show ¬ e < 1 by omega), if_neg (show ¬ 6 < e by omega)]
    unfold j_X11_book_0_83
    rw [rqA _ (by decide), bV_ok, if_neg (show ¬ g < 2 by omega), if_neg (show ¬ 24 < g by omega)]
    unfold j_X11_book_0_104
    rw [rqA _ (by decide), bV_ok]
  unfold f_X11_book
  rcases h1 with h1 | h1 | h1
  · rw [if_pos h1, x16]
  · rw [if_neg (by omega), if_pos h1, x16]
  · rw [if_neg (by omega), if_neg (by omega), if_neg (show ¬ ¬ a = 8 from fun q => q h1), x16]
theorem book_goodm {a c d e g : Int} (hg : goodB a c d e g) : f_X12_book mm 0 a c d e g = if ¬ gN mm 12 0 19 = 3 then j_X12_book_0_103 mm 0 a c d e g 0 0 else j_X12_book_0_103 mm 0 a c d e g 0 2 := by
  obtain ⟨h1, h2, h3, h4, h5⟩ := hg
  have x16 : j_X12_book_0_16 mm 0 a c d e g = if ¬ gN mm 12 0 19 = 3 then j_X12_book_0_103 mm 0 a c d e g 0 0 else j_X12_book_0_103 mm 0 a c d e g 0 2 := by
    unfold j_X12_book_0_16 j_X12_book_0_21
    rw [if_neg (show ¬ (1 : Int) = 0 by decide), dv_of ⟨by omega, by omega⟩, isIn_m, Option.bind_some, if_pos h2, if_neg (show ¬ (1 : Int) = 0 by decide), isIn_m, Option.bind_some, if_pos h3, if_neg (show ¬ (1 : Int) = 0 by decide), isIn_m, Option.bind_some, if_pos h4, if_neg (show ¬ (1 : Int) = 0 by decide), isIn_m, Option.bind_some, if_pos h5, if_neg (show ¬ (1 : Int) = 0 by decide)]
    unfold j_X12_book_0_78
    rw [if_pos (show ¬ (1 : Int) = 0 by decide)]
  unfold f_X12_book
  rcases h1 with h1 | h1 | h1
  · rw [if_pos h1, x16]
  · rw [if_neg (by omega), if_pos h1, x16]
  · rw [if_neg (by omega), if_neg (by omega), if_neg (show ¬ ¬ a = 8 from fun q => q h1), x16]
theorem call_book (hCI : CI mm) (h : RR N mc mm) (a c d e g : Int) : ∃ r mc' v mm', f_X11_book mc 0 a c d e g = some (r, mc') ∧ f_X12_book mm 0 a c d e g = some (.inl (some (aI v)), mm') ∧ Ans [1, 2] r (gN mm' 12 0 0) v ∧ RR (N + 1) mc' mm' ∧ CI mm' := by
  have hNb := h.Nb
  have hr := hNb.r
  have thrCI : ∀ v, CI (sN mm 12 0 0 v) := fun v j hj => by
    rw [gthr' _ _ (Or.inr (by decide))] at hj
    rw [gthr' _ _ (Or.inl (by decide)), gthr' _ _ (Or.inr (by decide))]
    exact hCI j hj
  by_cases hg : goodB a c d e g
  · rw [book_goodc hg, book_goodm hg, hNb.c]
    by_cases h3 : gN mm 12 0 19 = 3
    · rw [if_pos (by omega), if_neg (show ¬ ¬ gN mm 12 0 19 = 3 from fun q => q h3)]
      have e1 : j_X11_book_0_120 mc 0 a c d e g 0 = some (.inr 2, bX mc) := by unfold j_X11_book_0_120; rw [rqS0, bV_ex]; rfl
      have e2 : j_X12_book_0_103 mm 0 a c d e g 0 2 = some (.inl (some (aI 0)), sN mm 12 0 0 2) := by unfold j_X12_book_0_103; rw [holds1 _ (by decide), bI_ok, if_neg (show ¬ ¬ (0 : Int) = 0 from fun q => q rfl)]
      rw [e1, e2]
      exact ⟨_, _, _, _, rfl, rfl, Or.inr ⟨2, 1, rfl, rfl, by rw [gthr]; rfl⟩, ((h.thr 2).bX).up (by omega), thrCI 2⟩
    · rw [if_neg (by omega), if_pos h3]
      obtain ⟨hF0, hn0, hM0, hL0, hE0⟩ := hg
      obtain ⟨b, hb⟩ := Int.ex hr.1
      obtain ⟨F, rfl⟩ := Int.ex (show 0 ≤ a by omega)
      obtain ⟨n, rfl⟩ := Int.ex (show 0 ≤ c by omega)
      obtain ⟨M, rfl⟩ := Int.ex (show 0 ≤ d by omega)
      obtain ⟨Ln, rfl⟩ := Int.ex (show 0 ≤ e by omega)
      obtain ⟨E, rfl⟩ := Int.ex (show 0 ≤ g by omega)
      have hF : F = 2 ∨ F = 4 ∨ F = 8 := by omega
      have hn : 1 ≤ n ∧ F * n ≤ 8 := by rcases hF with z | z | z <;> subst z <;> omega
      have hb3 : b < 3 := by omega
      have hc0 : gC mc 0 = b := by
        have := (h.Fr.n 0 (by unfold isBK; omega)).2 rfl
        omega
      have hcnt : ∀ K, isBK K → K ≠ 0 → gC (nW (bC mc (bump0 b)) 0 12) K = bsz K * b := fun K hK h0 => by
        rw [gC_nW, if_neg h0, gC_bC]
        have z := h.Fr.n K hK
        rw [hb] at z
        have z1 : gC mc K ≤ bsz K * b := by
          have := z.1
          rw [← Int.natCast_mul] at this
          exact Int.ofNat_le.mp this
        unfold isBK at hK
        unfold bump0
        by_cases a1 : K = 2 ∨ K = 19 ∨ K = 25 ∨ K = 26
        · have s1 : bsz K = 8 := by unfold bsz; rw [if_pos a1]
          rw [s1] at z1
          rw [if_pos a1, s1]
          exact Nat.max_eq_right z1
        · by_cases a2 : K = 4 ∨ K = 5 ∨ (27 ≤ K ∧ K ≤ 37)
          · have s1 : bsz K = 16 := by unfold bsz; rw [if_neg a1, if_pos a2]
            rw [s1] at z1
            rw [if_neg a1, if_pos (by omega), s1]
            exact Nat.max_eq_right z1
          · by_cases a3 : K = 8
            · have s1 : bsz K = 4 := by unfold bsz; rw [if_neg a1, if_neg a2, if_pos a3]
              rw [s1] at z1
              rw [if_neg a1, if_neg (by omega), if_pos a3, s1]
              exact Nat.max_eq_right z1
            · by_cases a4 : K = 18
              · have s1 : bsz K = 24 := by unfold bsz; rw [if_neg a1, if_neg a2, if_neg a3, if_pos a4]
                rw [s1] at z1
                rw [if_neg a1, if_neg (by omega), if_neg a3, if_pos a4, s1]
                exact Nat.max_eq_right z1
              · by_cases a5 : K = 38
                · have s1 : bsz K = 384 := by unfold bsz; rw [if_neg a1, if_neg a2, if_neg a3, if_neg a4, if_pos a5]
                  rw [s1] at z1
                  rw [if_neg a1, if_neg (by omega), if_neg a3, if_neg a4, if_pos a5, s1]
                  exact Nat.max_eq_right z1
                · have s1 : bsz K = 1 := by unfold bsz; rw [if_neg a1, if_neg a2, if_neg a3, if_neg a4, if_neg a5]
                  have z2 := z.2 s1
                  rw [if_neg a1, if_neg (by omega), if_neg a3, if_neg a4, if_neg a5, s1, Nat.max_zero, Nat.one_mul]
                  omega
      obtain ⟨s, e1, k1, k2, k3, k4, k5, k6⟩ := init_c (m := nW (bC mc (bump0 b)) 0 12) (b := b) (F := F) (n := n) (M := M) (Ln := Ln) (E := E) hF hn ⟨by omega, by omega⟩ ⟨by omega, by omega⟩ ⟨by omega, by omega⟩ hcnt
      unfold j_X11_book_0_120 j_X12_book_0_103
      rw [rqS _ (by decide), bV_ok, nk_of h.C.r3, lt_eq, lt_eq, hc0]
      have hcb : gC (bC mc (bump0 b)) 0 = b := by
        rw [gC_bC, hc0]; show max b 0 = b; omega
      have g4 : GF (bkWN b) (fun K i k => bkWR b K i k ∨ (K = 56 ∧ i = 0 ∧ k = b)) (fun K i => bkWZ b K i ∨ (K = 0 ∧ i = b)) mc (sR s 56 0 b (some (0, b))) := (GF.nW (GF.bC GF.rf) (Or.inr ⟨rfl, hcb⟩)).tr (k4.sub (fun _ _ _ q => q) (fun _ _ _ q => q) (fun _ _ q => Or.inl q))
      have z56 : gZ s 56 0 = some 3 := (g4.2.2.1 56 0 (fun q => by
        rcases q with q | q
        · have := CBk.bk q; unfold isBK at this; omega
        · omega)).trans h.C.z56
      have s8 : gN s 11 0 8 = b := ((g4.1 11 0 8 (fun q => by unfold bkWN at q; omega)).trans hNb.c).trans hb
      rw [hcb, e1, bV_ok, hNb.c, hb, stR_of z56 (by omega), tnc, gN_sR, s8, ck_of ⟨by omega, by omega⟩, lt_eq, gN_sN, if_pos ⟨rfl, rfl, rfl⟩, ck_of ⟨by omega, by omega⟩]
      have hM := (h.thr 0).M
      have t19 : gN (sN mm 12 0 0 0) 12 0 19 = b := by rw [gthr' _ _ (Or.inr (by decide)), hb]
      rw [holds0, bI_ok, if_pos (show ¬ (1 : Int) = 0 by decide), nk_of hM.r20, t19, stN_of hM.z73 (by omega), tnc]
      have hM1 : SM (sN (sN mm 12 0 0 0) 73 0 b (F : Int)) := hM.mv (fun _ => rfl) (fun _ _ _ q => q)
      rw [nk_of hM1.r21, gN_sN, if_neg (by omega), t19, stN_of hM1.z74 (by omega), tnc]
      have hM2 : SM (sN (sN (sN mm 12 0 0 0) 73 0 b (F : Int)) 74 0 b (n : Int)) := hM1.mv (fun _ => rfl) (fun _ _ _ q => q)
      rw [nk_of hM2.r22, gN_sN, if_neg (by omega), gN_sN, if_neg (by omega), t19, stN_of hM2.z75 (by omega), tnc]
      have hM3 : SM (sN (sN (sN (sN mm 12 0 0 0) 73 0 b (F : Int)) 74 0 b (n : Int)) 75 0 b (M : Int)) := hM2.mv (fun _ => rfl) (fun _ _ _ q => q)
      rw [nk_of hM3.r23, gN_sN, if_neg (by omega), gN_sN, if_neg (by omega), gN_sN, if_neg (by omega), t19, stN_of hM3.z76 (by omega), tnc]
      have hM4 : SM (sN (sN (sN (sN (sN mm 12 0 0 0) 73 0 b (F : Int)) 74 0 b (n : Int)) 75 0 b (M : Int)) 76 0 b (Ln : Int)) := hM3.mv (fun _ => rfl) (fun _ _ _ q => q)
      rw [nk_of hM4.r24, gN_sN, if_neg (by omega), gN_sN, if_neg (by omega), gN_sN, if_neg (by omega), gN_sN, if_neg (by omega), t19, stN_of hM4.z77 (by omega), tnc]
      have u19 : gN (sN (sN (sN (sN (sN (sN mm 12 0 0 0) 73 0 b (F : Int)) 74 0 b (n : Int)) 75 0 b (M : Int)) 76 0 b (Ln : Int)) 77 0 b (E : Int)) 12 0 19 = b := by rw [gN_sN, if_neg (by omega), gN_sN, if_neg (by omega), gN_sN, if_neg (by omega), gN_sN, if_neg (by omega), gN_sN, if_neg (by omega), t19]
      rw [u19, ck_of ⟨by omega, by omega⟩, lt_eq]
      have v19 : gN (sN (sN (sN (sN (sN (sN (sN mm 12 0 0 0) 73 0 b (F : Int)) 74 0 b (n : Int)) 75 0 b (M : Int)) 76 0 b (Ln : Int)) 77 0 b (E : Int)) 12 0 19 ((b : Int) + 1)) 12 0 19 = (b : Int) + 1 := by rw [gN_sN, if_pos ⟨rfl, rfl, rfl⟩]
      rw [v19, ck_of ⟨by omega, by omega⟩]
      refine ⟨_, _, _, _, rfl, rfl, Or.inl ⟨rfl, by simp [gN_sN]⟩, ?_, ?_⟩
      · refine book_rel h hCI hb hb3 hF hn ⟨by omega, by omega⟩ ⟨by omega, by omega⟩ ⟨by omega, by omega⟩ k1 k2 k3 g4 (fun K hK => ?_) (fun K hK => ?_) v19 (by simp [gN_sN]) (by simp [gN_sN]) (by simp [gN_sN]) (by simp [gN_sN]) (by simp [gN_sN]) (fun K i k hk => ((((((eq3.sN (by omega)).tr (eq3.sN (by omega))).tr (eq3.sN (by omega))).tr (eq3.sN (by omega))).tr (eq3.sN (by omega))).tr (eq3.sN (by omega))).tr (eq3.sN (by omega))) (fun _ _ _ q => q)
        · by_cases q0 : K = 0
          · subst q0
            rw [gC_sR, k6 0 (Or.inr rfl), gC_nW, if_pos rfl, hcb]
            exact ⟨by show b + 1 ≤ 1 * (b + 1); omega, fun _ => rfl⟩
          · exact k5 K hK q0
        · rw [gC_sR, k6 K (Or.inl hK), gC_nW, if_neg (fun q => hK (by rw [q]; unfold isBK; omega)), gC_bC]
          have : bump0 b K = 0 := by
            unfold isBK at hK
            unfold bump0
            rw [if_neg (by omega), if_neg (by omega), if_neg (by omega), if_neg (by omega), if_neg (by omega)]
          rw [this]; omega
      · intro j hj
        rw [gN_sN, if_neg (by omega), gN_sN, if_neg (by omega), gN_sN, if_neg (by omega), gN_sN, if_neg (by omega), gN_sN, if_neg (by omega), gN_sN, if_neg (by omega), gthr' _ _ (Or.inr (by decide))] at hj
        rw [v19, gN_sN, if_neg (by omega), gN_sN, if_neg (by omega), gN_sN, if_neg (by omega), gN_sN, if_neg (by omega), gN_sN, if_neg (by omega), gN_sN, if_neg (by omega), gthr' _ _ (Or.inl (by decide))]
        have := hCI j hj
        omega
  · rw [book_badc hg, book_badm hg]
    exact ⟨_, _, _, _, rfl, rfl, Or.inr ⟨1, 0, rfl, rfl, by rw [gthr]; rfl⟩, ((h.thr 1).bX).up (by omega), thrCI 1⟩
end BOOK
