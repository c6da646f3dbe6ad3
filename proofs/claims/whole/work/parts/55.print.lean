/-! PRINT. -/
theorem xor1 {x : Nat} (h : x < 24) : ixor' (x : Int) 1 = ((x / 2 * 2 + (1 - x % 2) : Nat) : Int) := by
  have : ∀ x : Fin 24, ixor' (((x : Nat)) : Int) 1 = (((x : Nat) / 2 * 2 + (1 - (x : Nat) % 2) : Nat) : Int) := by decide
  exact this ⟨x, h⟩
section PRINT
variable {N : Nat} {mc mm : MM} {b F n M Ln E : Nat}
theorem onPress_c (hB : RBk mc mm b F n M Ln E) {s : Nat} (hs : s < n) : ∃ v, f_X8_isOnPress mc (4 * b + s) = some v ∧ (v = 0 ∨ v = 1) ∧ (v = 1 ↔ gN mm 108 0 (8 * b + 2 * s) = 2 ∨ gN mm 108 0 (8 * b + (2 * s + 1)) = 2) := by
  have h1 := (hB.ff (2 * s) (by omega)).how.1
  have h2 := (hB.ff (2 * s + 1) (by omega)).how.1
  unfold f_X8_isOnPress
  rw [nk_of (hB.hS.h0 s hs), nk_of (hB.hS.h1 s hs), h1, h2]
  by_cases q1 : gN mm 108 0 (8 * b + 2 * s) = 2
  · rw [if_pos q1]
    exact ⟨1, rfl, by omega, by omega⟩
  · rw [if_neg q1]
    by_cases q2 : gN mm 108 0 (8 * b + (2 * s + 1)) = 2
    · rw [if_neg (fun q => q q2)]
      exact ⟨1, rfl, by omega, by omega⟩
    · rw [if_pos q2]
      exact ⟨0, rfl, by omega, by omega⟩
/-- what a forme on a press leaves -/
theorem print_rel (hN : N ≤ 511) (h : RR N mc mm) (hb : (b : Int) < gN mm 12 0 19) (hB : RBk mc mm b F n M Ln E) {f p : Nat} (hf : f < 2 * n) (hp3 : p < 3) {mc' mm' : MM} (h122 : gN mm 122 0 p = -1) (hst : gN mm 108 0 (8 * b + f) = 1)
    (cc : ∀ K i s', ¬ (K = 2 ∧ i = 8 * b + f ∧ (s' = 4 ∨ s' = 8)) ∧ ¬ (K = 6 ∧ i = p ∧ s' = 0) ∧ ¬ (K = 8 ∧ i = 4 * b + f / 2 ∧ 2 ≤ s' ∧ s' ≤ 4) ∧ ¬ (K = 58 ∧ i = 0) → eq3 mc mc' K i s')
    (cm : ∀ K i s', ¬ (K = 12 ∧ s' = 0) ∧ ¬ ((K = 108 ∨ K = 113 ∨ K = 115 ∨ K = 116) ∧ s' = 8 * b + f) ∧ ¬ (K = 122 ∧ s' = p) ∧ ¬ ((K = 117 ∨ K = 118 ∨ K = 119) ∧ s' = 4 * b + f / 2) ∧ ¬ (K = 125) → eq3 mm mm' K i s')
    (hzc : ∀ K i, gZ mc' K i = gZ mc K i) (hzm : ∀ K i k, gZ mm K i = some k → gZ mm' K i = some k) (hCC : ∀ K, gC mc' K = gC mc K)
    (w4 : gN mc' 2 (8 * b + f) 4 = 2) (w8 : gN mc' 2 (8 * b + f) 8 = gN mm 12 0 69) (x108 : gN mm' 108 0 (8 * b + f) = 2) (x113 : gN mm' 113 0 (8 * b + f) = gN mm 12 0 69) (x115 : gN mm' 115 0 (8 * b + f) = 0)
    (w6 : gR mc' 6 p 0 = some (2, 8 * b + f)) (w6' : ∀ s, gN mc' 6 p s = gN mc 6 p s) (x122 : gN mm' 122 0 p = ((8 * b + f : Nat) : Int))
    (hst58 : ∀ k, gN mc' 58 0 k = gN mm' 125 0 k) (h125 : ∀ k, k < 4 → 0 ≤ gN mm' 125 0 k ∧ gN mm' 125 0 k ≤ 24 * ((N + 1 : Nat) : Int))
    (hsh : (gN mm' 117 0 (4 * b + f / 2) = 1 ∧ (gN mc' 8 (4 * b + f / 2) 3 = gN mm' 118 0 (4 * b + f / 2) ∧ 0 ≤ gN mm' 118 0 (4 * b + f / 2) ∧ gN mm' 118 0 (4 * b + f / 2) ≤ 3) ∧ (gN mc' 8 (4 * b + f / 2) 4 = gN mm' 119 0 (4 * b + f / 2) ∧ 0 ≤ gN mm' 119 0 (4 * b + f / 2) ∧ gN mm' 119 0 (4 * b + f / 2) ≤ 100000) ∧ ∃ d e : Nat, d + e = 1 ∧ gR mc' 8 (4 * b + f / 2) 2 = some (2, 8 * b + (2 * (f / 2) + d)) ∧ 2 ≤ gN mm' 108 0 (8 * b + (2 * (f / 2) + d)) ∧ gN mm' 116 0 (8 * b + (2 * (f / 2) + d)) = 1 ∧ (2 ≤ gN mm' 108 0 (8 * b + (2 * (f / 2) + e)) → gN mm' 116 0 (8 * b + (2 * (f / 2) + e)) = 0))) : RR (N + 1) mc' mm' := by
  have hP := hB.hP
  have hS := hB.hS
  have q0 := hP.hb
  have q1 := hP.hn
  have q2 := hP.hL
  have q3 := hP.hE
  have q4 := hP.ml
  have hff := hB.ff f hf
  have hPf := h.Pf
  have hPc := h.Pc
  have hbd : gN mm 79 0 b = 0 := by
    rcases hB.lv.bd.2 with z | z
    · exact z
    · have := hB.lv.d z f hf; omega
  have hMi := h.Mi
  have st1 : ∀ j, gN mm' 108 0 j = gN mm 108 0 j ∨ (j = 8 * b + f ∧ gN mm' 108 0 j = 2 ∧ gN mm 108 0 j = 1) := fun j => by
    by_cases q : j = 8 * b + f
    · exact Or.inr ⟨q, by rw [q]; exact x108, by rw [q]; exact hst⟩
    · exact Or.inl (cm 108 0 j (by omega)).1
  have cb : ∀ K i s', isBK K → ¬ CBk b K i → eq3 mc mc' K i s' := fun K i s' hK hn => cc K i s' ⟨fun q => hn (CBk.b (by omega) (by omega)), fun q => by unfold isBK at hK; omega, fun q => hn (CBk.d q.1 (by omega)), fun q => by unfold isBK at hK; omega⟩
  have mb : ∀ K s', 78 ≤ K → K ≤ 126 → K < 105 ∨ 107 < K → K < 121 ∨ 125 < K → ¬ MBk b K s' → eq3 mm mm' K 0 s' := fun K s' h1 h2 h3 h4 hn => cm K 0 s' ⟨by omega, fun q => hn (MBk.g (by omega) (by omega)), by omega, fun q => hn (MBk.i (by omega) (by omega)), by omega⟩
  refine h.one (b0 := b) hzc hCC hb (cm 12 0 19 (by omega)).1 (h.C.mv2 (fun K i s hk => (cc K i s (by omega)).2.2) (fun K i k hk => by rw [hzc]; exact hk)) (h.M.mv2 (fun s hs => (cm 12 0 s (by omega)).2.2) hzm) (h.T.keep (cc 10 0 5 (by omega)).1 (cm 12 0 1 (by omega)).1 (fun k => (cc 50 0 k (by omega)).1) (fun k => (cm 59 0 k (by omega)).1)) (h.Sp.keep (fun K i s hk => cc K i s (by omega)) (fun K i s hk => cm K i s (by omega)))
    (h.Ca.keep (cc 1 0 5 (by omega)).1 (cm 12 0 6 (by omega)).1 (fun K h1 h2 k => (cc K 0 k (by omega)).1) (fun K h1 h2 k => (cm K 0 k (by omega)).1)) (h.H.keep (by omega) (fun K i s hk => cc K i s (by omega)) (hCC 3) (fun K i s hk => cm K i s (by omega))) ⟨by rw [(cc 11 0 9 (by omega)).1, (cm 12 0 74 (by omega)).1]; exact hMi.1, by rw [(cc 11 0 10 (by omega)).1, (cm 12 0 69 (by omega)).1]; exact hMi.2.1, hst58⟩ (fun p' hp' => ?_) (h.Nb.keep (cc 11 0 8 (by omega)).1 (cm 12 0 19 (by omega)).1 (fun s => (cc 56 0 s (by omega)).2.2))
    (fun K i s hk => cc K i s (by omega)) cb (fun K i s hk => cm K i s (by omega)) mb (fun b' p f hbb hb3 hp hf h90 h7 hx => hx.other hbb hp hf cb mb (fun K i s hk => cm K i s (by omega)) h90 h7) (by rw [(cm 12 0 69 (by omega)).1]; exact Int.le_refl _) (fun x => by rw [(cm 63 0 x (by omega)).1]; exact Int.le_refl _) ⟨F, n, M, Ln, E, hP.keep (fun K h1 h2 => (cm K 0 b (by omega)).1), hB.hS.keep hP (fun K i s hk => cc K i s (by unfold CBS at hk; omega)) (fun K i k hk => by rw [hzc]; exact hk), hB.tx.keep (fun K i s hk => cc K i s (by unfold CTx at hk; omega)) (fun K i s hk => cm K i s (by unfold MTx at hk; omega)), fun p hp => (hB.pg p hp).keep (by omega) (fun K i s hk => cc K i s (by unfold CPg at hk; omega)) (fun K i s hk => cm K i s (by unfold MPg at hk; omega)), fun p hp => (hB.po p hp).keep (by omega) (fun K i s hk => cc K i s (by unfold CPo at hk; omega)) (fun K i s hk => cm K i s (by unfold MPo at hk; omega)), fun p hp => (hB.pl p hp).keep (by have := (hB.pg p hp).pn; omega) (fun K i s hk => cc K i s (by unfold CPl at hk; omega)) (fun K i s hk => cm K i s (by unfold MPl at hk; omega)), fun f' hf' => ?_, fun p' hp' => ?_, fun f' hf' => ?_, fun s hs => ?_, ?_⟩ ⟨fun p' hp' => ?_, fun p1 p2 h1 h2 h3 h4 => ?_, fun p' hp' => ?_, fun p' hp' => ?_, h125, by rw [(cm 12 0 52 (by omega)).1]; have := hPf.c; omega⟩ (hPc.keep (fun K i s' hk => cm K i s' (by omega)))
  · have hx := h.Pr p' hp'
    by_cases q : p' = p
    · subst q
      rw [w6', w6', w6', w6, x122, (cm 121 0 p' (by omega)).1, (cm 123 0 p' (by omega)).1, (cm 124 0 p' (by omega)).1]
      exact ⟨hx.1, hx.2.1, hx.2.2.1, Or.inr ⟨8 * b + f, rfl, rfl⟩⟩
    · rw [(cc 6 p' 1 (by omega)).1, (cc 6 p' 2 (by omega)).1, (cc 6 p' 3 (by omega)).1, (cc 6 p' 0 (by omega)).2.2, (cm 121 0 p' (by omega)).1, (cm 122 0 p' (by omega)).1, (cm 123 0 p' (by omega)).1, (cm 124 0 p' (by omega)).1]
      exact hx
  · by_cases q : f' = f
    · subst q
      have z1 := hff.pr
      have z2 := hff.dh
      have z3 := hff.rd
      have z4 := hff.sk
      have z5 := hff.ns
      refine ⟨by rw [w4, x108]; omega, by rw [(cc 2 (8 * b + f') 5 (by omega)).1, (cm 109 0 (8 * b + f') (by omega)).1, x108]; omega, ?_, by rw [(cc 2 (8 * b + f') 7 (by omega)).1, (cm 111 0 (8 * b + f') (by omega)).1, x108]; omega, by rw [(cc 26 (8 * b + f') 0 (by omega)).1]; exact hff.s0, fun _ s hs => ?_, fun _ => ?_, ?_, ?_⟩
      · rw [(cc 2 (8 * b + f') 6 (by omega)).1, (cm 110 0 (8 * b + f') (by omega)).1, x108]
        omega
      · rw [(cm 111 0 (8 * b + f') (by omega)).1] at hs
        rw [(cc 26 (8 * b + f') s (by omega)).1, (cm 112 0 (26 * (8 * b + f') + s) (by omega)).1, (cm 110 0 (8 * b + f') (by omega)).1]
        exact hff.sb (by omega) s hs
      · rw [w8, x113, (cm 12 0 69 (by omega)).1]
        have := hMi.2.1
        omega
      · rw [(cc 2 (8 * b + f') 9 (by omega)).1, x108, (cm 114 0 (8 * b + f') (by omega)).1]
        omega
      · rw [(cc 2 (8 * b + f') 10 (by omega)).1, x108, x115]
        omega
    · exact (hB.ff f' hf').keep (by omega) (fun K i s' hk => cc K i s' (by unfold CFo at hk; omega)) (fun K i s' hk => cm K i s' (by unfold MFo at hk; omega)) (by rw [(cm 12 0 69 (by omega)).1]; exact Int.le_refl _)
  · have hpg := (hB.pg p' hp').pn
    have hfl := fo_lt hP.hF hp'
    have hns := (hB.ff _ hfl).ns
    by_cases q : fo F p' = f
    · have hx := hB.pn p' hp'
      rw [q] at hx ⊢
      have hm52 := (cm 12 0 52 (by omega)).1
      have hgl : ∀ k s, glF mm' k s (gN mm' 12 0 52).toNat = glF mm k s (gN mm 12 0 52).toNat := fun k s => by
        rw [hm52]
        exact glF_congr (cm 102 0 k (by omega)).1 _ (fun j _ => ⟨(cm 105 0 j (by omega)).1, (cm 106 0 j (by omega)).1, (cm 107 0 j (by omega)).1⟩)
      have y7 : gN mc' 2 (8 * b + f) 7 = gN mc 2 (8 * b + f) 7 := (cc 2 (8 * b + f) 7 (by omega)).1
      refine ⟨fun _ => by rw [(cm 83 0 (16 * b + p') (by omega)).1]; exact hx.st (by omega), fun k s hk hs => ?_, fun j k hj hk he => ?_⟩
      · rw [(cm 90 0 (16 * b + p') (by omega)).1] at hk
        rw [y7] at hs
        rw [hgl, (cc 38 (24 * (16 * b + p') + s) k (by omega)).1]
        exact hx.g k s hk hs
      · rw [hm52] at hj
        rw [(cm 105 0 j (by omega)).1] at he
        rw [x108, (cm 106 0 j (by omega)).1, y7]
        have := hx.c j k hj hk he
        omega
    · exact (hB.pn p' hp').keep (by omega) (by omega) (fun K i s' hk => cc K i s' (by unfold CPn at hk; omega)) (fun K i s' hk => cm K i s' (by unfold MPn at hk; omega))
  · have hx := hB.se f' hf'
    by_cases q : f' = f
    · subst q
      have a25 : ∀ x, gN mc' 25 (8 * b + f') x = gN mc 25 (8 * b + f') x := fun x => (cc 25 (8 * b + f') x (by omega)).1
      refine ⟨fun _ x => by rw [a25]; exact hx.a (by omega) x, fun z => by rw [x108] at z; omega, fun z => by rw [x108] at z; omega, fun x => by rw [a25, (cm 63 0 x (by omega)).1]; exact hx.b x⟩
    · exact hx.keep (by omega) (fun p hp => by have := (hB.pg p hp).pn; omega) (fun K i s' hk => cc K i s' (by unfold CSe at hk; omega)) (fun K i s' hk => cm K i s' (by unfold MSe at hk; omega)) (fun x => by rw [(cm 63 0 x (by omega)).1]; exact Int.le_refl _)
  · have hx := hB.sh s hs
    by_cases q : s = f / 2
    · subst q
      exact ⟨by rw [(cc 8 (4 * b + f / 2) 5 (by omega)).1, (cm 120 0 (4 * b + f / 2) (by omega)).1]; exact hx.t, Or.inr hsh⟩
    · exact hx.keep (by omega) (fun K i s' hk => cc K i s' (by unfold CSh at hk; omega)) (fun K i s' hk => cm K i s' (by unfold MSh at hk; omega))
  · have hx := hB.lv
    refine ⟨by rw [(cc 0 b 11 (by omega)).1, (cm 79 0 b (by omega)).1]; exact hx.bd, fun z => ?_, fun z => ?_, fun f' h1 h2 => ?_⟩
    · rw [(cm 79 0 b (by omega)).1] at z; omega
    · rw [(cm 79 0 b (by omega)).1] at z; omega
    · rw [(cm 108 0 (8 * b + f') (by omega)).1]; exact hx.u f' h1 h2
  · by_cases q : p' = p
    · refine Or.inr ⟨b, f, n, by rw [(cm 12 0 19 (by omega)).1]; exact hb, by rw [(cm 74 0 b (by omega)).1]; exact hP.n, hf, by rw [q]; exact x122, x108⟩
    · rw [(cm 122 0 p' (by omega)).1]
      rcases hPf.f p' hp' with z | ⟨b', f', n', z1, z2, z3, z4, z5⟩
      · exact Or.inl z
      · refine Or.inr ⟨b', f', n', by rw [(cm 12 0 19 (by omega)).1]; exact z1, by rw [(cm 74 0 b' (by omega)).1]; exact z2, z3, z4, ?_⟩
        have := st1 (8 * b' + f'); omega
  · have key : ∀ p', p' < 3 → p' ≠ p → gN mm' 122 0 p' = gN mm 122 0 p' := fun p' _ q => (cm 122 0 p' (by omega)).1
    have noway : ∀ p', p' < 3 → p' ≠ p → gN mm 122 0 p' ≠ ((8 * b + f : Nat) : Int) := fun p' hp' q z => by
      rcases hPf.f p' hp' with y | ⟨b', f', n', z1, z2, z3, z4, z5⟩
      · omega
      · rw [z4] at z
        rw [show 8 * b' + f' = 8 * b + f by omega] at z5
        omega
    by_cases q : p1 = p
    · by_cases q' : p2 = p
      · omega
      · rw [q, x122, key p2 h2 q'] at h4
        exact absurd h4.symm (noway p2 h2 q')
    · by_cases q' : p2 = p
      · rw [q', x122, key p1 h1 q] at h4
        exact absurd h4 (noway p1 h1 q)
      · rw [key p1 h1 q] at h3
        rw [key p1 h1 q, key p2 h2 q'] at h4
        exact hPf.u p1 p2 h1 h2 h3 h4
  · rw [(cm 123 0 p' (by omega)).1, (cm 12 0 69 (by omega)).1]
    exact hPf.s p' hp'
  · rw [(cm 124 0 p' (by omega)).1, (cm 12 0 69 (by omega)).1]
    exact hPf.h p' hp'
theorem call_print {p a f : Int} (hN : N ≤ 511) (h : RR N mc mm) : CalV N (f_X11_print mc 0 p a f) (f_X12_print mm 0 p a f) [0, 2] := by
  have m91 : ∀ (x v : Int), v ≠ 0 → j_X12_print_0_91 mm 0 p a x 0 v = some (.inl none, sN mm 12 0 0 v) := fun x v hv => by
    unfold j_X12_print_0_91; rw [holds1 _ hv, bI_ok, if_neg (fun q => q rfl)]
  have m22 : j_X12_print_0_22 mm 0 p a f = some (.inl none, sN mm 12 0 0 1) := by
    unfold j_X12_print_0_22 j_X12_print_0_23 j_X12_print_0_40; rw [if_pos rfl, if_neg (fun q => q rfl), m91 _ 1 (by decide)]
  unfold f_X11_print f_X12_print
  rw [isIn_m, Option.bind_some]
  by_cases hp : 0 ≤ p ∧ p ≤ 2
  · obtain ⟨p, rfl⟩ := Int.ex hp.1
    have hp3 : p < 3 := by omega
    rw [if_pos hp, if_neg (show ¬ (1 : Int) = 0 by decide), pressAt_c h.C hp3, bR_ok, nk_some]
    by_cases hb : 0 ≤ a ∧ a < gN mm 12 0 19
    · obtain ⟨b, rfl⟩ := Int.ex hb.1
      obtain ⟨F, n, M, Ln, E, hB⟩ := h.Bk b hb.2
      have hP := hB.hP
      have hS := hB.hS
      have q0 := hP.hb
      have q1 := hP.hn
      have q3 := hP.hE
      rw [bookAt_ok h.Nb h.C hb.2, bR_ok, nk_some]
      by_cases hf : 0 ≤ f ∧ f < (2 * n : Nat)
      · obtain ⟨f, rfl⟩ := Int.ex hf.1
        have hf2 : f < 2 * n := by omega
        have hff := hB.ff f hf2
        have hpr := h.Pr p hp3
        have hsq : f / 2 < n := by omega
        rw [formeOf_ok hS hf2, bR_ok, nk_some, isForme_ok h.Nb h.M hP hb.2 hf2, Option.bind_some, if_neg (show ¬ (1 : Int) = 0 by decide), nk_of hS.r7, dv_of ⟨by omega, by omega⟩, div2, ldR_of hS.z15 (by omega), tnc, hS.e15 _ hsq, nk_some]
        unfold j_X12_print_0_23 j_X12_print_0_40
        have c62 : j_X11_print_0_62 mc 0 p b (8 * b + f) (4 * b + f / 2) = some (.inr 2, bX mc) := by unfold j_X11_print_0_62 j_X11_print_0_63; rw [rqS0, bV_ex]; rfl
        have m86 : ∀ x, j_X12_print_0_86 mm 0 (p : Int) (b : Int) x 0 = some (.inl none, sN mm 12 0 0 2) := fun x => m91 x 2 (by decide)
        rw [if_neg (show ¬ (1 : Int) = 0 by decide), ck_of ⟨by omega, by omega⟩, if_pos (show ¬ (1 : Int) = 0 by decide), nk_of h.M.r71, ldN_of h.M.z122 (by omega), tnc, nk_of h.M.r56, ldN_of h.M.z108 (by omega), tn8, hff.how.1]
        by_cases h122 : gN mm 122 0 p = -1
        · have r6 : gR mc 6 p 0 = none := by
            rcases hpr.2.2.2 with z | ⟨w, z1, z2⟩
            · exact z.1
            · omega
          rw [if_neg (show ¬ ¬ gR mc 6 p 0 = none from fun q => q r6), if_neg (show ¬ ¬ gN mm 122 0 p = -1 from fun q => q h122)]
          by_cases hst : gN mm 108 0 (8 * b + f) = 1
          · rw [if_neg (fun q => q hst), if_neg (fun q => q hst)]
            obtain ⟨v, e1, e2, e3⟩ := onPress_c hB hsq
            have ex : ixor' (8 * (b : Int) + (f : Int)) 1 = ((8 * b + (2 * (f / 2) + (1 - f % 2)) : Nat) : Int) := by
              rw [show 8 * (b : Int) + (f : Int) = ((8 * b + f : Nat) : Int) by omega, xor1 (by omega)]
              omega
            rw [e1, Option.bind_some, nk_of h.M.r56, ex, ldN_of h.M.z108 (by omega), tnc]
            by_cases hother : gN mm 108 0 (8 * b + (2 * (f / 2) + (1 - f % 2))) = 2
            · have hv : v = 1 := e3.mpr (by
                rcases Nat.mod_two_eq_zero_or_one f with z | z
                · right; rw [z] at hother; exact hother
                · left; rw [z] at hother; exact hother)
              rw [if_neg (show ¬ ¬ gN mm 108 0 (8 * b + (2 * (f / 2) + (1 - f % 2))) = 2 from fun q => q hother), m86, hv, if_pos (show ¬ (1 : Int) = 0 by decide), c62]
              exact CalV.bad (k := 1) h rfl rfl rfl
            · have hv : v = 0 := by
                rcases e2 with z | z
                · exact z
                · exfalso
                  have hz := e3.mp z
                  rcases Nat.mod_two_eq_zero_or_one f with y | y <;> rw [y] at hother
                  · rcases hz with z' | z'
                    · rw [show 8 * b + 2 * (f / 2) = 8 * b + f by omega] at z'; omega
                    · exact hother z'
                  · rcases hz with z' | z'
                    · exact hother z'
                    · rw [show 8 * b + (2 * (f / 2) + 1) = 8 * b + f by omega] at z'; omega
              rw [if_pos (show ¬ gN mm 108 0 (8 * b + (2 * (f / 2) + (1 - f % 2))) = 2 from hother), hv, if_neg (fun q => q rfl)]
              have hMi := h.Mi
              have hPf := h.Pf
              have hMi1 := hMi.1
              have hMi2 := hMi.2.1
              obtain ⟨sk, hsk⟩ := Int.ex hMi.1.2.1
              have hsk4 : sk < 4 := by omega
              have h125 := hPf.t sk hsk4
              have ew : (8 * (b : Int) + (f : Int)).toNat = 8 * b + f := tn8 b f
              have eu : (8 * (b : Int) + (f : Int)) / 2 = ((4 * b + f / 2 : Nat) : Int) := by omega
              unfold j_X11_print_0_63 f_X8_isWhite j_X12_print_0_91
              have hM := h.M.thr 0
              rw [rqS _ (by decide), bV_ok, holds0, bI_ok, if_pos (show ¬ (1 : Int) = 0 by decide), nk_of hM.r56, stN_of hM.z108 (by omega), ew]
              have hM1 : SM (sN (sN mm 12 0 0 0) 108 0 (8 * b + f) 2) := hM.mv (fun _ => rfl) (fun _ _ _ q => q)
              rw [nk_of hM1.r63, stN_of hM1.z115 (by omega), ew]
              have hM2 : SM (sN (sN (sN mm 12 0 0 0) 108 0 (8 * b + f) 2) 115 0 (8 * b + f) 0) := hM1.mv (fun _ => rfl) (fun _ _ _ q => q)
              have e69 : gN (sN (sN (sN mm 12 0 0 0) 108 0 (8 * b + f) 2) 115 0 (8 * b + f) 0) 12 0 69 = gN mm 12 0 69 := by rw [gN_sN, if_neg (by omega), gN_sN, if_neg (by omega), gN_sN, if_neg (by omega)]
              rw [nk_of hM2.r61, stN_of hM2.z113 (by omega), ew, e69]
              have hM3 : SM (sN (sN (sN (sN mm 12 0 0 0) 108 0 (8 * b + f) 2) 115 0 (8 * b + f) 0) 113 0 (8 * b + f) (gN mm 12 0 69)) := hM2.mv (fun _ => rfl) (fun _ _ _ q => q)
              rw [nk_of hM3.r71, stN_of hM3.z122 (by omega), tnc]
              have hM4 : SM (sN (sN (sN (sN (sN mm 12 0 0 0) 108 0 (8 * b + f) 2) 115 0 (8 * b + f) 0) 113 0 (8 * b + f) (gN mm 12 0 69)) 122 0 p (8 * (b : Int) + (f : Int))) := hM3.mv (fun _ => rfl) (fun _ _ _ q => q)
              rw [dv_of ⟨by omega, by omega⟩, nk_of hM4.r64, nk_of hM4.r65, eu, ldN_of hM4.z117 (by omega), tnc]
              have cm4 : ∀ K i s', ¬ (K = 12 ∧ s' = 0) ∧ ¬ ((K = 108 ∨ K = 113 ∨ K = 115) ∧ s' = 8 * b + f) ∧ ¬ (K = 122 ∧ s' = p) → eq3 mm (sN (sN (sN (sN (sN mm 12 0 0 0) 108 0 (8 * b + f) 2) 115 0 (8 * b + f) 0) 113 0 (8 * b + f) (gN mm 12 0 69)) 122 0 p (8 * (b : Int) + (f : Int))) K i s' := fun K i s' hk => ((((eq3.sN (by omega)).tr (eq3.sN (by omega))).tr (eq3.sN (by omega))).tr (eq3.sN (by omega))).tr (eq3.sN (by omega))
              have a108 : gN (sN (sN (sN (sN (sN mm 12 0 0 0) 108 0 (8 * b + f) 2) 115 0 (8 * b + f) 0) 113 0 (8 * b + f) (gN mm 12 0 69)) 122 0 p (8 * (b : Int) + (f : Int))) 108 0 (8 * b + f) = 2 := by rw [gN_sN, if_neg (by omega), gN_sN, if_neg (by omega), gN_sN, if_neg (by omega), gN_sN, if_pos ⟨rfl, rfl, rfl⟩]
              have a115 : gN (sN (sN (sN (sN (sN mm 12 0 0 0) 108 0 (8 * b + f) 2) 115 0 (8 * b + f) 0) 113 0 (8 * b + f) (gN mm 12 0 69)) 122 0 p (8 * (b : Int) + (f : Int))) 115 0 (8 * b + f) = 0 := by rw [gN_sN, if_neg (by omega), gN_sN, if_neg (by omega), gN_sN, if_pos ⟨rfl, rfl, rfl⟩]
              have a113 : gN (sN (sN (sN (sN (sN mm 12 0 0 0) 108 0 (8 * b + f) 2) 115 0 (8 * b + f) 0) 113 0 (8 * b + f) (gN mm 12 0 69)) 122 0 p (8 * (b : Int) + (f : Int))) 113 0 (8 * b + f) = gN mm 12 0 69 := by rw [gN_sN, if_neg (by omega), gN_sN, if_pos ⟨rfl, rfl, rfl⟩]
              have a122 : gN (sN (sN (sN (sN (sN mm 12 0 0 0) 108 0 (8 * b + f) 2) 115 0 (8 * b + f) 0) 113 0 (8 * b + f) (gN mm 12 0 69)) 122 0 p (8 * (b : Int) + (f : Int))) 122 0 p = ((8 * b + f : Nat) : Int) := by rw [gN_sN, if_pos ⟨rfl, rfl, rfl⟩]; omega
              have a0 : gN (sN (sN (sN (sN (sN mm 12 0 0 0) 108 0 (8 * b + f) 2) 115 0 (8 * b + f) 0) 113 0 (8 * b + f) (gN mm 12 0 69)) 122 0 p (8 * (b : Int) + (f : Int))) 12 0 0 = 0 := by rw [gN_sN, if_neg (by omega), gN_sN, if_neg (by omega), gN_sN, if_neg (by omega), gN_sN, if_neg (by omega), gthr]
              have az : ∀ K i, gZ (sN (sN (sN (sN (sN mm 12 0 0 0) 108 0 (8 * b + f) 2) 115 0 (8 * b + f) 0) 113 0 (8 * b + f) (gN mm 12 0 69)) 122 0 p (8 * (b : Int) + (f : Int))) K i = gZ mm K i := fun _ _ => rfl
              generalize sN (sN (sN (sN (sN mm 12 0 0 0) 108 0 (8 * b + f) 2) 115 0 (8 * b + f) 0) 113 0 (8 * b + f) (gN mm 12 0 69)) 122 0 p (8 * (b : Int) + (f : Int)) = m4 at *
              have hsh := hB.sh (f / 2) hsq
              have g117 : gN m4 117 0 (4 * b + f / 2) = gN mm 117 0 (4 * b + f / 2) := (cm4 117 0 _ (by omega)).1
              unfold j_X12_print_0_160
              rcases hsh.k with ⟨k1, k2, k3, k4⟩ | ⟨k1, k2, k3, d, e, k4, k5, k6, k7, k8⟩
              · -- the first forme of its sheet
                rw [k2, if_neg (fun q => q rfl), Option.bind_some, if_neg (show ¬ (1 : Int) = 0 by decide), hMi.1.1, hsk, nk_of h.C.r5, ldN_of h.C.z58 (by omega), tnc, hMi.2.2]
                unfold f_X8_takeHeap j_X11_print_0_111
                rw [lt_eq, lt_eq, lt_eq, bV_ok]
                have hC3 : SC (sN (sN (sR mc 8 (4 * b + f / 2) 2 (some (2, 8 * b + f))) 8 (4 * b + f / 2) 3 (sk : Int)) 8 (4 * b + f / 2) 4 (gN mm 125 0 sk)) := h.C.mv (fun K i s hk => by rw [gR_sN, gR_sN, gR_sR, if_neg (by omega)]) (fun _ _ _ q => q)
                have f119 : gN (sN (sN (sR mc 8 (4 * b + f / 2) 2 (some (2, 8 * b + f))) 8 (4 * b + f / 2) 3 (sk : Int)) 8 (4 * b + f / 2) 4 (gN mm 125 0 sk)) 11 0 9 = (sk : Int) := by rw [gN_sN, if_neg (by omega), gN_sN, if_neg (by omega), gN_sR, hMi.1.1, hsk]
                have f03 : gN (sN (sN (sR mc 8 (4 * b + f / 2) 2 (some (2, 8 * b + f))) 8 (4 * b + f / 2) 3 (sk : Int)) 8 (4 * b + f / 2) 4 (gN mm 125 0 sk)) 0 b 3 = (E : Int) := by rw [gN_sN, if_neg (by omega), gN_sN, if_neg (by omega), gN_sR, hS.f3]
                have f58 : gN (sN (sN (sR mc 8 (4 * b + f / 2) 2 (some (2, 8 * b + f))) 8 (4 * b + f / 2) 3 (sk : Int)) 8 (4 * b + f / 2) 4 (gN mm 125 0 sk)) 58 0 sk = gN mm 125 0 sk := by rw [gN_sN, if_neg (by omega), gN_sN, if_neg (by omega), gN_sR, hMi.2.2]
                rw [f119, f03, nk_of hC3.r5, ldN_of hC3.z58 (by omega), tnc, f58, ck_of ⟨by omega, by omega⟩, stN_of hC3.z58 (by omega), tnc, lt_eq, lt_eq, lt_eq]
                rw [g117, k1, if_neg (fun q => q rfl), cb_of (Or.inr rfl), stN_of hM4.z116 (by omega), ew]
                have hM5 : SM (sN m4 116 0 (8 * b + f) 1) := hM4.mv (fun _ => rfl) (fun _ _ _ q => q)
                have b117 : gN (sN m4 116 0 (8 * b + f) 1) 117 0 (4 * b + f / 2) = 0 := by rw [gN_sN, if_neg (by omega), g117, k1]
                rw [nk_of hM5.r65, ldN_of hM5.z117 (by omega), tnc, b117, if_neg (fun q => q rfl), nk_of hM5.r65, stN_of hM5.z117 (by omega), tnc]
                have hM6 : SM (sN (sN m4 116 0 (8 * b + f) 1) 117 0 (4 * b + f / 2) 1) := hM5.mv (fun _ => rfl) (fun _ _ _ q => q)
                have b74 : ∀ m : MM, gN m 12 0 74 = gN mm 12 0 74 → gN m 12 0 74 = (sk : Int) := fun m hm => by rw [hm, hsk]
                have c74 : gN m4 12 0 74 = (sk : Int) := by rw [(cm4 12 0 74 (by omega)).1, hsk]
                have c125 : gN m4 125 0 sk = gN mm 125 0 sk := (cm4 125 0 sk (by omega)).1
                have c77 : gN m4 77 0 b = (E : Int) := by rw [(cm4 77 0 b (by omega)).1, hP.e]
                have d74 : gN (sN (sN m4 116 0 (8 * b + f) 1) 117 0 (4 * b + f / 2) 1) 12 0 74 = (sk : Int) := by rw [gN_sN, if_neg (by omega), gN_sN, if_neg (by omega), c74]
                rw [nk_of hM6.r66, stN_of hM6.z118 (by omega), tnc, d74]
                have hM7 : SM (sN (sN (sN m4 116 0 (8 * b + f) 1) 117 0 (4 * b + f / 2) 1) 118 0 (4 * b + f / 2) (sk : Int)) := hM6.mv (fun _ => rfl) (fun _ _ _ q => q)
                have d74' : gN (sN (sN (sN m4 116 0 (8 * b + f) 1) 117 0 (4 * b + f / 2) 1) 118 0 (4 * b + f / 2) (sk : Int)) 12 0 74 = (sk : Int) := by rw [gN_sN, if_neg (by omega), d74]
                have d125 : gN (sN (sN (sN m4 116 0 (8 * b + f) 1) 117 0 (4 * b + f / 2) 1) 118 0 (4 * b + f / 2) (sk : Int)) 125 0 sk = gN mm 125 0 sk := by rw [gN_sN, if_neg (by omega), gN_sN, if_neg (by omega), gN_sN, if_neg (by omega), c125]
                rw [nk_of hM7.r67, nk_of hM7.r75, d74', ldN_of hM7.z125 (by omega), tnc, d125, stN_of hM7.z119 (by omega), tnc]
                have hM8 : SM (sN (sN (sN (sN m4 116 0 (8 * b + f) 1) 117 0 (4 * b + f / 2) 1) 118 0 (4 * b + f / 2) (sk : Int)) 119 0 (4 * b + f / 2) (gN mm 125 0 sk)) := hM7.mv (fun _ => rfl) (fun _ _ _ q => q)
                have g74 : gN (sN (sN (sN (sN m4 116 0 (8 * b + f) 1) 117 0 (4 * b + f / 2) 1) 118 0 (4 * b + f / 2) (sk : Int)) 119 0 (4 * b + f / 2) (gN mm 125 0 sk)) 12 0 74 = (sk : Int) := by rw [gN_sN, if_neg (by omega), d74']
                have g125 : gN (sN (sN (sN (sN m4 116 0 (8 * b + f) 1) 117 0 (4 * b + f / 2) 1) 118 0 (4 * b + f / 2) (sk : Int)) 119 0 (4 * b + f / 2) (gN mm 125 0 sk)) 125 0 sk = gN mm 125 0 sk := by rw [gN_sN, if_neg (by omega), d125]
                have g77 : gN (sN (sN (sN (sN m4 116 0 (8 * b + f) 1) 117 0 (4 * b + f / 2) 1) 118 0 (4 * b + f / 2) (sk : Int)) 119 0 (4 * b + f / 2) (gN mm 125 0 sk)) 77 0 b = (E : Int) := by rw [gN_sN, if_neg (by omega), gN_sN, if_neg (by omega), gN_sN, if_neg (by omega), gN_sN, if_neg (by omega), c77]
                rw [nk_of hM8.r75, g74, ldN_of hM8.z125 (by omega), tnc, g125, nk_of hM8.r24, ldN_of hM8.z77 (by omega), tnc, g77, ck_of ⟨by omega, by omega⟩, stN_of hM8.z125 (by omega), tnc]
                refine ⟨_, _, _, rfl, rfl, Or.inl ⟨rfl, ?_⟩, ?_⟩
                · rw [gN_sN, if_neg (by omega), gN_sN, if_neg (by omega), gN_sN, if_neg (by omega), gN_sN, if_neg (by omega), gN_sN, if_neg (by omega), a0]
                · have cc : ∀ K i s', ¬ (K = 2 ∧ i = 8 * b + f ∧ (s' = 4 ∨ s' = 8)) ∧ ¬ (K = 6 ∧ i = p ∧ s' = 0) ∧ ¬ (K = 8 ∧ i = 4 * b + f / 2 ∧ 2 ≤ s' ∧ s' ≤ 4) ∧ ¬ (K = 58 ∧ i = 0) → ∀ v w : Int, eq3 mc (sR (sN (sN (sN (sN (sN (sR mc 8 (4 * b + f / 2) 2 (some (2, 8 * b + f))) 8 (4 * b + f / 2) 3 (sk : Int)) 8 (4 * b + f / 2) 4 (gN mm 125 0 sk)) 58 0 sk v) 2 (8 * b + f) 4 2) 2 (8 * b + f) 8 w) 6 p 0 (some (2, 8 * b + f))) K i s' := fun K i s' hk v w => ((((((eq3.sR (by omega)).tr (eq3.sN (by omega))).tr (eq3.sN (by omega))).tr (eq3.sN (by omega))).tr (eq3.sN (by omega))).tr (eq3.sN (by omega))).tr (eq3.sR (by omega))
                  refine print_rel hN h hb.2 hB hf2 hp3 h122 hst (fun K i s' hk => cc K i s' hk _ _) (fun K i s' hk => (((((cm4 K i s' (by omega)).tr (eq3.sN (by omega))).tr (eq3.sN (by omega))).tr (eq3.sN (by omega))).tr (eq3.sN (by omega))).tr (eq3.sN (by omega))) (fun _ _ => rfl) (fun K i k hk => by rw [← az] at hk; exact hk) (fun _ => rfl) ?_ ?_ ?_ ?_ ?_ ?_ (fun s => ?_) ?_ (fun k => ?_) (fun k hk => ?_) ?_
                  · rw [gN_sR, gN_sN, if_neg (by omega), gN_sN, if_pos ⟨rfl, rfl, rfl⟩]
                  · rw [gN_sR, gN_sN, if_pos ⟨rfl, rfl, rfl⟩, gN_sN, if_neg (by omega), gN_sN, if_neg (by omega), gN_sN, if_neg (by omega), gN_sN, if_neg (by omega), gN_sR, hMi.2.1.1]
                  · rw [gN_sN, if_neg (by omega), gN_sN, if_neg (by omega), gN_sN, if_neg (by omega), gN_sN, if_neg (by omega), gN_sN, if_neg (by omega), a108]
                  · rw [gN_sN, if_neg (by omega), gN_sN, if_neg (by omega), gN_sN, if_neg (by omega), gN_sN, if_neg (by omega), gN_sN, if_neg (by omega), a113]
                  · rw [gN_sN, if_neg (by omega), gN_sN, if_neg (by omega), gN_sN, if_neg (by omega), gN_sN, if_neg (by omega), gN_sN, if_neg (by omega), a115]
                  · rw [gR_sR, if_pos ⟨rfl, rfl, rfl⟩]
                  · rw [gN_sR, gN_sN, if_neg (by omega), gN_sN, if_neg (by omega), gN_sN, if_neg (by omega), gN_sN, if_neg (by omega), gN_sN, if_neg (by omega), gN_sR]
                  · rw [gN_sN, if_neg (by omega), gN_sN, if_neg (by omega), gN_sN, if_neg (by omega), gN_sN, if_neg (by omega), gN_sN, if_neg (by omega), a122]
                  · by_cases q : k = sk
                    · rw [gN_sR, gN_sN, if_neg (by omega), gN_sN, if_neg (by omega), gN_sN, if_pos ⟨rfl, rfl, q⟩, gN_sN, if_pos ⟨rfl, rfl, q⟩]
                    · rw [gN_sR, gN_sN, if_neg (by omega), gN_sN, if_neg (by omega), gN_sN, if_neg (by omega), gN_sN, if_neg (by omega), gN_sN, if_neg (by omega), gN_sR, hMi.2.2, gN_sN, if_neg (by omega), gN_sN, if_neg (by omega), gN_sN, if_neg (by omega), gN_sN, if_neg (by omega), gN_sN, if_neg (by omega), (cm4 125 0 k (by omega)).1]
                  · have hx := hPf.t k hk
                    rw [gN_sN]
                    by_cases q : k = sk
                    · rw [if_pos ⟨rfl, rfl, q⟩]; omega
                    · rw [if_neg (by omega), gN_sN, if_neg (by omega), gN_sN, if_neg (by omega), gN_sN, if_neg (by omega), gN_sN, if_neg (by omega), (cm4 125 0 k (by omega)).1]; omega
                  · refine ⟨?_, ⟨?_, ?_⟩, ⟨?_, ?_⟩, f % 2, 1 - f % 2, by omega, ?_, ?_, ?_, fun z => ?_⟩
                    · rw [gN_sN, if_neg (by omega), gN_sN, if_neg (by omega), gN_sN, if_neg (by omega), gN_sN, if_pos ⟨rfl, rfl, rfl⟩]
                    · rw [gN_sR, gN_sN, if_neg (by omega), gN_sN, if_neg (by omega), gN_sN, if_neg (by omega), gN_sN, if_neg (by omega), gN_sN, if_pos ⟨rfl, rfl, rfl⟩, gN_sN, if_neg (by omega), gN_sN, if_neg (by omega), gN_sN, if_pos ⟨rfl, rfl, rfl⟩]
                    · rw [gN_sN, if_neg (by omega), gN_sN, if_neg (by omega), gN_sN, if_pos ⟨rfl, rfl, rfl⟩]; omega
                    · rw [gN_sR, gN_sN, if_neg (by omega), gN_sN, if_neg (by omega), gN_sN, if_neg (by omega), gN_sN, if_pos ⟨rfl, rfl, rfl⟩, gN_sN, if_neg (by omega), gN_sN, if_pos ⟨rfl, rfl, rfl⟩]
                    · rw [gN_sN, if_neg (by omega), gN_sN, if_pos ⟨rfl, rfl, rfl⟩]; omega
                    · rw [gR_sR, if_neg (by omega), gR_sN, gR_sN, gR_sN, gR_sN, gR_sN, gR_sR, if_pos ⟨rfl, rfl, rfl⟩, show 2 * (f / 2) + f % 2 = f by omega]
                    · rw [show 2 * (f / 2) + f % 2 = f by omega, gN_sN, if_neg (by omega), gN_sN, if_neg (by omega), gN_sN, if_neg (by omega), gN_sN, if_neg (by omega), gN_sN, if_neg (by omega), a108]; omega
                    · rw [show 2 * (f / 2) + f % 2 = f by omega, gN_sN, if_neg (by omega), gN_sN, if_neg (by omega), gN_sN, if_neg (by omega), gN_sN, if_neg (by omega), gN_sN, if_pos ⟨rfl, rfl, rfl⟩]
                    · exfalso
                      rw [gN_sN, if_neg (by omega), gN_sN, if_neg (by omega), gN_sN, if_neg (by omega), gN_sN, if_neg (by omega), gN_sN, if_neg (by omega), (cm4 108 0 _ (by omega)).1] at z
                      rcases Nat.mod_two_eq_zero_or_one f with y | y <;> rw [y] at z
                      · exact absurd z (by have : 8 * b + (2 * (f / 2) + (1 - 0)) = 8 * b + (2 * (f / 2) + 1) := by omega
                                           rw [this]; omega)
                      · exact absurd z (by have : 8 * b + (2 * (f / 2) + (1 - 1)) = 8 * b + 2 * (f / 2) := by omega
                                           rw [this]; omega)
              · -- the other one
                rw [k5, if_pos (fun q => by cases q), Option.bind_some, if_pos rfl]
                unfold j_X11_print_0_111
                rw [lt_eq, lt_eq, lt_eq, g117, k1, if_pos (show ¬ (1 : Int) = 0 by decide), cb_of (Or.inl rfl), stN_of hM4.z116 (by omega), ew]
                have hM5 : SM (sN m4 116 0 (8 * b + f) 0) := hM4.mv (fun _ => rfl) (fun _ _ _ q => q)
                have b117 : gN (sN m4 116 0 (8 * b + f) 0) 117 0 (4 * b + f / 2) = 1 := by rw [gN_sN, if_neg (by omega), g117, k1]
                rw [nk_of hM5.r65, ldN_of hM5.z117 (by omega), tnc, b117, if_pos (show ¬ (1 : Int) = 0 by decide)]
                have hde : e = f % 2 := by
                  rcases Nat.mod_two_eq_zero_or_one f with y | y
                  · by_cases q : d = 0
                    · rw [q, show 8 * b + (2 * (f / 2) + 0) = 8 * b + f by omega] at k6; omega
                    · omega
                  · by_cases q : d = 1
                    · rw [q, show 8 * b + (2 * (f / 2) + 1) = 8 * b + f by omega] at k6; omega
                    · omega
                have hd2 : 8 * b + (2 * (f / 2) + d) ≠ 8 * b + f := by omega
                have he2 : 8 * b + (2 * (f / 2) + e) = 8 * b + f := by omega
                refine ⟨_, _, _, rfl, rfl, Or.inl ⟨rfl, by rw [gN_sN, if_neg (by omega), a0]⟩, ?_⟩
                have cc : ∀ K i s', ¬ (K = 2 ∧ i = 8 * b + f ∧ (s' = 4 ∨ s' = 8)) ∧ ¬ (K = 6 ∧ i = p ∧ s' = 0) ∧ ¬ (K = 8 ∧ i = 4 * b + f / 2 ∧ 2 ≤ s' ∧ s' ≤ 4) ∧ ¬ (K = 58 ∧ i = 0) → ∀ w : Int, eq3 mc (sR (sN (sN mc 2 (8 * b + f) 4 2) 2 (8 * b + f) 8 w) 6 p 0 (some (2, 8 * b + f))) K i s' := fun K i s' hk w => ((eq3.sN (by omega)).tr (eq3.sN (by omega))).tr (eq3.sR (by omega))
                refine print_rel hN h hb.2 hB hf2 hp3 h122 hst (fun K i s' hk => cc K i s' hk _) (fun K i s' hk => (cm4 K i s' (by omega)).tr (eq3.sN (by omega))) (fun _ _ => rfl) (fun K i k hk => by rw [← az] at hk; exact hk) (fun _ => rfl) ?_ ?_ ?_ ?_ ?_ ?_ (fun s => ?_) ?_ (fun k => ?_) (fun k hk => ?_) ?_
                · rw [gN_sR, gN_sN, if_neg (by omega), gN_sN, if_pos ⟨rfl, rfl, rfl⟩]
                · rw [gN_sR, gN_sN, if_pos ⟨rfl, rfl, rfl⟩, gN_sN, if_neg (by omega), hMi.2.1.1]
                · rw [gN_sN, if_neg (by omega), a108]
                · rw [gN_sN, if_neg (by omega), a113]
                · rw [gN_sN, if_neg (by omega), a115]
                · rw [gR_sR, if_pos ⟨rfl, rfl, rfl⟩]
                · rw [gN_sR, gN_sN, if_neg (by omega), gN_sN, if_neg (by omega)]
                · rw [gN_sN, if_neg (by omega), a122]
                · rw [gN_sR, gN_sN, if_neg (by omega), gN_sN, if_neg (by omega), gN_sN, if_neg (by omega), (cm4 125 0 k (by omega)).1, hMi.2.2]
                · have hx := hPf.t k hk
                  rw [gN_sN, if_neg (by omega), (cm4 125 0 k (by omega)).1]; omega
                · have r1 : ∀ (w : Int) j, gN (sR (sN (sN mc 2 (8 * b + f) 4 2) 2 (8 * b + f) 8 w) 6 p 0 (some (2, 8 * b + f))) 8 (4 * b + f / 2) j = gN mc 8 (4 * b + f / 2) j := fun w j => by rw [gN_sR, gN_sN, if_neg (by omega), gN_sN, if_neg (by omega)]
                  have r2 : ∀ K, 117 ≤ K → K ≤ 119 → gN (sN m4 116 0 (8 * b + f) 0) K 0 (4 * b + f / 2) = gN mm K 0 (4 * b + f / 2) := fun K h1 h2 => by rw [gN_sN, if_neg (by omega), (cm4 K 0 _ (by omega)).1]
                  rw [r1, r1, r2 117 (by omega) (by omega), r2 118 (by omega) (by omega), r2 119 (by omega) (by omega), gR_sR, if_neg (by omega), gR_sN, gR_sN]
                  refine ⟨k1, k2, k3, d, e, k4, k5, ?_, ?_, fun _ => ?_⟩
                  · rw [gN_sN, if_neg (by omega), (cm4 108 0 _ (by omega)).1]; exact k6
                  · rw [gN_sN, if_neg (by omega), (cm4 116 0 _ (by omega)).1]; exact k7
                  · rw [he2, gN_sN, if_pos ⟨rfl, rfl, rfl⟩]
          · rw [if_pos hst, if_pos hst, c62, m86]
            exact CalV.bad (k := 1) h rfl rfl rfl
        · have r6 : gR mc 6 p 0 ≠ none := by
            rcases hpr.2.2.2 with z | ⟨w, z1, z2⟩
            · exact absurd z.2 h122
            · rw [z1]; exact fun q => by cases q
          rw [if_pos (show ¬ gR mc 6 p 0 = none from r6), if_pos (show ¬ gN mm 122 0 p = -1 from h122), c62, m86]
          exact CalV.bad (k := 1) h rfl rfl rfl
      · rw [formeOf_bad hS hf, bR_ex, isForme_bad h.Nb h.M hP hb.2 hf, Option.bind_some, if_pos rfl, m22]
        exact CalV.bad (k := 0) h rfl rfl rfl
    · rw [bookAt_bad h.Nb h.C hb, bR_ex, isForme_b0 h.Nb hb, Option.bind_some, if_pos rfl, m22]
      exact CalV.bad (k := 0) h rfl rfl rfl
  · rw [if_neg hp, if_pos rfl, m22, pressAt_x h.C hp, bR_ex]
    exact CalV.bad (k := 0) h rfl rfl rfl
end PRINT
