/-! BOOK: the relation. -/
section BOOK
variable {N : Nat} {mc mm : MM} {b F n M Ln E : Nat}
theorem bkWN.ck {b K i k : Nat} (h : bkWN b K i k) : CBk b K i := by
  unfold bkWN at h
  rcases h with h | h | h
  · exact CBk.c (by omega) (by omega)
  · exact CBk.b (by omega) (by omega)
  · exact CBk.a (by omega) (by omega)
theorem bkWR.ck {b K i k : Nat} (h : bkWR b K i k) : CBk b K i := by
  unfold bkWR at h
  rcases h with h | h | h | h | h | h
  · exact CBk.c (by omega) (by omega)
  · exact CBk.c (by omega) (by omega)
  · exact CBk.c (by omega) (by omega)
  · exact CBk.b (by omega) (by omega)
  · exact CBk.d (by omega) (by omega)
  · exact CBk.a (by omega) h.2
theorem CBk.ge {b K i : Nat} (h : CBk b K i) : bsz K * b ≤ i := by
  rcases h with ⟨q, h⟩ | ⟨q, h⟩ | ⟨q, h⟩ | ⟨q, h⟩ | ⟨q, h⟩ | ⟨q, h⟩
  · rw [show bsz K = 1 from by unfold bsz; rw [if_neg (by omega), if_neg (by omega), if_neg (by omega), if_neg (by omega), if_neg (by omega)]]; omega
  · rw [show bsz K = 8 from by unfold bsz; rw [if_pos (by omega)]]; omega
  · rw [show bsz K = 16 from by unfold bsz; rw [if_neg (by omega), if_pos (by omega)]]; omega
  · rw [q]; show 4 * b ≤ i; omega
  · rw [q]; show 24 * b ≤ i; omega
  · rw [q]; show 384 * b ≤ i; omega
theorem CBk.lt {b K i : Nat} (h : CBk b K i) : i < bsz K * (b + 1) := by
  obtain ⟨z, h1, h2⟩ := bsz_of h
  rw [h1]; exact h2
set_option maxHeartbeats 8000000 in
theorem book_rel (h : RR N mc mm) (hCI : CI mm) (hb : gN mm 12 0 19 = b) (hb3 : b < 3) (hF : F = 2 ∨ F = 4 ∨ F = 8) (hn : 1 ≤ n ∧ F * n ≤ 8) (hM : 10 ≤ M ∧ M ≤ 24) (hL : 1 ≤ Ln ∧ Ln ≤ 6) (hE : 2 ≤ E ∧ E ≤ 24) {s mm' : MM}
    (k1 : BS s b F n M Ln E) (k2 : ∀ p, p < 2 * (F * n) → gN s 4 (16 * b + p) 9 = -1) (k3 : ∀ f, f < 2 * n → FoN s b F E f) (k4 : GF (bkWN b) (fun K i k => bkWR b K i k ∨ (K = 56 ∧ i = 0 ∧ k = b)) (fun K i => bkWZ b K i ∨ (K = 0 ∧ i = b)) mc s) (k5 : ∀ K, isBK K → gC s K ≤ bsz K * (b + 1) ∧ (bsz K = 1 → gC s K = b + 1)) (k6 : ∀ K, ¬ isBK K → gC s K = gC mc K)
    (m1 : gN mm' 12 0 19 = (b : Int) + 1) (m2 : gN mm' 73 0 b = F) (m3 : gN mm' 74 0 b = n) (m4 : gN mm' 75 0 b = M) (m5 : gN mm' 76 0 b = Ln) (m6 : gN mm' 77 0 b = E) (cm : ∀ K i k, ¬ (K = 12 ∧ (k = 0 ∨ k = 19)) ∧ ¬ ((73 ≤ K ∧ K ≤ 77) ∧ k = b) → eq3 mm mm' K i k) (hzm : ∀ K i k, gZ mm K i = some k → gZ mm' K i = some k) :
    RR (N + 1) (sN s 11 0 8 ((b : Int) + 1)) mm' := by
  have hn4 : n ≤ 4 := by rcases hF with z | z | z <;> subst z <;> omega
  have hFn1 : 1 ≤ F * n := by rcases hF with z | z | z <;> subst z <;> omega
  have hml : 10 ≤ M * Ln ∧ M * Ln ≤ 144 := ⟨by have := Nat.mul_le_mul hM.1 hL.1; omega, by have := Nat.mul_le_mul hM.2 hL.2; omega⟩
  have hFr := h.Fr
  have hPf := h.Pf
  have hBk : isBK 0 := by unfold isBK; omega
  have cc0 : ∀ K i k, ¬ CBk b K i → ¬ (K = 11 ∧ i = 0 ∧ k = 8) → ¬ (K = 56 ∧ i = 0 ∧ k = b) → eq3 mc (sN s 11 0 8 ((b : Int) + 1)) K i k := fun K i k h1 h2 h3 => ⟨by rw [gN_sN, if_neg h2]; exact k4.1 K i k (fun q => h1 q.ck), k4.2.2.2 K i k, by rw [gR_sN]; exact k4.2.1 K i k (fun q => by rcases q with q | q; exact h1 q.ck; exact h3 q)⟩
  have w8 : gN (sN s 11 0 8 ((b : Int) + 1)) 11 0 8 = (b : Int) + 1 := by rw [gN_sN, if_pos ⟨rfl, rfl, rfl⟩]
  have w56 : ∀ k, gR (sN s 11 0 8 ((b : Int) + 1)) 56 0 k = if k = b then some (0, b) else gR mc 56 0 k := fun k => by
    rw [gR_sN]
    by_cases q : k = b
    · rw [if_pos q, q]; exact k1.s
    · rw [if_neg q]
      exact k4.2.1 56 0 k (fun z => by
        rcases z with z | z
        · have := z.ck.bk; unfold isBK at this; omega
        · exact q z.2.2)
  have wS : BS (sN s 11 0 8 ((b : Int) + 1)) b F n M Ln E := k1.keep (mm := mm') ⟨m2, m3, m4, m5, m6, hF, ⟨hn.1, hn4, hFn1, hn.2⟩, hM, hL, hE, hb3, hml⟩ (fun K i k hk => eq3.sN (by unfold CBS at hk; omega)) (fun _ _ _ q => q)
  have w9 : ∀ p, p < 2 * (F * n) → gN (sN s 11 0 8 ((b : Int) + 1)) 4 (16 * b + p) 9 = -1 := fun p hp => by rw [gN_sN, if_neg (by omega)]; exact k2 p hp
  have wF : ∀ f, f < 2 * n → FoN (sN s 11 0 8 ((b : Int) + 1)) b F E f := fun f hf => (k3 f hf).gf (GF.sN (WN := fun K _ _ => K = 11) (WR := fun _ _ _ => False) (WZ := fun _ _ => False) GF.rf rfl) (fun _ q => absurd q (by decide)) (fun _ q => q) (fun _ q => q) (fun _ _ q => q)
  -- what is new is as it was made
  have nz : ∀ K i, CBk b K i → gZ mc K i = none ∧ ∀ k, gN mc K i k = 0 ∧ gL mc K i k = 0 ∧ gR mc K i k = none := fun K i hk => hFr.z K i hk.bk (by rw [hb, ← Int.natCast_mul]; exact Int.ofNat_le.mpr hk.ge)
  have wN : ∀ K i k, CBk b K i → ¬ bkWN b K i k → gN (sN s 11 0 8 ((b : Int) + 1)) K i k = 0 := fun K i k h1 h2 => by
    rw [gN_sN, if_neg (fun q => by have := h1.bk; rw [q.1] at this; unfold isBK at this; omega), k4.1 K i k h2]
    exact ((nz K i h1).2 k).1
  have wR : ∀ K i k, CBk b K i → ¬ bkWR b K i k → gR (sN s 11 0 8 ((b : Int) + 1)) K i k = none := fun K i k h1 h2 => by
    rw [gR_sN, k4.2.1 K i k (fun q => by
      rcases q with q | q
      · exact h2 q
      · have := h1.bk; rw [q.1] at this; unfold isBK at this; omega)]
    exact ((nz K i h1).2 k).2.2
  have wZ : ∀ K i, ¬ CBk b K i → gZ (sN s 11 0 8 ((b : Int) + 1)) K i = gZ mc K i := fun K i h1 => by
    rw [gZ_sN]
    exact k4.2.2.1 K i (fun q => by
      rcases q with q | q
      · exact h1 q
      · exact h1 (CBk.a (by omega) q.2))
  have wZ2 : ∀ K i k, gZ mc K i = some k → gZ (sN s 11 0 8 ((b : Int) + 1)) K i = some k := fun K i k hk => by
    by_cases q : CBk b K i
    · rw [(nz K i q).1] at hk; cases hk
    · rw [wZ K i q]; exact hk
  have wC : (∀ K, isBK K → gC (sN s 11 0 8 ((b : Int) + 1)) K ≤ bsz K * (b + 1) ∧ (bsz K = 1 → gC (sN s 11 0 8 ((b : Int) + 1)) K = b + 1)) ∧ ∀ K, ¬ isBK K → gC (sN s 11 0 8 ((b : Int) + 1)) K = gC mc K := ⟨k5, k6⟩
  have wL : ∀ K i k, gL (sN s 11 0 8 ((b : Int) + 1)) K i k = gL mc K i k := k4.2.2.2
  generalize sN s 11 0 8 ((b : Int) + 1) = mc' at *
  have cc : ∀ K i k, ¬ isBK K → ¬ (K = 11 ∧ i = 0 ∧ k = 8) → ¬ (K = 56 ∧ i = 0 ∧ k = b) → eq3 mc mc' K i k := fun K i k h1 h2 h3 => cc0 K i k (fun q => h1 q.bk) h2 h3
  have hz0 : ∀ K i : Nat, isMK K → msz K * b ≤ i → gN mm' K 0 i = 0 := fun K i h1 h2 => by
    rw [(cm K 0 i (by unfold isMK at h1; omega)).1]
    exact hFr.m K i h1 (by rw [hb, ← Int.natCast_mul]; exact Int.ofNat_le.mpr h2)
  have y69 := (cm 12 0 69 (by omega)).1
  have hCa : RC mc' mm' := h.Ca.keep (cc 1 0 5 (by unfold isBK; omega) (by omega) (by omega)).1 (cm 12 0 6 (by omega)).1 (fun K h1 h2 k => (cc K 0 k (by unfold isBK; omega) (by omega) (by omega)).1) (fun K h1 h2 k => (cm K 0 k (by omega)).1)
  refine ⟨h.C.mv2 (fun K i k hk => (cc K i k (by unfold isBK; omega) (by omega) (by omega)).2.2) wZ2, h.M.mv2 (fun s hs => (cm 12 0 s (by omega)).2.2) hzm, h.T.keep (cc 10 0 5 (by unfold isBK; omega) (by omega) (by omega)).1 (cm 12 0 1 (by omega)).1 (fun k => (cc 50 0 k (by unfold isBK; omega) (by omega) (by omega)).1) (fun k => (cm 59 0 k (by omega)).1), h.Sp.keep (fun K i k hk => cc K i k (by unfold isBK; omega) (by omega) (by omega)) (fun K i s hk => cm K i s (by omega)), hCa,
    h.H.keep (by omega) (fun K i k hk => cc K i k (by unfold isBK; omega) (by omega) (by omega)) (wC.2 3 (by unfold isBK; omega)) (fun K i s hk => cm K i s (by omega)), h.Mi.keep (fun K i k hk => cc K i k (by unfold isBK; omega) (by omega) (by omega)) (fun K i s hk => cm K i s (by omega)), h.Pr.keep (fun i k _ => cc 6 i k (by unfold isBK; omega) (by omega) (by omega)) (fun K s h1 h2 => cm K 0 s (by omega)), ⟨by rw [w8, m1], by rw [m1]; omega, fun b' hb' => ?_, fun b' hb' => ?_⟩, fun b' hb' => ?_, ⟨fun p hp => ?_, fun p1 p2 h1 h2 => ?_, fun p hp => ?_, fun p hp => ?_, fun k hk => ?_, ?_⟩, h.Pc.keep (fun K i s hk => cm K i s (by omega)), ⟨fun K hK => ?_, fun K i hK hi => ?_, fun K i hK hi => ?_⟩⟩
  · rw [m1] at hb'
    rw [w56]
    by_cases q : b' = b
    · rw [if_pos q, q]
    · rw [if_neg q]; exact h.Nb.s b' (by omega)
  · rw [m1] at hb'
    rw [w56, if_neg (by omega)]
    exact h.Nb.z b' (by omega)
  · rw [m1] at hb'
    by_cases q : b' = b
    · rw [q]
      refine ⟨F, n, M, Ln, E, ⟨m2, m3, m4, m5, m6, hF, ⟨hn.1, hn4, hFn1, hn.2⟩, hM, hL, hE, hb3, hml⟩, wS, ?_, fun p hp => ?_, fun p hp => ?_, fun p hp => ?_, fun f hf => ?_, fun p hp => ?_, fun f hf => ?_, fun s' hs => ?_, ?_⟩
      · have z80 := hz0 80 b (by unfold isMK; omega) (by show 1 * b ≤ b; omega)
        have z78 := hz0 78 b (by unfold isMK; omega) (by show 1 * b ≤ b; omega)
        refine ⟨⟨by rw [z80]; exact wN 9 b 5 (CBk.a (by omega) rfl) (by unfold bkWN; omega), by omega, by omega⟩, fun k hk => by omega, fun k hk => by omega, fun k hk => by omega, fun k hk => by omega, Or.inl z78, ?_, fun q => absurd z78 q⟩
        rw [if_pos z78]; exact wN 0 b 10 (CBk.a (by omega) rfl) (by unfold bkWN; omega)
      · have zK : ∀ K, K = 83 ∨ (85 ≤ K ∧ K ≤ 90) → gN mm' K 0 (16 * b + p) = 0 := fun K hK => hz0 K _ (by unfold isMK; omega) (by unfold msz; rw [if_neg (by omega), if_pos (by omega)]; omega)
        have z83 := zK 83 (by omega)
        have z85 := zK 85 (by omega)
        have z86 := zK 86 (by omega)
        have z87 := zK 87 (by omega)
        have z88 := zK 88 (by omega)
        have z89 := zK 89 (by omega)
        have z90 := zK 90 (by omega)
        have z80 := hz0 80 b (by unfold isMK; omega) (by show 1 * b ≤ b; omega)
        have x4 : ∀ k, 10 ≤ k → gN mc' 4 (16 * b + p) k = 0 := fun k hk => wN 4 _ k (CBk.c (by omega) (by omega)) (by unfold bkWN; omega)
        have x5 : gN mc' 5 (16 * b + p) 4 = 0 := wN 5 _ 4 (CBk.c (by omega) (by omega)) (by unfold bkWN; omega)
        refine ⟨Or.inl ⟨z83, w9 p hp⟩, fun _ => ⟨z88, z89, z90⟩, ⟨by rw [x4 10 (by omega), z89], by omega, by omega⟩, ⟨by rw [x4 11 (by omega), z88], by omega, by omega⟩, ⟨by rw [x4 12 (by omega), z85], by omega, by omega⟩, by rw [x4 13 (by omega), z87], ⟨by rw [x4 14 (by omega), z86], by omega⟩, ⟨by rw [x5, z90], by omega, by omega⟩, fun l hl => by omega, fun l hl => by omega, ⟨fun z => by omega, fun _ => z89⟩, fun k hk => by omega, fun k hk => by omega, fun k hk => by omega, fun l k hl => by omega, fun k hk => by omega, fun z => by omega⟩
      · have z83 := hz0 83 (16 * b + p) (by unfold isMK; omega) (by show 16 * b ≤ _; omega)
        exact ⟨fun z => by omega, fun z => by omega, fun z => by omega, fun z => by omega⟩
      · have z90 := hz0 90 (16 * b + p) (by unfold isMK; omega) (by show 16 * b ≤ _; omega)
        exact ⟨fun k hk => by omega, fun k hk => by omega, fun k hk => by omega⟩
      · have z108 := hz0 108 (8 * b + f) (by unfold isMK; omega) (by show 8 * b ≤ _; omega)
        have z110 := hz0 110 (8 * b + f) (by unfold isMK; omega) (by show 8 * b ≤ _; omega)
        have g := wF f hf
        have x6 : gN mc' 2 (8 * b + f) 6 = 0 := wN 2 _ 6 (CBk.b (by omega) (by omega)) (by unfold bkWN; omega)
        have x10 : gN mc' 2 (8 * b + f) 10 = 0 := wN 2 _ 10 (CBk.b (by omega) (by omega)) (by unfold bkWN; omega)
        refine ⟨⟨by rw [g.n4, z108], by omega, by omega⟩, Or.inl ⟨z108, g.n5⟩, ⟨by rw [x6, z110], by omega, by omega, fun _ => z110, fun _ => by omega⟩, Or.inl ⟨z108, g.n7⟩, wN 26 _ 0 (CBk.b (by omega) (by omega)) (by unfold bkWN; omega), fun z => by omega, fun z => by omega, Or.inl ⟨by omega, g.n9⟩, fun _ => x10, fun z => by omega⟩
      · have z90 := hz0 90 (16 * b + p) (by unfold isMK; omega) (by show 16 * b ≤ _; omega)
        have hfl := fo_lt hF hp
        have z108 := hz0 108 (8 * b + fo F p) (by unfold isMK; omega) (by show 8 * b ≤ _; omega)
        refine ⟨fun z => by omega, fun k s hk => by omega, fun j k hj hk he => ?_⟩
        rw [(cm 12 0 52 (by omega)).1] at hj
        rw [(cm 105 0 j (by omega)).1] at he
        have := hCI j hj
        rw [hb] at this
        omega
      · have z108 := hz0 108 (8 * b + f) (by unfold isMK; omega) (by show 8 * b ≤ _; omega)
        have x25 : ∀ x, gN mc' 25 (8 * b + f) x = 0 := fun x => wN 25 _ x (CBk.b (by omega) (by omega)) (by unfold bkWN; omega)
        have h63p : ∀ x : Nat, 0 ≤ gN mm' 63 0 x := fun x => by
          rcases Int.lt_or_le (x : Int) (gN mm' 12 0 6) with q | q
          · exact (hCa.2.2.2.2.1 x q).2.1.1
          · rw [hCa.2.2.2.2.2.2 x q]; exact Int.le_refl _
        exact ⟨fun _ x => x25 x, fun z => by omega, fun z => by omega, fun x => by rw [x25]; exact ⟨Int.le_refl _, h63p x⟩⟩
      · have z117 := hz0 117 (4 * b + s') (by unfold isMK; omega) (by show 4 * b ≤ _; omega)
        have z120 := hz0 120 (4 * b + s') (by unfold isMK; omega) (by show 4 * b ≤ _; omega)
        have z108 : ∀ j, 8 * b ≤ j → gN mm' 108 0 j = 0 := fun j hj => hz0 108 j (by unfold isMK; omega) (by show 8 * b ≤ _; omega)
        refine ⟨⟨by rw [z120]; exact wN 8 _ 5 (CBk.d rfl (by omega)) (by unfold bkWN; omega), by omega, by omega⟩, Or.inl ⟨z117, wR 8 _ 2 (CBk.d rfl (by omega)) (by unfold bkWR; omega), ?_, ?_⟩⟩
        · rw [z108 _ (by omega)]; omega
        · rw [z108 _ (by omega)]; omega
      · have z79 := hz0 79 b (by unfold isMK; omega) (by show 1 * b ≤ b; omega)
        refine ⟨⟨by rw [z79]; exact wN 0 b 11 (CBk.a (by omega) rfl) (by unfold bkWN; omega), Or.inl z79⟩, fun z => by omega, fun z => by omega, fun f h1 h2 => hz0 108 (8 * b + f) (by unfold isMK; omega) (by show 8 * b ≤ _; omega)⟩
    · obtain ⟨F', n', M', Ln', E', hB⟩ := h.Bk b' (by omega)
      have d1 : ∀ K i k, CBk b' K i → eq3 mc mc' K i k := fun K i k hk => cc0 K i k (hk.dj q) (fun z => by have := hk.bk; rw [z.1] at this; unfold isBK at this; omega) (fun z => by have := hk.bk; rw [z.1] at this; unfold isBK at this; omega)
      have d2 : ∀ K i k, (K = 56 ∧ i = 0 ∧ k = b') ∨ ((K = 53 ∨ K = 54) ∧ i = 0) → eq3 mc mc' K i k := fun K i k hk => cc K i k (by unfold isBK; omega) (by omega) (by omega)
      have d3 : ∀ K i s, i = 0 ∧ MBk b' K s → eq3 mm mm' K i s := fun K i s hk => cm K i s (by have := hk.2.bk; omega)
      refine ⟨F', n', M', Ln', E', hB.keep wZ2 (fun K h1 h2 => (cm K 0 b' (by omega)).1) (fun K i k hk => ?_) (fun K i k hk => ?_) (fun K i s hk => cm K i s (by unfold MTx at hk; omega)) (fun p hp K i s hk => d1 K i s (hk.ck hp)) (fun p hp K i s hk => d3 K i s (hk.mk hp)) (fun p hp K i s hk => d1 K i s (hk.ck hp)) (fun p hp K i s hk => d3 K i s (hk.mk hp)) (fun p hp K i s hk => d1 K i s (hk.ck hp)) (fun p hp K i s hk => d3 K i s (hk.mk hp)) (fun p f hp hf K i s hk => d1 K i s (hk.ck hp hf)) (fun p f hp hf K i s hk => cm K i s (by unfold MPn at hk; omega)) (fun p hp K i s hk => d1 K i s (hk.ck hp)) (fun p hp K i s hk => d3 K i s (hk.mk hp)) (fun p hp K i s hk => d1 K i s (hk.ck hp)) (fun p hp K i s hk => d3 K i s (hk.mk hp)) (fun K i s hk => d1 K i s hk.ck) (fun K i s hk => d3 K i s hk.mk) (fun K i s hk => d3 K i s hk.mk) (by rw [y69]; exact Int.le_refl _) (fun x => by rw [(cm 63 0 x (by omega)).1]; exact Int.le_refl _)⟩
      · rcases hk.ck with z | z
        · exact d2 K i k (by unfold CBS at hk; omega)
        · exact d1 K i k z
      · rcases hk.ck with z | z
        · exact d2 K i k (by omega)
        · exact d1 K i k z
  · rw [(cm 122 0 p (by omega)).1]
    rcases hPf.f p hp with z | ⟨b', f', n', z1, z2, z3, z4, z5⟩
    · exact Or.inl z
    · exact Or.inr ⟨b', f', n', by rw [m1]; omega, by rw [(cm 74 0 b' (by omega)).1]; exact z2, z3, z4, by rw [(cm 108 0 _ (by omega)).1]; exact z5⟩
  · rw [(cm 122 0 p1 (by omega)).1, (cm 122 0 p2 (by omega)).1]
    exact hPf.u p1 p2 h1 h2
  · rw [(cm 123 0 p (by omega)).1, y69]
    exact hPf.s p hp
  · rw [(cm 124 0 p (by omega)).1, y69]
    exact hPf.h p hp
  · rw [(cm 125 0 k (by omega)).1]
    have := hPf.t k hk
    omega
  · rw [(cm 12 0 52 (by omega)).1]
    have := hPf.c
    omega
  · have z1 := (wC.1 K hK).1
    rw [m1]
    refine ⟨?_, fun q => ?_⟩
    · rw [show (b : Int) + 1 = ((b + 1 : Nat) : Int) by omega, ← Int.natCast_mul]
      exact Int.ofNat_le.mpr z1
    · rw [(wC.1 K hK).2 q]; omega
  · rw [m1, show (b : Int) + 1 = ((b + 1 : Nat) : Int) by omega, ← Int.natCast_mul] at hi
    have hi' := Int.ofNat_le.mp hi
    have hno : ¬ CBk b K i := fun q => by have := q.lt; omega
    obtain ⟨z1, z2⟩ := hFr.z K i hK (by
      rw [hb, ← Int.natCast_mul]
      refine Int.ofNat_le.mpr (Nat.le_trans (Nat.mul_le_mul_left _ (Nat.le_succ b)) hi'))
    refine ⟨by rw [wZ K i hno]; exact z1, fun k => ?_⟩
    obtain ⟨a1, a2, a3⟩ := cc0 K i k hno (fun q => by have := hK; rw [q.1] at this; unfold isBK at this; omega) (fun q => by have := hK; rw [q.1] at this; unfold isBK at this; omega)
    rw [a1, a2, a3]
    exact z2 k
  · rw [m1, show (b : Int) + 1 = ((b + 1 : Nat) : Int) by omega, ← Int.natCast_mul] at hi
    exact hz0 K i hK (Nat.le_trans (Nat.mul_le_mul_left _ (Nat.le_succ b)) (Int.ofNat_le.mp hi))
end BOOK
