/-! CORRECT: the call. -/
section CORRECT
variable {N : Nat} {mc mm : MM} {b F n M Ln E : Nat}
set_option maxHeartbeats 8000000 in
theorem cor_fin (h : RR N mc mm) (hN : N ≤ 1900) (hb : (b : Int) < gN mm 12 0 19) (hB : RBk mc mm b F n M Ln E) {p k0 d x : Nat} (hp : p < 2 * (F * n)) (hk0 : (k0 : Int) < gN mm 90 0 (16 * b + p))
    (hst : gN mm 108 0 (8 * b + fo F p) = 1 ∨ gN mm 108 0 (8 * b + fo F p) = 2) (hd : gN mm 99 0 (150 * (16 * b + p) + k0) = d) (hx : gN mm 66 0 d = x) :
    ∃ v mc' mm', j_X11_correct_0_103 mc 0 (b : Int) (p : Int) (k0 : Int) (16 * b + p) (8 * b + fo F p) 1 = some (.inl (some (aI v)), mc') ∧ j_X12_correct_0_179 mm 0 (b : Int) (p : Int) ((150 * (16 * b + p) + k0 : Nat) : Int) ((8 * b + fo F p : Nat) : Int) 0 0 = some (.inl (some (aI v)), mm') ∧ gN mm' 12 0 0 = 0 ∧ RR (N + 1) mc' mm' ∧ (CI mm → CI mm') := by
  have hP := hB.hP
  have hS := hB.hS
  have q0 := hP.hb
  have q1 := hP.hn
  have q3 := hP.hE
  have q4 := hP.ml
  have hf := fo_lt hP.hF hp
  have hff := hB.ff _ hf
  have hpg := (hB.pg p hp).pn
  have hpl := hB.pl p hp
  have hplw := hpl.w k0 hk0
  have hplp := hpl.p k0 hk0
  have hCa := h.Ca
  have hPc := h.Pc
  have zns := hff.ns
  have zpr := hff.pr
  have zsb := hff.sb (by omega)
  have hd28 : d < 28 := by omega
  have hxr := hCa.2.2.2.2.2.1 d hd28
  have hxn : (x : Int) < gN mm 12 0 6 := by omega
  have hx4 : x < 400 := by have := hCa.2.2.1; omega
  have hnx := hCa.2.2.2.2.1 x hxn
  have hxd : gN mm 64 0 x = d := hPc.t d x hd28 hx
  obtain ⟨c, hc⟩ := Int.ex h.Pf.c.1
  have hcN := h.Pf.c.2
  obtain ⟨ns, hns⟩ := Int.ex (show 0 ≤ gN mm 111 0 (8 * b + fo F p) by omega)
  have h7 : gN mc 2 (8 * b + fo F p) 7 = ns := by omega
  have hns1 : 1 ≤ ns ∧ ns ≤ E := by omega
  have hlast := zsb (ns - 1) (by omega)
  have e4 := hCa.2.2.2.1
  unfold j_X11_correct_0_103 j_X12_correct_0_179
  rw [rqS _ (by decide), bV_ok]
  obtain ⟨m1, eb, ebc⟩ := begin_c hP hS hf hns1 h7 (fun q => by omega) (fun p' hp' => by have := (hB.pg p' hp').pn; rw [this.1]; omega)
  rw [eb, bV_ok]
  obtain ⟨ns', g0, g0', g7, g26, g38, g1, gz, gc⟩ : ∃ ns' : Nat, ((gN mm 110 0 (8 * b + fo F p) ≤ gN mm 112 0 (26 * (8 * b + fo F p) + (ns - 1)) ∧ ns' = ns) ∨ (gN mm 112 0 (26 * (8 * b + fo F p) + (ns - 1)) < gN mm 110 0 (8 * b + fo F p) ∧ ns' = ns + 1)) ∧ ns' ≤ E ∧ gN m1 2 (8 * b + fo F p) 7 = ns' ∧ (ns' = ns + 1 → gN m1 26 (8 * b + fo F p) ns = gN mm 110 0 (8 * b + fo F p)) ∧ (ns' = ns + 1 → ∀ p' k : Nat, p' < 2 * (F * n) → fo F p' = fo F p → (k : Int) < gN mm 90 0 (16 * b + p') → gN m1 38 (24 * (16 * b + p') + ns) k = gN mc 38 (24 * (16 * b + p') + (ns - 1)) k) ∧ (∀ K i s, ¬ (K = 2 ∧ i = 8 * b + fo F p ∧ s = 7) ∧ ¬ (K = 26 ∧ i = 8 * b + fo F p ∧ s = ns ∧ ns' = ns + 1) ∧ ¬ (K = 38 ∧ ns' = ns + 1 ∧ ∃ p', p' < 2 * (F * n) ∧ fo F p' = fo F p ∧ i = 24 * (16 * b + p') + ns) → eq3 mc m1 K i s) ∧ (∀ K i, gZ m1 K i = gZ mc K i) ∧ ∀ K, gC m1 K = gC mc K := by
    rw [zpr.1, hlast.1] at ebc
    rcases ebc with ⟨a1, rfl⟩ | ⟨a1, s1, a2, rfl⟩
    · exact ⟨ns, Or.inl ⟨a1, rfl⟩, hns1.2, h7, fun q => by omega, fun q => by omega, fun _ _ _ _ => eq3.rf, fun _ _ => rfl, fun _ => rfl⟩
    · refine ⟨ns + 1, Or.inr ⟨a1, rfl⟩, by omega, by rw [gN_sN, if_pos ⟨rfl, rfl, rfl⟩]; omega, fun _ => ?_, fun _ p' k hp' hfo hk => ?_, fun K i s hk => ?_, fun K i => ?_, fun K => ?_⟩
      · rw [gN_k (by first | decide | omega), (a2.1.1 26 _ ns (fun q => absurd q.1 (by decide))).1, gN_sN, if_pos ⟨rfl, rfl, rfl⟩]
      · have hfp : fpg F (fo F p) (pif F p') = p' := by rw [← hfo]; exact fpg_fo hP.hF
        have := a2.2 (pif F p') k (pif_lt hP.hF) (pif_lt hP.hF) (by rw [hfp, gN_k (by first | decide | omega), (hB.pg p' hp').pn.1]; exact hk)
        rw [hfp] at this
        rw [gN_k (by first | decide | omega), this, gN_k (by first | decide | omega)]
      · exact ((eq3.sN (by omega)).tr (a2.1.1 K i s (fun q => hk.2.2 ⟨q.1, rfl, q.2⟩))).tr (eq3.sN (by omega))
      · show gZ s1 K i = gZ mc K i
        rw [a2.1.2.1]; rfl
      · show gC s1 K = gC mc K
        rw [a2.1.2.2]; rfl
  have g1' : ∀ K i s, K ≠ 38 → ¬ (K = 2 ∧ i = 8 * b + fo F p ∧ s = 7) ∧ ¬ (K = 26 ∧ i = 8 * b + fo F p ∧ s = ns ∧ ns' = ns + 1) → eq3 mc m1 K i s := fun K i s h38 hk => g1 K i s ⟨hk.1, hk.2, fun q => h38 q.1⟩
  have hS1 : BS m1 b F n M Ln E := hS.keep hP (fun K i s hk => g1' K i s (by unfold CBS at hk; omega) (by unfold CBS at hk; omega)) (fun K i k hk => by rw [gz]; exact hk)
  have hC1 : SC m1 := h.C.mv2 (fun K i s hk => (g1' K i s (by omega) (by omega)).2.2) (fun K i k hk => by rw [gz]; exact hk)
  have hRC1 : RC m1 (sN mm 12 0 0 0) := (h.thr 0).Ca.keep (g1' 1 0 5 (by omega) (by omega)).1 rfl (fun K h1 h2 k => (g1' K 0 k (by omega) (by omega)).1) (fun K h1 h2 k => rfl)
  -- the piece that makes room
  have hyb : gN mm 100 0 (150 * (16 * b + p) + k0) = -1 ∨ ∃ yn dy : Nat, yn < 400 ∧ dy < 28 ∧ gN mm 100 0 (150 * (16 * b + p) + k0) = yn ∧ gN m1 20 0 yn = dy := by
    by_cases q : gN mm 100 0 (150 * (16 * b + p) + k0) = -1
    · exact Or.inl q
    · obtain ⟨yn, hyn⟩ := Int.ex (show 0 ≤ gN mm 100 0 (150 * (16 * b + p) + k0) by omega)
      have hy1 := hPc.p (16 * b + p) k0 yn (by omega) (by omega) hk0 hyn
      have hy2 := hCa.2.2.2.2.1 yn hy1.1
      obtain ⟨dy, hdy⟩ := Int.ex hy2.1.1
      exact Or.inr ⟨yn, dy, by omega, by omega, hyn, by rw [(g1' 20 0 yn (by omega) (by omega)).1, (e4 yn).1, hdy]⟩
  rw [nk_of hC1.r1, g7, ck_of ⟨by omega, by omega⟩, ck_of ⟨by omega, by omega⟩, show (ns' : Int) - 1 = ((ns' - 1 : Nat) : Int) by omega]
  have hk0M : k0 < M * Ln := by omega
  have hns'E : ns' - 1 < E := by omega
  obtain ⟨m9, e9, er⟩ := replace_c (ow := 100 + 100 * (b : Int) + (p : Int)) hP hS1 hC1 hp hk0M hns'E (by rw [(g1' 34 _ k0 (by omega) (by omega)).1, hplw.1, hd]) hd28 (by rw [(g1' 24 0 d (by omega) (by omega)).1, (e4 d).2.2.2.2, hx]) hx4 (by rw [(g1' 35 _ k0 (by omega) (by omega)).1, hplp.1]) hyb
  rw [er, bV_ok]
  have c23 : gN m1 23 0 x = gN mm 65 0 x := by rw [(g1' 23 0 x (by omega) (by omega)).1, (e4 x).2.2.2.1]
  rw [c23] at e9
  have g9 : ∀ K i s, ¬ ((22 ≤ K ∧ K ≤ 24) ∧ i = 0) → eq3 m1 m9 K i s := fun K i s hk => by
    rcases e9 with ⟨-, rfl⟩ | ⟨yn, dy, -, -, -, -, rfl⟩
    · exact (eq3.sN (by omega)).tr (eq3.sN (by omega))
    · exact ((((eq3.sN (by omega)).tr (eq3.sN (by omega))).tr (eq3.sN (by omega))).tr (eq3.sN (by omega))).tr (eq3.sN (by omega))
  have z9 : (∀ K i, gZ m9 K i = gZ m1 K i) ∧ ∀ K, gC m9 K = gC m1 K := by
    rcases e9 with ⟨-, rfl⟩ | ⟨yn, dy, -, -, -, -, rfl⟩ <;> exact ⟨fun _ _ => rfl, fun _ => rfl⟩
  have c20 : gN m1 20 0 x = gN mm 62 0 x := by rw [(g1' 20 0 x (by omega) (by omega)).1, (e4 x).1]
  obtain ⟨kd, hkd⟩ := Int.ex hnx.1.1
  rw [c20, hkd]
  have w7 : gN (sN (sN (sN m9 35 (16 * b + p) k0 (x : Int)) 36 (16 * b + p) k0 0) 38 (24 * (16 * b + p) + (ns' - 1)) k0 (kd : Int)) 2 (8 * b + fo F p) 7 = ns' := by
    rw [gN_k (by first | decide | omega), gN_k (by first | decide | omega), gN_k (by first | decide | omega), (g9 2 _ 7 (by omega)).1, g7]
  rw [w7, ck_of ⟨by omega, by omega⟩]
  -- the model
  have hM := (h.thr 0).M
  have tK : ∀ K k, K ≠ 12 → gN (sN mm 12 0 0 0) K 0 k = gN mm K 0 k := fun K k hK => gthr' _ _ (Or.inl hK)
  rw [holds0, bI_ok, if_pos (show ¬ (1 : Int) = 0 by decide), nk_of hM.r46, ldN_of hM.z99 (by omega), tnc, tK 99 _ (by decide), hd]
  unfold f_X12_takes
  rw [nk_of hM.r11, ldN_of hM.z66 (by omega), tnc, tK 66 _ (by decide), hx, nk_of hM.r11, nk_of hM.r10, ldN_of hM.z65 (by omega), tnc, tK 65 _ (by decide), stN_of hM.z66 (by omega), tnc, bI_ok]
  have hM20 : SM (sN (sN mm 12 0 0 0) 66 0 d (gN mm 65 0 x)) := hM.mv (fun _ => rfl) (fun _ _ _ q => q)
  have y100 : gN (sN (sN mm 12 0 0 0) 66 0 d (gN mm 65 0 x)) 100 0 (150 * (16 * b + p) + k0) = gN mm 100 0 (150 * (16 * b + p) + k0) := by rw [gN_k (by first | decide | omega), tK 100 _ (by decide)]
  rw [nk_of hM20.r47, ldN_of hM20.z100 (by omega), tnc, y100]
  -- both ways come to the memory t30
  obtain ⟨t30, f30, et⟩ : ∃ t30, ((gN mm 100 0 (150 * (16 * b + p) + k0) = -1 ∧ t30 = sN (sN mm 12 0 0 0) 66 0 d (gN mm 65 0 x) ∧ m9 = sN (sN m1 24 0 d (gN mm 65 0 x)) 22 0 x (100 + 100 * (b : Int) + (p : Int))) ∨ ∃ yn dy : Nat, yn < 400 ∧ dy < 28 ∧ gN mm 100 0 (150 * (16 * b + p) + k0) = yn ∧ gN mm 62 0 yn = dy ∧ m9 = pOn (sN (sN m1 24 0 d (gN mm 65 0 x)) 22 0 x (100 + 100 * (b : Int) + (p : Int))) 22 23 24 dy yn ∧ t30 = pOn (sN (sN mm 12 0 0 0) 66 0 d (gN mm 65 0 x)) 64 65 66 dy yn) ∧
      (if gN mm 100 0 (150 * (16 * b + p) + k0) = -1 then j_X12_correct_0_234 (sN (sN mm 12 0 0 0) 66 0 d (gN mm 65 0 x)) 0 (b : Int) (p : Int) ((150 * (16 * b + p) + k0 : Nat) : Int) ((8 * b + fo F p : Nat) : Int) (x : Int) else
        nk 62 (gR (sN (sN mm 12 0 0 0) 66 0 d (gN mm 65 0 x)) 12 0 7) fun i24 => nk 100 (gR (sN (sN mm 12 0 0 0) 66 0 d (gN mm 65 0 x)) 12 0 47) fun i25 => ldN (sN (sN mm 12 0 0 0) 66 0 d (gN mm 65 0 x)) 100 i25 ((150 * (16 * b + p) + k0 : Nat) : Int) fun v26 => ldN (sN (sN mm 12 0 0 0) 66 0 d (gN mm 65 0 x)) 62 i24 v26 fun v27 => nk 100 (gR (sN (sN mm 12 0 0 0) 66 0 d (gN mm 65 0 x)) 12 0 47) fun i28 => ldN (sN (sN mm 12 0 0 0) 66 0 d (gN mm 65 0 x)) 100 i28 ((150 * (16 * b + p) + k0 : Nat) : Int) fun v29 => bV (f_X12_puts (sN (sN mm 12 0 0 0) 66 0 d (gN mm 65 0 x)) 0 v27 v29) (fun m30 => j_X12_correct_0_234 m30 0 (b : Int) (p : Int) ((150 * (16 * b + p) + k0 : Nat) : Int) ((8 * b + fo F p : Nat) : Int) (x : Int)) x0) = j_X12_correct_0_234 t30 0 (b : Int) (p : Int) ((150 * (16 * b + p) + k0 : Nat) : Int) ((8 * b + fo F p : Nat) : Int) (x : Int) := by
    rcases e9 with ⟨a1, a2⟩ | ⟨yn, dy, a1, a2, a3, a4, a5⟩
    · rw [if_pos a1]
      exact ⟨_, Or.inl ⟨a1, rfl, a2⟩, rfl⟩
    · have y62 : gN (sN (sN mm 12 0 0 0) 66 0 d (gN mm 65 0 x)) 62 0 yn = dy := by rw [gN_k (by first | decide | omega), tK 62 _ (by decide), ← (e4 yn).1, ← (g1' 20 0 yn (by omega) (by omega)).1, a4]
      rw [if_neg (by omega), nk_of hM20.r7, nk_of hM20.r47, ldN_of hM20.z100 (by omega), tnc, y100, a3, ldN_of hM20.z62 (by omega), tnc, y62, nk_of hM20.r47, ldN_of hM20.z100 (by omega), tnc, y100, a3, puts_m hM20 a2 a1, bV_ok]
      exact ⟨_, Or.inr ⟨yn, dy, a1, a2, rfl, by rw [← (e4 yn).1, ← (g1' 20 0 yn (by omega) (by omega)).1, a4], a5, rfl⟩, rfl⟩
  rw [et]
  have g30 : ∀ K i s, ¬ (K = 12 ∧ s = 0) ∧ ¬ ((64 ≤ K ∧ K ≤ 66) ∧ i = 0) → eq3 mm t30 K i s := fun K i s hk => by
    rcases f30 with ⟨-, rfl, -⟩ | ⟨yn, dy, -, -, -, -, -, rfl⟩
    · exact (eq3.sN (by omega)).tr (eq3.sN (by omega))
    · exact ((((eq3.sN (by omega)).tr (eq3.sN (by omega))).tr (eq3.sN (by omega))).tr (eq3.sN (by omega))).tr (eq3.sN (by omega))
  have z30 : ∀ K i, gZ t30 K i = gZ mm K i := by
    rcases f30 with ⟨-, rfl, -⟩ | ⟨yn, dy, -, -, -, -, -, rfl⟩ <;> exact fun _ _ => rfl
  have t00 : gN t30 12 0 0 = 0 := by
    rcases f30 with ⟨-, rfl, -⟩ | ⟨yn, dy, -, -, -, -, -, rfl⟩
    · simp [gN_sN]
    · simp [pOn, gN_sN]
  have hM30 : SM t30 := h.M.mv2 (fun s hs => (g30 12 0 s (by omega)).2.2) (fun K i k hk => by rw [z30]; exact hk)
  obtain ⟨t2, f2, e2⟩ := c234 (t := t30) (b := b) (p := p) (idx := 150 * (16 * b + p) + k0) (w := 8 * b + fo F p) (x := x) (c := c) (ns := ns) (ns' := ns') hM30 ⟨q0, by omega⟩ (by omega) (by omega) hx4 (by rw [(g30 12 0 52 (by omega)).1, hc]) (by omega) (by rw [(g30 111 0 _ (by omega)).1, hns]) (by omega) (by rw [(g30 110 0 _ (by omega)).1, (g30 112 0 _ (by omega)).1]; exact g0)
  have y62 : gN t30 62 0 x = kd := by rw [(g30 62 0 x (by omega)).1, hkd]
  have y110 : gN t30 110 0 (8 * b + fo F p) = gN mm 110 0 (8 * b + fo F p) := (g30 110 0 _ (by omega)).1
  rw [e2, y62]
  rw [y110] at f2
  have hkd28 : kd < 28 := by omega
  -- what the memories hold
  have g2 : ∀ K i s, ¬ (K = 12 ∧ s = 0) ∧ ¬ ((64 ≤ K ∧ K ≤ 66) ∧ i = 0) ∧ ¬ ((K = 100 ∨ K = 101) ∧ i = 0 ∧ s = 150 * (16 * b + p) + k0) ∧ ¬ (K = 111 ∧ i = 0 ∧ s = 8 * b + fo F p) ∧ ¬ (K = 112 ∧ i = 0 ∧ s = 26 * (8 * b + fo F p) + ns ∧ ns' = ns + 1) → eq3 mm t2 K i s := fun K i s hk => by
    have := g30 K i s (by omega)
    rcases f2 with ⟨a, rfl⟩ | ⟨a, rfl⟩
    · exact ((this.tr (eq3.sN (by omega))).tr (eq3.sN (by omega))).tr (eq3.sN (by omega))
    · exact ((((this.tr (eq3.sN (by omega))).tr (eq3.sN (by omega))).tr (eq3.sN (by omega))).tr (eq3.sN (by omega))).tr (eq3.sN (by omega))
  have z2 : ∀ K i, gZ t2 K i = gZ mm K i := fun K i => by
    rw [← z30]
    rcases f2 with ⟨a, rfl⟩ | ⟨a, rfl⟩ <;> rfl
  have v100 : gN t2 100 0 (150 * (16 * b + p) + k0) = x ∧ gN t2 101 0 (150 * (16 * b + p) + k0) = 0 := by
    rcases f2 with ⟨a, rfl⟩ | ⟨a, rfl⟩ <;> simp [gN_sN]
  have v111 : gN t2 111 0 (8 * b + fo F p) = ns' := by
    rcases f2 with ⟨a, rfl⟩ | ⟨a, rfl⟩
    · rw [gN_k (by first | decide | omega), gN_k (by first | decide | omega), gN_k (by first | decide | omega), (g30 111 0 _ (by omega)).1, hns, a]
    · rw [gN_sN, if_pos ⟨rfl, rfl, rfl⟩]; omega
  have v112 : ns' = ns + 1 → gN t2 112 0 (26 * (8 * b + fo F p) + ns) = gN mm 110 0 (8 * b + fo F p) := fun q => by
    rcases f2 with ⟨a, rfl⟩ | ⟨a, rfl⟩
    · omega
    · rw [gN_k (by first | decide | omega), gN_sN, if_pos ⟨rfl, rfl, rfl⟩]
  have v0 : gN t2 12 0 0 = 0 := by
    rcases f2 with ⟨a, rfl⟩ | ⟨a, rfl⟩ <;> simp [gN_sN, t00]
  have vK : ∀ K j, 62 ≤ K → K ≤ 66 → gN t2 K 0 j = if K = 64 ∧ j = x then 100 + 100 * (b : Int) + (p : Int) else gN t30 K 0 j := fun K j h1 h2 => by
    rcases f2 with ⟨a, rfl⟩ | ⟨a, rfl⟩
    · rw [gN_sN]
      by_cases q : K = 64 ∧ j = x
      · rw [if_pos ⟨q.1, rfl, q.2⟩, if_pos q]
      · rw [if_neg (by omega), if_neg q, gN_k (by first | decide | omega), gN_k (by first | decide | omega)]
    · rw [gN_k (by first | decide | omega), gN_k (by first | decide | omega), gN_sN]
      by_cases q : K = 64 ∧ j = x
      · rw [if_pos ⟨q.1, rfl, q.2⟩, if_pos q]
      · rw [if_neg (by omega), if_neg q, gN_k (by first | decide | omega), gN_k (by first | decide | omega)]
  obtain ⟨t9, k9, kq, kv⟩ := cor_pcs h q0 (show p < 16 by omega) (show k0 < 144 by omega) hk0 hRC1 hd28 hx hxn hnx.2.2 hxd f30 vK
  obtain ⟨r1, r2, r3⟩ := cor_asm h hN hb hB hp hk0 hst hns g0 hc hxn hkd28 g7 g26 g38 g1 gz gc g9 z9.1 z9.2 g2 z2 v0 v100.1 v100.2 v111 v112 k9 kq kv.1 kv.2.1 kv.2.2.1 kv.2.2.2 w7
  exact ⟨_, _, _, rfl, rfl, r1, r2, r3⟩
theorem call_correct (hN : N ≤ 1900) (h : RR N mc mm) (a c e : Int) : CalJ N mm (f_X11_correct mc 0 a c e) (f_X12_correct mm 0 a c e) [0, 2] := by
  have m179 : ∀ (v u w : Int), v ≠ 0 → j_X12_correct_0_179 mm 0 a c u w 0 v = some (.inl (some (aI 0)), sN mm 12 0 0 v) := fun v u w hv => by
    unfold j_X12_correct_0_179; rw [holds1 _ hv, bI_ok, if_neg (fun q => q rfl)]
  have m48 : j_X12_correct_0_48 mm 0 a c e = some (.inl (some (aI 0)), sN mm 12 0 0 1) := by
    unfold j_X12_correct_0_48 j_X12_correct_0_49 j_X12_correct_0_66 j_X12_correct_0_85 j_X12_correct_0_107 j_X12_correct_0_156 j_X12_correct_0_157
    rw [if_pos rfl, if_pos rfl, if_pos rfl, if_pos rfl, if_neg (fun q => q rfl), m179 1 _ _ (by decide)]
  unfold f_X11_correct f_X12_correct
  by_cases hb : 0 ≤ a ∧ a < gN mm 12 0 19
  · obtain ⟨b, rfl⟩ := Int.ex hb.1
    obtain ⟨F, n, M, Ln, E, hB⟩ := h.Bk b hb.2
    have hP := hB.hP
    have hS := hB.hS
    have q0 := hP.hb
    have q1 := hP.hn
    have q4 := hP.ml
    have hF := hP.hF
    rw [bookAt_ok h.Nb h.C hb.2, bR_ok, nk_some]
    by_cases hp : 0 ≤ c ∧ c < (2 * (F * n) : Nat)
    · obtain ⟨p, rfl⟩ := Int.ex hp.1
      have hp2 : p < 2 * (F * n) := by omega
      have hg := hB.pg p hp2
      have hpn := hg.pn
      rw [pageOf_ok hS hp2, bR_ok, nk_some, nk_of (hS.p8 p hp2), isPage_ok h.Nb h.M hP hb.2 hp2, Option.bind_some, if_neg (show ¬ (1 : Int) = 0 by decide), nk_of h.M.r30, ldN_of h.M.z83 (by omega), tn16, hpn.1]
      have c36 : j_X11_correct_0_35 mc 0 (b : Int) (p : Int) e b (16 * b + p) = some (.inr 0, bX mc) := by unfold j_X11_correct_0_35 j_X11_correct_0_36; rw [rqI0, bV_ex]; rfl
      by_cases hk : 0 ≤ e ∧ e < gN mm 90 0 (16 * b + p)
      · obtain ⟨k0, rfl⟩ := Int.ex hk.1
        have h83 : gN mm 83 0 (16 * b + p) ≠ 0 := fun z => by have := hg.un z; omega
        have hf := fo_lt hF hp2
        have hff := hB.ff _ hf
        have hplw := (hB.pl p hp2).w k0 hk.2
        have hfo16 := formeOf_m h.M hP (show p < 16 by omega)
        rw [if_neg (show ¬ (k0 : Int) < 0 by omega), if_neg (show ¬ gN mm 90 0 (16 * b + p) ≤ (k0 : Int) by omega), if_neg h83, nk_of h.M.r37, ldN_of h.M.z90 (by omega), tn16, ck_of ⟨by omega, by omega⟩, isIn_m, if_pos (show 0 ≤ (k0 : Int) ∧ (k0 : Int) ≤ gN mm 90 0 (16 * b + p) - 1 by omega), Option.bind_some, if_neg (show ¬ (1 : Int) = 0 by decide)]
        unfold j_X11_correct_0_36 j_X12_correct_0_49 j_X12_correct_0_66 j_X12_correct_0_85 j_X12_correct_0_107
        rw [rqI _ (by decide), bV_ok, nk_of hS.r6, formeNumber_c hP hS (show p < 16 by omega), Option.bind_some, ldR_of hS.z14 (by omega), tnc, hS.e14 _ hf, nk_some, hff.how.1]
        rw [if_neg (show ¬ (1 : Int) = 0 by decide), ck_of ⟨by omega, by omega⟩, if_neg (show ¬ (1 : Int) = 0 by decide), ck_of ⟨by omega, by omega⟩, if_neg (show ¬ (1 : Int) = 0 by decide), hfo16, Option.bind_some, ck_of ⟨by omega, by omega⟩, if_neg (show ¬ (1 : Int) = 0 by decide), show 150 * (16 * (b : Int) + (p : Int)) + (k0 : Int) = ((150 * (16 * b + p) + k0 : Nat) : Int) by omega, show 8 * (b : Int) + ((fo F p : Nat) : Int) = ((8 * b + fo F p : Nat) : Int) by omega, nk_of h.M.r56, ldN_of h.M.z108 (by omega), tnc]
        have hM := h.M
        have c76 : j_X11_correct_0_76 mc 0 (b : Int) (p : Int) (k0 : Int) (16 * b + p) (8 * b + fo F p) 0 = some (.inr 2, bX mc) := by unfold j_X11_correct_0_76; rw [rqS0, bV_ex]; rfl
        have c103 : j_X11_correct_0_103 mc 0 (b : Int) (p : Int) (k0 : Int) (16 * b + p) (8 * b + fo F p) 0 = some (.inr 2, bX mc) := by unfold j_X11_correct_0_103; rw [rqS0, bV_ex]; rfl
        have m156 : j_X12_correct_0_156 mm 0 (b : Int) (p : Int) 1 ((150 * (16 * b + p) + k0 : Nat) : Int) ((8 * b + fo F p : Nat) : Int) = some (.inl (some (aI 0)), sN mm 12 0 0 2) := by
          unfold j_X12_correct_0_156 j_X12_correct_0_157
          rw [if_pos (show ¬ (1 : Int) = 0 by decide), if_pos rfl, m179 2 _ _ (by decide)]
        obtain ⟨d, hd⟩ := Int.ex hplw.2.1
        have go : (gN mm 108 0 (8 * b + fo F p) = 1 ∨ gN mm 108 0 (8 * b + fo F p) = 2) → CalJ N mm (j_X11_correct_0_71 mc 0 (b : Int) (p : Int) (k0 : Int) (16 * b + p) (8 * b + fo F p)) (j_X12_correct_0_136 mm 0 (b : Int) (p : Int) 1 ((150 * (16 * b + p) + k0 : Nat) : Int) ((8 * b + fo F p : Nat) : Int)) [0, 2] := fun hst => by
          unfold j_X11_correct_0_71 j_X11_correct_0_76 j_X12_correct_0_136
          rw [rqS _ (by decide), bV_ok, nk_of h.C.r1, nk_of h.C.c4, nk_of (hS.q0 p hp2), ldN_of (hS.z34 p hp2) (by omega), tnc, hplw.1, hd, ldN_of h.C.z24 (by omega), tnc, (h.Ca.2.2.2.1 d).2.2.2.2, nk_of hM.r11, nk_of hM.r46, ldN_of hM.z99 (by omega), tnc, hd, ldN_of hM.z66 (by omega), tnc]
          have hxr := h.Ca.2.2.2.2.2.1 d (by omega)
          by_cases hx : gN mm 66 0 d = -1
          · rw [if_pos hx, if_pos hx, c103, m156]
            exact CalJ.bad (k := 1) h rfl rfl rfl
          · obtain ⟨x, hx'⟩ := Int.ex (show 0 ≤ gN mm 66 0 d by omega)
            obtain ⟨v, mc', mm', e1, e2, e3, e4, e5⟩ := cor_fin h hN hb.2 hB hp2 hk.2 hst hd hx'
            rw [if_neg hx, if_neg hx, e1]
            unfold j_X12_correct_0_157
            rw [if_pos (show ¬ (1 : Int) = 0 by decide), if_neg (show ¬ (1 : Int) = 0 by decide), e2]
            exact ⟨_, _, _, _, rfl, rfl, Or.inl ⟨rfl, e3⟩, e4, e5⟩
        by_cases h1 : gN mm 108 0 (8 * b + fo F p) = 1
        · rw [if_pos h1, if_pos h1]
          exact go (Or.inl h1)
        · rw [if_neg h1, if_neg h1, nk_of hM.r56, ldN_of hM.z108 (by omega), tnc]
          by_cases h2 : gN mm 108 0 (8 * b + fo F p) = 2
          · rw [if_neg (show ¬ ¬ gN mm 108 0 (8 * b + fo F p) = 2 from fun q => q h2), if_neg (show ¬ ¬ gN mm 108 0 (8 * b + fo F p) = 2 from fun q => q h2)]
            exact go (Or.inr h2)
          · rw [if_pos (show ¬ gN mm 108 0 (8 * b + fo F p) = 2 from h2), if_pos (show ¬ gN mm 108 0 (8 * b + fo F p) = 2 from h2), c76, m156]
            exact CalJ.bad (k := 1) h rfl rfl rfl
      · have ec : (if e < 0 then j_X11_correct_0_35 mc 0 (b : Int) (p : Int) e b (16 * b + p) else if gN mm 90 0 (16 * b + p) ≤ e then j_X11_correct_0_35 mc 0 (b : Int) (p : Int) e b (16 * b + p) else j_X11_correct_0_36 mc 0 (b : Int) (p : Int) e b (16 * b + p) 1) = some (.inr 0, bX mc) := by
          by_cases z : e < 0
          · rw [if_pos z, c36]
          · rw [if_neg z, if_pos (by omega), c36]
        rw [ec]
        by_cases h83 : gN mm 83 0 (16 * b + p) = 0
        · rw [if_pos h83, m48]
          exact CalJ.bad (k := 0) h rfl rfl rfl
        · rw [if_neg h83, nk_of h.M.r37, ldN_of h.M.z90 (by omega), tn16, ck_of ⟨by omega, by omega⟩, isIn_m, if_neg (by omega), Option.bind_some, if_pos rfl, m48]
          exact CalJ.bad (k := 0) h rfl rfl rfl
    · rw [pageOf_bad hS hp, bR_ex, isPage_bad h.Nb h.M hP hb.2 hp, Option.bind_some, if_pos rfl, m48]
      exact CalJ.bad (k := 0) h rfl rfl rfl
  · rw [bookAt_bad h.Nb h.C hb, bR_ex, isPage_b0 h.Nb hb, Option.bind_some, if_pos rfl, m48]
    exact CalJ.bad (k := 0) h rfl rfl rfl
end CORRECT
