/-! WHICH FORMES LIE AHEAD OF WHICH. -/
/-- a row of sets: kind K, m sets -/
def MK (K m : Nat) (Q : Nat → Nat → Prop) (s : MM) : Prop := ∀ f, f < m → ∃ a : Nat, a < 256 ∧ gN s K 0 f = a ∧ ∀ g, a.testBit g = true ↔ Q f g
theorem MK.iff {K m : Nat} {Q Q' : Nat → Nat → Prop} {s : MM} (h : MK K m Q s) (hq : ∀ f g, f < m → (Q f g ↔ Q' f g)) : MK K m Q' s := fun f hf => by
  obtain ⟨a, h1, h2, h3⟩ := h f hf
  exact ⟨a, h1, h2, fun g => (h3 g).trans (hq f g hf)⟩
theorem MK.add {K m : Nat} {Q : Nat → Nat → Prop} {s : MM} (h : MK K m Q s) {f0 g0 : Nat} (hf0 : f0 < m) (hg0 : g0 < 8) : MK K m (fun f g => Q f g ∨ (f = f0 ∧ g = g0)) (sN s K 0 f0 (ior' (gN s K 0 f0) (ishl 1 (g0 : Int)))) := fun f hf => by
  obtain ⟨a, h1, h2, h3⟩ := h f hf
  by_cases q : f = f0
  · subst q
    have hp : 2 ^ g0 < 2 ^ 8 := Nat.pow_lt_pow_right (by omega) hg0
    refine ⟨a ||| 2 ^ g0, Nat.or_lt_two_pow (n := 8) (by omega) hp, ?_, fun g => ?_⟩
    · rw [gN_sN, if_pos ⟨rfl, rfl, rfl⟩, h2, ishl_nat (by omega), ior_nat (by omega) (by omega)]
    · rw [Nat.testBit_or, Nat.testBit_two_pow, Bool.or_eq_true, h3 g, decide_eq_true_iff]
      exact ⟨fun z => z.imp id fun w => ⟨rfl, w.symm⟩, fun z => z.imp id fun w => w.2.symm⟩
  · refine ⟨a, h1, by rw [gN_sN, if_neg (fun z => q z.2.2)]; exact h2, fun g => (h3 g).trans ⟨Or.inl, fun z => z.elim id fun w => absurd w.1 q⟩⟩
theorem MK.same {K m : Nat} {Q : Nat → Nat → Prop} {s : MM} (h : MK K m Q s) {f0 : Nat} (hf0 : f0 < m) : MK K m Q (sN s K 0 f0 (ior' (gN s K 0 f0) 0)) := fun f hf => by
  obtain ⟨a, h1, h2, h3⟩ := h f hf
  refine ⟨a, h1, ?_, h3⟩
  rw [gN_sN]
  by_cases q : f = f0
  · subst q
    rw [if_pos ⟨rfl, rfl, rfl⟩, h2, ior0 ⟨by omega, by omega⟩]
  · rw [if_neg (fun z => q z.2.2)]; exact h2
/-- so far: pieces below x; of piece x the formes below f0, of forme f0 the others below g0 -/
def Qs (R : Nat → Nat → Nat → Prop) (m x f0 g0 f g : Nat) : Prop := g < m ∧ ((∃ x', x' < x ∧ R x' f g) ∨ (R x f g ∧ (f < f0 ∨ (f = f0 ∧ g < g0))))
theorem Qs.step {R : Nat → Nat → Nat → Prop} {m x f0 g0 f g : Nat} (hg : g0 < m) (hR : R x f0 g0) : (Qs R m x f0 g0 f g ∨ (f = f0 ∧ g = g0)) ↔ Qs R m x f0 (g0 + 1) f g := by
  unfold Qs
  constructor
  · rintro (⟨h1, h2 | ⟨h2, h3⟩⟩ | ⟨rfl, rfl⟩)
    · exact ⟨h1, Or.inl h2⟩
    · exact ⟨h1, Or.inr ⟨h2, by omega⟩⟩
    · exact ⟨hg, Or.inr ⟨hR, by omega⟩⟩
  · rintro ⟨h1, h2 | ⟨h2, h3⟩⟩
    · exact Or.inl ⟨h1, Or.inl h2⟩
    · by_cases q : f = f0 ∧ g = g0
      · exact Or.inr q
      · exact Or.inl ⟨h1, Or.inr ⟨h2, by omega⟩⟩
theorem Qs.skip {R : Nat → Nat → Nat → Prop} {m x f0 g0 f g : Nat} (hR : ¬ R x f0 g0) : Qs R m x f0 g0 f g ↔ Qs R m x f0 (g0 + 1) f g := by
  unfold Qs
  constructor
  · rintro ⟨h1, h2 | ⟨h2, h3⟩⟩
    · exact ⟨h1, Or.inl h2⟩
    · exact ⟨h1, Or.inr ⟨h2, by omega⟩⟩
  · rintro ⟨h1, h2 | ⟨h2, h3⟩⟩
    · exact ⟨h1, Or.inl h2⟩
    · refine ⟨h1, Or.inr ⟨h2, ?_⟩⟩
      rcases h3 with h3 | ⟨rfl, h3⟩
      · exact Or.inl h3
      · by_cases q : g = g0
        · rw [q] at h2; exact absurd h2 hR
        · exact Or.inr ⟨rfl, by omega⟩
theorem Qs.row {R : Nat → Nat → Nat → Prop} {m x f0 g0 f g : Nat} (hR : ∀ g, g0 ≤ g → g < m → ¬ R x f0 g) : Qs R m x f0 g0 f g ↔ Qs R m x (f0 + 1) 0 f g := by
  unfold Qs
  constructor
  · rintro ⟨h1, h2 | ⟨h2, h3⟩⟩
    · exact ⟨h1, Or.inl h2⟩
    · exact ⟨h1, Or.inr ⟨h2, by omega⟩⟩
  · rintro ⟨h1, h2 | ⟨h2, h3⟩⟩
    · exact ⟨h1, Or.inl h2⟩
    · refine ⟨h1, Or.inr ⟨h2, ?_⟩⟩
      by_cases q : f = f0
      · subst q
        rcases Nat.lt_or_ge g g0 with z | z
        · exact Or.inr ⟨rfl, z⟩
        · exact absurd h2 (hR g z h1)
      · exact Or.inl (by omega)
theorem Qs.next {R : Nat → Nat → Nat → Prop} {m x f0 f g : Nat} (hf : f < m) (hR : ∀ f g, f0 ≤ f → f < m → g < m → ¬ R x f g) : Qs R m x f0 0 f g ↔ Qs R m (x + 1) 0 0 f g := by
  unfold Qs
  constructor
  · rintro ⟨h1, ⟨x', h2, h3⟩ | ⟨h2, h3⟩⟩
    · exact ⟨h1, Or.inl ⟨x', by omega, h3⟩⟩
    · exact ⟨h1, Or.inl ⟨x, by omega, h2⟩⟩
  · rintro ⟨h1, ⟨x', h2, h3⟩ | ⟨h2, h3⟩⟩
    · refine ⟨h1, ?_⟩
      by_cases q : x' = x
      · subst q
        refine Or.inr ⟨h3, Or.inl ?_⟩
        rcases Nat.lt_or_ge f f0 with z | z
        · exact z
        · exact absurd h3 (hR f g z hf h1)
      · exact Or.inl ⟨x', by omega, h3⟩
    · omega
section SURE
variable {N : Nat} {mc mm : MM} {b F n M Ln E : Nat}
/-- a piece was seen in g, and later in f -/
def PrS (mc : MM) (b x f g : Nat) : Prop := 0 < gN mc 25 (8 * b + g) x ∧ gN mc 25 (8 * b + g) x < gN mc 25 (8 * b + f) x
theorem readPiece_c (h : RR N mc mm) (hB : RBk mc mm b F n M Ln E) {x : Nat} (hx : x < 400) {s : MM} (hF : FrC (fun K i _ => K = 39 ∧ i = 0) mc s) (hQ : MK 39 (2 * n) (Qs (PrS mc b) (2 * n) x 0 0) s) :
    Ev (f_X7_readPiece s 0 b (x : Int)) (fun r => r.1 = .inl none ∧ FrC (fun K i _ => K = 39 ∧ i = 0) mc r.2 ∧ MK 39 (2 * n) (Qs (PrS mc b) (2 * n) (x + 1) 0 0) r.2) := by
  have hP := hB.hP
  have q1 := hP.hn
  unfold f_X7_readPiece
  refine ev_lp (fun m => FrC (fun K i _ => K = 39 ∧ i = 0) mc m ∧ MK 39 (2 * n) (Qs (PrS mc b) (2 * n) (x + 1) 0 0) m) (fun s : Int × MM => ∃ f0 : Nat, s.1 = f0 ∧ f0 ≤ 2 * n ∧ FrC (fun K i _ => K = 39 ∧ i = 0) mc s.2 ∧ MK 39 (2 * n) (Qs (PrS mc b) (2 * n) x f0 0) s.2) (fun s => 2 * n - s.1.toNat) ⟨0, rfl, by omega, hF, hQ⟩ ?_ ?_
  · rintro ⟨_, m1⟩ ⟨f0, rfl, hf0, hF1, hQ1⟩
    simp only at hF1 hQ1
    show Ev (b_X7_readPiece_2 0 b (x : Int) (f0 : Int) m1) _
    have hS1 := hF1.BS hB.hS hP (fun K i s hk => by unfold CBS at hk; omega)
    unfold b_X7_readPiece_2
    rw [nk_of hS1.r6, lenI_of hS1.z14]
    refine ev_if (fun hc => ev_exit ⟨hF1, hQ1.iff fun f g hf => Qs.next hf fun f' g' h1 h2 h3 => by omega⟩) fun hc => ?_
    have hf2 : f0 < 2 * n := by omega
    rw [nk_of hS1.r6, ldR_of hS1.z14 (by omega), tnc, hS1.e14 f0 hf2, nk_some, nk_of (hS1.o3 f0 hf2), ldN_of (hS1.z25 f0 hf2) (by omega), tnc, (hF1.1 25 (8 * b + f0) x (by omega)).1]
    refine ev_lp (fun m => FrC (fun K i _ => K = 39 ∧ i = 0) mc m ∧ MK 39 (2 * n) (Qs (PrS mc b) (2 * n) x (f0 + 1) 0) m) (fun s : Int × MM => ∃ g0 : Nat, s.1 = g0 ∧ g0 ≤ 2 * n ∧ FrC (fun K i _ => K = 39 ∧ i = 0) mc s.2 ∧ MK 39 (2 * n) (Qs (PrS mc b) (2 * n) x f0 g0) s.2) (fun s => 2 * n - s.1.toNat) ⟨0, rfl, by omega, hF1, hQ1⟩ ?_ ?_
    · rintro ⟨_, m2⟩ ⟨g0, rfl, hg0, hF2, hQ2⟩
      simp only at hF2 hQ2
      show Ev (b_X7_readPiece_27 0 b (x : Int) (f0 : Int) (gN mc 25 (8 * b + f0) x) (g0 : Int) m2) _
      have hS2 := hF2.BS hB.hS hP (fun K i s hk => by unfold CBS at hk; omega)
      have hC2 : SC m2 := h.C.mv2 (fun K i s hk => (hF2.1 K i s (by omega)).2.2) (fun K i k hk => by rw [hF2.2.1]; exact hk)
      unfold b_X7_readPiece_27
      rw [nk_of hS2.r6, lenI_of hS2.z14]
      refine ev_if (fun hd => ev_exit ⟨hF2, hQ2.iff fun f g hf => Qs.row fun g' h1 h2 => by omega⟩) fun hd => ?_
      have hg2 : g0 < 2 * n := by omega
      rw [nk_of hS2.r6, ldR_of hS2.z14 (by omega), tnc, hS2.e14 g0 hg2, nk_some, nk_of (hS2.o3 g0 hg2), ldN_of (hS2.z25 g0 hg2) (by omega), tnc, (hF2.1 25 (8 * b + g0) x (by omega)).1]
      refine ev_if (fun he => ev_ck (by omega) (ev_back ⟨g0 + 1, by simp, by omega, hF2, hQ2.iff fun f g hf => Qs.skip fun q => ?_⟩ (by simp only; omega))) fun he => ev_if (fun hf' => ev_ck (by omega) (ev_back ⟨g0 + 1, by simp, by omega, hF2, hQ2.iff fun f g hf => Qs.skip fun q => ?_⟩ (by simp only; omega))) fun hf' => ?_
      · have := q.1; omega
      · have := q.2; omega
      · rw [nk_of hC2.s0, ldN_of hC2.z39 (by omega), tnc, stN_of hC2.z39 (by omega), tnc]
        refine ev_ck (by omega) (ev_back ⟨g0 + 1, by simp, by omega, hF2.sN ⟨rfl, rfl⟩, (hQ2.add hf2 (by omega)).iff fun f g hf => Qs.step hg2 ⟨by omega, by omega⟩⟩ (by simp only; omega))
    · rintro m2 ⟨hF2, hQ2⟩
      unfold j_X7_readPiece_2_82
      exact ev_ck (by omega) (ev_back ⟨f0 + 1, by simp, by omega, hF2, hQ2⟩ (by simp only; omega))
  · rintro m1 ⟨hF1, hQ1⟩
    exact ev_some ⟨rfl, hF1, hQ1⟩
theorem Qs.nil {R : Nat → Nat → Nat → Prop} {m f g : Nat} : ¬ Qs R m 0 0 0 f g := fun q => by
  rcases q.2 with ⟨x', h, -⟩ | ⟨-, h⟩
  · omega
  · omega
theorem MK.nil {K m : Nat} {R : Nat → Nat → Nat → Prop} {s : MM} (h : ∀ f, f < m → gN s K 0 f = 0) : MK K m (Qs R m 0 0 0) s := fun f hf => ⟨0, by omega, h f hf, fun g => ⟨fun q => absurd q (by simp), fun q => absurd q Qs.nil⟩⟩
theorem Qs.fin {R : Nat → Nat → Nat → Prop} {m X f g : Nat} : Qs R m X 0 0 f g ↔ (g < m ∧ ∃ x, x < X ∧ R x f g) := by
  unfold Qs
  constructor
  · rintro ⟨h1, h2 | ⟨h2, h3⟩⟩
    · exact ⟨h1, h2⟩
    · omega
  · rintro ⟨h1, h2⟩
    exact ⟨h1, Or.inl h2⟩
theorem readFormes_c (h : RR N mc mm) (hB : RBk mc mm b F n M Ln E) :
    Ev (f_X7_readFormes mc 0 b 0) (fun r => r.1 = .inl none ∧ FrC (fun K i _ => K = 39 ∧ i = 0) mc r.2 ∧ MK 39 (2 * n) (Qs (PrS mc b) (2 * n) (gN mm 12 0 6).toNat 0 0) r.2) := by
  have hP := hB.hP
  have q1 := hP.hn
  have hCa := h.Ca
  have hX := hCa.2.1
  have hX4 := hCa.2.2.1
  unfold f_X7_readFormes
  refine ev_lp (fun m => FrC (fun K i _ => K = 39 ∧ i = 0) mc m ∧ MK 39 (2 * n) (Qs (PrS mc b) (2 * n) 0 0 0) m) (fun s : Int × MM => ∃ f0 : Nat, s.1 = f0 ∧ f0 ≤ 2 * n ∧ FrC (fun K i _ => K = 39 ∧ i = 0) mc s.2 ∧ ∀ f, f < f0 → gN s.2 39 0 f = 0) (fun s => 2 * n - s.1.toNat) ⟨0, rfl, by omega, FrC.rf, fun f hf => absurd hf (by omega)⟩ ?_ ?_
  · rintro ⟨_, m1⟩ ⟨f0, rfl, hf0, hF1, hz⟩
    simp only at hF1 hz
    show Ev (b_X7_readFormes_2 0 b 0 (f0 : Int) m1) _
    have hS1 := hF1.BS hB.hS hP (fun K i s hk => by unfold CBS at hk; omega)
    have hC1 : SC m1 := h.C.mv2 (fun K i s hk => (hF1.1 K i s (by omega)).2.2) (fun K i k hk => by rw [hF1.2.1]; exact hk)
    unfold b_X7_readFormes_2
    rw [nk_of hS1.r6, lenI_of hS1.z14]
    refine ev_if (fun hc => ev_exit ⟨hF1, MK.nil fun f hf => hz f (by omega)⟩) fun hc => ?_
    rw [nk_of hC1.s0, stN_of hC1.z39 (by omega), tnc]
    refine ev_ck (by omega) (ev_back ⟨f0 + 1, by simp, by omega, hF1.sN ⟨rfl, rfl⟩, fun f hf => ?_⟩ (by simp only; omega))
    simp only
    rw [gN_sN]
    by_cases q : f = f0
    · rw [if_pos ⟨rfl, rfl, q⟩]
    · rw [if_neg (fun z => q z.2.2)]; exact hz f (by omega)
  · rintro m1 ⟨hF1, hQ1⟩
    unfold j_X7_readFormes_0_24
    refine ev_lp (fun m => FrC (fun K i _ => K = 39 ∧ i = 0) mc m ∧ MK 39 (2 * n) (Qs (PrS mc b) (2 * n) (gN mm 12 0 6).toNat 0 0) m) (fun s : Int × MM => ∃ x : Nat, s.1 = x ∧ (x : Int) ≤ gN mm 12 0 6 ∧ FrC (fun K i _ => K = 39 ∧ i = 0) mc s.2 ∧ MK 39 (2 * n) (Qs (PrS mc b) (2 * n) x 0 0) s.2) (fun s => 400 - s.1.toNat) ⟨0, rfl, by omega, hF1, hQ1⟩ ?_ ?_
    · rintro ⟨_, m2⟩ ⟨x, rfl, hx, hF2, hQ2⟩
      simp only at hF2 hQ2
      show Ev (b_X7_readFormes_26 0 b 0 (x : Int) m2) _
      have hC2 : SC m2 := h.C.mv2 (fun K i s hk => (hF2.1 K i s (by omega)).2.2) (fun K i k hk => by rw [hF2.2.1]; exact hk)
      unfold b_X7_readFormes_26
      rw [(hF2.1 1 0 5 (by omega)).1, hCa.1]
      refine ev_if (fun hc => ev_exit ⟨hF2, ?_⟩) fun hc => ?_
      · have : (gN mm 12 0 6).toNat = x := by omega
        rw [this]
        exact hQ2
      · rw [nk_of hC2.c1, ldN_of hC2.z21 (by omega), tnc, (hF2.1 21 0 x (by omega)).1, (hCa.2.2.2.1 x).2.1]
        refine ev_if (fun hd => ev_ck (by omega) (ev_back ⟨x + 1, by simp, by omega, hF2, hQ2.iff fun f g hf => Qs.next hf fun f' g' h1 h2 h3 q => ?_⟩ (by simp only; omega))) fun hd => ?_
        · have := (hB.se g' h3).b x
          have := q.1
          omega
        · obtain ⟨⟨r, m3⟩, e1, e2, e3, e4⟩ := readPiece_c h hB (x := x) (by omega) hF2 hQ2
          simp only at e2 e3 e4
          subst e2
          rw [e1, bV_ok]
          exact ev_ck (by omega) (ev_back ⟨x + 1, by simp, by omega, e3, e4⟩ (by simp only; omega))
    · rintro m2 ⟨hF2, hQ2⟩
      exact ev_some ⟨rfl, hF2, hQ2⟩
/-- the other way round: f was seen earlier than g -/
def PrT (mc : MM) (b x f g : Nat) : Prop := PrS mc b x g f
theorem findSure_m (hM : SM mm) (hCa : RC mc mm) (hB : RBk mc mm b F n M Ln E) :
    Ev (f_X12_findSure mm 0 (b : Int)) (fun r => r.1 = .inl none ∧ FrC (fun K i _ => K = 127 ∧ i = 0) mm r.2 ∧ MK 127 (2 * n) (Qs (PrT mc b) (2 * n) (gN mm 12 0 6).toNat 0 0) r.2) := by
  have hP := hB.hP
  have q0 := hP.hb
  have q1 := hP.hn
  have hX := hCa.2.1
  have hX4 := hCa.2.2.1
  have k2n : -2147483648 ≤ 2 * (n : Int) ∧ 2 * (n : Int) < 2147483648 := by omega
  unfold f_X12_findSure
  rw [nk_of hM.r21, ldN_of hM.z74 (by omega), tnc, hP.n, ck_of k2n]
  refine ev_lp (fun m => FrC (fun K i _ => K = 127 ∧ i = 0) mm m ∧ MK 127 (2 * n) (Qs (PrT mc b) (2 * n) 0 0 0) m) (fun s : Int × MM => ∃ f0 : Nat, s.1 = f0 ∧ f0 ≤ 2 * n ∧ FrC (fun K i _ => K = 127 ∧ i = 0) mm s.2 ∧ ∀ f, f < f0 → gN s.2 127 0 f = 0) (fun s => 2 * n - s.1.toNat) ⟨0, rfl, by omega, FrC.rf, fun f hf => absurd hf (by omega)⟩ ?_ ?_
  · rintro ⟨_, m1⟩ ⟨f0, rfl, hf0, hF1, hz⟩
    simp only at hF1 hz
    show Ev (b_X12_findSure_11 0 (b : Int) (2 * (n : Int)) (f0 : Int) m1) _
    have hM1 := hF1.SM hM (fun s hs => by omega)
    unfold b_X12_findSure_11
    refine ev_if (fun hc => ev_exit ⟨hF1, MK.nil fun f hf => hz f (by omega)⟩) fun hc => ?_
    rw [nk_of hM1.r77, stN_of hM1.z127 (by omega), tnc]
    refine ev_ck (by omega) (ev_back ⟨f0 + 1, by simp, by omega, hF1.sN ⟨rfl, rfl⟩, fun f hf => ?_⟩ (by simp only; omega))
    simp only
    rw [gN_sN]
    by_cases q : f = f0
    · rw [if_pos ⟨rfl, rfl, q⟩]
    · rw [if_neg (fun z => q z.2.2)]; exact hz f (by omega)
  · rintro m1 ⟨hF1, hQ1⟩
    unfold j_X12_findSure_0_29
    refine ev_lp (fun m => FrC (fun K i _ => K = 127 ∧ i = 0) mm m ∧ MK 127 (2 * n) (Qs (PrT mc b) (2 * n) (gN mm 12 0 6).toNat 0 0) m) (fun s : Int × MM => ∃ x : Nat, s.1 = x ∧ (x : Int) ≤ gN mm 12 0 6 ∧ FrC (fun K i _ => K = 127 ∧ i = 0) mm s.2 ∧ MK 127 (2 * n) (Qs (PrT mc b) (2 * n) x 0 0) s.2) (fun s => 400 - s.1.toNat) ⟨0, rfl, by omega, hF1, hQ1⟩ ?_ ?_
    · rintro ⟨_, m2⟩ ⟨x, rfl, hx, hF2, hQ2⟩
      simp only at hF2 hQ2
      show Ev (b_X12_findSure_31 0 (b : Int) (2 * (n : Int)) (x : Int) m2) _
      unfold b_X12_findSure_31
      rw [(hF2.1 12 0 6 (by omega)).1]
      refine ev_if (fun hc => ev_exit ⟨hF2, ?_⟩) fun hc => ?_
      · have : (gN mm 12 0 6).toNat = x := by omega
        rw [this]
        exact hQ2
      refine ev_lp (fun m => FrC (fun K i _ => K = 127 ∧ i = 0) mm m ∧ MK 127 (2 * n) (Qs (PrT mc b) (2 * n) (x + 1) 0 0) m) (fun s : Int × MM => ∃ f0 : Nat, s.1 = f0 ∧ f0 ≤ 2 * n ∧ FrC (fun K i _ => K = 127 ∧ i = 0) mm s.2 ∧ MK 127 (2 * n) (Qs (PrT mc b) (2 * n) x f0 0) s.2) (fun s => 2 * n - s.1.toNat) ⟨0, rfl, by omega, hF2, hQ2⟩ ?_ ?_
      · rintro ⟨_, m3⟩ ⟨f0, rfl, hf0, hF3, hQ3⟩
        simp only at hF3 hQ3
        show Ev (b_X12_findSure_42 0 (b : Int) (2 * (n : Int)) (x : Int) (f0 : Int) m3) _
        have hM3 := hF3.SM hM (fun s hs => by omega)
        have hB3 : RBk mc m3 b F n M Ln E := hB.scr (fun _ _ => rfl) (fun _ _ _ _ => eq3.rf) (fun K i s hk => hF3.1 K i s (by omega))
        unfold b_X12_findSure_42
        refine ev_if (fun hd => ev_exit ⟨hF3, hQ3.iff fun f g hf => Qs.next hf fun f' g' h1 h2 h3 => by omega⟩) fun hd => ?_
        have hf2 : f0 < 2 * n := by omega
        rw [nk_of hM3.r8, ldN_of hM3.z63 (by omega), tnc, (hF3.1 63 0 x (by omega)).1]
        refine ev_if (fun he => ev_exit ⟨hF3, hQ3.iff fun f g hf => Qs.next hf fun f' g' h1 h2 h3 q => ?_⟩) fun he => ?_
        · have z1 := (hB.se g' h3).b x
          have z2 := q.1
          have z3 := q.2
          omega
        rw [seenIn_m hM3 hB3 hf2 (by omega), Option.bind_some]
        refine ev_lp (fun m => FrC (fun K i _ => K = 127 ∧ i = 0) mm m ∧ MK 127 (2 * n) (Qs (PrT mc b) (2 * n) x (f0 + 1) 0) m) (fun s : Int × MM => ∃ g0 : Nat, s.1 = g0 ∧ g0 ≤ 2 * n ∧ FrC (fun K i _ => K = 127 ∧ i = 0) mm s.2 ∧ MK 127 (2 * n) (Qs (PrT mc b) (2 * n) x f0 g0) s.2) (fun s => 2 * n - s.1.toNat) ⟨0, rfl, by omega, hF3, hQ3⟩ ?_ ?_
        · rintro ⟨_, m4⟩ ⟨g0, rfl, hg0, hF4, hQ4⟩
          simp only at hF4 hQ4
          show Ev (b_X12_findSure_71 0 (b : Int) (2 * (n : Int)) (x : Int) (f0 : Int) (gN mc 25 (8 * b + f0) x) (g0 : Int) m4) _
          have hM4 := hF4.SM hM (fun s hs => by omega)
          have hB4 : RBk mc m4 b F n M Ln E := hB.scr (fun _ _ => rfl) (fun _ _ _ _ => eq3.rf) (fun K i s hk => hF4.1 K i s (by omega))
          unfold b_X12_findSure_71
          refine ev_if (fun hg => ev_exit ⟨hF4, hQ4.iff fun f g hf => Qs.row fun g' h1 h2 => by omega⟩) fun hg => ?_
          refine ev_if (fun hg' => ev_exit ⟨hF4, hQ4.iff fun f g hf => Qs.row fun g' h1 h2 q => ?_⟩) fun hg' => ?_
          · have := q.1; omega
          have hg2 : g0 < 2 * n := by omega
          have hsame : ¬ PrT mc b x f0 g0 → Ev (j_X12_findSure_71_117 m4 0 (b : Int) (2 * (n : Int)) (x : Int) (f0 : Int) (gN mc 25 (8 * b + f0) x) (g0 : Int) 0 (f0 : Int) (gN m4 127 0 f0)) (fun z => Sum.elim (fun s' : Int × MM => (∃ g0 : Nat, s'.1 = g0 ∧ g0 ≤ 2 * n ∧ FrC (fun K i _ => K = 127 ∧ i = 0) mm s'.2 ∧ MK 127 (2 * n) (Qs (PrT mc b) (2 * n) x f0 g0) s'.2) ∧ 2 * n - s'.1.toNat < 2 * n - (g0 : Int).toNat) (fun m => FrC (fun K i _ => K = 127 ∧ i = 0) mm m ∧ MK 127 (2 * n) (Qs (PrT mc b) (2 * n) x (f0 + 1) 0) m) z) := fun hno => by
            unfold j_X12_findSure_71_117 j_X12_findSure_71_118
            rw [stN_of hM4.z127 (by omega), tnc, ck_of ⟨by omega, by omega⟩]
            exact ⟨_, rfl, ⟨g0 + 1, by simp, by omega, hF4.sN ⟨rfl, rfl⟩, (hQ4.same hf2).iff fun f g hf => Qs.skip hno⟩, by simp only; omega⟩
          rw [nk_of hM4.r77, ldN_of hM4.z127 (by omega), tnc]
          refine ev_if (fun hi => hsame fun q => ?_) fun hi => ?_
          · have e : g0 = f0 := by omega
            have := q.2
            rw [e] at this
            omega
          · rw [seenIn_m hM4 hB4 hg2 (by omega), Option.bind_some]
            refine ev_if (fun hj => hsame fun q => ?_) fun hj => ?_
            · have := q.2; omega
            · unfold j_X12_findSure_71_118
              rw [stN_of hM4.z127 (by omega), tnc, ck_of ⟨by omega, by omega⟩]
              exact ⟨_, rfl, ⟨g0 + 1, by simp, by omega, hF4.sN ⟨rfl, rfl⟩, (hQ4.add hf2 (by omega)).iff fun f g hf => Qs.step hg2 ⟨by omega, by omega⟩⟩, by simp only; omega⟩
        · rintro m4 ⟨hF4, hQ4⟩
          unfold j_X12_findSure_42_126
          exact ev_ck (by omega) (ev_back ⟨f0 + 1, by simp, by omega, hF4, hQ4⟩ (by simp only; omega))
      · rintro m3 ⟨hF3, hQ3⟩
        unfold j_X12_findSure_31_132
        exact ev_ck (by omega) (ev_back ⟨x + 1, by simp, by omega, hF3, hQ3⟩ (by simp only; omega))
    · rintro m2 ⟨hF2, hQ2⟩
      exact ev_some ⟨rfl, hF2, hQ2⟩
end SURE
