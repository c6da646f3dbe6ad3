/-! WHICH FORMES LIE AHEAD OF WHICH. -/
/-- a row of sets: kind K, m sets -/
def MK (K m : Nat) (Q : Nat → Nat → Prop) (s : MM) : Prop := ∀ f, f < m → ∃ a : Nat, a < 256 ∧ gN s K 0 f = a ∧ ∀ g, a.testBit g = true ↔ Q f g
theorem MK.iff {K m : Nat} {Q Q' : Nat → Nat → Prop} {s : MM} (h : MK K m Q s) (hq : ∀ f g, f < m → (Q f g ↔ Q' f g)) : MK K m Q' s := fun f hf => by
  obtain ⟨a, h1, h2, h3⟩ := h f hf
  exact ⟨a, h1, h2, fun g => (h3 g).trans (hq f g hf)⟩
theorem MK.add {K m : Nat} {Q : Nat → Nat → Prop} {s : MM} (h : MK K m Q s) {f0 g0 : Nat} (hf0 : f0 < m) (hg0 : g0 < 8) : MK K m (fun f g => Q f g ∨ (f = f0 ∧ g = g0)) (sN s K 0 f0 (ior' (gN s K 0 f0) (ishl 1 (g0 : Int)))) := fun f hf => by
  obtain ⟨a, h1, h2, h3⟩ := h f hf
  by_cases q : f = f0
  · subst q
    have hp : 2 ^ g0 < 2 ^ 8 := Nat.pow_lt_pow_right (by omega) hg0
    refine ⟨a ||| 2 ^ g0, Nat.or_lt_two_pow (n := 8) (by omega) hp, ?_, fun g => ?_⟩
    · rw [gN_sN, if_pos ⟨rfl, rfl, rfl⟩, h2, ishl_nat (by omega), ior_nat (by omega) (by omega)]
    · rw [Nat.testBit_or, Nat.testBit_two_pow, Bool.or_eq_true, h3 g, decide_eq_true_iff]
      exact ⟨fun z => z.imp id fun w => ⟨rfl, w.symm⟩, fun z => z.imp id fun w => w.2.symm⟩
  · refine ⟨a, h1, by rw [gN_sN, if_neg (fun z => q z.2.2)]; exact h2, fun g => (h3 g).trans ⟨Or.inl, fun z => z.elim id fun w => absurd w.1 q⟩⟩
theorem MK.same {K m : Nat} {Q : Nat → Nat → Prop} {s : MM} (h : MK K m Q s) {f0 : Nat} (hf0 : f0 < m) : MK K m Q (sN s K 0 f0 (ior' (gN s K 0 f0) 0)) := fun f hf => by
  obtain ⟨a, h1, h2, h3⟩ := h f hf
  refine ⟨a, h1, ?_, h3⟩
  rw [gN_sN]
  by_cases q : f = f0
  · subst q
    rw [if_pos ⟨rfl, rfl, rfl⟩, h2, ior0 ⟨by omega, by omega⟩]
  · rw [if_neg (fun z => q z.2.2)]; exact h2
/-- so far: pieces below x; of piece x the formes below f0, of forme f0 the others below g0 -/
def Qs (R : Nat → Nat → Nat → Prop) (m x f0 g0 f g : Nat) : Prop := g < m ∧ ((∃ x', x' < x ∧ R x' f g) ∨ (R x f g ∧ (f < f0 ∨ (f = f0 ∧ g < g0))))
theorem Qs.step {R : Nat → Nat → Nat → Prop} {m x f0 g0 f g : Nat} (hg : g0 < m) (hR : R x f0 g0) : (Qs R m x f0 g0 f g ∨ (f = f0 ∧ g = g0)) ↔ Qs R m x f0 (g0 + 1) f g := by
  unfold Qs
  constructor
  · rintro (⟨h1, h2 | ⟨h2, h3⟩⟩ | ⟨rfl, rfl⟩)
    · exact ⟨h1, Or.inl h2⟩
    · exact ⟨h1, Or.inr ⟨h2, by omega⟩⟩
    · exact ⟨hg, Or.inr ⟨hR, by omega⟩⟩
  · rintro ⟨h1, h2 | ⟨h2, h3⟩⟩
    · exact Or.inl ⟨h1, Or.inl h2⟩
    · by_cases q : f = f0 ∧ g = g0
      · exact Or.inr q
      · exact Or.inl ⟨h1, Or.inr ⟨h2, by omega⟩⟩
theorem Qs.skip {R : Nat → Nat → Nat → Prop} {m x f0 g0 f g : Nat} (hR : ¬ R x f0 g0) : Qs R m x f0 g0 f g ↔ Qs R m x f0 (g0 + 1) f g := by
  unfold Qs
  constructor
  · rintro ⟨h1, h2 | ⟨h2, h3⟩⟩
    · exact ⟨h1, Or.inl h2⟩
    · exact ⟨h1, Or.inr ⟨h2, by omega⟩⟩
  · rintro ⟨h1, h2 | ⟨h2, h3⟩⟩
    · exact ⟨h1, Or.inl h2⟩
    · refine ⟨h1, Or.inr ⟨h2, ?_⟩⟩
      rcases h3 with h3 | ⟨rfl, h3⟩
      · exact Or.inl h3
      · by_cases q : g = g0
        · rw [q] at h2; exact absurd h2 hR
        · exact Or.inr ⟨rfl, by omega⟩
theorem Qs.row {R : Nat → Nat → Nat → Prop} {m x f0 g0 f g : Nat} (hR : ∀ g, g0 ≤ g → g < m → ¬ R x f0 g) : Qs R m x f0 g0 f g ↔ Qs R m x (f0 + 1) 0 f g := by
  unfold Qs
  constructor
  · rintro ⟨h1, h2 | ⟨h2, h3⟩⟩
    · exact ⟨h1, Or.inl h2⟩
    · exact ⟨h1, Or.inr ⟨h2, by omega⟩⟩
  · rintro ⟨h1, h2 | ⟨h2, h3⟩⟩
    · exact ⟨h1, Or.inl h2⟩
    · refine ⟨h1, Or.inr ⟨h2, ?_⟩⟩
      by_cases q : f = f0
      · subst q
        rcases Nat.lt_or_ge g g0 with z | z
        · exact Or.inr ⟨rfl, z⟩
        · exact absurd h2 (hR g z h1)
      · exact Or.inl (by omega)
theorem Qs.next {R : Nat → Nat → Nat → Prop} {m x f0 f g : Nat} (hf : f < m) (hR : ∀ f g, f0 ≤ f → f < m → g < m → ¬ R x f g) : Qs R m x f0 0 f g ↔ Qs R m (x + 1) 0 0 f g := by
  unfold Qs
  constructor
  · rintro ⟨h1, ⟨x', h2, h3⟩ | ⟨h2, h3⟩⟩
    · exact ⟨h1, Or.inl ⟨x', by omega, h3⟩⟩
    · exact ⟨h1, Or.inl ⟨x, by omega, h2⟩⟩
  · rintro ⟨h1, ⟨x', h2, h3⟩ | ⟨h2, h3⟩⟩
    · refine ⟨h1, ?_⟩
      by_cases q : x' = x
      · subst q
        refine Or.inr ⟨h3, Or.inl ?_⟩
        rcases Nat.lt_or_ge f f0 with z | z
        · exact z
        · exact absurd h3 (hR f g z hf h1)
      · exact Or.inl ⟨x', by omega, h3⟩
    · omega
section SURE
variable {N : Nat} {mc mm : MM} {b F n M Ln E : Nat}
/-- a piece was seen in g, and later in f -/
def PrS (mc : MM) (b x f g : Nat) : Prop := 0 < gN mc 25 (8 * b + g) x ∧ gN mc 25 (8 * b + g) x < gN mc 25 (8 * b + f) x
theorem readPiece_c (h : RR N mc mm) (hB : RBk mc mm b F n M Ln E) {x : Nat} (hx : x < 400) {s : MM} (hF : FrC (fun K i _ => K = 39 ∧ i = 0) mc s) (hQ : MK 39 (2 * n) (Qs (PrS mc b) (2 * n) x 0 0) s) :
    Ev (f_X7_readPiece s 0 b (x : Int)) (fun r => r.1 = .inl none ∧ FrC (fun K i _ => K = 39 ∧ i = 0) mc r.2 ∧ MK 39 (2 * n) (Qs (PrS mc b) (2 * n) (x + 1) 0 0) r.2) := by
  have hP := hB.hP
  have q1 := hP.hn
  unfold f_X7_readPiece
  refine ev_lp (fun m => FrC (fun K i _ => K = 39 ∧ i = 0) mc m ∧ MK 39 (2 * n) (Qs (PrS mc b) (2 * n) (x + 1) 0 0) m) (fun s : Int × MM => ∃ f0 : Nat, s.1 = f0 ∧ f0 ≤ 2 * n ∧ FrC (fun K i _ => K = 39 ∧ i = 0) mc s.2 ∧ MK 39 (2 * n) (Qs (PrS mc b) (2 * n) x f0 0) s.2) (fun s => 2 * n - s.1.toNat) ⟨0, rfl, by omega, hF, hQ⟩ ?_ ?_
  · rintro ⟨_, m1⟩ ⟨f0, rfl, hf0, hF1, hQ1⟩
    simp only at hF1 hQ1
    show Ev (b_X7_readPiece_2 0 b (x : Int) (f0 : Int) m1) _
    have hS1 := hF1.BS hB.hS hP (fun K i s hk => by unfold CBS at hk; omega)
    unfold b_X7_readPiece_2
    rw [nk_of hS1.r6, lenI_of hS1.z14]
    refine ev_if (fun hc => ev_exit ⟨hF1, hQ1.iff fun f g hf => Qs.next hf fun f' g' h1 h2 h3 => by omega⟩) fun hc => ?_
    have hf2 : f0 < 2 * n := by omega
    rw [nk_of hS1.r6, ldR_of hS1.z14 (by omega), tnc, hS1.e14 f0 hf2, nk_some, nk_of (hS1.o3 f0 hf2), ldN_of (hS1.z25 f0 hf2) (by omega), tnc, (hF1.1 25 (8 * b + f0) x (by omega)).1]
    refine ev_lp (fun m => FrC (fun K i _ => K = 39 ∧ i = 0) mc m ∧ MK 39 (2 * n) (Qs (PrS mc b) (2 * n) x (f0 + 1) 0) m) (fun s : Int × MM => ∃ g0 : Nat, s.1 = g0 ∧ g0 ≤ 2 * n ∧ FrC (fun K i _ => K = 39 ∧ i = 0) mc s.2 ∧ MK 39 (2 * n) (Qs (PrS mc b) (2 * n) x f0 g0) s.2) (fun s => 2 * n - s.1.toNat) ⟨0, rfl, by omega, hF1, hQ1⟩ ?_ ?_
    · rintro ⟨_, m2⟩ ⟨g0, rfl, hg0, hF2, hQ2⟩
      simp only at hF2 hQ2
      show Ev (b_X7_readPiece_27 0 b (x : Int) (f0 : Int) (gN mc 25 (8 * b + f0) x) (g0 : Int) m2) _
      have hS2 := hF2.BS hB.hS hP (fun K i s hk => by unfold CBS at hk; omega)
      have hC2 : SC m2 := h.C.mv2 (fun K i s hk => (hF2.1 K i s (by omega)).2.2) (fun K i k hk => by rw [hF2.2.1]; exact hk)
      unfold b_X7_readPiece_27
      rw [nk_of hS2.r6, lenI_of hS2.z14]
      refine ev_if (fun hd => ev_exit ⟨hF2, hQ2.iff fun f g hf => Qs.row fun g' h1 h2 => by omega⟩) fun hd => ?_
      have hg2 : g0 < 2 * n := by omega
      rw [nk_of hS2.r6, ldR_of hS2.z14 (by omega), tnc, hS2.e14 g0 hg2, nk_some, nk_of (hS2.o3 g0 hg2), ldN_of (hS2.z25 g0 hg2) (by omega), tnc, (hF2.1 25 (8 * b + g0) x (by omega)).1]
      refine ev_if (fun he => ev_ck (by omega) (ev_back ⟨g0 + 1, by simp, by omega, hF2, hQ2.iff fun f g hf => Qs.skip fun q => ?_⟩ (by simp only; omega))) fun he => ev_if (fun hf' => ev_ck (by omega) (ev_back ⟨g0 + 1, by simp, by omega, hF2, hQ2.iff fun f g hf => Qs.skip fun q => ?_⟩ (by simp only; omega))) fun hf' => ?_
      · have := q.1; omega
      · have := q.2; omega
      · rw [nk_of hC2.s0, ldN_of hC2.z39 (by omega), tnc, stN_of hC2.z39 (by omega), tnc]
        refine ev_ck (by omega) (ev_back ⟨g0 + 1, by simp, by omega, hF2.sN ⟨rfl, rfl⟩, (hQ2.add hf2 (by omega)).iff fun f g hf => Qs.step hg2 ⟨by omega, by omega⟩⟩ (by simp only; omega))
    · rintro m2 ⟨hF2, hQ2⟩
      unfold j_X7_readPiece_2_82
      exact ev_ck (by omega) (ev_back ⟨f0 + 1, by simp, by omega, hF2, hQ2⟩ (by simp only; omega))
  · rintro m1 ⟨hF1, hQ1⟩
    exact ev_some ⟨rfl, hF1, hQ1⟩
end SURE
