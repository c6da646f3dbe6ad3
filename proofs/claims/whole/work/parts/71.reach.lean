/-! WHAT LIES AHEAD THROUGH OTHERS. -/
theorem tr_tr {R : Nat → Nat → Prop} {x y z : Nat} (h : Relation.TransGen R x y) (k : Relation.TransGen R y z) : Relation.TransGen R x z := by
  induction k with
  | single k => exact h.tail k
  | tail _ k2 ih => exact ih.tail k2
theorem tr_flip {R : Nat → Nat → Prop} {x y : Nat} (h : Relation.TransGen R x y) : Relation.TransGen (fun a b => R b a) y x := by
  induction h with
  | single k => exact .single k
  | tail _ k ih => exact tr_tr (Relation.TransGen.single (r := fun a b => R b a) k) ih
/-- ways through the first k -/
def Wsh (R : Nat → Nat → Prop) : Nat → Nat → Nat → Prop
  | 0, i, j => R i j
  | k + 1, i, j => Wsh R k i j ∨ (Wsh R k i k ∧ Wsh R k k j)
theorem Wsh.snd {R : Nat → Nat → Prop} : ∀ k {i j : Nat}, Wsh R k i j → Relation.TransGen R i j
  | 0, _, _, h => .single h
  | k + 1, _, _, h => by
    rcases h with h | ⟨h1, h2⟩
    · exact Wsh.snd k h
    · exact tr_tr (Wsh.snd k h1) (Wsh.snd k h2)
theorem Wsh.comp {R : Nat → Nat → Prop} : ∀ k {i x j : Nat}, Wsh R k i x → x < k → Wsh R k x j → Wsh R k i j
  | 0, _, _, _, _, h, _ => absurd h (by omega)
  | k + 1, i, x, j, h1, h2, h3 => by
    by_cases q : x = k
    · subst q
      have a : Wsh R x i x := by rcases h1 with h | ⟨h, _⟩ <;> exact h
      have b : Wsh R x x j := by rcases h3 with h | ⟨_, h⟩ <;> exact h
      exact Or.inr ⟨a, b⟩
    · have hx : x < k := by omega
      rcases h1 with h1 | ⟨h1, h1'⟩
      · rcases h3 with h3 | ⟨h3, h3'⟩
        · exact Or.inl (Wsh.comp k h1 hx h3)
        · exact Or.inr ⟨Wsh.comp k h1 hx h3, h3'⟩
      · rcases h3 with h3 | ⟨h3, h3'⟩
        · exact Or.inr ⟨h1, Wsh.comp k h1' hx h3⟩
        · exact Or.inr ⟨h1, h3'⟩
theorem Wsh.base {R : Nat → Nat → Prop} {i j : Nat} (h : R i j) : ∀ k, Wsh R k i j
  | 0 => h
  | k + 1 => Or.inl (Wsh.base h k)
theorem Wsh.iff {R : Nat → Nat → Prop} {m i j : Nat} (hR : ∀ x y, R x y → x < m) : Wsh R m i j ↔ Relation.TransGen R i j := by
  refine ⟨Wsh.snd m, fun h => ?_⟩
  induction h with
  | single k => exact Wsh.base k m
  | tail _ k ih => exact Wsh.comp m ih (hR _ _ k) (Wsh.base k m)
theorem sumF_mono {v w : Nat → Int} : ∀ k, (∀ j, j < k → v j ≤ w j) → sumF v k ≤ sumF w k
  | 0, _ => Int.le_refl _
  | k + 1, h => by
    have h1 := sumF_mono k (fun j hj => h j (by omega))
    have h2 := h k (by omega)
    rw [sumF, sumF]
    omega
theorem sumF_lt {v w : Nat → Int} : ∀ k, (∀ j, j < k → v j ≤ w j) → (∃ j, j < k ∧ v j < w j) → sumF v k < sumF w k
  | 0, _, ⟨j, h, _⟩ => absurd h (by omega)
  | k + 1, h, ⟨j, hj, hv⟩ => by
    have h2 := h k (by omega)
    rw [sumF, sumF]
    by_cases q : j = k
    · have h1 := sumF_mono k (fun j hj => h j (by omega))
      subst q
      omega
    · have h1 := sumF_lt k (fun j hj => h j (by omega)) ⟨j, by omega, hv⟩
      omega
/-- how many are in a set -/
def crd (X m : Nat) : Int := sumF (fun l => if X.testBit l = true then 1 else 0) m
theorem crd_le (X : Nat) : ∀ m, crd X m ≤ m
  | 0 => by show (0 : Int) ≤ _; omega
  | m + 1 => by
    have := crd_le X m
    unfold crd at this ⊢
    rw [sumF]
    split <;> omega
theorem crd_full {X : Nat} : ∀ {m : Nat}, (m : Int) ≤ crd X m → ∀ l, l < m → X.testBit l = true
  | 0, _, l, hl => absurd hl (by omega)
  | m + 1, h, l, hl => by
    have h1 := crd_le X m
    unfold crd at h h1
    rw [sumF] at h
    by_cases q : X.testBit m = true
    · by_cases e : l = m
      · rw [e]; exact q
      · refine crd_full (m := m) ?_ l (by omega)
        rw [if_pos q] at h
        unfold crd
        omega
    · rw [if_neg q] at h
      omega
theorem crd_lt {X Y m l : Nat} (h : ∀ g, X.testBit g = true → Y.testBit g = true) (hl : l < m) (h1 : X.testBit l = false) (h2 : Y.testBit l = true) : crd X m + 1 ≤ crd Y m := by
  have := sumF_lt (v := fun l => if X.testBit l = true then 1 else 0) (w := fun l => if Y.testBit l = true then 1 else 0) m (fun j _ => by
    by_cases q : X.testBit j = true
    · simp only [if_pos q, if_pos (h j q)]; omega
    · simp only [if_neg q]; split <;> omega) ⟨l, hl, by simp [h1, h2]⟩
  unfold crd
  omega
/-- what a set's members point at lies in the set -/
def Clo (A : Nat → Nat) (X : Nat) : Prop := ∀ i g, X.testBit i = true → (A i).testBit g = true → X.testBit g = true
/-- a round: all that the members of X point at is in Y -/
theorem round_step {A : Nat → Nat} {m X Y r : Nat} (hA : ∀ i g, (A i).testBit g = true → g < m) (h : ∀ g, X.testBit g = true → Y.testBit g = true) (hr : ∀ i g, X.testBit i = true → (A i).testBit g = true → Y.testBit g = true) (hc : Clo A X → Y = X) (hX : Clo A X ∨ (r : Int) ≤ crd X m) : Clo A Y ∨ ((r + 1 : Nat) : Int) ≤ crd Y m := by
  by_cases q : Clo A X
  · rw [hc q]; exact Or.inl q
  · have hX' := hX.resolve_left q
    have : ∃ i g, X.testBit i = true ∧ (A i).testBit g = true ∧ X.testBit g = false := by
      refine Classical.byContradiction fun z => q fun i g h1 h2 => ?_
      cases e : X.testBit g
      · exact absurd ⟨i, g, h1, h2, e⟩ z
      · rfl
    obtain ⟨i, g, h1, h2, h3⟩ := this
    have := crd_lt h (hA i g h2) h3 (hr i g h1 h2)
    exact Or.inr (by omega)
theorem clo_full {A : Nat → Nat} {m X : Nat} (hA : ∀ i g, (A i).testBit g = true → g < m) (hX : Clo A X ∨ (m : Int) ≤ crd X m) : Clo A X := by
  rcases hX with h | h
  · exact h
  · exact fun i g _ h2 => crd_full h g (hA i g h2)
theorem clo_rch {A : Nat → Nat} {f X : Nat} (h0 : ∀ g, (A f).testBit g = true → X.testBit g = true) (hX : Clo A X) (hs : ∀ g, X.testBit g = true → Relation.TransGen (fun x y => (A x).testBit y = true) f g) (g : Nat) : X.testBit g = true ↔ Relation.TransGen (fun x y => (A x).testBit y = true) f g := by
  refine ⟨hs g, fun h => ?_⟩
  induction h with
  | single k => exact h0 _ k
  | tail _ k ih => exact hX _ _ ih k
theorem and_bit {S j : Nat} : S &&& 2 ^ j = 0 ↔ S.testBit j = false := by
  constructor
  · intro h
    have := congrArg (fun x => x.testBit j) h
    simp only [Nat.testBit_and, Nat.testBit_two_pow_self, Nat.zero_testBit, Bool.and_true] at this
    exact this
  · intro h
    apply Nat.eq_of_testBit_eq
    intro g
    rw [Nat.testBit_and, Nat.testBit_two_pow, Nat.zero_testBit]
    by_cases z : j = g
    · subst z; rw [h]; rfl
    · simp [z]
theorem or_sub {X Y : Nat} (h : ∀ g, Y.testBit g = true → X.testBit g = true) : X ||| Y = X := by
  apply Nat.eq_of_testBit_eq
  intro g
  rw [Nat.testBit_or]
  cases e : Y.testBit g
  · simp
  · rw [h g e]; rfl
theorem rch_lt {A : Nat → Nat} {m f g : Nat} (hA : ∀ i g, (A i).testBit g = true → g < m) (h : Relation.TransGen (fun x y => (A x).testBit y = true) f g) : g < m := by
  cases h with
  | single k => exact hA _ _ k
  | tail _ k => exact hA _ _ k
theorem allAheadOf_c {s0 : MM} (hC : SC s0) {A : Nat → Nat} {m f : Nat} (hm : 1 ≤ m ∧ m ≤ 8) (hA : ∀ f, f < m → A f < 256 ∧ gN s0 39 0 f = A f) (hAm : ∀ i g, (A i).testBit g = true → g < m) (hf : f < m) :
    Ev (f_X7_allAheadOf s0 0 (f : Int) (m : Int)) (fun v => ∃ X : Nat, v = X ∧ X < 256 ∧ ∀ g, X.testBit g = true ↔ Relation.TransGen (fun x y => (A x).testBit y = true) f g) := by
  obtain ⟨a1, a2⟩ := hA f hf
  unfold f_X7_allAheadOf
  rw [nk_of hC.s0, ldN_of hC.z39 (by omega), tnc, a2]
  refine ev_lp (fun v => ∃ X : Nat, v = X ∧ X < 256 ∧ (∀ g, (A f).testBit g = true → X.testBit g = true) ∧ (∀ g, X.testBit g = true → Relation.TransGen (fun x y => (A x).testBit y = true) f g) ∧ (Clo A X ∨ (m : Int) ≤ crd X m)) (fun s : Int × Int => ∃ X r : Nat, s = ((X : Int), (r : Int)) ∧ r ≤ m ∧ X < 256 ∧ (∀ g, (A f).testBit g = true → X.testBit g = true) ∧ (∀ g, X.testBit g = true → Relation.TransGen (fun x y => (A x).testBit y = true) f g) ∧ (Clo A X ∨ (r : Int) ≤ crd X m)) (fun s => m - s.2.toNat) ⟨A f, 0, rfl, by omega, a1, fun g hg => hg, fun g hg => .single hg, Or.inr ?_⟩ ?_ ?_
  · have : sumF (fun _ => (0 : Int)) m ≤ crd (A f) m := sumF_mono m fun j _ => by split <;> omega
    rw [sumF_zero m fun _ _ => rfl] at this
    exact this
  · rintro _ ⟨X, r, rfl, hr, hX, h0, hs, hk⟩
    show Ev (b_X7_allAheadOf_10 s0 0 (m : Int) (X : Int) (r : Int)) _
    unfold b_X7_allAheadOf_10
    refine ev_if (fun hc => ev_exit ⟨X, rfl, hX, h0, hs, by rw [show r = m by omega] at hk; exact hk⟩) fun hc => ?_
    refine ev_lp (fun v => ∃ Y : Nat, v = Y ∧ Y < 256 ∧ (∀ g, X.testBit g = true → Y.testBit g = true) ∧ (∀ g, Y.testBit g = true → Relation.TransGen (fun x y => (A x).testBit y = true) f g) ∧ (∀ i g, X.testBit i = true → i < m → (A i).testBit g = true → Y.testBit g = true) ∧ (Clo A X → Y = X)) (fun s : Int × Int => ∃ Y i : Nat, s = ((Y : Int), (i : Int)) ∧ i ≤ m ∧ Y < 256 ∧ (∀ g, X.testBit g = true → Y.testBit g = true) ∧ (∀ g, Y.testBit g = true → Relation.TransGen (fun x y => (A x).testBit y = true) f g) ∧ (∀ i' g, X.testBit i' = true → i' < i → (A i').testBit g = true → Y.testBit g = true) ∧ (Clo A X → Y = X)) (fun s => m - s.2.toNat) ⟨X, 0, rfl, by omega, hX, fun g hg => hg, hs, fun i' g _ h => absurd h (by omega), fun _ => rfl⟩ ?_ ?_
    · rintro _ ⟨Y, i, rfl, hi, hY, y1, y2, y3, y4⟩
      show Ev (b_X7_allAheadOf_19 s0 0 (m : Int) (r : Int) (Y : Int) (i : Int)) _
      unfold b_X7_allAheadOf_19
      refine ev_if (fun hd => ev_exit ⟨Y, rfl, hY, y1, y2, fun i' g h1 h2 h3 => y3 i' g h1 (by omega) h3, y4⟩) fun hd => ?_
      have him : i < m := by omega
      have h2i : 2 ^ i < 2 ^ 31 := Nat.pow_lt_pow_right (by omega) (by omega)
      obtain ⟨c1, c2⟩ := hA i him
      rw [ishl_nat (by omega), iand_nat (by omega) h2i]
      refine ev_if (fun he => ev_ck (by omega) (ev_back ⟨Y, i + 1, by simp, by omega, hY, y1, y2, fun i' g h1 h2 h3 => ?_, y4⟩ (by simp only; omega))) fun he => ?_
      · by_cases q : i' = i
        · subst q
          have := y1 i' h1
          rw [and_bit.mp (by omega)] at this
          exact absurd this (by simp)
        · exact y3 i' g h1 (by omega) h3
      · have hb : Y.testBit i = true := by
          cases e : Y.testBit i
          · exact absurd (by rw [and_bit.mpr e]; rfl) he
          · rfl
        rw [nk_of hC.s0, ldN_of hC.z39 (by omega), tnc, c2, ior_nat (by omega) (by omega)]
        refine ev_ck (by omega) (ev_back ⟨Y ||| A i, i + 1, by simp, by omega, Nat.or_lt_two_pow (n := 8) hY c1, fun g hg => by rw [Nat.testBit_or, y1 g hg]; rfl, fun g hg => ?_, fun i' g h1 h2 h3 => ?_, fun hcl => ?_⟩ (by simp only; omega))
        · rw [Nat.testBit_or, Bool.or_eq_true] at hg
          rcases hg with hg | hg
          · exact y2 g hg
          · exact (y2 i hb).tail hg
        · rw [Nat.testBit_or, Bool.or_eq_true]
          by_cases q : i' = i
          · rw [q] at h3; exact Or.inr h3
          · exact Or.inl (y3 i' g h1 (by omega) h3)
        · have := y4 hcl
          subst this
          exact or_sub fun g hg => hcl i g hb hg
    · rintro v ⟨Y, rfl, hY, y1, y2, y3, y4⟩
      unfold j_X7_allAheadOf_10_50
      exact ev_ck (by omega) (ev_back ⟨Y, r + 1, by simp, by omega, hY, fun g hg => y1 g (h0 g hg), y2, round_step hAm y1 (fun i g h1 h2 => y3 i g h1 (rch_lt hAm (hs i h1)) h2) y4 hk⟩ (by simp only; omega))
  · rintro v ⟨X, rfl, hX, h0, hs, hk⟩
    exact ev_some ⟨X, rfl, hX, clo_rch h0 (clo_full hAm hk) hs⟩
