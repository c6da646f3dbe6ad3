/-! THE PURE PART: a calculus of total results 'Ev' and of partial ones 'Pc' for the printed programs. -/
/-- the program comes to a result of which Φ holds -/
def Ev {X : Type} (o : Option X) (Φ : X → Prop) : Prop := ∃ x, o = some x ∧ Φ x
/-- if the program comes to a result, Φ holds of it -/
def Pc {X : Type} (o : Option X) (Φ : X → Prop) : Prop := ∀ x, o = some x → Φ x
section EV
variable {X Y : Type} {Φ Ψ : X → Prop} {m : MM} {K i : Nat}
theorem ev_some {x : X} (h : Φ x) : Ev (some x) Φ := ⟨x, rfl, h⟩
theorem ev_mono {o : Option X} (h : Ev o Ψ) (k : ∀ x, Ψ x → Φ x) : Ev o Φ := by obtain ⟨x, h1, h2⟩ := h; exact ⟨x, h1, k x h2⟩
theorem ev_and {o : Option X} (h : Ev o Ψ) (k : Pc o Φ) : Ev o (fun x => Ψ x ∧ Φ x) := by obtain ⟨x, h1, h2⟩ := h; exact ⟨x, h1, h2, k x h1⟩
theorem ev_eq {o : Option X} {x : X} (h : Ev o (fun y => y = x)) : o = some x := by obtain ⟨y, h1, rfl⟩ := h; exact h1
theorem ev_of {o : Option X} {x : X} (h : o = some x) (k : Φ x) : Ev o Φ := ⟨x, h, k⟩
theorem ev_bind {o : Option X} {f : X → Option Y} {Φ : Y → Prop} (h : Ev o Ψ) (k : ∀ x, Ψ x → Ev (f x) Φ) : Ev (o.bind f) Φ := by
  obtain ⟨x, rfl, h2⟩ := h; exact k x h2
theorem ev_nk {r : Option (Nat × Nat)} {f : Nat → Option X} (h : r = some (K, i)) (k : Ev (f i) Φ) : Ev (nk K r f) Φ := by
  subst h
  show Ev (if K = K then f i else none) Φ
  rw [if_pos rfl]; exact k
theorem ev_ck {x : Int} {o : Option X} (h : -2147483648 ≤ x ∧ x < 2147483648) (k : Ev o Φ) : Ev (ck x o) Φ := by unfold ck; rw [if_pos h]; exact k
theorem ev_cb {x : Int} {o : Option X} (h : x = 0 ∨ x = 1) (k : Ev o Φ) : Ev (cb x o) Φ := by unfold cb; rw [if_pos h]; exact k
theorem ev_dv {x y : Int} {o : Option X} (h : 0 ≤ x ∧ 0 < y) (k : Ev o Φ) : Ev (dv x y o) Φ := by unfold dv; rw [if_pos h]; exact k
theorem ev_lt {f : MM → Option X} (k : Ev (f m) Φ) : Ev (lt' m f) Φ := k
theorem ev_let {x : Int} {f : Int → Option X} (k : Ev (f x) Φ) : Ev (lt0 x f) Φ := k
theorem ev_letL {x : Int64} {f : Int64 → Option X} (k : Ev (f x) Φ) : Ev (lt1 x f) Φ := k
theorem ev_ldN {n : Nat} {j : Int} {f : Int → Option X} (hz : gZ m K i = some n) (h : 0 ≤ j ∧ j < n) (k : Ev (f (gN m K i j.toNat)) Φ) : Ev (ldN m K i j f) Φ := by unfold ldN; rw [lenI_of hz, if_pos h]; exact k
theorem ev_ldL {n : Nat} {j : Int} {f : Int64 → Option X} (hz : gZ m K i = some n) (h : 0 ≤ j ∧ j < n) (k : Ev (f (gL m K i j.toNat)) Φ) : Ev (ldL m K i j f) Φ := by unfold ldL; rw [lenI_of hz, if_pos h]; exact k
theorem ev_ldR {n : Nat} {j : Int} {f : Option (Nat × Nat) → Option X} (hz : gZ m K i = some n) (h : 0 ≤ j ∧ j < n) (k : Ev (f (gR m K i j.toNat)) Φ) : Ev (ldR m K i j f) Φ := by unfold ldR; rw [lenI_of hz, if_pos h]; exact k
theorem ev_stN {n : Nat} {j v : Int} {f : MM → Option X} (hz : gZ m K i = some n) (h : 0 ≤ j ∧ j < n) (k : Ev (f (sN m K i j.toNat v)) Φ) : Ev (stN m K i j v f) Φ := by unfold stN; rw [lenI_of hz, if_pos h]; exact k
theorem ev_stL {n : Nat} {j : Int} {v : Int64} {f : MM → Option X} (hz : gZ m K i = some n) (h : 0 ≤ j ∧ j < n) (k : Ev (f (sL m K i j.toNat v)) Φ) : Ev (stL m K i j v f) Φ := by unfold stL; rw [lenI_of hz, if_pos h]; exact k
theorem ev_stR {n : Nat} {j : Int} {v : Option (Nat × Nat)} {f : MM → Option X} (hz : gZ m K i = some n) (h : 0 ≤ j ∧ j < n) (k : Ev (f (sR m K i j.toNat v)) Φ) : Ev (stR m K i j v f) Φ := by unfold stR; rw [lenI_of hz, if_pos h]; exact k
theorem ev_newA {x : Int} {f : MM → Option X} (h : 0 ≤ x ∧ x ≤ 100000) (k : Ev (f (nW m K x.toNat)) Φ) : Ev (newA m K x f) Φ := by unfold newA; rw [if_pos h]; exact k
theorem ev_newM {x y : Int} {K2 : Nat} {f : MM → Option X} (h : (0 ≤ x ∧ x ≤ 100000) ∧ 0 ≤ y ∧ y ≤ 100000) (k : Ev (f (nM m K x.toNat K2 y.toNat)) Φ) : Ev (newM m K x K2 y f) Φ := by unfold newM; rw [if_pos h]; exact k
theorem ev_cpN {i1 i2 n1 n2 : Nat} {sp dp n : Int} {f : MM → Option X} (hz1 : gZ m K i1 = some n1) (hz2 : gZ m K i2 = some n2) (h : (0 ≤ sp ∧ 0 ≤ dp ∧ 0 ≤ n) ∧ sp + n ≤ n1 ∧ dp + n ≤ n2) (k : Ev (f (cpM m K i1 sp.toNat i2 dp.toNat n.toNat)) Φ) : Ev (cpN m K i1 sp i2 dp n f) Φ := by unfold cpN; rw [lenI_of hz1, lenI_of hz2, if_pos h]; exact k
theorem ev_sld {f : Nat → Int32} {n : Nat} {j : Int} {k : Int → Option X} (h : 0 ≤ j ∧ j < n) (hk : Ev (k (f j.toNat).toInt) Φ) : Ev (sld f n j k) Φ := by unfold sld; rw [if_pos h]; exact hk
theorem ev_if {c : Prop} [Decidable c] {a b : Option X} (h1 : c → Ev a Φ) (h2 : ¬ c → Ev b Φ) : Ev (if c then a else b) Φ := by
  by_cases h : c
  · rw [if_pos h]; exact h1 h
  · rw [if_neg h]; exact h2 h
theorem ev_ift {c : Prop} [Decidable c] {a b : Option X} (h : c) (k : Ev a Φ) : Ev (if c then a else b) Φ := by rw [if_pos h]; exact k
theorem ev_iff {c : Prop} [Decidable c] {a b : Option X} (h : ¬ c) (k : Ev b Φ) : Ev (if c then a else b) Φ := by rw [if_neg h]; exact k
-- calls
theorem ev_bI {o : MO} {k : Int → MM → Option X} {x : Nat → MM → Option X} {Ψ : RV × MM → Prop} (h : Ev o Ψ) (hk : ∀ v m', Ψ (.inl (some (aI v)), m') → Ev (k v m') Φ) (hx : ∀ e m', Ψ (.inr e, m') → Ev (x e m') Φ) (hi : ∀ r m', Ψ (r, m') → (∃ v, r = .inl (some (aI v))) ∨ ∃ e, r = .inr e) : Ev (bI o k x) Φ := by
  obtain ⟨⟨r, m'⟩, rfl, h2⟩ := h
  rcases hi r m' h2 with ⟨v, rfl⟩ | ⟨e, rfl⟩
  · exact hk v m' h2
  · exact hx e m' h2
theorem ev_bIv {o : MO} {k : Int → MM → Option X} {x : Nat → MM → Option X} {v : Int} {m' : MM} (h : o = some (.inl (some (aI v)), m')) (hk : Ev (k v m') Φ) : Ev (bI o k x) Φ := by rw [h]; exact hk
theorem ev_bLv {o : MO} {k : Int64 → MM → Option X} {x : Nat → MM → Option X} {v : Int64} {m' : MM} (h : o = some (.inl (some (aL v)), m')) (hk : Ev (k v m') Φ) : Ev (bL o k x) Φ := by rw [h]; exact hk
theorem ev_bRv {o : MO} {k : Option (Nat × Nat) → MM → Option X} {x : Nat → MM → Option X} {v : Option (Nat × Nat)} {m' : MM} (h : o = some (.inl (some (aR v)), m')) (hk : Ev (k v m') Φ) : Ev (bR o k x) Φ := by rw [h]; exact hk
theorem ev_bVv {o : MO} {k : MM → Option X} {x : Nat → MM → Option X} {m' : MM} (h : o = some (.inl none, m')) (hk : Ev (k m') Φ) : Ev (bV o k x) Φ := by rw [h]; exact hk
theorem ev_bIx {o : MO} {k : Int → MM → Option X} {x : Nat → MM → Option X} {e : Nat} {m' : MM} (h : o = some (.inr e, m')) (hk : Ev (x e m') Φ) : Ev (bI o k x) Φ := by rw [h]; exact hk
theorem ev_bLx {o : MO} {k : Int64 → MM → Option X} {x : Nat → MM → Option X} {e : Nat} {m' : MM} (h : o = some (.inr e, m')) (hk : Ev (x e m') Φ) : Ev (bL o k x) Φ := by rw [h]; exact hk
theorem ev_bRx {o : MO} {k : Option (Nat × Nat) → MM → Option X} {x : Nat → MM → Option X} {e : Nat} {m' : MM} (h : o = some (.inr e, m')) (hk : Ev (x e m') Φ) : Ev (bR o k x) Φ := by rw [h]; exact hk
theorem ev_bVx {o : MO} {k : MM → Option X} {x : Nat → MM → Option X} {e : Nat} {m' : MM} (h : o = some (.inr e, m')) (hk : Ev (x e m') Φ) : Ev (bV o k x) Φ := by rw [h]; exact hk
/-- a callee that comes to a number, not to an exception -/
theorem ev_cI {o : MO} {k : Int → MM → Option X} {x : Nat → MM → Option X} {Ψ : Int → MM → Prop} (h : ∃ v m', o = some (.inl (some (aI v)), m') ∧ Ψ v m') (hk : ∀ v m', Ψ v m' → Ev (k v m') Φ) : Ev (bI o k x) Φ := by
  obtain ⟨v, m', h1, h2⟩ := h; rw [h1]; exact hk v m' h2
theorem ev_cV {o : MO} {k : MM → Option X} {x : Nat → MM → Option X} {Ψ : MM → Prop} (h : ∃ m', o = some (.inl none, m') ∧ Ψ m') (hk : ∀ m', Ψ m' → Ev (k m') Φ) : Ev (bV o k x) Φ := by
  obtain ⟨m', h1, h2⟩ := h; rw [h1]; exact hk m' h2
-- loops
theorem lpb_run {S : Type} {b : S → Option (S ⊕ X)} (I : S → Prop) (μ : S → Nat) (hb : ∀ s, I s → Ev (b s) (fun z => Sum.elim (fun s' => I s' ∧ μ s' < μ s) Φ z)) : ∀ s, I s → Ev (lpb b s) Φ := by
  have key : ∀ n s, μ s ≤ n → I s → Ev (lpb b s) Φ := by
    intro n
    induction n with
    | zero =>
      intro s hn hi
      obtain ⟨z, h1, h2⟩ := hb s hi
      rw [lpb_eq, h1]
      cases z with
      | inl s' => exact absurd (Nat.lt_of_lt_of_le h2.2 hn) (Nat.not_lt_zero _)
      | inr x => exact ⟨x, rfl, h2⟩
    | succ n ih =>
      intro s hn hi
      obtain ⟨z, h1, h2⟩ := hb s hi
      rw [lpb_eq, h1]
      cases z with
      | inl s' => exact ih s' (Nat.lt_succ_iff.mp (Nat.lt_of_lt_of_le h2.2 hn)) h2.1
      | inr x => exact ⟨x, rfl, h2⟩
  exact fun s hi => key (μ s) s (Nat.le_refl _) hi
theorem ev_lp {S : Type} {b : S → Option (S ⊕ X)} {Φ : Y → Prop} {k : X → Option Y} {s : S} (Ψ : X → Prop) (I : S → Prop) (μ : S → Nat) (hs : I s) (hb : ∀ s, I s → Ev (b s) (fun z => Sum.elim (fun s' => I s' ∧ μ s' < μ s) Ψ z)) (hk : ∀ x, Ψ x → Ev (k x) Φ) : Ev ((lpb b s).bind k) Φ := ev_bind (lpb_run I μ hb s hs) hk
theorem ev_back {S : Type} {s' : S} {I : S → Prop} {n : Nat} {μ : S → Nat} {Ψ : X → Prop} (h : I s') (h2 : μ s' < n) : Ev (some (Sum.inl s' : S ⊕ X)) (fun z => Sum.elim (fun s' => I s' ∧ μ s' < n) Ψ z) := ⟨_, rfl, h, h2⟩
theorem ev_exit {S : Type} {x : X} {I : S → Prop} {n : Nat} {μ : S → Nat} {Ψ : X → Prop} (h : Ψ x) : Ev (some (Sum.inr x : S ⊕ X)) (fun z => Sum.elim (fun s' => I s' ∧ μ s' < n) Ψ z) := ⟨_, rfl, h⟩
/-- two loops side by side -/
theorem lpb_rel {S T Y : Type} {b : S → Option (S ⊕ X)} {c : T → Option (T ⊕ Y)} (J : S → T → Prop) (Q : X → Y → Prop) (μ : S → Nat)
    (h : ∀ s t, J s t → (∃ s' t', b s = some (.inl s') ∧ c t = some (.inl t') ∧ J s' t' ∧ μ s' < μ s) ∨ ∃ x y, b s = some (.inr x) ∧ c t = some (.inr y) ∧ Q x y) : ∀ s t, J s t → ∃ x y, lpb b s = some x ∧ lpb c t = some y ∧ Q x y := by
  have key : ∀ n s t, μ s < n → J s t → ∃ x y, lpb b s = some x ∧ lpb c t = some y ∧ Q x y := by
    intro n
    induction n with
    | zero => intro s t hn; exact absurd hn (Nat.not_lt_zero _)
    | succ n ih =>
      intro s t hn hj
      rcases h s t hj with ⟨s', t', h1, h2, h3, h4⟩ | ⟨x, y, h1, h2, h3⟩
      · obtain ⟨x, y, g1, g2, g3⟩ := ih s' t' (by omega) h3
        exact ⟨x, y, by rw [lpb_eq, h1]; exact g1, by rw [lpb_eq, h2]; exact g2, g3⟩
      · exact ⟨x, y, by rw [lpb_eq, h1]; rfl, by rw [lpb_eq, h2]; rfl, h3⟩
  exact fun s t => key (μ s + 1) s t (Nat.lt_succ_self _)
-- partial results
theorem pc_none : Pc (none : Option X) Φ := fun x h => by cases h
theorem pc_some {x : X} (h : Φ x) : Pc (some x) Φ := fun y hy => by cases hy; exact h
theorem pc_mono {o : Option X} (h : Pc o Ψ) (k : ∀ x, Ψ x → Φ x) : Pc o Φ := fun x hx => k x (h x hx)
theorem pc_bind {o : Option X} {f : X → Option Y} {Φ : Y → Prop} (h : Pc o Ψ) (k : ∀ x, Ψ x → Pc (f x) Φ) : Pc (o.bind f) Φ := by
  intro y hy
  cases o with
  | none => cases hy
  | some x => exact k x (h x rfl) y hy
theorem pc_pure {o : Option X} {f : X → Option Y} {Φ : Y → Prop} (k : ∀ x, Pc (f x) Φ) : Pc (o.bind f) Φ := pc_bind (Ψ := fun _ => True) (fun _ _ => trivial) fun x _ => k x
theorem pc_nk {r : Option (Nat × Nat)} {f : Nat → Option X} (k : ∀ i, Pc (f i) Φ) : Pc (nk K r f) Φ := by
  cases r with
  | none => exact pc_none
  | some q =>
    show Pc (if q.1 = K then f q.2 else none) Φ
    split
    · exact k _
    · exact pc_none
theorem pc_if {c : Prop} [Decidable c] {a b : Option X} (h1 : Pc a Φ) (h2 : Pc b Φ) : Pc (if c then a else b) Φ := by
  split
  · exact h1
  · exact h2
theorem pc_ck {x : Int} {o : Option X} (k : Pc o Φ) : Pc (ck x o) Φ := pc_if k pc_none
theorem pc_cb {x : Int} {o : Option X} (k : Pc o Φ) : Pc (cb x o) Φ := pc_if k pc_none
theorem pc_dv {x y : Int} {o : Option X} (k : Pc o Φ) : Pc (dv x y o) Φ := pc_if k pc_none
theorem pc_let {x : Int} {f : Int → Option X} (k : ∀ v, Pc (f v) Φ) : Pc (lt0 x f) Φ := k x
theorem pc_letL {x : Int64} {f : Int64 → Option X} (k : ∀ v, Pc (f v) Φ) : Pc (lt1 x f) Φ := k x
theorem pc_ldN {j : Int} {f : Int → Option X} (k : ∀ v, Pc (f v) Φ) : Pc (ldN m K i j f) Φ := pc_if (k _) pc_none
theorem pc_ldL {j : Int} {f : Int64 → Option X} (k : ∀ v, Pc (f v) Φ) : Pc (ldL m K i j f) Φ := pc_if (k _) pc_none
theorem pc_ldR {j : Int} {f : Option (Nat × Nat) → Option X} (k : ∀ v, Pc (f v) Φ) : Pc (ldR m K i j f) Φ := pc_if (k _) pc_none
theorem pc_lp {S : Type} {b : S → Option (S ⊕ X)} {Φ : Y → Prop} {k : X → Option Y} {s : S} (I : S → Prop) (Ψ : X → Prop) (hs : I s) (hb : ∀ s, I s → Pc (b s) (fun z => Sum.elim I Ψ z)) (hk : ∀ x, Ψ x → Pc (k x) Φ) : Pc ((lpb b s).bind k) Φ := by
  refine pc_bind (Ψ := Ψ) (fun x hx => ?_) hk
  obtain ⟨n, hn⟩ := lpb_ex hx
  have key : ∀ n s, I s → itn b n s = some x → Ψ x := by
    intro n
    induction n with
    | zero => intro s _ h; cases h
    | succ n ih =>
      intro s hi h
      have h0 := hb s hi
      unfold itn at h
      cases hbs : b s with
      | none => rw [hbs] at h; cases h
      | some z =>
        rw [hbs] at h
        have h1 := h0 z hbs
        cases z with
        | inl s' => exact ih s' h1 h
        | inr y => cases h; exact h1
  exact key n s hs hn
theorem pc_lpr {S Z : Type} {b : S → Option (S ⊕ (X ⊕ Z))} {Φ : Y → Prop} {k1 : X → Option Y} {k2 : Z → Option Y} {s : S} (I : S → Prop) (Ψ1 : X → Prop) (Ψ2 : Z → Prop) (hs : I s) (hb : ∀ s, I s → Pc (b s) (fun z => Sum.elim I (Sum.elim Ψ1 Ψ2) z)) (h1 : ∀ r, Ψ1 r → Pc (k1 r) Φ) (h2 : ∀ z, Ψ2 z → Pc (k2 z) Φ) : Pc ((lpb b s).bind (Sum.elim k1 k2)) Φ :=
  pc_lp I (Sum.elim Ψ1 Ψ2) hs hb fun x hx => by
    cases x with
    | inl r => exact h1 r hx
    | inr z => exact h2 z hx
end EV
/-! FRAMES: what a method may write. -/
/-- S: fields (kind, slot); arrays (kind, 0), which stands for all their elements -/
def inS (S : List (Nat × Nat)) (K s : Nat) : Prop := (K, s) ∈ S ∨ (13 ≤ K ∧ (K, 0) ∈ S)
/-- only cells of S differ; nothing is made -/
def eqF (S : List (Nat × Nat)) (m m' : MM) : Prop := (∀ K s, ¬ inS S K s → (∀ i, gN m' K i s = gN m K i s) ∧ (∀ i, gL m' K i s = gL m K i s) ∧ ∀ i, gR m' K i s = gR m K i s) ∧ (∀ K i, gZ m' K i = gZ m K i) ∧ (∀ K, gC m' K = gC m K) ∧ gA m' = gA m ∧ gB m' = gB m
/-- .. or an exception is made -/
def eqX (S : List (Nat × Nat)) (m m' : MM) : Prop := (∀ K s, ¬ inS S K s → (∀ i, gN m' K i s = gN m K i s) ∧ (∀ i, gL m' K i s = gL m K i s) ∧ ∀ i, gR m' K i s = gR m K i s) ∧ (∀ K i, gZ m' K i = gZ m K i) ∧ (∀ K, gC m' K = gC m K) ∧ gA m' = gA m + 1 ∧ gB m' = gB m + 6
/-- the result of a method that writes at most S -/
def RF (S : List (Nat × Nat)) (m : MM) : RV × MM → Prop := fun q => match q.1 with
  | .inl _ => eqF S m q.2
  | .inr _ => eqX S m q.2
section FR
variable {X Y : Type} {Φ Ψ : X → Prop} {m m0 m1 : MM} {K i : Nat} {S S' : List (Nat × Nat)}
theorem inS.f {K s : Nat} (h : (K, s) ∈ S) : inS S K s := Or.inl h
theorem inS.sub {K s : Nat} (hs : ∀ q ∈ S, q ∈ S') (h : inS S K s) : inS S' K s := h.imp (hs _) fun q => ⟨q.1, hs _ q.2⟩
theorem eqF.rf : eqF S m m := ⟨fun _ _ _ => ⟨fun _ => rfl, fun _ => rfl, fun _ => rfl⟩, fun _ _ => rfl, fun _ => rfl, rfl, rfl⟩
theorem eqF.sub (h : eqF S m m1) (hs : ∀ q ∈ S, q ∈ S') : eqF S' m m1 := ⟨fun K s hK => h.1 K s (fun q => hK (inS.sub hs q)), h.2⟩
theorem eqX.sub (h : eqX S m m1) (hs : ∀ q ∈ S, q ∈ S') : eqX S' m m1 := ⟨fun K s hK => h.1 K s (fun q => hK (inS.sub hs q)), h.2⟩
theorem eqF.tr (h : eqF S m0 m) (k : eqF S m m1) : eqF S m0 m1 := ⟨fun K s hK => ⟨fun i => ((k.1 K s hK).1 i).trans ((h.1 K s hK).1 i), fun i => ((k.1 K s hK).2.1 i).trans ((h.1 K s hK).2.1 i), fun i => ((k.1 K s hK).2.2 i).trans ((h.1 K s hK).2.2 i)⟩, fun K i => (k.2.1 K i).trans (h.2.1 K i), fun K => (k.2.2.1 K).trans (h.2.2.1 K), k.2.2.2.1.trans h.2.2.2.1, k.2.2.2.2.trans h.2.2.2.2⟩
theorem eqF.trX (h : eqF S m0 m) (k : eqX S m m1) : eqX S m0 m1 := ⟨fun K s hK => ⟨fun i => ((k.1 K s hK).1 i).trans ((h.1 K s hK).1 i), fun i => ((k.1 K s hK).2.1 i).trans ((h.1 K s hK).2.1 i), fun i => ((k.1 K s hK).2.2 i).trans ((h.1 K s hK).2.2 i)⟩, fun K i => (k.2.1 K i).trans (h.2.1 K i), fun K => (k.2.2.1 K).trans (h.2.2.1 K), by rw [k.2.2.2.1, h.2.2.2.1], by rw [k.2.2.2.2, h.2.2.2.2]⟩
theorem eqF.sN {s : Nat} {v : Int} (h : eqF S m0 m) (hK : inS S K s) : eqF S m0 (sN m K i s v) := h.tr ⟨fun K' s' h' => ⟨fun a => by rw [gN_sN, if_neg (fun q => h' (by rw [q.1, q.2.2]; exact hK))], fun _ => rfl, fun _ => rfl⟩, fun _ _ => rfl, fun _ => rfl, rfl, rfl⟩
theorem eqF.sL {s : Nat} {v : Int64} (h : eqF S m0 m) (hK : inS S K s) : eqF S m0 (sL m K i s v) := h.tr ⟨fun K' s' h' => ⟨fun _ => rfl, fun a => by rw [gL_sL, if_neg (fun q => h' (by rw [q.1, q.2.2]; exact hK))], fun _ => rfl⟩, fun _ _ => rfl, fun _ => rfl, rfl, rfl⟩
theorem eqF.sR {s : Nat} {v : Option (Nat × Nat)} (h : eqF S m0 m) (hK : inS S K s) : eqF S m0 (sR m K i s v) := h.tr ⟨fun K' s' h' => ⟨fun _ => rfl, fun _ => rfl, fun a => by rw [gR_sR, if_neg (fun q => h' (by rw [q.1, q.2.2]; exact hK))]⟩, fun _ _ => rfl, fun _ => rfl, rfl, rfl⟩
theorem eqF.bX (h : eqF S m0 m) : eqX S m0 (bX m) := ⟨h.1, h.2.1, h.2.2.1, by rw [← h.2.2.2.1]; rfl, by rw [← h.2.2.2.2]; rfl⟩
theorem pc_put {mk : MM} {f : MM → Option X} (h : eqF S m0 mk) (k : ∀ m1, eqF S m0 m1 → Pc (f m1) Φ) : Pc (lt' mk f) Φ := k mk h
theorem pc_stN {j v : Int} {f : MM → Option X} (hK : 13 ≤ K ∧ (K, 0) ∈ S) (h : eqF S m0 m) (k : ∀ m1, eqF S m0 m1 → Pc (f m1) Φ) : Pc (stN m K i j v f) Φ := pc_if (k _ (h.sN (Or.inr hK))) pc_none
theorem pc_stL {j : Int} {v : Int64} {f : MM → Option X} (hK : 13 ≤ K ∧ (K, 0) ∈ S) (h : eqF S m0 m) (k : ∀ m1, eqF S m0 m1 → Pc (f m1) Φ) : Pc (stL m K i j v f) Φ := pc_if (k _ (h.sL (Or.inr hK))) pc_none
theorem pc_stR {j : Int} {v : Option (Nat × Nat)} {f : MM → Option X} (hK : 13 ≤ K ∧ (K, 0) ∈ S) (h : eqF S m0 m) (k : ∀ m1, eqF S m0 m1 → Pc (f m1) Φ) : Pc (stR m K i j v f) Φ := pc_if (k _ (h.sR (Or.inr hK))) pc_none
theorem pc_cpN {i1 i2 : Nat} {sp dp n : Int} {f : MM → Option X} (hK : 13 ≤ K ∧ (K, 0) ∈ S) (h : eqF S m0 m) (k : ∀ m1, eqF S m0 m1 → Pc (f m1) Φ) : Pc (cpN m K i1 sp i2 dp n f) Φ :=
  pc_if (k _ (h.tr ⟨fun K' s' h' => ⟨fun a => by rw [gN_cpM, if_neg (fun q => h' (by rw [q.1]; exact Or.inr hK))], fun _ => rfl, fun _ => rfl⟩, fun _ _ => rfl, fun _ => rfl, rfl, rfl⟩)) pc_none
theorem RF.go (h : eqF S m0 m) (hs : ∀ q ∈ S', q ∈ S) {r : RV} (k : RF S' m (r, m1)) : RF S m0 (r, m1) := by
  cases r with
  | inl v => exact h.tr (eqF.sub k hs)
  | inr e => exact h.trX (eqX.sub k hs)
theorem pc_bI {o : MO} {k : Int → MM → Option X} {x : Nat → MM → Option X} (ho : Pc o (RF S' m)) (hs : ∀ q ∈ S', q ∈ S) (h : eqF S m0 m) (hk : ∀ v m1, eqF S m0 m1 → Pc (k v m1) Φ) (hx : ∀ e m1, eqX S m0 m1 → Pc (x e m1) Φ) : Pc (bI o k x) Φ := by
  cases o with
  | none => exact pc_none
  | some q =>
    obtain ⟨r, m1⟩ := q
    have h2 := RF.go h hs (ho _ rfl)
    rcases r with (_ | v | v | v | v | v) | e
    · exact pc_none
    · exact hk v m1 h2
    · exact pc_none
    · exact pc_none
    · exact pc_none
    · exact pc_none
    · exact hx e m1 h2
theorem pc_bL {o : MO} {k : Int64 → MM → Option X} {x : Nat → MM → Option X} (ho : Pc o (RF S' m)) (hs : ∀ q ∈ S', q ∈ S) (h : eqF S m0 m) (hk : ∀ v m1, eqF S m0 m1 → Pc (k v m1) Φ) (hx : ∀ e m1, eqX S m0 m1 → Pc (x e m1) Φ) : Pc (bL o k x) Φ := by
  cases o with
  | none => exact pc_none
  | some q =>
    obtain ⟨r, m1⟩ := q
    have h2 := RF.go h hs (ho _ rfl)
    rcases r with (_ | v | v | v | v | v) | e
    · exact pc_none
    · exact pc_none
    · exact pc_none
    · exact hk v m1 h2
    · exact pc_none
    · exact pc_none
    · exact hx e m1 h2
theorem pc_bR {o : MO} {k : Option (Nat × Nat) → MM → Option X} {x : Nat → MM → Option X} (ho : Pc o (RF S' m)) (hs : ∀ q ∈ S', q ∈ S) (h : eqF S m0 m) (hk : ∀ v m1, eqF S m0 m1 → Pc (k v m1) Φ) (hx : ∀ e m1, eqX S m0 m1 → Pc (x e m1) Φ) : Pc (bR o k x) Φ := by
  cases o with
  | none => exact pc_none
  | some q =>
    obtain ⟨r, m1⟩ := q
    have h2 := RF.go h hs (ho _ rfl)
    rcases r with (_ | v | v | v | v | v) | e
    · exact pc_none
    · exact pc_none
    · exact pc_none
    · exact pc_none
    · exact hk v m1 h2
    · exact pc_none
    · exact hx e m1 h2
theorem pc_bV {o : MO} {k : MM → Option X} {x : Nat → MM → Option X} (ho : Pc o (RF S' m)) (hs : ∀ q ∈ S', q ∈ S) (h : eqF S m0 m) (hk : ∀ m1, eqF S m0 m1 → Pc (k m1) Φ) (hx : ∀ e m1, eqX S m0 m1 → Pc (x e m1) Φ) : Pc (bV o k x) Φ := by
  cases o with
  | none => exact pc_none
  | some q =>
    obtain ⟨r, m1⟩ := q
    have h2 := RF.go h hs (ho _ rfl)
    rcases r with (_ | v) | e
    · exact hk m1 h2
    · exact pc_none
    · exact hx e m1 h2
theorem pc_x0 {e : Nat} : Pc (x0 e m : Option X) Φ := pc_none
theorem pc_xt {e : Nat} (h : eqX S m0 m) : Pc (xt e m) (RF S m0) := pc_some h
theorem pc_xr {S1 T : Type} {e : Nat} {Q : S1 → Prop} {R : T → Prop} (h : eqX S m0 m) : Pc (xr e m) (fun z : S1 ⊕ ((RV × MM) ⊕ T) => Sum.elim Q (Sum.elim (RF S m0) R) z) := pc_some h
theorem pc_tsw {x lo : Int} {fs : List (Option X)} {d : Option X} (h1 : ∀ f ∈ fs, Pc f Φ) (h2 : Pc d Φ) : Pc (tsw x lo fs d) Φ := by
  unfold tsw
  split
  · exact h2
  · cases hf : fs[(x - lo).toNat]? with
    | none => exact h2
    | some f => exact h1 f (List.mem_of_getElem? hf)
end FR
