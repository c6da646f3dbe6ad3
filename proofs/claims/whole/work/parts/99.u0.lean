/-! THE LAW: what making a book or a hand leaves alone, and how much it makes. -/
section MAKES
variable {X : Type} {Φ : X → Prop} {S S' Z Z' : List Nat} {a b a' b' : Nat} {m m0 m1 : MM}
/-- cells outside S, lengths outside Z stay; at most a cells of b slots are made -/
def Mk (S Z : List Nat) (a b : Nat) (m m' : MM) : Prop := (∀ K, K ∉ S → ∀ i s, eq3 m m' K i s) ∧ (∀ K, K ∉ Z → ∀ i, gZ m' K i = gZ m K i) ∧ gA m' ≤ gA m + a ∧ gB m' ≤ gB m + b
theorem Mk.rf : Mk S Z 0 0 m m := ⟨fun _ _ _ _ => eq3.rf, fun _ _ _ => rfl, Nat.le_refl _, Nat.le_refl _⟩
theorem Mk.le (h : Mk S Z a b m0 m) (h1 : a ≤ a') (h2 : b ≤ b') : Mk S Z a' b' m0 m := ⟨h.1, h.2.1, by have := h.2.2.1; omega, by have := h.2.2.2; omega⟩
theorem Mk.sub (h : Mk S Z a b m0 m) (h1 : ∀ K ∈ S, K ∈ S') (h2 : ∀ K ∈ Z, K ∈ Z') : Mk S' Z' a b m0 m := ⟨fun K hK => h.1 K (fun q => hK (h1 K q)), fun K hK => h.2.1 K (fun q => hK (h2 K q)), h.2.2⟩
theorem Mk.tr (h : Mk S Z a b m0 m) (k : Mk S Z a' b' m m1) : Mk S Z (a + a') (b + b') m0 m1 := ⟨fun K hK i s => (h.1 K hK i s).tr (k.1 K hK i s), fun K hK i => (k.2.1 K hK i).trans (h.2.1 K hK i), by have := h.2.2.1; have := k.2.2.1; omega, by have := h.2.2.2; have := k.2.2.2; omega⟩
theorem Mk.sN {K i s : Nat} {v : Int} (h : Mk S Z a b m0 m) (hK : K ∈ S) : Mk S Z a b m0 (sN m K i s v) := ⟨fun K' hK' i' s' => (h.1 K' hK' i' s').tr (eq3.sN (fun q => hK' (by rw [q.1]; exact hK))), h.2⟩
theorem Mk.sR {K i s : Nat} {v : Option (Nat × Nat)} (h : Mk S Z a b m0 m) (hK : K ∈ S) : Mk S Z a b m0 (sR m K i s v) := ⟨fun K' hK' i' s' => (h.1 K' hK' i' s').tr (eq3.sR (fun q => hK' (by rw [q.1]; exact hK))), h.2⟩
theorem Mk.nW {K n : Nat} (h : Mk S Z a b m0 m) (hK : K ∈ Z) : Mk S Z (a + 1) (b + n) m0 (nW m K n) := ⟨h.1, fun K' hK' i' => by rw [gZ_nW, if_neg (fun q => hK' (by rw [q.1]; exact hK))]; exact h.2.1 K' hK' i', by show gA m + 1 ≤ _; have := h.2.2.1; omega, by show gB m + n ≤ _; have := h.2.2.2; omega⟩
theorem Mk.nM {K K2 n k : Nat} (h : Mk S Z a b m0 m) (hK : K ∈ Z) (hK2 : K2 ∈ Z) (hS : K ∈ S) : Mk S Z (a + (1 + n)) (b + (n + n * k)) m0 (nM m K n K2 k) := ⟨fun K' hK' i' s' => (h.1 K' hK' i' s').tr ⟨rfl, rfl, by rw [gR_nM, if_neg (fun q => hK' (by rw [q.1]; exact hS))]⟩, fun K' hK' i' => by rw [gZ_nM, if_neg (fun q => hK' (by rw [q.1]; exact hK)), if_neg (fun q => hK' (by rw [q.1]; exact hK2))]; exact h.2.1 K' hK' i', by show gA m + (1 + n) ≤ _; have := h.2.2.1; omega, by show gB m + (n + n * k) ≤ _; have := h.2.2.2; omega⟩
theorem mk_put {mk : MM} {f : MM → Option X} (h : Mk S Z a b m0 mk) (k : ∀ m1, Mk S Z a b m0 m1 → Pc (f m1) Φ) : Pc (lt' mk f) Φ := k mk h
theorem mk_A {K : Nat} {x : Int} {c : Nat} {f : MM → Option X} (h : Mk S Z a b m0 m) (hK : K ∈ Z) (hx : x.toNat ≤ c) (k : ∀ m1, Mk S Z (a + 1) (b + c) m0 m1 → Pc (f m1) Φ) : Pc (newA m K x f) Φ := pc_if (k _ ((h.nW hK).le (Nat.le_refl _) (by omega))) pc_none
theorem mk_M {K K2 : Nat} {x y : Int} {c e : Nat} {f : MM → Option X} (h : Mk S Z a b m0 m) (hK : K ∈ Z) (hK2 : K2 ∈ Z) (hS : K ∈ S) (hx : x.toNat ≤ c) (hy : y.toNat ≤ e) (k : ∀ m1, Mk S Z (a + (1 + c)) (b + (c + c * e)) m0 m1 → Pc (f m1) Φ) : Pc (newM m K x K2 y f) Φ :=
  pc_if (k _ ((h.nM hK hK2 hS).le (by omega) (by have := Nat.mul_le_mul hx hy; omega))) pc_none
theorem mk_V {o : MO} {Ψ : RV × MM → Prop} {k : MM → Option X} (ho : Pc o Ψ) (hk : ∀ m1, Ψ (.inl none, m1) → Pc (k m1) Φ) : Pc (bV o k x0) Φ := by
  cases o with
  | none => exact pc_none
  | some q =>
    obtain ⟨r, m1⟩ := q
    rcases r with (_ | v) | e
    · exact hk m1 (ho _ rfl)
    · exact pc_none
    · exact pc_none
theorem mk_R {o : MO} {Ψ : RV × MM → Prop} {k : Option (Nat × Nat) → MM → Option X} (ho : Pc o Ψ) (hk : ∀ v m1, Ψ (.inl (some (aR v)), m1) → Pc (k v m1) Φ) : Pc (bR o k x0) Φ := by
  cases o with
  | none => exact pc_none
  | some q =>
    obtain ⟨r, m1⟩ := q
    rcases r with (_ | v | v | v | v | v) | e
    · exact pc_none
    · exact pc_none
    · exact pc_none
    · exact pc_none
    · exact hk v m1 (ho _ rfl)
    · exact pc_none
    · exact pc_none
theorem mk_stR {K i : Nat} {j : Int} {v : Option (Nat × Nat)} {f : MM → Option X} (h : Mk S Z a b m0 m) (hK : K ∈ S) (k : ∀ m1, Mk S Z a b m0 m1 → Pc (f m1) Φ) : Pc (stR m K i j v f) Φ := pc_if (k _ (h.sR hK)) pc_none
theorem mk_X9 {l0 : Nat} : Pc (f_X9_init m l0) (fun q => Mk [9] [45, 46, 47, 48, 49] 5 300 m q.2) := by
  unfold f_X9_init
  refine mk_A (c := 60) (Mk.rf (S := [9]) (Z := [45, 46, 47, 48, 49])) (by decide) (by decide) fun _ h => mk_put (h.sR (by decide)) fun _ h => ?_
  refine mk_A (c := 60) h (by decide) (by decide) fun _ h => mk_put (h.sR (by decide)) fun _ h => ?_
  refine mk_A (c := 60) h (by decide) (by decide) fun _ h => mk_put (h.sR (by decide)) fun _ h => ?_
  refine mk_A (c := 60) h (by decide) (by decide) fun _ h => mk_put (h.sR (by decide)) fun _ h => ?_
  refine mk_A (c := 60) h (by decide) (by decide) fun _ h => mk_put (h.sR (by decide)) fun _ h => ?_
  exact pc_some (h.le (by decide) (by decide))
theorem mk_X5 {l0 : Nat} {l1 l2 : Int} (h1 : l1.toNat ≤ 144) (h2 : l2.toNat ≤ 24) : Pc (f_X5_init m l0 l1 l2) (fun q => Mk [5, 37] [34, 35, 36, 37, 38] 28 3912 m q.2) := by
  unfold f_X5_init
  refine mk_A (c := 144) (Mk.rf (S := [5, 37]) (Z := [34, 35, 36, 37, 38])) (by decide) h1 fun _ h => mk_put (h.sR (by decide)) fun _ h => ?_
  refine mk_A (c := 144) h (by decide) h1 fun _ h => mk_put (h.sR (by decide)) fun _ h => ?_
  refine mk_A (c := 144) h (by decide) h1 fun _ h => mk_put (h.sR (by decide)) fun m6 h => ?_
  refine mk_put (mk := bC m6 (bump1 l0)) h fun _ h => ?_
  refine mk_M (c := 24) (e := 144) h (by decide) (by decide) (by decide) h2 h1 fun _ h => mk_put (h.sR (by decide)) fun _ h => ?_
  exact pc_some (h.le (by decide) (by decide))
theorem mk_X4 {l0 : Nat} {l1 l2 l3 : Int} (h1 : 0 ≤ l1 ∧ l1 ≤ 24) (h2 : 0 ≤ l2 ∧ l2 ≤ 6) (h3 : l3.toNat ≤ 24) : Pc (f_X4_init m l0 l1 l2 l3) (fun q => Mk [4, 5, 37] [5, 27, 28, 29, 30, 31, 32, 33, 34, 35, 36, 37, 38] 36 4179 m q.2) := by
  have h12 : (l1 * l2).toNat ≤ 144 := by
    obtain ⟨x, rfl⟩ := Int.ex h1.1
    obtain ⟨y, rfl⟩ := Int.ex h2.1
    have : x * y ≤ 24 * 6 := Nat.mul_le_mul (by omega) (by omega)
    rw [← Int.natCast_mul]
    omega
  unfold f_X4_init
  refine mk_A (c := 61) (Mk.rf (S := [4, 5, 37]) (Z := [5, 27, 28, 29, 30, 31, 32, 33, 34, 35, 36, 37, 38])) (by decide) (by decide) fun _ h => mk_put (h.sR (by decide)) fun _ h => ?_
  refine mk_A (c := 61) h (by decide) (by decide) fun _ h => mk_put (h.sR (by decide)) fun _ h => ?_
  refine mk_A (c := 61) h (by decide) (by decide) fun _ h => mk_put (h.sR (by decide)) fun _ h => ?_
  refine mk_A (c := 61) h (by decide) (by decide) fun _ h => mk_put (h.sR (by decide)) fun _ h => ?_
  refine mk_put (h.sN (by decide)) fun _ h => mk_put (h.sN (by decide)) fun _ h => ?_
  refine mk_A (c := 6) h (by decide) (by omega) fun _ h => mk_put (h.sR (by decide)) fun _ h => ?_
  refine mk_A (c := 6) h (by decide) (by omega) fun _ h => mk_put (h.sR (by decide)) fun _ h => ?_
  refine mk_A (c := 6) h (by decide) (by omega) fun _ h => mk_put (h.sR (by decide)) fun m16 h => ?_
  refine mk_put (mk := nW m16 5 5) (h.nW (by decide)) fun m17 h => ?_
  refine pc_ck (mk_V (mk_X5 h12 h3) fun m18 h' => ?_)
  have h := h.tr (h'.sub (by decide) (by decide))
  refine mk_put (h.sR (by decide)) fun _ h => ?_
  exact pc_some (h.le (by decide) (by decide))
theorem mk_X2 {l0 l1 : Nat} {l2 : Int} (h2 : l2.toNat ≤ 24) : Pc (f_X2_init m l0 l1 l2) (fun q => Mk [2] [25, 26] 2 424 m q.2) := by
  unfold f_X2_init
  refine mk_A (c := 400) (Mk.rf (S := [2]) (Z := [25, 26])) (by decide) (by decide) fun _ h => mk_put (h.sR (by decide)) fun _ h => ?_
  refine mk_put (h.sN (by decide)) fun _ h => mk_put (h.sN (by decide)) fun _ h => mk_put (h.sN (by decide)) fun _ h => mk_put (h.sN (by decide)) fun _ h => mk_put (h.sN (by decide)) fun _ h => mk_put (h.sR (by decide)) fun _ h => mk_put (h.sN (by decide)) fun _ h => ?_
  refine mk_A (c := 24) h (by decide) h2 fun _ h => mk_put (h.sR (by decide)) fun _ h => ?_
  exact pc_some (h.le (by decide) (by decide))
theorem mk_pagesOf {l0 : Int} {l1 : Nat} {l2 : Int} (h2 : l2.toNat ≤ 8) : Pc (f_X0_pagesOf m l0 l1 l2) (fun q => Mk [19] [19] 1 8 m q.2) := by
  unfold f_X0_pagesOf
  refine mk_A (c := 8) (Mk.rf (S := [19]) (Z := [19])) (by decide) h2 fun m1 h => ?_
  refine pc_lp (fun s : Int × MM => Mk [19] [19] 1 8 m s.2) (fun z => Mk [19] [19] 1 8 m z) (h.le (by decide) (by decide)) (fun s hs => ?_) fun z hz => pc_some hz
  obtain ⟨l4, s⟩ := s
  show Pc (b_X0_pagesOf_8 l0 l1 l2 (gC m 19) l4 s) _
  unfold b_X0_pagesOf_8
  refine pc_if (pc_some hs) (pc_pure fun v2 => pc_if (pc_ck (pc_some hs)) (pc_pure fun v3 => pc_ldR fun r => pc_nk fun i => ?_))
  exact mk_stR hs (by decide) fun _ h => pc_ck (pc_some h)
theorem mk_X8 {l0 l1 l2 : Nat} : Pc (f_X8_init m l0 l1 l2) (fun q => Mk [8] [] 0 0 m q.2) := by
  unfold f_X8_init
  exact mk_put ((Mk.rf (S := [8]) (Z := [])).sR (by decide)) fun _ h => mk_put (h.sR (by decide)) fun _ h => pc_some h
/-- a loop that makes something in each round, over an array's length -/
theorem mk_loop {bd : Int × MM → Option ((Int × MM) ⊕ MM)} {k : MM → Option X} {L A B : Nat} (hk : ∀ z, Mk S Z (A * L) (B * L) m z → Pc (k z) Φ)
    (hb : ∀ (p : Nat) (s : MM), p ≤ L → Mk S Z (A * p) (B * p) m s → Pc (bd ((p : Int), s)) (fun z => Sum.elim (fun s' : Int × MM => s'.1 = (p : Int) + 1 ∧ p + 1 ≤ L ∧ Mk S Z (A * p + A) (B * p + B) m s'.2) (fun z => Mk S Z (A * p) (B * p) m z) z)) : Pc ((lpb bd (0, m)).bind k) Φ := by
  refine pc_lp (fun s : Int × MM => ∃ p : Nat, s.1 = p ∧ p ≤ L ∧ Mk S Z (A * p) (B * p) m s.2) (fun z => Mk S Z (A * L) (B * L) m z) ⟨0, rfl, Nat.zero_le _, by simpa using Mk.rf⟩ (fun s hs => ?_) hk
  obtain ⟨_, s⟩ := s
  obtain ⟨p, rfl, hp, hs⟩ := hs
  refine pc_mono (hb p s hp hs) fun z hz => ?_
  cases z with
  | inl s' => exact ⟨p + 1, by have := hz.1; omega, hz.2.1, by rw [Nat.mul_add, Nat.mul_add]; simpa using hz.2.2⟩
  | inr z => exact hz.le (Nat.mul_le_mul_left A hp) (Nat.mul_le_mul_left B hp)
theorem mk_199 {l0 : Nat} {l1 l2 l5 : Int} {j L : Nat} (h5 : gR m 0 l0 5 = some (13, j)) (hz : gZ m 13 j = some L) (hL : L ≤ 16) (h1 : (l1 * l2).toNat ≤ 8) (h3 : l5.toNat ≤ 24) : Pc (j_X0_init_0_199 m l0 l1 l2 l5) (fun q => Mk [0, 17] [16, 17, 18] 26 232 m q.2) := by
  unfold j_X0_init_0_199
  rw [nk_of h5, lenI_of hz]
  refine mk_A (c := 16) (Mk.rf (S := [0, 17]) (Z := [16, 17, 18])) (by decide) (by omega) fun _ h => mk_put (h.sR (by decide)) fun _ h => ?_
  refine mk_M (c := 24) (e := 8) h (by decide) (by decide) (by decide) h3 h1 fun _ h => mk_put (h.sR (by decide)) fun _ h => ?_
  exact pc_some (h.le (by decide) (by decide))
theorem mk_142 {l0 : Nat} {l1 l2 l5 : Int} {j L : Nat} (h5 : gR m 0 l0 5 = some (13, j)) (hz : gZ m 13 j = some L) (hL : L ≤ 16) (h1 : (l1 * l2).toNat ≤ 8) (h2 : 0 ≤ l2 ∧ l2 ≤ 4) (h3 : l5.toNat ≤ 24) : Pc (j_X0_init_0_142 m l0 l1 l2 l5) (fun q => Mk [0, 8, 15, 17] [8, 15, 16, 17, 18] 31 260 m q.2) := by
  unfold j_X0_init_0_142
  refine pc_if ?_ pc_none
  have k1 : Mk [0, 8, 15, 17] [8, 15, 16, 17, 18] 1 4 m (nW m 15 l2.toNat) := ((Mk.rf).nW (by decide)).le (by decide) (by omega)
  have k2 := k1.sR (K := 0) (i := l0) (s := 7) (v := some (15, gC m 15)) (by decide)
  show Pc ((lpb _ (0, sR (nW m 15 l2.toNat) 0 l0 7 (some (15, gC m 15)))).bind _) _
  have e5 : gR (sR (nW m 15 l2.toNat) 0 l0 7 (some (15, gC m 15))) 0 l0 5 = some (13, j) := by rw [gR_sR, if_neg (by omega)]; exact h5
  have ez : gZ (sR (nW m 15 l2.toNat) 0 l0 7 (some (15, gC m 15))) 13 j = some L := by show gZ (nW m 15 l2.toNat) 13 j = _; rw [gZ_nW, if_neg (by omega)]; exact hz
  generalize sR (nW m 15 l2.toNat) 0 l0 7 (some (15, gC m 15)) = mE at k2 e5 ez ⊢
  refine mk_loop (S := [8, 15]) (Z := [8]) (L := 4) (A := 1) (B := 6) (fun z hz' => ?_) fun p s hp hs => ?_
  · have f5 : gR z 0 l0 5 = some (13, j) := by rw [(hz'.1 0 (by decide) l0 5).2.2]; exact e5
    have fz : gZ z 13 j = some L := by rw [hz'.2.1 13 (by decide)]; exact ez
    exact pc_mono (mk_199 f5 fz hL h1 h3) fun q hq => ((k2.tr (hz'.sub (by decide) (by decide))).tr (hq.sub (by decide) (by decide))).le (by decide) (by decide)
  · show Pc (b_X0_init_153 l0 l1 l2 l5 (p : Int) s) _
    unfold b_X0_init_153
    by_cases hc : l2 ≤ (p : Int)
    · rw [if_pos hc]; exact pc_some hs
    · rw [if_neg hc]
      refine pc_nk fun i31 => ?_
      refine mk_put (mk := nW s 8 6) (hs.nW (by decide)) fun m32 h => ?_
      refine pc_nk fun _ => pc_ldR fun _ => pc_nk fun _ => pc_nk fun _ => pc_ldR fun _ => pc_nk fun _ => mk_V mk_X8 fun m39 h' => ?_
      have h := h.tr (h'.sub (S' := [8, 15]) (Z' := [8]) (by decide) (by decide))
      exact mk_stR h (by decide) fun _ h => pc_ck (pc_some ⟨rfl, by omega, h.le (by omega) (by omega)⟩)
theorem mk_87 {l0 : Nat} {l1 l2 l5 : Int} {j L : Nat} (h5 : gR m 0 l0 5 = some (13, j)) (hz : gZ m 13 j = some L) (hL : L ≤ 16) (h1 : (l1 * l2).toNat ≤ 8) (h1' : l1.toNat ≤ 8) (h2 : 0 ≤ l2 ∧ l2 ≤ 4) (h3 : l5.toNat ≤ 24) : Pc (j_X0_init_0_87 m l0 l1 l2 l5) (fun q => Mk [0, 2, 8, 14, 15, 17, 19] [2, 8, 14, 15, 16, 17, 18, 19, 25, 26] 64 3812 m q.2) := by
  unfold j_X0_init_0_87
  refine pc_if ?_ pc_none
  have k1 : Mk [0, 2, 8, 14, 15, 17, 19] [2, 8, 14, 15, 16, 17, 18, 19, 25, 26] 1 8 m (nW m 14 (2 * l2).toNat) := ((Mk.rf).nW (by decide)).le (by decide) (by omega)
  have k2 := k1.sR (K := 0) (i := l0) (s := 6) (v := some (14, gC m 14)) (by decide)
  show Pc ((lpb _ (0, sR (nW m 14 (2 * l2).toNat) 0 l0 6 (some (14, gC m 14)))).bind _) _
  have e5 : gR (sR (nW m 14 (2 * l2).toNat) 0 l0 6 (some (14, gC m 14))) 0 l0 5 = some (13, j) := by rw [gR_sR, if_neg (by omega)]; exact h5
  have ez : gZ (sR (nW m 14 (2 * l2).toNat) 0 l0 6 (some (14, gC m 14))) 13 j = some L := by show gZ (nW m 14 (2 * l2).toNat) 13 j = _; rw [gZ_nW, if_neg (by omega)]; exact hz
  have e6 : gR (sR (nW m 14 (2 * l2).toNat) 0 l0 6 (some (14, gC m 14))) 0 l0 6 = some (14, gC m 14) := by rw [gR_sR, if_pos ⟨rfl, rfl, rfl⟩]
  have ez6 : gZ (sR (nW m 14 (2 * l2).toNat) 0 l0 6 (some (14, gC m 14))) 14 (gC m 14) = some (2 * l2).toNat := by show gZ (nW m 14 (2 * l2).toNat) 14 (gC m 14) = _; rw [gZ_nW, if_pos ⟨rfl, rfl⟩]
  generalize gC m 14 = j6 at k2 e5 ez e6 ez6 ⊢
  generalize sR (nW m 14 (2 * l2).toNat) 0 l0 6 (some (14, j6)) = mE at k2 e5 ez e6 ez6 ⊢
  refine mk_loop (S := [2, 14, 19]) (Z := [2, 19, 25, 26]) (L := 8) (A := 4) (B := 443) (fun z hz' => ?_) fun p s hp hs => ?_
  · have f5 : gR z 0 l0 5 = some (13, j) := by rw [(hz'.1 0 (by decide) l0 5).2.2]; exact e5
    have fz : gZ z 13 j = some L := by rw [hz'.2.1 13 (by decide)]; exact ez
    exact pc_mono (mk_142 f5 fz hL h1 h2 h3) fun q hq => ((k2.tr (hz'.sub (by decide) (by decide))).tr (hq.sub (by decide) (by decide))).le (by decide) (by decide)
  · show Pc (b_X0_init_100 l0 l1 l2 l5 (p : Int) s) _
    unfold b_X0_init_100
    have f6 : gR s 0 l0 6 = some (14, j6) := by rw [(hs.1 0 (by decide) l0 6).2.2]; exact e6
    have fz6 : gZ s 14 j6 = some (2 * l2).toNat := by rw [hs.2.1 14 (by decide)]; exact ez6
    rw [nk_of f6, lenI_of fz6]
    by_cases hc : (((2 * l2).toNat : Nat) : Int) ≤ (p : Int)
    · rw [if_pos hc]; exact pc_some hs
    · rw [if_neg hc]
      refine pc_nk fun i20 => ?_
      refine mk_put (mk := nW s 2 11) (hs.nW (by decide)) fun m21 h => ?_
      refine pc_nk fun _ => mk_R (mk_pagesOf h1') fun r24 m23 h' => ?_
      have h := h.tr (h'.sub (S' := [2, 14, 19]) (Z' := [2, 19, 25, 26]) (by decide) (by decide))
      refine pc_nk fun _ => mk_V (mk_X2 h3) fun m26 h' => ?_
      have h := h.tr (h'.sub (S' := [2, 14, 19]) (Z' := [2, 19, 25, 26]) (by decide) (by decide))
      exact mk_stR h (by decide) fun _ h => pc_ck (pc_some ⟨rfl, by omega, h.le (by omega) (by omega)⟩)
theorem mk_X0 {l0 : Nat} {l1 l2 l3 l4 l5 : Int} (h1 : ((2 * l1) * l2).toNat ≤ 16) (h12 : (l1 * l2).toNat ≤ 8) (h1' : l1.toNat ≤ 8) (h2 : 0 ≤ l2 ∧ l2 ≤ 4) (h3 : 0 ≤ l3 ∧ l3 ≤ 24) (h4 : 0 ≤ l4 ∧ l4 ≤ 6) (h5 : l5.toNat ≤ 24) : Pc (f_X0_init m l0 l1 l2 l3 l4 l5) (fun q => Mk [0, 2, 4, 5, 8, 9, 13, 14, 15, 17, 19, 37] [2, 4, 5, 8, 9, 13, 14, 15, 16, 17, 18, 19, 25, 26, 27, 28, 29, 30, 31, 32, 33, 34, 35, 36, 37, 38, 45, 46, 47, 48, 49] 700 80000 m q.2) := by
  unfold f_X0_init
  refine mk_put (mk := nW m 9 6) (S := [0, 2, 4, 5, 8, 9, 13, 14, 15, 17, 19, 37]) (Z := [2, 4, 5, 8, 9, 13, 14, 15, 16, 17, 18, 19, 25, 26, 27, 28, 29, 30, 31, 32, 33, 34, 35, 36, 37, 38, 45, 46, 47, 48, 49]) (Mk.rf.nW (by decide)) fun m1 h => ?_
  refine mk_V mk_X9 fun m2 h' => ?_
  have h := h.tr (h'.sub (S' := [0, 2, 4, 5, 8, 9, 13, 14, 15, 17, 19, 37]) (Z' := [2, 4, 5, 8, 9, 13, 14, 15, 16, 17, 18, 19, 25, 26, 27, 28, 29, 30, 31, 32, 33, 34, 35, 36, 37, 38, 45, 46, 47, 48, 49]) (by decide) (by decide))
  refine mk_put (h.sR (by decide)) fun _ h => mk_put (h.sN (by decide)) fun _ h => mk_put (h.sN (by decide)) fun _ h => mk_put (h.sN (by decide)) fun _ h => mk_put (h.sN (by decide)) fun m8 h => ?_
  refine pc_if ?_ pc_none
  have k1 := (h.nW (K := 13) (n := ((2 * l1) * l2).toNat) (by decide)).sR (K := 0) (i := l0) (s := 5) (v := some (13, gC m8 13)) (by decide)
  show Pc ((lpb _ (0, sR (nW m8 13 ((2 * l1) * l2).toNat) 0 l0 5 (some (13, gC m8 13)))).bind _) _
  have e5 : gR (sR (nW m8 13 ((2 * l1) * l2).toNat) 0 l0 5 (some (13, gC m8 13))) 0 l0 5 = some (13, gC m8 13) := by rw [gR_sR, if_pos ⟨rfl, rfl, rfl⟩]
  have ez : gZ (sR (nW m8 13 ((2 * l1) * l2).toNat) 0 l0 5 (some (13, gC m8 13))) 13 (gC m8 13) = some ((2 * l1) * l2).toNat := by show gZ (nW m8 13 ((2 * l1) * l2).toNat) 13 (gC m8 13) = _; rw [gZ_nW, if_pos ⟨rfl, rfl⟩]
  generalize gC m8 13 = j at k1 e5 ez ⊢
  generalize sR (nW m8 13 ((2 * l1) * l2).toNat) 0 l0 5 (some (13, j)) = mE at k1 e5 ez ⊢
  refine mk_loop (S := [4, 5, 13, 37]) (Z := [4, 5, 27, 28, 29, 30, 31, 32, 33, 34, 35, 36, 37, 38]) (L := 16) (A := 37) (B := 4194) (fun z hz' => ?_) fun p s hp hs => ?_
  · have f5 : gR z 0 l0 5 = some (13, j) := by rw [(hz'.1 0 (by decide) l0 5).2.2]; exact e5
    have fz : gZ z 13 j = some ((2 * l1) * l2).toNat := by rw [hz'.2.1 13 (by decide)]; exact ez
    exact pc_mono (mk_87 f5 fz h1 h12 h1' h2 h5) fun q hq => ((k1.tr (hz'.sub (by decide) (by decide))).tr (hq.sub (by decide) (by decide))).le (by omega) (by omega)
  · show Pc (b_X0_init_52 l0 l1 l2 l3 l4 l5 (p : Int) s) _
    unfold b_X0_init_52
    have f6 : gR s 0 l0 5 = some (13, j) := by rw [(hs.1 0 (by decide) l0 5).2.2]; exact e5
    have fz6 : gZ s 13 j = some ((2 * l1) * l2).toNat := by rw [hs.2.1 13 (by decide)]; exact ez
    rw [nk_of f6, lenI_of fz6]
    by_cases hc : ((((2 * l1) * l2).toNat : Nat) : Int) ≤ (p : Int)
    · rw [if_pos hc]; exact pc_some hs
    · rw [if_neg hc]
      refine pc_nk fun i12 => ?_
      refine mk_put (mk := nW s 4 15) (hs.nW (by decide)) fun m13 h => ?_
      refine mk_V (mk_X4 h3 h4 h5) fun m14 h' => ?_
      have h := h.tr (h'.sub (S' := [4, 5, 13, 37]) (Z' := [4, 5, 27, 28, 29, 30, 31, 32, 33, 34, 35, 36, 37, 38]) (by decide) (by decide))
      exact mk_stR h (by decide) fun _ h => pc_ck (pc_some ⟨rfl, by omega, h.le (by omega) (by omega)⟩)
end MAKES
