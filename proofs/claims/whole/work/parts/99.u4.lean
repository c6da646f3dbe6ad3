/-! THE LAW: both sides as they are made. -/
section INI
variable {X : Type} {Φ : X → Prop} {R : List (Nat × Nat × Nat × Nat)} {Z : List (Nat × Nat)} {a b c : Nat} {v v' : Nat → Nat → Nat → Int} {m : MM}
/-- what has been made so far -/
def In (R : List (Nat × Nat × Nat × Nat)) (Z : List (Nat × Nat)) (a b c : Nat) (v : Nat → Nat → Nat → Int) (m : MM) : Prop := (∀ q ∈ R, gR m q.1 0 q.2.1 = some (q.2.2.1, q.2.2.2)) ∧
  (∀ K i s, (i ≠ 0 ∨ ∀ q ∈ R, ¬ (q.1 = K ∧ q.2.1 = s)) → gR m K i s = none) ∧
  (∀ q ∈ Z, gZ m q.1 0 = some q.2) ∧
  (∀ K, K ≠ 6 → (∀ q ∈ Z, q.1 ≠ K) → gC m K = 0 ∧ ∀ i, gZ m K i = none) ∧
  (gC m 6 = c) ∧
  (∀ K i s, gN m K i s = v K i s) ∧
  (∀ K i s, gL m K i s = 0) ∧
  (gA m ≤ a) ∧
  (gB m ≤ b)
theorem In.r {R : List (Nat × Nat × Nat × Nat)} {Z : List (Nat × Nat)} {a b c : Nat} {v : Nat → Nat → Nat → Int} {m : MM} (h : In R Z a b c v m) : ∀ q ∈ R, gR m q.1 0 q.2.1 = some (q.2.2.1, q.2.2.2) := h.1
theorem In.rn {R : List (Nat × Nat × Nat × Nat)} {Z : List (Nat × Nat)} {a b c : Nat} {v : Nat → Nat → Nat → Int} {m : MM} (h : In R Z a b c v m) : ∀ K i s, (i ≠ 0 ∨ ∀ q ∈ R, ¬ (q.1 = K ∧ q.2.1 = s)) → gR m K i s = none := h.2.1
theorem In.z {R : List (Nat × Nat × Nat × Nat)} {Z : List (Nat × Nat)} {a b c : Nat} {v : Nat → Nat → Nat → Int} {m : MM} (h : In R Z a b c v m) : ∀ q ∈ Z, gZ m q.1 0 = some q.2 := h.2.2.1
theorem In.zn {R : List (Nat × Nat × Nat × Nat)} {Z : List (Nat × Nat)} {a b c : Nat} {v : Nat → Nat → Nat → Int} {m : MM} (h : In R Z a b c v m) : ∀ K, K ≠ 6 → (∀ q ∈ Z, q.1 ≠ K) → gC m K = 0 ∧ ∀ i, gZ m K i = none := h.2.2.2.1
theorem In.c6 {R : List (Nat × Nat × Nat × Nat)} {Z : List (Nat × Nat)} {a b c : Nat} {v : Nat → Nat → Nat → Int} {m : MM} (h : In R Z a b c v m) : gC m 6 = c := h.2.2.2.2.1
theorem In.n {R : List (Nat × Nat × Nat × Nat)} {Z : List (Nat × Nat)} {a b c : Nat} {v : Nat → Nat → Nat → Int} {m : MM} (h : In R Z a b c v m) : ∀ K i s, gN m K i s = v K i s := h.2.2.2.2.2.1
theorem In.l {R : List (Nat × Nat × Nat × Nat)} {Z : List (Nat × Nat)} {a b c : Nat} {v : Nat → Nat → Nat → Int} {m : MM} (h : In R Z a b c v m) : ∀ K i s, gL m K i s = 0 := h.2.2.2.2.2.2.1
theorem In.ga {R : List (Nat × Nat × Nat × Nat)} {Z : List (Nat × Nat)} {a b c : Nat} {v : Nat → Nat → Nat → Int} {m : MM} (h : In R Z a b c v m) : gA m ≤ a := h.2.2.2.2.2.2.2.1
theorem In.gb {R : List (Nat × Nat × Nat × Nat)} {Z : List (Nat × Nat)} {a b c : Nat} {v : Nat → Nat → Nat → Int} {m : MM} (h : In R Z a b c v m) : gB m ≤ b := h.2.2.2.2.2.2.2.2
theorem In.cv (h : In R Z a b c v m) (hv : ∀ K i s, v K i s = v' K i s) : In R Z a b c v' m := ⟨h.r, h.rn, h.z, h.zn, h.c6, fun K i s => by rw [h.n, hv], h.l, h.ga, h.gb⟩
theorem In.pN {K i s : Nat} {x : Int} (h : In R Z a b c v m) : In R Z a b c (fun K' i' s' => if K' = K ∧ i' = i ∧ s' = s then x else v K' i' s') (sN m K i s x) := ⟨h.r, h.rn, h.z, h.zn, h.c6, fun K' i' s' => by rw [gN_sN, h.n], h.l, h.ga, h.gb⟩
theorem In.pW {K n : Nat} (h : In R Z a b c v m) (hK : ∀ q ∈ Z, q.1 ≠ K) (h6 : K ≠ 6) : In R ((K, n) :: Z) (a + 1) (b + n) c v (nW m K n) := by
  have hc := h.zn K h6 hK
  refine ⟨h.r, h.rn, fun q hq => ?_, fun K' hK6 hK' => ?_, ?_, h.n, h.l, by show gA m + 1 ≤ _; have := h.ga; omega, by show gB m + n ≤ _; have := h.gb; omega⟩
  · rw [gZ_nW, hc.1]
    rcases List.mem_cons.mp hq with rfl | hq
    · rw [if_pos ⟨rfl, rfl⟩]
    · rw [if_neg (fun z => hK q hq z.1)]
      exact h.z q hq
  · have n1 : K' ≠ K := fun z => hK' (K, n) (List.mem_cons.mpr (Or.inl rfl)) z.symm
    have n2 := h.zn K' hK6 (fun q hq => hK' q (List.mem_cons.mpr (Or.inr hq)))
    refine ⟨by rw [gC_nW, if_neg n1]; exact n2.1, fun i => by rw [gZ_nW, if_neg (fun z => n1 z.1)]; exact n2.2 i⟩
  · rw [gC_nW, if_neg (fun z => h6 z.symm)]; exact h.c6
theorem In.pR {K s K2 i2 : Nat} (h : In R Z a b c v m) (hK : ∀ q ∈ R, ¬ (q.1 = K ∧ q.2.1 = s)) : In ((K, s, K2, i2) :: R) Z a b c v (sR m K 0 s (some (K2, i2))) := by
  refine ⟨fun q hq => ?_, fun K' i' s' hK' => ?_, h.z, h.zn, h.c6, h.n, h.l, h.ga, h.gb⟩
  · rw [gR_sR]
    rcases List.mem_cons.mp hq with rfl | hq
    · rw [if_pos ⟨rfl, rfl, rfl⟩]
    · rw [if_neg (fun z => hK q hq ⟨z.1, z.2.2⟩)]
      exact h.r q hq
  · rw [gR_sR]
    rw [if_neg (fun z => by
      rcases hK' with y | y
      · exact y z.2.1
      · exact y (K, s, K2, i2) (List.mem_cons.mpr (Or.inl rfl)) ⟨z.1.symm, z.2.2.symm⟩)]
    exact h.rn K' i' s' (hK'.imp (fun y => y) (fun y q hq => y q (List.mem_cons.mpr (Or.inr hq))))
theorem In.gc (h : In R Z a b c v m) {K : Nat} (h6 : K ≠ 6) (hK : ∀ q ∈ Z, q.1 ≠ K) : gC m K = 0 := (h.zn K h6 hK).1
/-- an array is made and hung up -/
theorem evA {K K0 s n : Nat} {x : Int} {f : MM → Option X} (h : In R Z a b c v m) (h6 : (∀ q ∈ Z, q.1 ≠ K) ∧ K ≠ 6 ∧ x = (n : Int) ∧ n ≤ 100000 ∧ ∀ q ∈ R, ¬ (q.1 = K0 ∧ q.2.1 = s)) (k : ∀ m2, In ((K0, s, K, 0) :: R) ((K, n) :: Z) (a + 1) (b + n) c v m2 → Ev (f m2) Φ) : Ev (newA m K x fun m1 => lt' (sR m1 K0 0 s (some (K, gC m K))) f) Φ := by
  obtain ⟨h1, h2, rfl, h4, h5⟩ := h6
  rw [newA_of ⟨by omega, by omega⟩, tnc, lt_eq, h.gc h2 h1]
  exact k _ ((h.pW h1 h2).pR h5)
theorem evV {o : MO} {k : MM → Option X} {x : Nat → MM → Option X} {Ψ : MM → Prop} (h : Ev o (fun q => q.1 = .inl none ∧ Ψ q.2)) (hk : ∀ m1, Ψ m1 → Ev (k m1) Φ) : Ev (bV o k x) Φ := by
  obtain ⟨⟨r, m1⟩, rfl, h1, h2⟩ := h
  simp only at h1
  subst h1
  exact hk m1 h2
/-- a row of 28 is filled with -1 -/
def vfill (K p : Nat) (v : Nat → Nat → Nat → Int) : Nat → Nat → Nat → Int := fun K' i s => if K' = K ∧ i = 0 ∧ s < p then -1 else v K' i s
theorem In.fill {K p : Nat} (h : In R Z a b c (vfill K p v) m) : In R Z a b c (vfill K (p + 1) v) (sN m K 0 p (-1)) := h.pN.cv fun K' i s => by
  unfold vfill
  by_cases z : K' = K ∧ i = 0 ∧ s = p
  · rw [if_pos z, if_pos ⟨z.1, z.2.1, by omega⟩]
  · rw [if_neg z]
    by_cases y : K' = K ∧ i = 0 ∧ s < p
    · rw [if_pos y, if_pos ⟨y.1, y.2.1, by omega⟩]
    · rw [if_neg y, if_neg (fun w => by
        by_cases u : s = p
        · exact z ⟨w.1, w.2.1, u⟩
        · exact y ⟨w.1, w.2.1, by omega⟩)]
theorem fill24 {k : MM → Option X} (h : In R Z a b c v m) (h1 : (1, 4, 24, 0) ∈ R) (h2 : (24, 28) ∈ Z) (hk : ∀ z, In R Z a b c (vfill 24 28 v) z → Ev (k z) Φ) : Ev ((lpb (fun s : Int × MM => b_X1_init_50 0 s.1 s.2) (0, m)).bind k) Φ := by
  refine ev_lp (fun z => In R Z a b c (vfill 24 28 v) z) (fun s => ∃ p : Nat, s.1 = p ∧ p ≤ 28 ∧ In R Z a b c (vfill 24 p v) s.2) (fun s => 28 - s.1.toNat) ⟨0, rfl, by omega, h.cv fun K i s => by unfold vfill; rw [if_neg (by omega)]⟩ ?_ hk
  rintro ⟨_, s⟩ ⟨p, rfl, hp, hs⟩
  show Ev (b_X1_init_50 0 (p : Int) s) _
  unfold b_X1_init_50
  refine ev_if (fun hc => ev_exit ?_) fun hc => ?_
  · obtain rfl : p = 28 := by omega
    exact hs
  · have r1 : gR s 1 0 4 = some (24, 0) := hs.r _ h1
    have z1 : gZ s 24 0 = some 28 := hs.z _ h2
    rw [nk_of r1, stN_of z1 (by omega), tnc, ck_of ⟨by omega, by omega⟩]
    exact ev_back ⟨p + 1, by simp, by omega, hs.fill⟩ (by simp only; omega)
theorem fill66 {k : MM → Option X} (h : In R Z a b c v m) (h1 : (12, 11, 66, 0) ∈ R) (h2 : (66, 28) ∈ Z) (hk : ∀ z, In R Z a b c (vfill 66 28 v) z → Ev (k z) Φ) : Ev ((lpb (fun s : Int × MM => b_X12_init_613 0 s.1 s.2) (0, m)).bind k) Φ := by
  refine ev_lp (fun z => In R Z a b c (vfill 66 28 v) z) (fun s => ∃ p : Nat, s.1 = p ∧ p ≤ 28 ∧ In R Z a b c (vfill 66 p v) s.2) (fun s => 28 - s.1.toNat) ⟨0, rfl, by omega, h.cv fun K i s => by unfold vfill; rw [if_neg (by omega)]⟩ ?_ hk
  rintro ⟨_, s⟩ ⟨p, rfl, hp, hs⟩
  show Ev (b_X12_init_613 0 (p : Int) s) _
  unfold b_X12_init_613
  refine ev_if (fun hc => ev_exit ?_) fun hc => ?_
  · obtain rfl : p = 28 := by omega
    exact hs
  · have r1 : gR s 12 0 11 = some (66, 0) := hs.r _ h1
    have z1 : gZ s 66 0 = some 28 := hs.z _ h2
    rw [nk_of r1, stN_of z1 (by omega), tnc, ck_of ⟨by omega, by omega⟩]
    exact ev_back ⟨p + 1, by simp, by omega, hs.fill⟩ (by simp only; omega)
/-- presses: three -/
def vpress (p : Nat) (v : Nat → Nat → Nat → Int) : Nat → Nat → Nat → Int := fun K i s => if K = 6 ∧ i < p ∧ s = 1 then 1 else v K i s
theorem press1 (h : In R Z a b c (vpress c v) m) (h1 : (11, 4, 57, 0) ∈ R) (h2 : (57, 3) ∈ Z) (hc : c < 3) (hZ : ∀ q ∈ Z, q.1 ≠ 6) (hR : ∀ q ∈ R, ¬ (q.1 = 57 ∧ q.2.1 = c)) : ∃ m', b_X11_init_52 0 (c : Int) m = some (.inl (((c + 1 : Nat) : Int), m')) ∧ In ((57, c, 6, c) :: R) Z (a + 1) (b + 4) (c + 1) (vpress (c + 1) v) m' := by
  have h6 := h.c6
  have e1 : In R Z (a + 1) (b + 4) (c + 1) (vpress c v) (nW m 6 4) := by
    refine ⟨h.r, h.rn, fun q hq => ?_, fun K' hK6 hK' => ?_, ?_, h.n, h.l, by show gA m + 1 ≤ _; have := h.ga; omega, by show gB m + 4 ≤ _; have := h.gb; omega⟩
    · rw [gZ_nW, if_neg (fun z => hZ q hq z.1)]; exact h.z q hq
    · have n2 := h.zn K' hK6 hK'
      exact ⟨by rw [gC_nW, if_neg hK6]; exact n2.1, fun i => by rw [gZ_nW, if_neg (fun z => hK6 z.1)]; exact n2.2 i⟩
    · rw [gC_nW, if_pos rfl, h6]
  have e2 : In R Z (a + 1) (b + 4) (c + 1) (vpress (c + 1) v) (sN (nW m 6 4) 6 c 1 1) := e1.pN.cv fun K i s => by
    unfold vpress
    by_cases z : K = 6 ∧ i = c ∧ s = 1
    · rw [if_pos z, if_pos ⟨z.1, by omega, z.2.2⟩]
    · rw [if_neg z]
      by_cases y : K = 6 ∧ i < c ∧ s = 1
      · rw [if_pos y, if_pos ⟨y.1, by omega, y.2.2⟩]
      · rw [if_neg y, if_neg (by omega)]
  refine ⟨_, ?_, e2.pR hR⟩
  have r1 : gR m 11 0 4 = some (57, 0) := h.r _ h1
  have z1 : gZ (sN (nW m 6 4) 6 c 1 1) 57 0 = some 3 := e2.z _ h2
  unfold b_X11_init_52
  rw [if_neg (by omega), nk_of r1, lt_eq, h6]
  unfold f_X6_init
  rw [lt_eq, bV_ok, stR_of z1 (by omega), tnc, ck_of ⟨by omega, by omega⟩]
  rfl
theorem press3 {k : MM → Option X} (h : In R Z a b 0 v m) (h1 : (11, 4, 57, 0) ∈ R) (h2 : (57, 3) ∈ Z) (hZ : ∀ q ∈ Z, q.1 ≠ 6) (hR : ∀ q ∈ R, q.1 ≠ 57) (hk : ∀ z, In ((57, 2, 6, 2) :: (57, 1, 6, 1) :: (57, 0, 6, 0) :: R) Z (a + 1 + 1 + 1) (b + 4 + 4 + 4) 3 (vpress 3 v) z → Ev (k z) Φ) : Ev ((lpb (fun s : Int × MM => b_X11_init_52 0 s.1 s.2) (0, m)).bind k) Φ := by
  have h0 : In R Z a b 0 (vpress 0 v) m := h.cv fun K i s => by unfold vpress; rw [if_neg (by omega)]
  obtain ⟨x1, e1, k1⟩ := press1 h0 h1 h2 (by omega) hZ (fun q hq z => hR q hq z.1)
  obtain ⟨x2, e2, k2⟩ := press1 k1 (List.mem_cons.mpr (Or.inr h1)) h2 (by omega) hZ (fun q hq z => by
    rcases List.mem_cons.mp hq with rfl | hq
    · exact absurd z.2 (by decide)
    · exact hR q hq z.1)
  obtain ⟨x3, e3, k3⟩ := press1 k2 (List.mem_cons.mpr (Or.inr (List.mem_cons.mpr (Or.inr h1)))) h2 (by omega) hZ (fun q hq z => by
    rcases List.mem_cons.mp hq with rfl | hq
    · exact absurd z.2 (by decide)
    · rcases List.mem_cons.mp hq with rfl | hq
      · exact absurd z.2 (by decide)
      · exact hR q hq z.1)
  have e4 : b_X11_init_52 0 ((2 + 1 : Nat) : Int) x3 = some (.inr x3) := by
    unfold b_X11_init_52
    rw [if_pos (by omega)]
  have e : lpb (fun s : Int × MM => b_X11_init_52 0 s.1 s.2) (((0 : Nat) : Int), m) = some x3 := by
    rw [lpb_eq]
    simp only
    rw [e1, Option.bind_some, Sum.elim_inl, lpb_eq]
    simp only
    rw [e2, Option.bind_some, Sum.elim_inl, lpb_eq]
    simp only
    rw [e3, Option.bind_some, Sum.elim_inl, lpb_eq]
    simp only
    rw [e4, Option.bind_some, Sum.elim_inr]
  have e' : lpb (fun s : Int × MM => b_X11_init_52 0 s.1 s.2) (0, m) = some x3 := e
  rw [e', Option.bind_some]
  exact hk x3 k3
/-- a row of three is made with x in it -/
def vrow (K : Nat) (x : Int) (v : Nat → Nat → Nat → Int) : Nat → Nat → Nat → Int := fun K' i s => if K' = K ∧ i = 0 ∧ s < 3 then x else v K' i s
theorem evR {K s : Nat} {x : Int} {f : MM → Option X} (h : In R Z a b c v m) (h6 : (∀ q ∈ Z, q.1 ≠ K) ∧ K ≠ 6 ∧ ∀ q ∈ R, ¬ (q.1 = 12 ∧ q.2.1 = s)) (k : ∀ m2, In ((12, s, K, 0) :: R) ((K, 3) :: Z) (a + 1) (b + 3) c (vrow K x v) m2 → Ev (f m2) Φ) :
    Ev (newA m K 3 fun m1 => stN m1 K (gC m K) 0 x fun m2 => stN m2 K (gC m K) 1 x fun m3 => stN m3 K (gC m K) 2 x fun m4 => lt' (sR m4 12 0 s (some (K, gC m K))) f) Φ := by
  obtain ⟨h1, h2, h5⟩ := h6
  have k1 := h.pW (n := 3) h1 h2
  have hz : gZ (nW m K 3) K 0 = some 3 := k1.z (K, 3) (List.mem_cons.mpr (Or.inl rfl))
  rw [newA_of ⟨by decide, by decide⟩, h.gc h2 h1, show (3 : Int).toNat = 3 from rfl, stN_of hz (by decide), stN_of (m := sN (nW m K 3) K 0 _ x) hz (by decide), stN_of (m := sN (sN (nW m K 3) K 0 _ x) K 0 _ x) hz (by decide), lt_eq]
  refine k _ (In.pR (In.cv (k1.pN.pN.pN (K := K) (i := 0) (s := (2 : Int).toNat) (x := x)) fun K' i s' => ?_) h5)
  unfold vrow
  simp only [show (0 : Int).toNat = 0 from rfl, show (1 : Int).toNat = 1 from rfl, show (2 : Int).toNat = 2 from rfl]
  by_cases z : K' = K ∧ i = 0 ∧ s' < 3
  · rw [if_pos z]
    obtain ⟨rfl, rfl, z3⟩ := z
    obtain rfl | rfl | rfl : s' = 0 ∨ s' = 1 ∨ s' = 2 := by omega
    all_goals simp
  · rw [if_neg z, if_neg (by omega), if_neg (by omega), if_neg (by omega)]
end INI
