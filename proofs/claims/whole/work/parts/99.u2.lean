/-! THE LAW: one call, from the call's lemma to the law's row. -/
section LAW
variable {N : Nat} {m : MM}
/-- what is asked of a call: on the memory of both, and on the model's own behind -/
def Ask (N : Nat) (m : MM) (o1 : MO) (f2 : MM → MO) (xs : List Nat) : Prop := ∀ mm, RR N m mm → CI mm → UI mm → ∃ r mc' b mm', o1 = some (r, mc') ∧ f2 mm = some (.inl (some (aI b)), mm') ∧ Ans xs r (gN mm' 12 0 0) b ∧ RR (N + 1) mc' mm' ∧ CI mm' ∧ UI mm'
theorem Ask.step {o1 : MO} {f2 : MM → MO} {xs : List Nat} (hA : Ask N m o1 f2 xs) (hI : Inv N m) (h1 : ∀ r mc', o1 = some (r, mc') → LFc m mc' ∧ PZ mc') (h2 : ∀ mo b mm', f2 mo = some (.inl (some (aI b)), mm') → LFm mo mm') :
    ∃ r mc', o1 = some (r, mc') ∧ LFc m mc' ∧ ∀ mo, (mo = mc' ∨ ∃ v, mo = sL mc' 131 0 0 v) → ∃ b mm', f2 mo = some (.inl (some (aI b)), mm') ∧ Ans xs r (gN mm' 12 0 0) b ∧ Inv (N + 1) mm' ∧ gL mm' 131 0 0 = gL mo 131 0 0 := by
  obtain ⟨r, mc', -, -, e1, -⟩ := hA m hI.rr hI.ci hI.ui
  obtain ⟨hF, hP⟩ := h1 r mc' e1
  refine ⟨r, mc', e1, hF, fun mo hmo => ?_⟩
  have k : ∀ K i, (K = 12 ∨ (59 ≤ K ∧ K ≤ 130)) → ∀ s, gN mo K i s = gN m K i s := fun K i hK s => by
    rcases hmo with rfl | ⟨v, rfl⟩ <;> exact (hF.1 K i s (by omega)).1
  obtain ⟨r', mc2, b, mm', a1, a2, a3, a4, a5, a6⟩ := hA mo (hI.rr.mo hF hmo) (fun j hj => by
    rw [k 12 0 (by omega)] at hj
    rw [k 105 0 (by omega), k 12 0 (by omega)]
    exact hI.ci j hj) (fun q hq => by
    rw [k 83 0 (by omega)] at hq
    rw [k 86 0 (by omega), k 87 0 (by omega)]
    exact hI.ui q hq)
  rw [e1] at a1
  cases a1
  obtain ⟨z1, z2⟩ := hI.next hF hmo (h2 mo b mm' a2) a4 hP a5 a6
  exact ⟨b, mm', a2, a3, z1, z2⟩
/-- codes of what is thrown -/
def Codes (xs : List Nat) (a b c : MM → MO) : Prop := ∀ k e : Nat, xs[k]? = some e → e ≤ 2 ∧ ∀ mx, xc a b c e mx = some (.inl (some (aI ((k + 1 : Nat) : Int))), mx)
abbrev LX : Type := Option ((Int × MM) ⊕ ((RV × MM) ⊕ MM))
/-- the law compares -/
noncomputable def cmpI (l4 : Int) (v13 : Int) (v18 : Int) (m17 : MM) : LX := (f_X12_thrown m17 0).bind fun v19 => if v19 = v13 then (if ¬ v13 = 0 then (ck (l4 + 6) <| some (.inl ((l4 + 6), m17))) else
  ldL m17 131 0 0 fun v20 => if (lcm' v20 (i2l v18)) = 0 then (ck (l4 + 6) <| some (.inl ((l4 + 6), m17))) else
  some (.inr (.inl (.inl (some (aI 0)), m17)))) else
  some (.inr (.inl (.inl (some (aI 0)), m17)))
def Row (N : Nat) (l4 : Int) (x : LX) : Prop := ∃ m', Inv (N + 1) m' ∧ x = some (.inl (l4 + 6, m'))
theorem Row.i {o1 : MO} {f2 : MM → MO} {xs : List Nat} {a b c : MM → MO} {l4 : Int} {k : Int → MM → LX} (hA : Ask N m o1 f2 xs) (hI : Inv N m) (h1 : ∀ r mc', o1 = some (r, mc') → LFc m mc' ∧ PZ mc') (h2 : ∀ mo b mm', f2 mo = some (.inl (some (aI b)), mm') → LFm mo mm') (hx : Codes xs a b c) (hl : 0 ≤ l4 ∧ l4 ≤ 3066)
    (hk : ∀ v m12, k v m12 = bI (f2 m12) (cmpI l4 v) x0) : Row N l4 (bI (bI o1 (fun v2 m1 => stL m1 131 0 0 (i2l v2) fun m3 => some (.inl (some (aI 0)), m3)) (xc a b c)) k x0) := by
  obtain ⟨r, mc', e1, hF, hs⟩ := hA.step hI h1 h2
  have ho : gZ mc' 131 0 = some 1 := by rw [hF.2.1 131 0 (by decide)]; exact hI.out
  by_cases hr : ∃ v, r = .inl (some (aI v))
  · obtain ⟨v, rfl⟩ := hr
    obtain ⟨b', mm', a1, a2, a3, a4⟩ := hs (sL mc' 131 0 0 (i2l v)) (Or.inr ⟨_, rfl⟩)
    rcases a2 with ⟨z1, z2⟩ | ⟨e, k', z1, -⟩
    · cases z1
      refine ⟨mm', a3, ?_⟩
      have hst : bI o1 (fun v2 m1 => stL m1 131 0 0 (i2l v2) fun m3 => some (.inl (some (aI 0)), m3)) (xc a b c) = some (.inl (some (aI 0)), sL mc' 131 0 0 (i2l v)) := by
        rw [e1, bI_ok]
        unfold stL
        rw [lenI_of ho, if_pos (by omega)]
        rfl
      have eg : gL (sL mc' 131 0 0 (i2l v)) 131 0 0 = i2l v := by rw [gL_sL, if_pos ⟨rfl, rfl, rfl⟩]
      rw [hst, bI_ok, hk, a1, bI_ok]
      unfold cmpI f_X12_thrown
      rw [Option.bind_some, z2, if_pos rfl, if_neg (fun z => z rfl), ldL_of a3.out (by omega), show (0 : Int).toNat = 0 from rfl, a4, eg, if_pos (lcm_zero.mpr rfl), ck_of ⟨by omega, by omega⟩]
    · cases z1
  · obtain ⟨b', mm', a1, a2, a3, a4⟩ := hs mc' (Or.inl rfl)
    rcases a2 with ⟨z1, -⟩ | ⟨e, k', z1, z2, z3⟩
    · exact absurd ⟨_, z1⟩ hr
    · subst z1
      refine ⟨mm', a3, ?_⟩
      obtain ⟨-, hxe⟩ := hx k' e z2
      have hst : bI o1 (fun v2 m1 => stL m1 131 0 0 (i2l v2) fun m3 => some (.inl (some (aI 0)), m3)) (xc a b c) = some (.inl (some (aI ((k' + 1 : Nat) : Int))), mc') := by
        rw [e1, bI_ex, hxe]
      rw [hst, bI_ok, hk, a1, bI_ok]
      unfold cmpI f_X12_thrown
      rw [Option.bind_some, z3, if_pos rfl, if_pos (by omega), ck_of ⟨by omega, by omega⟩]
/-- the same of a call that answers nothing -/
def AskV (N : Nat) (m : MM) (o1 : MO) (f2 : MM → MO) (xs : List Nat) : Prop := ∀ mm, RR N m mm → CI mm → UI mm → ∃ r mc' mm', o1 = some (r, mc') ∧ f2 mm = some (.inl none, mm') ∧ AnsV xs r (gN mm' 12 0 0) ∧ RR (N + 1) mc' mm' ∧ CI mm' ∧ UI mm'
noncomputable def cmpV (l4 : Int) (v13 : Int) (m17 : MM) : LX := (f_X12_thrown m17 0).bind fun v19 => if v19 = v13 then (ck (l4 + 6) <| some (.inl ((l4 + 6), m17))) else
  some (.inr (.inl (.inl (some (aI 0)), m17)))
theorem Row.v {o1 : MO} {f2 : MM → MO} {xs : List Nat} {a b c : MM → MO} {l4 : Int} {k : Int → MM → LX} (hA : AskV N m o1 f2 xs) (hI : Inv N m) (h1 : ∀ r mc', o1 = some (r, mc') → LFc m mc' ∧ PZ mc') (h2 : ∀ mo mm', f2 mo = some (.inl none, mm') → LFm mo mm') (hx : Codes xs a b c) (hl : 0 ≤ l4 ∧ l4 ≤ 3066)
    (hk : ∀ v m12, k v m12 = bV (f2 m12) (cmpV l4 v) x0) : Row N l4 (bI (bV o1 (fun m1 => some (.inl (some (aI 0)), m1)) (xc a b c)) k x0) := by
  obtain ⟨r, mc', -, e1, -⟩ := hA m hI.rr hI.ci hI.ui
  obtain ⟨hF, hP⟩ := h1 r mc' e1
  have kk : ∀ K i, (K = 12 ∨ (59 ≤ K ∧ K ≤ 130)) → ∀ s, gN mc' K i s = gN m K i s := fun K i hK s => (hF.1 K i s (by omega)).1
  obtain ⟨r', mc2, mm', a1, a2, a3, a4, a5, a6⟩ := hA mc' (hI.rr.mo hF (Or.inl rfl)) (fun j hj => by
    rw [kk 12 0 (by omega)] at hj
    rw [kk 105 0 (by omega), kk 12 0 (by omega)]
    exact hI.ci j hj) (fun q hq => by
    rw [kk 83 0 (by omega)] at hq
    rw [kk 86 0 (by omega), kk 87 0 (by omega)]
    exact hI.ui q hq)
  rw [e1] at a1
  cases a1
  obtain ⟨z1, -⟩ := hI.next hF (Or.inl rfl) (h2 mc' mm' a2) a4 hP a5 a6
  refine ⟨mm', z1, ?_⟩
  rcases a3 with ⟨rfl, y2⟩ | ⟨e, k', rfl, y2, y3⟩
  · have hst : bV o1 (fun m1 => some (.inl (some (aI 0)), m1)) (xc a b c) = some (.inl (some (aI 0)), mc') := by rw [e1, bV_ok]
    rw [hst, bI_ok, hk, a2, bV_ok]
    unfold cmpV f_X12_thrown
    rw [Option.bind_some, y2, if_pos rfl, ck_of ⟨by omega, by omega⟩]
  · obtain ⟨-, hxe⟩ := hx k' e y2
    have hst : bV o1 (fun m1 => some (.inl (some (aI 0)), m1)) (xc a b c) = some (.inl (some (aI ((k' + 1 : Nat) : Int))), mc') := by
      rw [e1, bV_ex, hxe]
    rw [hst, bI_ok, hk, a2, bV_ok]
    unfold cmpV f_X12_thrown
    rw [Option.bind_some, y3, if_pos rfl, ck_of ⟨by omega, by omega⟩]
/-- from the lemmas of the calls -/
theorem CalI.ask {o1 : MO} {f2 : MM → MO} {xs : List Nat} {S2 : List (Nat × Nat)} (h : ∀ mm, RR N m mm → CalI N o1 (f2 mm) xs) (h2 : ∀ mm, Pc (f2 mm) (RF S2 mm)) (s3 : S3ok S2) (s4 : S4ok S2) : Ask N m o1 f2 xs := fun mm hR hC hU => by
  obtain ⟨r, mc', b, mm', a1, a2, a3, a4⟩ := h mm hR
  have hF := h2 mm _ a2
  exact ⟨r, mc', b, mm', a1, a2, a3, a4, RF.CI hF s3 hC, RF.UI hF s4 hU⟩
theorem CalV.ask {o1 : MO} {f2 : MM → MO} {xs : List Nat} {S2 : List (Nat × Nat)} (h : ∀ mm, RR N m mm → CalV N o1 (f2 mm) xs) (h2 : ∀ mm, Pc (f2 mm) (RF S2 mm)) (s3 : S3ok S2) (s4 : S4ok S2) : AskV N m o1 f2 xs := fun mm hR hC hU => by
  obtain ⟨r, mc', mm', a1, a2, a3, a4⟩ := h mm hR
  have hF := h2 mm _ a2
  exact ⟨r, mc', mm', a1, a2, a3, a4, RF.CI hF s3 hC, RF.UI hF s4 hU⟩
theorem fr1 {o1 : MO} {S1 : List (Nat × Nat)} (h : Pc o1 (RF S1 m)) (hI : Inv N m) (s1 : S1ok S1) (s5 : ∀ q ∈ S1, q.1 ≠ 44) : ∀ r mc', o1 = some (r, mc') → LFc m mc' ∧ PZ mc' := fun r mc' e => ⟨RF.LFc (h _ e) s1, RF.PZ (h _ e) s5 hI.pz⟩
theorem fr2 {f2 : MM → MO} {S2 : List (Nat × Nat)} (h : ∀ mm, Pc (f2 mm) (RF S2 mm)) (s2 : S2ok S2) : ∀ mo b mm', f2 mo = some (.inl (some (aI b)), mm') → LFm mo mm' := fun mo b mm' e => RF.LFm (h mo _ e) s2
theorem fr2v {f2 : MM → MO} {S2 : List (Nat × Nat)} (h : ∀ mm, Pc (f2 mm) (RF S2 mm)) (s2 : S2ok S2) : ∀ mo mm', f2 mo = some (.inl none, mm') → LFm mo mm' := fun mo mm' e => RF.LFm (h mo _ e) s2
/-- a row of the law: the common case, all at once -/
theorem Row.std {o1 : MO} {f2 : MM → MO} {xs : List Nat} {S1 S2 : List (Nat × Nat)} {a b c : MM → MO} {l4 : Int} {k : Int → MM → LX} (hI : Inv N m) (hl : 0 ≤ l4 ∧ l4 ≤ 3066) (h1 : Pc o1 (RF S1 m)) (h2 : ∀ mm, Pc (f2 mm) (RF S2 mm)) (h : ∀ mm, RR N m mm → CalI N o1 (f2 mm) xs) (hx : Codes xs a b c) (s : S1ok S1 ∧ (∀ q ∈ S1, q.1 ≠ 44) ∧ S2ok S2 ∧ S3ok S2 ∧ S4ok S2)
    (hk : ∀ v m12, k v m12 = bI (f2 m12) (cmpI l4 v) x0) : Row N l4 (bI (bI o1 (fun v2 m1 => stL m1 131 0 0 (i2l v2) fun m3 => some (.inl (some (aI 0)), m3)) (xc a b c)) k x0) :=
  Row.i (CalI.ask h h2 s.2.2.2.1 s.2.2.2.2) hI (fr1 h1 hI s.1 s.2.1) (fr2 h2 s.2.2.1) hx hl hk
theorem Row.stdV {o1 : MO} {f2 : MM → MO} {xs : List Nat} {S1 S2 : List (Nat × Nat)} {a b c : MM → MO} {l4 : Int} {k : Int → MM → LX} (hI : Inv N m) (hl : 0 ≤ l4 ∧ l4 ≤ 3066) (h1 : Pc o1 (RF S1 m)) (h2 : ∀ mm, Pc (f2 mm) (RF S2 mm)) (h : ∀ mm, RR N m mm → CalV N o1 (f2 mm) xs) (hx : Codes xs a b c) (s : S1ok S1 ∧ (∀ q ∈ S1, q.1 ≠ 44) ∧ S2ok S2 ∧ S3ok S2 ∧ S4ok S2)
    (hk : ∀ v m12, k v m12 = bV (f2 m12) (cmpV l4 v) x0) : Row N l4 (bI (bV o1 (fun m1 => some (.inl (some (aI 0)), m1)) (xc a b c)) k x0) :=
  Row.v (CalV.ask h h2 s.2.2.2.1 s.2.2.2.2) hI (fr1 h1 hI s.1 s.2.1) (fr2v h2 s.2.2.1) hx hl hk
end LAW
