/-! MORE CALLS THAT ASK: alike, madeUp, page, line. -/
theorem choose2 {P : Nat → Nat → Int → Prop} {A B : Nat} (h : ∀ c p, c < A → p < B → ∃ v, P c p v) : ∃ st : Nat → Nat → Int, ∀ c p, c < A → p < B → P c p (st c p) := by
  refine ⟨fun c p => Classical.epsilon (P c p), fun c p hc hp => ?_⟩
  exact Classical.epsilon_spec (h c p hc hp)
theorem ior0 {x : Int} (h : nrm x) : ior' x 0 = x := by
  unfold ior'
  rw [show Int32.ofInt 0 = 0 from rfl, Int32.or_zero, ofT h]
theorem i32_nrm (x : Int32) : nrm x.toInt := ⟨Int32.le_toInt x, Int32.toInt_lt x⟩
theorem ior_nrm (x y : Int) : nrm (ior' x y) := i32_nrm _
def cntF (F p : Nat) : Nat → Nat
  | 0 => 0
  | k + 1 => cntF F p k + if fo F k = fo F p then 1 else 0
theorem cntF_le (F p : Nat) : ∀ k, cntF F p k ≤ k
  | 0 => Nat.le_refl _
  | k + 1 => by
    have := cntF_le F p k
    rw [cntF]
    split <;> omega
theorem cntF_pif {F p : Nat} (hF : F = 2 ∨ F = 4 ∨ F = 8) (hp : p < 16) : cntF F p p = pif F p := by
  have k2 : ∀ p : Fin 16, cntF 2 p p = pif 2 p := by decide
  have k4 : ∀ p : Fin 16, cntF 4 p p = pif 4 p := by decide
  have k8 : ∀ p : Fin 16, cntF 8 p p = pif 8 p := by decide
  rcases hF with rfl | rfl | rfl
  · exact k2 ⟨p, hp⟩
  · exact k4 ⟨p, hp⟩
  · exact k8 ⟨p, hp⟩
section ASK
variable {N : Nat} {mc mm : MM} {b F n M Ln E : Nat}
theorem hasSame_c {c c' P : Nat} {st : Nat → Nat → Int} (hS : BS mc b F n M Ln E) (hP2 : P = 2 * (F * n)) (hP16 : P ≤ 16) (h : ∀ p, p < P → f_X0_stateIn mc b (c : Int) (p : Int) = some (st c p)) (h' : ∀ p, p < P → f_X0_stateIn mc b (c' : Int) (p : Int) = some (st c' p)) :
    Ev (f_X0_hasSameStates mc b (c : Int) (c' : Int)) (fun v => (v = 1 ∧ ∀ p, p < P → st c p = st c' p) ∨ (v = 0 ∧ ∃ p, p < P ∧ st c p ≠ st c' p)) := by
  unfold f_X0_hasSameStates
  refine ev_lp (Sum.elim (fun r => r = 0 ∧ ∃ p, p < P ∧ st c p ≠ st c' p) fun _ => ∀ p, p < P → st c p = st c' p) (fun s => ∃ k : Nat, s = k ∧ k ≤ P ∧ ∀ p, p < k → st c p = st c' p) (fun s => P - s.toNat) ⟨0, rfl, by omega, fun p hp => absurd hp (by omega)⟩ ?_ ?_
  · rintro _ ⟨k, rfl, hk, hg⟩
    unfold b_X0_hasSameStates_2
    rw [nk_of hS.r5, lenI_of hS.z13, ← hP2]
    refine ev_if (fun hc => ev_exit fun p hp => hg p (by omega)) fun hc => ?_
    rw [h k (by omega), h' k (by omega), Option.bind_some, Option.bind_some]
    refine ev_if (fun he => ev_ck (by omega) (ev_back ⟨k + 1, by simp, by omega, fun p hp => ?_⟩ (by omega))) fun he => ev_exit ⟨rfl, k, by omega, he⟩
    by_cases q : p = k
    · rw [q]; exact he
    · exact hg p (by omega)
  · rintro (r | u) hx
    · exact ev_some (Or.inr hx)
    · exact ev_some (Or.inl ⟨rfl, hx⟩)
theorem hasSame_m {c c' P : Nat} {st : Nat → Nat → Int} {x y : Int} (hM : SM mm) (hP : BP mm b F n M Ln E) (hP2 : P = 2 * (F * n)) (hP16 : P ≤ 16) (h : ∀ p, p < P → f_X12_stateIn mm 0 (b : Int) (c : Int) (p : Int) = some (st c p)) (h' : ∀ p, p < P → f_X12_stateIn mm 0 (b : Int) (c' : Int) (p : Int) = some (st c' p)) :
    Ev (lpb (fun s : Int × Int => b_X12_alike_58 mm 0 (b : Int) (c : Int) x (c' : Int) s.1 s.2) (1, 0)) (fun v => (v = 1 ∧ ∀ p, p < P → st c p = st c' p) ∨ (v = 0 ∧ ∃ p, p < P ∧ st c p ≠ st c' p)) := by
  refine lpb_run (fun s : Int × Int => ∃ k : Nat, s.2 = k ∧ k ≤ P ∧ ((s.1 = 1 ∧ ∀ p, p < k → st c p = st c' p) ∨ (s.1 = 0 ∧ ∃ p, p < P ∧ st c p ≠ st c' p))) (fun s => P - s.2.toNat) ?_ _ ⟨0, rfl, by omega, Or.inl ⟨rfl, fun p hp => absurd hp (by omega)⟩⟩
  rintro ⟨a, _⟩ ⟨k, rfl, hk, hs⟩
  simp only at hs
  unfold b_X12_alike_58
  rw [pagesOf_m hM hP, Option.bind_some, ← hP2]
  rcases hs with ⟨rfl, hg⟩ | ⟨rfl, hg⟩
  · refine ev_if (fun hc => ev_exit (Or.inl ⟨rfl, fun p hp => hg p (by omega)⟩)) fun hc => ev_iff (show ¬ (1 : Int) = 0 by decide) ?_
    simp only at hc ⊢
    rw [h k (by omega), h' k (by omega), Option.bind_some, Option.bind_some]
    refine ev_if (fun he => ev_ck (by omega) (ev_back ⟨k + 1, by simp, by omega, Or.inr ⟨rfl, k, by omega, fun q => he q.symm⟩⟩ (by simp only; omega))) fun he => ev_ck (by omega) (ev_back ⟨k + 1, by simp, by omega, Or.inl ⟨rfl, fun p hp => ?_⟩⟩ (by simp only; omega))
    by_cases q : p = k
    · rw [q]; exact (Classical.not_not.mp he).symm
    · exact hg p (by omega)
  · exact ev_if (fun hc => ev_exit (Or.inr ⟨rfl, hg⟩)) fun hc => ev_ift rfl (ev_exit (Or.inr ⟨rfl, hg⟩))
theorem call_alike {a c : Int} (h : RR N mc mm) : Qry (f_X11_alike mc 0 a c) (f_X12_alike mm 0 a c) [0, 2] mc mm := by
  have m28 : ∀ t : Int, t ≠ 0 → j_X12_alike_0_28 mm 0 a c 0 t = some (.inl (some (aI 0)), sN mm 12 0 0 t) := fun t ht => by
    unfold j_X12_alike_0_28; rw [holds1 _ ht, bI_ok, if_neg (fun q => q rfl)]
  unfold f_X11_alike f_X12_alike
  by_cases hb : 0 ≤ a ∧ a < gN mm 12 0 19
  · obtain ⟨b, rfl⟩ := Int.ex hb.1
    obtain ⟨F, n, M, Ln, E, hB⟩ := h.Bk b hb.2
    have hP := hB.hP
    have hS := hB.hS
    rw [bookAt_ok h.Nb h.C hb.2, bR_ok, nk_some]
    by_cases hc : 0 ≤ c ∧ c < (E : Nat)
    · obtain ⟨c, rfl⟩ := Int.ex hc.1
      have hc2 : c < E := by omega
      rw [hasCopy_ok hB.hS hc2, Option.bind_some, rqI _ (by decide), bV_ok, isCopy_ok h.Nb h.M hP hb.2 hc2, Option.bind_some, if_pos (by decide), nk_of h.M.r26, ldN_of h.M.z79 (by have := hP.hb; omega), tnc, (hB.lv.bd).1]
      rcases hB.lv.bd.2 with hbd | hbd
      · rw [hbd, rqS0, bV_ex, if_pos rfl, m28 2 (by decide)]
        exact Qry.bad (k := 1) rfl rfl rfl
      · rw [hbd, rqS _ (by decide), bV_ok, if_neg (by decide)]
        unfold j_X12_alike_0_28
        rw [holds0, bI_ok, if_pos (by decide)]
        have hM := h.M.thr 0
        have hB0 := hB.thr 0
        have hbd0 : gN (sN mm 12 0 0 0) 79 0 b = 1 := by rw [gthr' _ _ (Or.inl (by decide))]; exact hbd
        have hP0 := hB0.hP
        have hb3 := hP.hb
        have hE := hP.hE
        have hn := hP.hn
        obtain ⟨st, hst⟩ := choose2 (A := E) (B := 2 * (F * n)) (P := fun c p v => f_X0_stateIn mc b (c : Int) (p : Int) = some v ∧ f_X12_stateIn (sN mm 12 0 0 0) 0 (b : Int) (c : Int) (p : Int) = some v) fun c p h1 h2 => by
          obtain ⟨v, e1, e2, -⟩ := stateIn_same hM hB0 hbd0 h1 h2
          exact ⟨v, e1, e2⟩
        obtain ⟨v, e1, e2, -⟩ := lpb_same (b := fun s : Int × Int => b_X11_alike_27 mc (c : Int) b s.1 s.2) (c := fun s => b_X12_alike_41 (sN mm 12 0 0 0) 0 (b : Int) (c : Int) s.1 s.2) (fun s => ∃ k : Nat, s.2 = k ∧ k ≤ E ∧ 0 ≤ s.1 ∧ s.1 ≤ k) (fun s => E - s.2.toNat) (fun _ => True) (by
          rintro ⟨x, _⟩ ⟨k, rfl, hk, hx1, hx2⟩
          simp only at hx1 hx2
          show ∃ z, b_X11_alike_27 mc (c : Int) b x (k : Int) = some z ∧ b_X12_alike_41 (sN mm 12 0 0 0) 0 (b : Int) (c : Int) x (k : Int) = some z ∧ _
          unfold b_X11_alike_27 b_X12_alike_41
          rw [hS.f3, nk_of hM.r24, ldN_of hM.z77 (by omega), tnc, hP0.e]
          by_cases hq : (E : Int) ≤ k
          · rw [if_pos hq, if_pos hq]
            exact ⟨_, rfl, rfl, fun s' q => (by cases q), fun _ _ => trivial⟩
          · have hk2 : k < E := by omega
            rw [if_neg hq, if_neg hq]
            obtain ⟨v1, g1, g2⟩ := hasSame_c (c := c) (c' := k) (st := st) hS rfl (by omega) (fun p hp => (hst c p hc2 hp).1) (fun p hp => (hst k p hk2 hp).1)
            obtain ⟨v2, g3, g4⟩ := hasSame_m (c := c) (c' := k) (st := st) (x := x) (y := 0) hM hP0 rfl (by omega) (fun p hp => (hst c p hc2 hp).2) (fun p hp => (hst k p hk2 hp).2)
            rw [g1, g3, Option.bind_some, Option.bind_some]
            unfold j_X12_alike_41_106
            rcases g2 with ⟨rfl, g2⟩ | ⟨rfl, j, j1, j2⟩ <;> rcases g4 with ⟨rfl, g4⟩ | ⟨rfl, j', j1', j2'⟩
            · rw [if_neg (by decide), if_neg (by decide)]
              simp (disch := omega) only [ck_of]
              exact ⟨_, rfl, rfl, fun s' q => (by cases q; exact ⟨⟨k + 1, by simp, by omega, by simp only; omega, by simp only; omega⟩, by simp only; omega⟩), fun _ q => (by cases q)⟩
            · exact absurd (g2 j' j1') j2'
            · exact absurd (g4 j j1) j2
            · rw [if_pos rfl, if_pos rfl, Int.add_zero]
              simp (disch := omega) only [ck_of]
              exact ⟨_, rfl, rfl, fun s' q => (by cases q; exact ⟨⟨k + 1, by simp, by omega, by simp only; omega, by simp only; omega⟩, by simp only; omega⟩), fun _ q => (by cases q)⟩) (0, 0) ⟨0, rfl, by omega, by simp only; omega, by simp only; omega⟩
        rw [e1, e2]
        exact Qry.ok rfl rfl
    · rw [hasCopy_bad hB.hS hc, Option.bind_some, rqI0, bV_ex, isCopy_bad h.Nb h.M hP hb.2 hc, Option.bind_some, if_neg (fun q => q rfl), m28 1 (by decide)]
      exact Qry.bad (k := 0) rfl rfl rfl
  · rw [bookAt_bad h.Nb h.C hb, bR_ex, isCopy_b0 h.Nb hb, Option.bind_some, if_neg (fun q => q rfl), m28 1 (by decide)]
    exact Qry.bad (k := 0) rfl rfl rfl
/-- leaves of a sheet from more than one sheet of the heap -/
def MixD (v : Nat → Int) (lo hi : Nat) : Prop := ∃ i j, lo ≤ i ∧ i < hi ∧ lo ≤ j ∧ j < hi ∧ v i ≠ -1 ∧ v j ≠ -1 ∧ v i ≠ v j
theorem isMixed_c {c s : Nat} {v : Nat → Int} (hP : BP mm b F n M Ln E) (hS : BS mc b F n M Ln E) (hc : c < E) (hs : s < n) (hv : ∀ l, l < F * n → gN mc 18 (24 * b + c) l = v l) :
    Ev (f_X0_isMixed mc b (c : Int) (s : Int)) (fun r => (r = 1 ∧ MixD v (F * s) (F * (s + 1))) ∨ (r = 0 ∧ ¬ MixD v (F * s) (F * (s + 1)))) := by
  have hn := hP.hn
  have hE := hP.hE
  have e1 : (s : Int) * (F : Int) = ((F * s : Nat) : Int) := by rw [Int.mul_comm, mulc]
  have e2 : ((s : Int) + 1) * (F : Int) = ((F * (s + 1) : Nat) : Int) := by rw [Int.mul_comm, ← mulc]; rfl
  have h3 : F * (s + 1) ≤ F * n := Nat.mul_le_mul_left F hs
  have h4 : F * s ≤ F * (s + 1) := Nat.mul_le_mul_left F (by omega)
  unfold f_X0_isMixed
  rw [hS.f0, e1, ck_of ⟨by omega, by omega⟩]
  refine ev_lp (Sum.elim (fun r => r = 1 ∧ MixD v (F * s) (F * (s + 1))) fun _ => ¬ MixD v (F * s) (F * (s + 1))) (fun z => ∃ k : Nat, z.2 = k ∧ F * s ≤ k ∧ k ≤ F * (s + 1) ∧ ((z.1 = -1 ∧ ∀ i, F * s ≤ i → i < k → v i = -1) ∨ (z.1 ≠ -1 ∧ (∃ i, F * s ≤ i ∧ i < k ∧ v i = z.1) ∧ ∀ i, F * s ≤ i → i < k → v i = -1 ∨ v i = z.1))) (fun z => F * (s + 1) - z.2.toNat) ⟨F * s, rfl, by omega, by omega, Or.inl ⟨rfl, fun i h1 h2 => by omega⟩⟩ ?_ ?_
  · rintro ⟨a, _⟩ ⟨k, rfl, hk1, hk2, hs'⟩
    simp only at hs'
    unfold b_X0_isMixed_10
    rw [hS.f0, e2, ck_of ⟨by omega, by omega⟩]
    refine ev_if (fun hq => ev_exit ?_) fun hq => ?_
    · rintro ⟨i, j, i1, i2, j1, j2, i3, j3, h5⟩
      rcases hs' with ⟨z1, z2⟩ | ⟨z1, z2, z3⟩
      · exact i3 (z2 i i1 (by omega))
      · have := z3 i i1 (by omega)
        have := z3 j j1 (by omega)
        omega
    · simp only at hq
      have hk3 : k < F * (s + 1) := by omega
      rw [nk_of hS.r9, ldR_of hS.z17 (by omega), tnc, hS.e17 c hc, nk_some, ldN_of (hS.z18 c hc) (by omega), tnc, hv k (by omega)]
      unfold j_X0_isMixed_10_53
      by_cases hv1 : v k = -1
      · refine ev_ift hv1 (ev_iff (fun q => q hv1) (ev_ck (by omega) (ev_back ⟨k + 1, by simp, by omega, by omega, ?_⟩ (by simp only; omega))))
        rcases hs' with ⟨z1, z2⟩ | ⟨z1, ⟨i, i1, i2, i3⟩, z3⟩
        · refine Or.inl ⟨z1, fun i h1 h2 => ?_⟩
          by_cases q : i = k
          · rw [q]; exact hv1
          · exact z2 i h1 (by omega)
        · refine Or.inr ⟨z1, ⟨i, i1, by omega, i3⟩, fun i h1 h2 => ?_⟩
          by_cases q : i = k
          · rw [q]; exact Or.inl hv1
          · exact z3 i h1 (by omega)
      · refine ev_iff hv1 ?_
        rcases hs' with ⟨z1, z2⟩ | ⟨z1, ⟨i, i1, i2, i3⟩, z3⟩
        · refine ev_ift z1 (ev_ift hv1 (ev_ck (by omega) (ev_back ⟨k + 1, by simp, by omega, by omega, Or.inr ⟨hv1, ⟨k, hk1, by omega, rfl⟩, fun i h1 h2 => ?_⟩⟩ (by simp only; omega))))
          by_cases q : i = k
          · rw [q]; exact Or.inr rfl
          · exact Or.inl (z2 i h1 (by omega))
        · refine ev_iff z1 (ev_if (fun he => ev_ift hv1 (ev_ck (by omega) (ev_back ⟨k + 1, by simp, by omega, by omega, Or.inr ⟨hv1, ⟨k, hk1, by omega, rfl⟩, fun i h1 h2 => ?_⟩⟩ (by simp only; omega)))) fun he => ev_exit ⟨rfl, k, i, hk1, hk3, i1, by omega, hv1, by rw [i3]; exact z1, by rw [i3]; exact he⟩)
          by_cases q : i = k
          · rw [q]; exact Or.inr rfl
          · simp only at he ⊢
            rw [he]; exact z3 i h1 (by omega)
  · rintro (r | u) hx
    · exact ev_some (Or.inl hx)
    · exact ev_some (Or.inr ⟨rfl, hx⟩)
theorem mixed_m {c s : Nat} {v : Nat → Int} {x : Int} (hM : SM mm) (hP : BP mm b F n M Ln E) (hc : c < E) (hs : s < n) (hv : ∀ l, l < F * n → gN mm 126 0 (8 * (24 * b + c) + l) = v l ∧ -1 ≤ v l ∧ v l < 24) :
    Ev (lpb (fun z : Int × Int × Int => b_X12_madeUp_70 mm 0 (b : Int) (c : Int) x (s : Int) z.1 z.2.1 z.2.2) (24, (-1), ((F : Int) * (s : Int)))) (fun r => (r.1 < r.2 ↔ MixD v (F * s) (F * (s + 1)))) := by
  have hn := hP.hn
  have hE := hP.hE
  have hb3 := hP.hb
  have e2 : (F : Int) * ((s : Int) + 1) = ((F * (s + 1) : Nat) : Int) := by rw [← mulc]; rfl
  have h3 : F * (s + 1) ≤ F * n := Nat.mul_le_mul_left F hs
  have h4 : F * s ≤ F * (s + 1) := Nat.mul_le_mul_left F (by omega)
  rw [mulc]
  refine lpb_run (fun z : Int × Int × Int => ∃ k : Nat, z.2.2 = k ∧ F * s ≤ k ∧ k ≤ F * (s + 1) ∧ ((z.1 = 24 ∧ z.2.1 = -1 ∧ ∀ i, F * s ≤ i → i < k → v i = -1) ∨ ((∃ i, F * s ≤ i ∧ i < k ∧ v i = z.1 ∧ z.1 ≠ -1) ∧ (∃ i, F * s ≤ i ∧ i < k ∧ v i = z.2.1 ∧ z.2.1 ≠ -1) ∧ ∀ i, F * s ≤ i → i < k → v i = -1 ∨ (z.1 ≤ v i ∧ v i ≤ z.2.1)))) (fun z => F * (s + 1) - z.2.2.toNat) ?_ _ ⟨F * s, rfl, by omega, by omega, Or.inl ⟨rfl, rfl, fun i h1 h2 => by omega⟩⟩
  rintro ⟨lo, hi, _⟩ ⟨k, rfl, hk1, hk2, hs'⟩
  simp only at hs'
  show Ev (b_X12_madeUp_70 mm 0 (b : Int) (c : Int) x (s : Int) lo hi (k : Int)) _
  unfold b_X12_madeUp_70
  rw [nk_of hM.r20, ldN_of hM.z73 (by omega), tnc, hP.f, e2, ck_of ⟨by omega, by omega⟩]
  refine ev_if (fun hq => ev_exit ?_) fun hq => ?_
  · simp only at hq ⊢
    rcases hs' with ⟨z1, z2, z3⟩ | ⟨⟨i, i1, i2, i3, i4⟩, ⟨j, j1, j2, j3, j4⟩, z3⟩
    · refine ⟨fun q => by omega, fun ⟨i, j, a1, a2, a3, a4, a5, a6, a7⟩ => absurd (z3 i a1 (by omega)) a5⟩
    · refine ⟨fun q => ⟨i, j, i1, by omega, j1, by omega, by omega, by omega, by omega⟩, fun ⟨i, j, a1, a2, a3, a4, a5, a6, a7⟩ => ?_⟩
      have := z3 i a1 (by omega)
      have := z3 j a3 (by omega)
      omega
  · have hk3 : k < F * (s + 1) := by omega
    obtain ⟨w1, w2, w3⟩ := hv k (by omega)
    rw [nk_of hM.r76, leafAt_m _ b c k hb3 (by omega) (by omega), Option.bind_some, ldN_of hM.z126 (by omega), tnc, w1]
    unfold j_X12_madeUp_70_118 j_X12_madeUp_70_120
    by_cases hv1 : v k = -1
    · refine ev_ift hv1 ?_
      have hle : v k ≤ hi := by
        rcases hs' with ⟨z1, z2, z3⟩ | ⟨_, ⟨j, j1, j2, j3, j4⟩, _⟩
        · omega
        · have := hv j (by omega); omega
      refine ev_ift hle (ev_ck (by omega) (ev_back ⟨k + 1, by simp, by omega, by omega, ?_⟩ (by simp only; omega)))
      rcases hs' with ⟨z1, z2, z3⟩ | ⟨⟨i, i1, i2, i3, i4⟩, ⟨j, j1, j2, j3, j4⟩, z3⟩
      · refine Or.inl ⟨z1, z2, fun i h1 h2 => ?_⟩
        by_cases q : i = k
        · rw [q]; exact hv1
        · exact z3 i h1 (by omega)
      · refine Or.inr ⟨⟨i, i1, by omega, i3, i4⟩, ⟨j, j1, by omega, j3, j4⟩, fun i h1 h2 => ?_⟩
        by_cases q : i = k
        · rw [q]; exact Or.inl hv1
        · exact z3 i h1 (by omega)
    · refine ev_iff hv1 ?_
      rcases hs' with ⟨rfl, rfl, z3⟩ | ⟨⟨i, i1, i2, i3, i4⟩, ⟨j, j1, j2, j3, j4⟩, z3⟩
      · refine ev_iff (by omega) (ev_iff (by omega) (ev_ck (by omega) (ev_back ⟨k + 1, by simp, by omega, by omega, Or.inr ⟨⟨k, hk1, by omega, rfl, hv1⟩, ⟨k, hk1, by omega, rfl, hv1⟩, fun i h1 h2 => ?_⟩⟩ (by simp only; omega))))
        by_cases q : i = k
        · rw [q]; exact Or.inr ⟨Int.le_refl _, Int.le_refl _⟩
        · exact Or.inl (z3 i h1 (by omega))
      · have hor : ∀ i', F * s ≤ i' → i' < k + 1 → v i' = -1 ∨ ((if lo ≤ v k then lo else v k) ≤ v i' ∧ v i' ≤ (if v k ≤ hi then hi else v k)) := by
          intro i' h1 h2
          by_cases q : i' = k
          · rw [q]; right; constructor <;> split <;> omega
          · rcases z3 i' h1 (by omega) with z | z
            · exact Or.inl z
            · right; constructor <;> split <;> omega
        refine ev_if (fun hlo => ?_) fun hlo => ?_
        · rw [if_pos hlo] at hor
          refine ev_if (fun hhi => ?_) fun hhi => ?_
          · rw [if_pos hhi] at hor
            exact ev_ck (by omega) (ev_back ⟨k + 1, by simp, by omega, by omega, Or.inr ⟨⟨i, i1, by omega, i3, i4⟩, ⟨j, j1, by omega, j3, j4⟩, hor⟩⟩ (by simp only; omega))
          · rw [if_neg hhi] at hor
            exact ev_ck (by omega) (ev_back ⟨k + 1, by simp, by omega, by omega, Or.inr ⟨⟨i, i1, by omega, i3, i4⟩, ⟨k, hk1, by omega, rfl, hv1⟩, hor⟩⟩ (by simp only; omega))
        · rw [if_neg hlo] at hor
          refine ev_if (fun hhi => ?_) fun hhi => ?_
          · rw [if_pos hhi] at hor
            exact ev_ck (by omega) (ev_back ⟨k + 1, by simp, by omega, by omega, Or.inr ⟨⟨k, hk1, by omega, rfl, hv1⟩, ⟨j, j1, by omega, j3, j4⟩, hor⟩⟩ (by simp only; omega))
          · rw [if_neg hhi] at hor
            exact ev_ck (by omega) (ev_back ⟨k + 1, by simp, by omega, by omega, Or.inr ⟨⟨k, hk1, by omega, rfl, hv1⟩, ⟨k, hk1, by omega, rfl, hv1⟩, hor⟩⟩ (by simp only; omega))
theorem call_madeUp {a c : Int} (h : RR N mc mm) : Qry (f_X11_madeUp mc 0 a c) (f_X12_madeUp mm 0 a c) [0, 2] mc mm := by
  have m28 : ∀ t : Int, t ≠ 0 → j_X12_madeUp_0_28 mm 0 a c 0 t = some (.inl (some (aI 0)), sN mm 12 0 0 t) := fun t ht => by
    unfold j_X12_madeUp_0_28; rw [holds1 _ ht, bI_ok, if_neg (fun q => q rfl)]
  unfold f_X11_madeUp f_X12_madeUp
  by_cases hb : 0 ≤ a ∧ a < gN mm 12 0 19
  · obtain ⟨b, rfl⟩ := Int.ex hb.1
    obtain ⟨F, n, M, Ln, E, hB⟩ := h.Bk b hb.2
    have hP := hB.hP
    have hS := hB.hS
    rw [bookAt_ok h.Nb h.C hb.2, bR_ok, nk_some]
    by_cases hc : 0 ≤ c ∧ c < (E : Nat)
    · obtain ⟨c, rfl⟩ := Int.ex hc.1
      have hc2 : c < E := by omega
      rw [hasCopy_ok hB.hS hc2, Option.bind_some, rqI _ (by decide), bV_ok, isCopy_ok h.Nb h.M hP hb.2 hc2, Option.bind_some, if_pos (by decide), nk_of h.M.r26, ldN_of h.M.z79 (by have := hP.hb; omega), tnc, (hB.lv.bd).1]
      rcases hB.lv.bd.2 with hbd | hbd
      · rw [hbd, rqS0, bV_ex, if_pos rfl, m28 2 (by decide)]
        exact Qry.bad (k := 1) rfl rfl rfl
      · rw [hbd, rqS _ (by decide), bV_ok, if_neg (by decide)]
        unfold j_X12_madeUp_0_28
        rw [holds0, bI_ok, if_pos (by decide)]
        have hM := h.M.thr 0
        have hB0 := hB.thr 0
        have hbd0 : gN (sN mm 12 0 0 0) 79 0 b = 1 := by rw [gthr' _ _ (Or.inl (by decide))]; exact hbd
        have hP0 := hB0.hP
        have hb3 := hP.hb
        have hE := hP.hE
        have hn := hP.hn
        have hF := hP.hF
        obtain ⟨v, e1, e2, -⟩ := lpb_same (b := fun s : Int × Int => b_X11_madeUp_27 mc (c : Int) b s.1 s.2) (c := fun s => b_X12_madeUp_41 (sN mm 12 0 0 0) 0 (b : Int) (c : Int) s.1 s.2) (fun s => ∃ k : Nat, s.2 = k ∧ k ≤ n ∧ 0 ≤ s.1 ∧ s.1 ≤ k) (fun s => n - s.2.toNat) (fun _ => True) (by
          rintro ⟨x, _⟩ ⟨k, rfl, hk, hx1, hx2⟩
          simp only at hx1 hx2
          show ∃ z, b_X11_madeUp_27 mc (c : Int) b x (k : Int) = some z ∧ b_X12_madeUp_41 (sN mm 12 0 0 0) 0 (b : Int) (c : Int) x (k : Int) = some z ∧ _
          unfold b_X11_madeUp_27 b_X12_madeUp_41
          rw [nk_of hS.r7, lenI_of hS.z15, nk_of hM.r21, ldN_of hM.z74 (by omega), tnc, hP0.n]
          by_cases hq : (n : Int) ≤ k
          · rw [if_pos hq, if_pos hq]
            exact ⟨_, rfl, rfl, fun s' q => (by cases q), fun _ _ => trivial⟩
          · have hk2 : k < n := by omega
            have h3 : F * (k + 1) ≤ F * n := Nat.mul_le_mul_left F hk2
            have h4 : F * k ≤ F * (k + 1) := Nat.mul_le_mul_left F (by omega)
            rw [if_neg hq, if_neg hq, nk_of hM.r20, ldN_of hM.z73 (by omega), tnc, hP0.f]
            rw [show (F : Int) * (k : Int) = ((F * k : Nat) : Int) from mulc _ _, ck_of ⟨by omega, by omega⟩, ← mulc]
            obtain ⟨v1, g1, g2⟩ := isMixed_c (c := c) (s := k) (v := fun l => gN (sN mm 12 0 0 0) 126 0 (8 * (24 * b + c) + l)) hP hS hc2 hk2 (fun l hl => (hB0.lv.l hbd0 c l hc2 hl).1)
            obtain ⟨v2, g3, g4⟩ := mixed_m (c := c) (s := k) (x := x) (v := fun l => gN (sN mm 12 0 0 0) 126 0 (8 * (24 * b + c) + l)) hM hP0 hc2 hk2 (fun l hl => ⟨rfl, (hB0.lv.l hbd0 c l hc2 hl).2.1, by have := (hB0.lv.l hbd0 c l hc2 hl).2.2; omega⟩)
            rw [g1, g3, Option.bind_some, Option.bind_some]
            unfold j_X12_madeUp_41_144
            rcases g2 with ⟨rfl, g2⟩ | ⟨rfl, g2⟩
            · have := g4.mpr g2
              rw [if_neg (by decide), if_neg (by omega)]
              simp (disch := omega) only [ck_of]
              exact ⟨_, rfl, rfl, fun s' q => (by cases q; exact ⟨⟨k + 1, by simp, by omega, by simp only; omega, by simp only; omega⟩, by simp only; omega⟩), fun _ q => (by cases q)⟩
            · have : ¬ v2.1 < v2.2 := fun q => g2 (g4.mp q)
              rw [if_pos rfl, if_pos (by omega), Int.add_zero]
              simp (disch := omega) only [ck_of]
              exact ⟨_, rfl, rfl, fun s' q => (by cases q; exact ⟨⟨k + 1, by simp, by omega, by simp only; omega, by simp only; omega⟩, by simp only; omega⟩), fun _ q => (by cases q)⟩) (0, 0) ⟨0, rfl, by omega, by simp only; omega, by simp only; omega⟩
        rw [e1, e2]
        exact Qry.ok rfl rfl
    · rw [hasCopy_bad hB.hS hc, Option.bind_some, rqI0, bV_ex, isCopy_bad h.Nb h.M hP hb.2 hc, Option.bind_some, if_neg (fun q => q rfl), m28 1 (by decide)]
      exact Qry.bad (k := 0) rfl rfl rfl
  · rw [bookAt_bad h.Nb h.C hb, bR_ex, isCopy_b0 h.Nb hb, Option.bind_some, if_neg (fun q => q rfl), m28 1 (by decide)]
    exact Qry.bad (k := 0) rfl rfl rfl
end ASK
