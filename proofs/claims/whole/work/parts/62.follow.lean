/-! FOLLOW. -/
/-- words on the first pages -/
def wS (mm : MM) (b : Nat) : Nat → Int
  | 0 => 0
  | p + 1 => wS mm b p + gN mm 89 0 (16 * b + p)
section FOLLOW
variable {N : Nat} {mc mm : MM} {b F n M Ln E : Nat}
theorem wS_b (hB : RBk mc mm b F n M Ln E) : ∀ p : Nat, p ≤ 2 * (F * n) → 0 ≤ wS mm b p ∧ wS mm b p ≤ 60 * p
  | 0, _ => by show (0 : Int) ≤ 0 ∧ (0 : Int) ≤ _; omega
  | p + 1, hp => by
    have h1 := wS_b hB p (by omega)
    have h2 := (hB.pg p (by omega)).wn
    show 0 ≤ wS mm b p + _ ∧ wS mm b p + _ ≤ _
    omega
theorem wS_le (hB : RBk mc mm b F n M Ln E) : ∀ p : Nat, p ≤ 2 * (F * n) → wS mm b p ≤ gN mm 80 0 b := by
  have h80 := hB.tx.cnt
  by_cases h78 : gN mm 78 0 b = 0
  · have key : ∀ p : Nat, p ≤ 2 * (F * n) → wS mm b p ≤ gN mm 80 0 b ∧ (p ≠ 0 → gN mm 83 0 (16 * b + (p - 1)) = 1 → wS mm b p ≤ gN mm 85 0 (16 * b + (p - 1))) := by
      intro p
      induction p with
      | zero => exact fun _ => ⟨h80.2.1, fun q => absurd rfl q⟩
      | succ p ih =>
        intro hp
        obtain ⟨i1, i2⟩ := ih (by omega)
        have hg := hB.pg p (by omega)
        have ho := hB.po p (by omega)
        have hst := hg.st
        have hth := hg.th
        have hs : wS mm b (p + 1) = wS mm b p + gN mm 89 0 (16 * b + p) := rfl
        rw [hs, Nat.add_sub_cancel]
        by_cases q : gN mm 83 0 (16 * b + p) = 1
        · have hx : wS mm b p + gN mm 89 0 (16 * b + p) ≤ gN mm 85 0 (16 * b + p) := by
            by_cases qp : p = 0
            · have := ho.a q h78 qp
              subst qp
              show (0 : Int) + _ ≤ _
              omega
            · obtain ⟨o1, o2⟩ := ho.b q h78 qp
              have := i2 qp o1
              omega
          exact ⟨by omega, fun _ _ => hx⟩
        · have hu := hg.un (by omega)
          exact ⟨by omega, fun _ z => absurd z q⟩
    exact fun p hp => (key p hp).1
  · have hpb := hB.tx.pb h78
    have hcn : ((gN mm 80 0 b).toNat : Int) = gN mm 80 0 b := by omega
    have key : ∀ p : Nat, p ≤ 2 * (F * n) → wS mm b p ≤ gN mm 80 0 b ∧ (p < 2 * (F * n) → wS mm b p ≤ gN mc 16 b p) := by
      intro p
      induction p with
      | zero =>
        intro _
        refine ⟨h80.2.1, fun hp => ?_⟩
        obtain ⟨k, hk, -⟩ := hpb 0 hp
        rw [hk]
        show (0 : Int) ≤ _
        omega
      | succ p ih =>
        intro hp
        obtain ⟨i1, i2⟩ := ih (by omega)
        have i3 := i2 (by omega)
        have hg := hB.pg p (by omega)
        have ho := hB.po p (by omega)
        have hst := hg.st
        have hth := hg.th
        have hs : wS mm b (p + 1) = wS mm b p + gN mm 89 0 (16 * b + p) := rfl
        rw [hs]
        obtain ⟨k, hk, c1⟩ := hpb p (by omega)
        by_cases q : gN mm 83 0 (16 * b + p) = 1
        · have := ho.c q h78
          refine ⟨by omega, fun z => ?_⟩
          have := ho.d q h78 z
          omega
        · have hu := hg.un (by omega)
          have := c1.1
          refine ⟨by omega, fun z => ?_⟩
          obtain ⟨k', hk', c2⟩ := hpb (p + 1) z
          have := c1.mono c2 (Nat.mul_le_mul_right _ (Nat.le_succ p))
          omega
    exact fun p hp => (key p hp).1
theorem wordsOn_c (hB : RBk mc mm b F n M Ln E) : f_X0_wordsOnPages mc b = some (wS mm b (2 * (F * n))) := by
  have hS := hB.hS
  have hn := hB.hP.hn
  apply ev_eq
  unfold f_X0_wordsOnPages
  rw [nk_of hS.r5, lenI_of hS.z13]
  refine ev_lp (fun z => z = wS mm b (2 * (F * n))) (fun s => ∃ k : Nat, s = (wS mm b k, (k : Int)) ∧ k ≤ 2 * (F * n)) (fun s => 2 * (F * n) - s.2.toNat) ⟨0, rfl, by omega⟩ ?_ ?_
  · rintro _ ⟨k, rfl, hk⟩
    show Ev (b_X0_wordsOnPages_13 mc b _ (wS mm b k) (k : Int)) _
    unfold b_X0_wordsOnPages_13
    refine ev_if (fun hc => ev_exit (by rw [show k = 2 * (F * n) by omega])) fun hc => ?_
    have h1 := wS_b hB k hk
    have h2 := (hB.pg k (by omega)).wn
    rw [ldR_of hS.z13 (by omega), tnc, hS.e13 k (by omega), nk_some, h2.1]
    exact ev_ck (by omega) (ev_ck (by omega) (ev_back ⟨k + 1, by simp [wS], by omega⟩ (by simp only; omega)))
  · rintro z rfl
    exact ev_some rfl
theorem wordsOn_m (hM : SM mm) (hB : RBk mc mm b F n M Ln E) : f_X12_wordsOn mm 0 (b : Int) = some (wS mm b (2 * (F * n))) := by
  have hP := hB.hP
  have hn := hP.hn
  have hb := hP.hb
  apply ev_eq
  unfold f_X12_wordsOn
  refine ev_lp (fun z => z = wS mm b (2 * (F * n))) (fun s => ∃ k : Nat, s = (wS mm b k, (k : Int)) ∧ k ≤ 2 * (F * n)) (fun s => 2 * (F * n) - s.2.toNat) ⟨0, rfl, by omega⟩ ?_ ?_
  · rintro _ ⟨k, rfl, hk⟩
    show Ev (b_X12_wordsOn_4 mm 0 (b : Int) (wS mm b k) (k : Int)) _
    unfold b_X12_wordsOn_4
    rw [pagesOf_m hM hP, Option.bind_some]
    refine ev_if (fun hc => ev_exit (by rw [show k = 2 * (F * n) by omega])) fun hc => ?_
    have h1 := wS_b hB k hk
    have hg := hB.pg k (by omega)
    have h2 := hg.wn
    rw [nk_of hM.r30, ldN_of hM.z83 (by omega), tn16]
    refine ev_if (fun hd => ?_) fun hd => ?_
    · have := (hg.un hd).2.1
      exact ev_ck (by omega) (ev_ck (by omega) (ev_back ⟨k + 1, by simp [wS, this], by omega⟩ (by simp only; omega)))
    · rw [nk_of hM.r36, ldN_of hM.z89 (by omega), tn16]
      exact ev_ck (by omega) (ev_ck (by omega) (ev_back ⟨k + 1, by simp [wS], by omega⟩ (by simp only; omega)))
  · rintro z rfl
    exact ev_some rfl
theorem form_c (hS : BS mc b F n M Ln E) {j : Nat} (hj : j < 60) (v : Int) : f_X9_form mc b (j : Int) v = some (if v = 0 then gL mc 46 b j else gL mc 47 b j) := by
  unfold f_X9_form
  by_cases q : v = 0
  · rw [if_pos q, if_pos q, nk_of hS.t1, ldL_of hS.z46 (by omega), tnc]
  · rw [if_neg q, if_neg q, nk_of hS.t2, ldL_of hS.z47 (by omega), tnc]
/-- under way: so many words are taken over -/
def FK (mc mm : MM) (b L M Ln : Nat) (c : Int) (s t : MM) : Prop := FrC (WAc b) mc s ∧ FrC (fun K i s => (K = 12 ∧ s = 0) ∨ WAm b K i s) mm t ∧ gN t 12 0 0 = 0 ∧ RTx s t b L M Ln ∧ gN t 80 0 b = c
variable {o F' n' M' Ln' E' : Nat}
theorem fol_in (h : RR N mc mm) (hB : RBk mc mm b F n M Ln E) (hO : RBk mc mm o F' n' M' Ln' E') (hbo : b ≠ o) (h78 : gN mm 78 0 b = 0) {p l : Nat} (hp : p < 2 * (F' * n')) (hset : gN mm 83 0 (16 * o + p) = 1) (hl : (l : Int) < gN mm 88 0 (16 * o + p)) {a e : Int} (ha : a = gN mm 91 0 (6 * (16 * o + p) + l)) (he : e = a + gN mm 92 0 (6 * (16 * o + p) + l)) {s t : MM} (hK : FK mc mm b (F * n) M Ln (wS mm o p + a) s t) :
    ∃ x y, lpb (fun s : Int × MM => b_X9_addPage_29 b (16 * o + p) o 0 (l : Int) e s.1 s.2) (a, s) = some x ∧ lpb (fun s : Int × MM => b_X12_follow_179 0 (b : Int) (o : Int) (p : Int) ((16 * o + p : Nat) : Int) (l : Int) (e - 1) s.1 s.2) (a, t) = some y ∧ FK mc mm b (F * n) M Ln (wS mm o p + e) x y := by
  have hP := hB.hP
  have hP' := hO.hP
  have hS' := hO.hS
  have hn' := hP'.hn
  have q0 := hP.hb
  have q1 := hP'.hb
  have hg := hO.pg p hp
  obtain ⟨g1, g2, g3, -, -⟩ := hg.l2 l hl
  have hwn := hg.wn
  have hle : wS mm o p + gN mm 89 0 (16 * o + p) ≤ gN mm 80 0 o := wS_le hO (p + 1) (by omega)
  have h80 := hO.tx.cnt
  have hw0 := wS_b hO p (by omega)
  have hSp0 : RSp mc mm := h.Sp
  refine lpb_rel (b := fun s : Int × MM => b_X9_addPage_29 b (16 * o + p) o 0 (l : Int) e s.1 s.2) (c := fun s : Int × MM => b_X12_follow_179 0 (b : Int) (o : Int) (p : Int) ((16 * o + p : Nat) : Int) (l : Int) (e - 1) s.1 s.2)
    (fun s t => s.1 = t.1 ∧ a ≤ s.1 ∧ s.1 ≤ e ∧ FK mc mm b (F * n) M Ln (wS mm o p + s.1) s.2 t.2) (fun x y => FK mc mm b (F * n) M Ln (wS mm o p + e) x y) (fun s => (e - s.1).toNat) ?_ (a, s) (a, t) ⟨rfl, by simp only; omega, by simp only; omega, hK⟩
  rintro ⟨w, m3⟩ ⟨_, m4⟩ ⟨rfl, d1, d2, f1, f2, f3, f4, f5⟩
  simp only at d1 d2 f1 f2 f3 f4 f5
  show (∃ s' t', b_X9_addPage_29 b (16 * o + p) o 0 (l : Int) e w m3 = some (.inl s') ∧ b_X12_follow_179 0 (b : Int) (o : Int) (p : Int) ((16 * o + p : Nat) : Int) (l : Int) (e - 1) w m4 = some (.inl t') ∧ _) ∨ ∃ v v', b_X9_addPage_29 b (16 * o + p) o 0 (l : Int) e w m3 = some (.inr v) ∧ b_X12_follow_179 0 (b : Int) (o : Int) (p : Int) ((16 * o + p : Nat) : Int) (l : Int) (e - 1) w m4 = some (.inr v') ∧ _
  by_cases q : e ≤ w
  · right
    unfold b_X9_addPage_29 b_X12_follow_179
    rw [if_pos q, if_pos (by omega)]
    exact ⟨_, _, rfl, rfl, f1, f2, f3, f4, by rw [f5, show w = e by omega]⟩
  · left
    obtain ⟨k, rfl⟩ := Int.ex (show 0 ≤ w by omega)
    obtain ⟨c, hc⟩ := Int.ex (show 0 ≤ wS mm o p + (k : Int) by omega)
    rw [hc] at f5
    have hc60 : c < 60 := by omega
    have hk60 : k < 60 := by omega
    have hS3 := f1.BS hB.hS hP (fun K i s hk => by unfold CBS at hk; unfold WAc; omega)
    have hS3' := f1.BS hS' hP' (fun K i s hk => by unfold CBS at hk; unfold WAc; omega)
    have hM4 := f2.SM h.M (fun s hs => by unfold WAm at hs; omega)
    have hC3 : SC m3 := h.C.mv2 (fun K i s hk => (f1.1 K i s (by unfold WAc; omega)).2.2) (fun K i k hk => by rw [f1.2.1]; exact hk)
    have hSp3 : RSp m3 m4 := hSp0.keep (fun K i s hk => f1.1 K i s (by unfold WAc; omega)) (fun K i s hk => f2.1 K i s (by unfold WAm; omega))
    have hw1 := hg.w1 k (by omega)
    have hw3 := hg.w3 k (by omega)
    obtain ⟨j, hj⟩ := Int.ex hw1.2.1
    have hj60 : j < 60 := by omega
    rw [hj, tnc] at hw3
    have hk5 : gN m3 9 b 5 = (c : Int) := by rw [f4.cnt.1, f5]
    obtain ⟨f, hf⟩ : ∃ f : Int, f = if (k : Int) = e - 1 then 1 else 0 := ⟨_, rfl⟩
    have hf01 : f = 0 ∨ f = 1 := by rw [hf]; split <;> omega
    obtain ⟨v, x, y, r1, r2, r3⟩ := add_run hC3 hS3 hSp3 hk5 hc60 hw3 hf01
    have x27 : gN m3 27 (16 * o + p) k = j := by rw [(f1.1 27 (16 * o + p) k (by unfold WAc; omega)).1, hw1.1, hj]
    have x28 : gN m3 28 (16 * o + p) k = gN mc 28 (16 * o + p) k := (f1.1 28 (16 * o + p) k (by unfold WAc; omega)).1
    have x46 : gL m3 46 o j = gL mc 46 o j := (f1.1 46 o j (by unfold WAc; omega)).2.1
    have x47 : gL m3 47 o j = gL mc 47 o j := (f1.1 47 o j (by unfold WAc; omega)).2.1
    have d1 : b_X9_addPage_29 b (16 * o + p) o 0 (l : Int) e (k : Int) m3 = some (.inl ((k : Int) + 1, addC m3 b c (if gN mc 28 (16 * o + p) k = 0 then gL mc 46 o j else gL mc 47 o j) x y v f)) := by
      unfold b_X9_addPage_29
      rw [if_neg q, nk_of (hS3'.p1 p hp), ldN_of (hS3'.z27 p hp) (by omega), tnc, x27, nk_of (hS3'.p2 p hp), ldN_of (hS3'.z28 p hp) (by omega), tnc, x28, form_c hS3' hj60, Option.bind_some, x46, x47, ck_of ⟨by omega, by omega⟩]
      unfold j_X9_addPage_29_69
      by_cases qe : (k : Int) = e - 1
      · rw [if_pos qe] at hf
        subst hf
        rw [if_neg (fun z => z qe), r1, bV_ok, ck_of ⟨by omega, by omega⟩]
      · rw [if_neg qe] at hf
        subst hf
        rw [if_pos qe, r1, bV_ok, ck_of ⟨by omega, by omega⟩]
    have hM5 : SM (sL m4 81 0 (60 * b + c) (gL mm 96 0 (60 * (16 * o + p) + k))) := hM4.mv (fun _ => rfl) (fun _ _ _ q => q)
    have d2 : b_X12_follow_179 0 (b : Int) (o : Int) (p : Int) ((16 * o + p : Nat) : Int) (l : Int) (e - 1) (k : Int) m4 = some (.inl ((k : Int) + 1, addM m4 b c (gL mm 96 0 (60 * (16 * o + p) + k)) f)) := by
      unfold b_X12_follow_179
      have x96 : gL m4 96 0 (60 * (16 * o + p) + k) = gL mm 96 0 (60 * (16 * o + p) + k) := (f2.1 96 0 _ (by unfold WAm; omega)).2.1
      rw [if_neg (by omega), nk_of hM4.r28, nk_of hM4.r27, ldN_of hM4.z80 (by omega), tnc, f5, nk_of hM4.r43, show 60 * ((16 * o + p : Nat) : Int) + (k : Int) = ((60 * (16 * o + p) + k : Nat) : Int) by omega, ldL_of hM4.z96 (by omega), tnc, x96, show (60 * (b : Int) + (c : Int)) = ((60 * b + c : Nat) : Int) by omega, stL_of hM4.z81 (by omega), tnc, nk_of hM5.r29, nk_of hM5.r27, ldN_of hM5.z80 (by omega), tnc]
      rw [show gN (sL m4 81 0 (60 * b + c) (gL mm 96 0 (60 * (16 * o + p) + k))) 80 0 b = (c : Int) from f5, show (60 * (b : Int) + (c : Int)) = ((60 * b + c : Nat) : Int) by omega]
      have hj : ∀ z : Int, z = 0 ∨ z = 1 → j_X12_follow_179_242 (sL m4 81 0 (60 * b + c) (gL mm 96 0 (60 * (16 * o + p) + k))) 0 (b : Int) (o : Int) (p : Int) ((16 * o + p : Nat) : Int) (l : Int) (e - 1) (k : Int) 0 ((60 * b + c : Nat) : Int) z = some (.inl ((k : Int) + 1, addM m4 b c (gL mm 96 0 (60 * (16 * o + p) + k)) z)) := fun z hz => by
        unfold j_X12_follow_179_242
        have hM6 : SM (sN (sL m4 81 0 (60 * b + c) (gL mm 96 0 (60 * (16 * o + p) + k))) 82 0 (60 * b + c) z) := hM5.mv (fun _ => rfl) (fun _ _ _ q => q)
        rw [cb_of hz, stN_of hM5.z82 (by omega), tnc, nk_of hM6.r27, ldN_of hM6.z80 (by omega), tnc, show gN (sN (sL m4 81 0 (60 * b + c) (gL mm 96 0 (60 * (16 * o + p) + k))) 82 0 (60 * b + c) z) 80 0 b = (c : Int) from by rw [gN_sN, if_neg (by omega)]; exact f5, ck_of ⟨by omega, by omega⟩, stN_of hM6.z80 (by omega), tnc, ck_of ⟨by omega, by omega⟩]
        rfl
      by_cases qe : (k : Int) = e - 1
      · rw [if_neg (fun z => z qe), ck_of ⟨by omega, by omega⟩, hj 1 (Or.inr rfl), hf, if_pos qe]
      · rw [if_pos qe, ck_of ⟨by omega, by omega⟩, hj 0 (Or.inl rfl), hf, if_neg qe]
    have h784 : gN m4 78 0 b = 0 := by rw [(f2.1 78 0 b (by unfold WAm; omega)).1, h78]
    refine ⟨_, _, d1, d2, ⟨rfl, by simp only; omega, by simp only; omega, addC_fr f1 (fun _ _ _ q => q), addM_fr (by omega) f2 (fun _ _ _ q => Or.inr q), ?_, f4.add h784 f5 hc60 hw3 hf01 r2 r3, ?_⟩, by simp only; omega⟩
    · simp only
      unfold addM
      rw [gN_sN, if_neg (by omega), gN_sN, if_neg (by omega), gN_sL, f3]
    · simp only
      unfold addM
      rw [gN_sN, if_pos ⟨rfl, rfl, rfl⟩]
      omega
end FOLLOW
