/-! FOLLOW. -/
/-- words on the first pages -/
def wS (mm : MM) (b : Nat) : Nat → Int
  | 0 => 0
  | p + 1 => wS mm b p + gN mm 89 0 (16 * b + p)
section FOLLOW
variable {N : Nat} {mc mm : MM} {b F n M Ln E : Nat}
theorem wS_b (hB : RBk mc mm b F n M Ln E) : ∀ p : Nat, p ≤ 2 * (F * n) → 0 ≤ wS mm b p ∧ wS mm b p ≤ 60 * p
  | 0, _ => by show (0 : Int) ≤ 0 ∧ (0 : Int) ≤ _; omega
  | p + 1, hp => by
    have h1 := wS_b hB p (by omega)
    have h2 := (hB.pg p (by omega)).wn
    show 0 ≤ wS mm b p + _ ∧ wS mm b p + _ ≤ _
    omega
theorem wS_le (hB : RBk mc mm b F n M Ln E) : ∀ p : Nat, p ≤ 2 * (F * n) → wS mm b p ≤ gN mm 80 0 b := by
  have h80 := hB.tx.cnt
  by_cases h78 : gN mm 78 0 b = 0
  · have key : ∀ p : Nat, p ≤ 2 * (F * n) → wS mm b p ≤ gN mm 80 0 b ∧ (p ≠ 0 → gN mm 83 0 (16 * b + (p - 1)) = 1 → wS mm b p ≤ gN mm 85 0 (16 * b + (p - 1))) := by
      intro p
      induction p with
      | zero => exact fun _ => ⟨h80.2.1, fun q => absurd rfl q⟩
      | succ p ih =>
        intro hp
        obtain ⟨i1, i2⟩ := ih (by omega)
        have hg := hB.pg p (by omega)
        have ho := hB.po p (by omega)
        have hst := hg.st
        have hth := hg.th
        have hs : wS mm b (p + 1) = wS mm b p + gN mm 89 0 (16 * b + p) := rfl
        rw [hs, Nat.add_sub_cancel]
        by_cases q : gN mm 83 0 (16 * b + p) = 1
        · have hx : wS mm b p + gN mm 89 0 (16 * b + p) ≤ gN mm 85 0 (16 * b + p) := by
            by_cases qp : p = 0
            · have := ho.a q h78 qp
              subst qp
              show (0 : Int) + _ ≤ _
              omega
            · obtain ⟨o1, o2⟩ := ho.b q h78 qp
              have := i2 qp o1
              omega
          exact ⟨by omega, fun _ _ => hx⟩
        · have hu := hg.un (by omega)
          exact ⟨by omega, fun _ z => absurd z q⟩
    exact fun p hp => (key p hp).1
  · have hpb := hB.tx.pb h78
    have hcn : ((gN mm 80 0 b).toNat : Int) = gN mm 80 0 b := by omega
    have key : ∀ p : Nat, p ≤ 2 * (F * n) → wS mm b p ≤ gN mm 80 0 b ∧ (p < 2 * (F * n) → wS mm b p ≤ gN mc 16 b p) := by
      intro p
      induction p with
      | zero =>
        intro _
        refine ⟨h80.2.1, fun hp => ?_⟩
        obtain ⟨k, hk, -⟩ := hpb 0 hp
        rw [hk]
        show (0 : Int) ≤ _
        omega
      | succ p ih =>
        intro hp
        obtain ⟨i1, i2⟩ := ih (by omega)
        have i3 := i2 (by omega)
        have hg := hB.pg p (by omega)
        have ho := hB.po p (by omega)
        have hst := hg.st
        have hth := hg.th
        have hs : wS mm b (p + 1) = wS mm b p + gN mm 89 0 (16 * b + p) := rfl
        rw [hs]
        obtain ⟨k, hk, c1⟩ := hpb p (by omega)
        by_cases q : gN mm 83 0 (16 * b + p) = 1
        · have := ho.c q h78
          refine ⟨by omega, fun z => ?_⟩
          have := ho.d q h78 z
          omega
        · have hu := hg.un (by omega)
          have := c1.1
          refine ⟨by omega, fun z => ?_⟩
          obtain ⟨k', hk', c2⟩ := hpb (p + 1) z
          have := c1.mono c2 (Nat.mul_le_mul_right _ (Nat.le_succ p))
          omega
    exact fun p hp => (key p hp).1
theorem wordsOn_c (hB : RBk mc mm b F n M Ln E) : f_X0_wordsOnPages mc b = some (wS mm b (2 * (F * n))) := by
  have hS := hB.hS
  have hn := hB.hP.hn
  apply ev_eq
  unfold f_X0_wordsOnPages
  rw [nk_of hS.r5, lenI_of hS.z13]
  refine ev_lp (fun z => z = wS mm b (2 * (F * n))) (fun s => ∃ k : Nat, s = (wS mm b k, (k : Int)) ∧ k ≤ 2 * (F * n)) (fun s => 2 * (F * n) - s.2.toNat) ⟨0, rfl, by omega⟩ ?_ ?_
  · rintro _ ⟨k, rfl, hk⟩
    show Ev (b_X0_wordsOnPages_13 mc b _ (wS mm b k) (k : Int)) _
    unfold b_X0_wordsOnPages_13
    refine ev_if (fun hc => ev_exit (by rw [show k = 2 * (F * n) by omega])) fun hc => ?_
    have h1 := wS_b hB k hk
    have h2 := (hB.pg k (by omega)).wn
    rw [ldR_of hS.z13 (by omega), tnc, hS.e13 k (by omega), nk_some, h2.1]
    exact ev_ck (by omega) (ev_ck (by omega) (ev_back ⟨k + 1, by simp [wS], by omega⟩ (by simp only; omega)))
  · rintro z rfl
    exact ev_some rfl
theorem wordsOn_m (hM : SM mm) (hB : RBk mc mm b F n M Ln E) : f_X12_wordsOn mm 0 (b : Int) = some (wS mm b (2 * (F * n))) := by
  have hP := hB.hP
  have hn := hP.hn
  have hb := hP.hb
  apply ev_eq
  unfold f_X12_wordsOn
  refine ev_lp (fun z => z = wS mm b (2 * (F * n))) (fun s => ∃ k : Nat, s = (wS mm b k, (k : Int)) ∧ k ≤ 2 * (F * n)) (fun s => 2 * (F * n) - s.2.toNat) ⟨0, rfl, by omega⟩ ?_ ?_
  · rintro _ ⟨k, rfl, hk⟩
    show Ev (b_X12_wordsOn_4 mm 0 (b : Int) (wS mm b k) (k : Int)) _
    unfold b_X12_wordsOn_4
    rw [pagesOf_m hM hP, Option.bind_some]
    refine ev_if (fun hc => ev_exit (by rw [show k = 2 * (F * n) by omega])) fun hc => ?_
    have h1 := wS_b hB k hk
    have hg := hB.pg k (by omega)
    have h2 := hg.wn
    rw [nk_of hM.r30, ldN_of hM.z83 (by omega), tn16]
    refine ev_if (fun hd => ?_) fun hd => ?_
    · have := (hg.un hd).2.1
      exact ev_ck (by omega) (ev_ck (by omega) (ev_back ⟨k + 1, by simp [wS, this], by omega⟩ (by simp only; omega)))
    · rw [nk_of hM.r36, ldN_of hM.z89 (by omega), tn16]
      exact ev_ck (by omega) (ev_ck (by omega) (ev_back ⟨k + 1, by simp [wS], by omega⟩ (by simp only; omega)))
  · rintro z rfl
    exact ev_some rfl
theorem form_c (hS : BS mc b F n M Ln E) {j : Nat} (hj : j < 60) (v : Int) : f_X9_form mc b (j : Int) v = some (if v = 0 then gL mc 46 b j else gL mc 47 b j) := by
  unfold f_X9_form
  by_cases q : v = 0
  · rw [if_pos q, if_pos q, nk_of hS.t1, ldL_of hS.z46 (by omega), tnc]
  · rw [if_neg q, if_neg q, nk_of hS.t2, ldL_of hS.z47 (by omega), tnc]
/-- under way: so many words are taken over -/
def FK (mc mm : MM) (b L M Ln : Nat) (c : Int) (s t : MM) : Prop := FrC (WAc b) mc s ∧ FrC (fun K i s => (K = 12 ∧ s = 0) ∨ WAm b K i s) mm t ∧ gN t 12 0 0 = 0 ∧ RTx s t b L M Ln ∧ gN t 80 0 b = c
variable {o F' n' M' Ln' E' : Nat}
theorem fol_in (h : RR N mc mm) (hB : RBk mc mm b F n M Ln E) (hO : RBk mc mm o F' n' M' Ln' E') (hbo : b ≠ o) (h78 : gN mm 78 0 b = 0) {p l : Nat} (hp : p < 2 * (F' * n')) (hset : gN mm 83 0 (16 * o + p) = 1) (hl : (l : Int) < gN mm 88 0 (16 * o + p)) {a e : Int} (ha : a = gN mm 91 0 (6 * (16 * o + p) + l)) (he : e = a + gN mm 92 0 (6 * (16 * o + p) + l)) {s t : MM} (hK : FK mc mm b (F * n) M Ln (wS mm o p + a) s t) :
    ∃ x y, lpb (fun s : Int × MM => b_X9_addPage_29 b (16 * o + p) o 0 (l : Int) e s.1 s.2) (a, s) = some x ∧ lpb (fun s : Int × MM => b_X12_follow_179 0 (b : Int) (o : Int) (p : Int) ((16 * o + p : Nat) : Int) (l : Int) (e - 1) s.1 s.2) (a, t) = some y ∧ FK mc mm b (F * n) M Ln (wS mm o p + e) x y := by
  have hP := hB.hP
  have hP' := hO.hP
  have hS' := hO.hS
  have hn' := hP'.hn
  have q0 := hP.hb
  have q1 := hP'.hb
  have hg := hO.pg p hp
  obtain ⟨g1, g2, g3, -, -⟩ := hg.l2 l hl
  have hwn := hg.wn
  have hle : wS mm o p + gN mm 89 0 (16 * o + p) ≤ gN mm 80 0 o := wS_le hO (p + 1) (by omega)
  have h80 := hO.tx.cnt
  have hw0 := wS_b hO p (by omega)
  have hSp0 : RSp mc mm := h.Sp
  refine lpb_rel (b := fun s : Int × MM => b_X9_addPage_29 b (16 * o + p) o 0 (l : Int) e s.1 s.2) (c := fun s : Int × MM => b_X12_follow_179 0 (b : Int) (o : Int) (p : Int) ((16 * o + p : Nat) : Int) (l : Int) (e - 1) s.1 s.2)
    (fun s t => s.1 = t.1 ∧ a ≤ s.1 ∧ s.1 ≤ e ∧ FK mc mm b (F * n) M Ln (wS mm o p + s.1) s.2 t.2) (fun x y => FK mc mm b (F * n) M Ln (wS mm o p + e) x y) (fun s => (e - s.1).toNat) ?_ (a, s) (a, t) ⟨rfl, by simp only; omega, by simp only; omega, hK⟩
  rintro ⟨w, m3⟩ ⟨_, m4⟩ ⟨rfl, d1, d2, f1, f2, f3, f4, f5⟩
  simp only at d1 d2 f1 f2 f3 f4 f5
  show (∃ s' t', b_X9_addPage_29 b (16 * o + p) o 0 (l : Int) e w m3 = some (.inl s') ∧ b_X12_follow_179 0 (b : Int) (o : Int) (p : Int) ((16 * o + p : Nat) : Int) (l : Int) (e - 1) w m4 = some (.inl t') ∧ _) ∨ ∃ v v', b_X9_addPage_29 b (16 * o + p) o 0 (l : Int) e w m3 = some (.inr v) ∧ b_X12_follow_179 0 (b : Int) (o : Int) (p : Int) ((16 * o + p : Nat) : Int) (l : Int) (e - 1) w m4 = some (.inr v') ∧ _
  by_cases q : e ≤ w
  · right
    unfold b_X9_addPage_29 b_X12_follow_179
    rw [if_pos q, if_pos (by omega)]
    exact ⟨_, _, rfl, rfl, f1, f2, f3, f4, by rw [f5, show w = e by omega]⟩
  · left
    obtain ⟨k, rfl⟩ := Int.ex (show 0 ≤ w by omega)
    obtain ⟨c, hc⟩ := Int.ex (show 0 ≤ wS mm o p + (k : Int) by omega)
    rw [hc] at f5
    have hc60 : c < 60 := by omega
    have hk60 : k < 60 := by omega
    have hS3 := f1.BS hB.hS hP (fun K i s hk => by unfold CBS at hk; unfold WAc; omega)
    have hS3' := f1.BS hS' hP' (fun K i s hk => by unfold CBS at hk; unfold WAc; omega)
    have hM4 := f2.SM h.M (fun s hs => by unfold WAm at hs; omega)
    have hC3 : SC m3 := h.C.mv2 (fun K i s hk => (f1.1 K i s (by unfold WAc; omega)).2.2) (fun K i k hk => by rw [f1.2.1]; exact hk)
    have hSp3 : RSp m3 m4 := hSp0.keep (fun K i s hk => f1.1 K i s (by unfold WAc; omega)) (fun K i s hk => f2.1 K i s (by unfold WAm; omega))
    have hw1 := hg.w1 k (by omega)
    have hw3 := hg.w3 k (by omega)
    obtain ⟨j, hj⟩ := Int.ex hw1.2.1
    have hj60 : j < 60 := by omega
    rw [hj, tnc] at hw3
    have hk5 : gN m3 9 b 5 = (c : Int) := by rw [f4.cnt.1, f5]
    obtain ⟨f, hf⟩ : ∃ f : Int, f = if (k : Int) = e - 1 then 1 else 0 := ⟨_, rfl⟩
    have hf01 : f = 0 ∨ f = 1 := by rw [hf]; split <;> omega
    obtain ⟨v, x, y, r1, r2, r3⟩ := add_run hC3 hS3 hSp3 hk5 hc60 hw3 hf01
    have x27 : gN m3 27 (16 * o + p) k = j := by rw [(f1.1 27 (16 * o + p) k (by unfold WAc; omega)).1, hw1.1, hj]
    have x28 : gN m3 28 (16 * o + p) k = gN mc 28 (16 * o + p) k := (f1.1 28 (16 * o + p) k (by unfold WAc; omega)).1
    have x46 : gL m3 46 o j = gL mc 46 o j := (f1.1 46 o j (by unfold WAc; omega)).2.1
    have x47 : gL m3 47 o j = gL mc 47 o j := (f1.1 47 o j (by unfold WAc; omega)).2.1
    have d1 : b_X9_addPage_29 b (16 * o + p) o 0 (l : Int) e (k : Int) m3 = some (.inl ((k : Int) + 1, addC m3 b c (if gN mc 28 (16 * o + p) k = 0 then gL mc 46 o j else gL mc 47 o j) x y v f)) := by
      unfold b_X9_addPage_29
      rw [if_neg q, nk_of (hS3'.p1 p hp), ldN_of (hS3'.z27 p hp) (by omega), tnc, x27, nk_of (hS3'.p2 p hp), ldN_of (hS3'.z28 p hp) (by omega), tnc, x28, form_c hS3' hj60, Option.bind_some, x46, x47, ck_of ⟨by omega, by omega⟩]
      unfold j_X9_addPage_29_69
      by_cases qe : (k : Int) = e - 1
      · rw [if_pos qe] at hf
        subst hf
        rw [if_neg (fun z => z qe), r1, bV_ok, ck_of ⟨by omega, by omega⟩]
      · rw [if_neg qe] at hf
        subst hf
        rw [if_pos qe, r1, bV_ok, ck_of ⟨by omega, by omega⟩]
    have hM5 : SM (sL m4 81 0 (60 * b + c) (gL mm 96 0 (60 * (16 * o + p) + k))) := hM4.mv (fun _ => rfl) (fun _ _ _ q => q)
    have d2 : b_X12_follow_179 0 (b : Int) (o : Int) (p : Int) ((16 * o + p : Nat) : Int) (l : Int) (e - 1) (k : Int) m4 = some (.inl ((k : Int) + 1, addM m4 b c (gL mm 96 0 (60 * (16 * o + p) + k)) f)) := by
      unfold b_X12_follow_179
      have x96 : gL m4 96 0 (60 * (16 * o + p) + k) = gL mm 96 0 (60 * (16 * o + p) + k) := (f2.1 96 0 _ (by unfold WAm; omega)).2.1
      rw [if_neg (by omega), nk_of hM4.r28, nk_of hM4.r27, ldN_of hM4.z80 (by omega), tnc, f5, nk_of hM4.r43, show 60 * ((16 * o + p : Nat) : Int) + (k : Int) = ((60 * (16 * o + p) + k : Nat) : Int) by omega, ldL_of hM4.z96 (by omega), tnc, x96, show (60 * (b : Int) + (c : Int)) = ((60 * b + c : Nat) : Int) by omega, stL_of hM4.z81 (by omega), tnc, nk_of hM5.r29, nk_of hM5.r27, ldN_of hM5.z80 (by omega), tnc]
      rw [show gN (sL m4 81 0 (60 * b + c) (gL mm 96 0 (60 * (16 * o + p) + k))) 80 0 b = (c : Int) from f5, show (60 * (b : Int) + (c : Int)) = ((60 * b + c : Nat) : Int) by omega]
      have hj : ∀ z : Int, z = 0 ∨ z = 1 → j_X12_follow_179_242 (sL m4 81 0 (60 * b + c) (gL mm 96 0 (60 * (16 * o + p) + k))) 0 (b : Int) (o : Int) (p : Int) ((16 * o + p : Nat) : Int) (l : Int) (e - 1) (k : Int) 0 ((60 * b + c : Nat) : Int) z = some (.inl ((k : Int) + 1, addM m4 b c (gL mm 96 0 (60 * (16 * o + p) + k)) z)) := fun z hz => by
        unfold j_X12_follow_179_242
        have hM6 : SM (sN (sL m4 81 0 (60 * b + c) (gL mm 96 0 (60 * (16 * o + p) + k))) 82 0 (60 * b + c) z) := hM5.mv (fun _ => rfl) (fun _ _ _ q => q)
        rw [cb_of hz, stN_of hM5.z82 (by omega), tnc, nk_of hM6.r27, ldN_of hM6.z80 (by omega), tnc, show gN (sN (sL m4 81 0 (60 * b + c) (gL mm 96 0 (60 * (16 * o + p) + k))) 82 0 (60 * b + c) z) 80 0 b = (c : Int) from by rw [gN_sN, if_neg (by omega)]; exact f5, ck_of ⟨by omega, by omega⟩, stN_of hM6.z80 (by omega), tnc, ck_of ⟨by omega, by omega⟩]
        rfl
      by_cases qe : (k : Int) = e - 1
      · rw [if_neg (fun z => z qe), ck_of ⟨by omega, by omega⟩, hj 1 (Or.inr rfl), hf, if_pos qe]
      · rw [if_pos qe, ck_of ⟨by omega, by omega⟩, hj 0 (Or.inl rfl), hf, if_neg qe]
    have h784 : gN m4 78 0 b = 0 := by rw [(f2.1 78 0 b (by unfold WAm; omega)).1, h78]
    refine ⟨_, _, d1, d2, ⟨rfl, by simp only; omega, by simp only; omega, addC_fr f1 (fun _ _ _ q => q), addM_fr (by omega) f2 (fun _ _ _ q => Or.inr q), ?_, f4.add h784 f5 hc60 hw3 hf01 r2 r3, ?_⟩, by simp only; omega⟩
    · simp only
      unfold addM
      rw [gN_sN, if_neg (by omega), gN_sN, if_neg (by omega), gN_sL, f3]
    · simp only
      unfold addM
      rw [gN_sN, if_pos ⟨rfl, rfl, rfl⟩]
      omega
/-- where a line begins, and behind the last the page's end -/
def fbeg (mm : MM) (q l : Nat) : Int := if (l : Int) < gN mm 88 0 q then gN mm 91 0 (6 * q + l) else gN mm 89 0 q
theorem fol_page (h : RR N mc mm) (hB : RBk mc mm b F n M Ln E) (hO : RBk mc mm o F' n' M' Ln' E') (hbo : b ≠ o) (h78 : gN mm 78 0 b = 0) {p : Nat} (hp : p < 2 * (F' * n')) {s t : MM} (hK : FK mc mm b (F * n) M Ln (wS mm o p) s t) :
    ∃ x y, lpb (fun s : Int × MM => b_X9_addPage_3 b (16 * o + p) o 0 s.1 s.2) (0, s) = some x ∧ lpb (fun s : Int × MM => b_X12_follow_111 0 (b : Int) (o : Int) (p : Int) ((16 * o + p : Nat) : Int) s.1 s.2) (0, t) = some y ∧ FK mc mm b (F * n) M Ln (wS mm o (p + 1)) x y := by
  have hP := hB.hP
  have hP' := hO.hP
  have hS' := hO.hS
  have hn' := hP'.hn
  have hL' := hP'.hL
  have q0 := hP.hb
  have q1 := hP'.hb
  have hg := hO.pg p hp
  have hln := hg.ln
  have hw0 := wS_b hO p (by omega)
  refine lpb_rel (b := fun s : Int × MM => b_X9_addPage_3 b (16 * o + p) o 0 s.1 s.2) (c := fun s : Int × MM => b_X12_follow_111 0 (b : Int) (o : Int) (p : Int) ((16 * o + p : Nat) : Int) s.1 s.2)
    (fun s t => ∃ l : Nat, s.1 = l ∧ t.1 = l ∧ (l : Int) ≤ gN mm 88 0 (16 * o + p) ∧ FK mc mm b (F * n) M Ln (wS mm o p + fbeg mm (16 * o + p) l) s.2 t.2) (fun x y => FK mc mm b (F * n) M Ln (wS mm o (p + 1)) x y) (fun s => (gN mm 88 0 (16 * o + p) - s.1).toNat) ?_ (0, s) (0, t) ⟨0, rfl, rfl, hln.2.1, ?_⟩
  rotate_left
  · have : fbeg mm (16 * o + p) 0 = 0 := by
      unfold fbeg
      have := hg.l0
      by_cases q : ((0 : Nat) : Int) < gN mm 88 0 (16 * o + p)
      · rw [if_pos q]; exact this.1 q
      · rw [if_neg q]; exact this.2 (by omega)
    rw [this, Int.add_zero]
    exact hK
  rintro ⟨_, m3⟩ ⟨_, m4⟩ ⟨l, rfl, rfl, hl, hF⟩
  simp only at hl hF
  obtain ⟨f1, f2, f3, f4, f5⟩ := hF
  show (∃ s' t', b_X9_addPage_3 b (16 * o + p) o 0 (l : Int) m3 = some (.inl s') ∧ b_X12_follow_111 0 (b : Int) (o : Int) (p : Int) ((16 * o + p : Nat) : Int) (l : Int) m4 = some (.inl t') ∧ _) ∨ ∃ v v', b_X9_addPage_3 b (16 * o + p) o 0 (l : Int) m3 = some (.inr v) ∧ b_X12_follow_111 0 (b : Int) (o : Int) (p : Int) ((16 * o + p : Nat) : Int) (l : Int) m4 = some (.inr v') ∧ _
  have hM4 := f2.SM h.M (fun s hs => by unfold WAm at hs; omega)
  have hS3' := f1.BS hS' hP' (fun K i s hk => by unfold CBS at hk; unfold WAc; omega)
  have hP4' := f2.BP hP' (fun K h1 h2 => by unfold WAm; omega)
  have x11 : gN m3 4 (16 * o + p) 11 = gN mm 88 0 (16 * o + p) := by rw [(f1.1 4 (16 * o + p) 11 (by unfold WAc; omega)).1]; exact hln.1
  have x83 : gN m4 83 0 (16 * o + p) = gN mm 83 0 (16 * o + p) := (f2.1 83 0 _ (by unfold WAm; omega)).1
  have x88 : gN m4 88 0 (16 * o + p) = gN mm 88 0 (16 * o + p) := (f2.1 88 0 _ (by unfold WAm; omega)).1
  have x91 : ∀ j, gN m4 91 0 j = gN mm 91 0 j := fun j => (f2.1 91 0 j (by unfold WAm; omega)).1
  have x92 : ∀ j, gN m4 92 0 j = gN mm 92 0 j := fun j => (f2.1 92 0 j (by unfold WAm; omega)).1
  unfold b_X9_addPage_3 b_X12_follow_111
  rw [x11, nk_of hM4.r30, ldN_of hM4.z83 (by omega), tnc, x83, nk_of hM4.r35, ldN_of hM4.z88 (by omega), tnc, x88]
  by_cases q : gN mm 88 0 (16 * o + p) ≤ (l : Int)
  · right
    refine ⟨m3, m4, by rw [if_pos q], by rw [if_pos q]; split <;> rfl, f1, f2, f3, f4, ?_⟩
    rw [f5]
    unfold fbeg
    rw [if_neg (by omega)]
    rfl
  · left
    have hset : gN mm 83 0 (16 * o + p) = 1 := by
      rcases hg.st with z | z
      · have := hg.un z.1; omega
      · exact z.1
    have hg3 : RPg m3 m4 o (16 * o + p) M' Ln' := hg.keep (by omega) (fun K i s hk => f1.1 K i s (by unfold CPg at hk; unfold WAc; omega)) (fun K i s hk => f2.1 K i s (by unfold MPg at hk; unfold WAm; omega))
    have w1 := wbl_c hP4' hS3' hp hg3 (l := l) (by rw [x88]; omega)
    rw [x91, x92] at w1
    obtain ⟨g1, g2, g3, g4, g5⟩ := hg.l2 l (by omega)
    have hl1 := (hg3.l1 l (by rw [x88]; omega)).1
    rw [x91] at hl1
    have hwn := hg.wn
    have hfb : fbeg mm (16 * o + p) l = gN mm 91 0 (6 * (16 * o + p) + l) := by unfold fbeg; rw [if_pos (by omega)]
    rw [hfb] at f5
    obtain ⟨x, y, e1, e2, e3⟩ := fol_in h hB hO hbo h78 hp hset (l := l) (by omega) rfl rfl ⟨f1, f2, f3, f4, f5⟩
    rw [if_neg q, w1, Option.bind_some, nk_of (hS3'.p5 p hp), ldN_of (hS3'.z31 p hp) (by omega), tnc, hl1, e1, Option.bind_some, if_neg (show ¬ gN mm 83 0 (16 * o + p) = 0 by omega), if_neg q, nk_of hM4.r38, show 6 * ((16 * o + p : Nat) : Int) + (l : Int) = ((6 * (16 * o + p) + l : Nat) : Int) by omega, ldN_of hM4.z91 (by omega), tnc, x91, nk_of hM4.r39, ldN_of hM4.z92 (by omega), tnc, x92, ck_of ⟨by omega, by omega⟩, nk_of hM4.r38, ldN_of hM4.z91 (by omega), tnc, x91, e2, Option.bind_some]
    unfold j_X9_addPage_3_79 j_X12_follow_111_259
    rw [ck_of ⟨by omega, by omega⟩, ck_of ⟨by omega, by omega⟩]
    refine ⟨_, _, rfl, rfl, ⟨l + 1, by simp, by simp, by omega, ?_⟩, by simp only; omega⟩
    have : fbeg mm (16 * o + p) (l + 1) = gN mm 91 0 (6 * (16 * o + p) + l) + gN mm 92 0 (6 * (16 * o + p) + l) := by
      unfold fbeg
      by_cases z : ((l + 1 : Nat) : Int) < gN mm 88 0 (16 * o + p)
      · rw [if_pos z]; exact g5 (by omega)
      · rw [if_neg z]; exact (g4 (by omega)).symm
    rw [this]
    exact e3
theorem fol_all (h : RR N mc mm) (hB : RBk mc mm b F n M Ln E) (hO : RBk mc mm o F' n' M' Ln' E') (hbo : b ≠ o) (h78 : gN mm 78 0 b = 0) {s t : MM} (hK : FK mc mm b (F * n) M Ln 0 s t) :
    ∃ x y, lpb (fun s : Int × MM => b_X11_follow_67 0 b o o ((2 * (F' * n') : Nat) : Int) s.1 s.2) (0, s) = some x ∧ lpb (fun s : Int × MM => b_X12_follow_89 0 (b : Int) (o : Int) s.1 s.2) (0, t) = some y ∧ FK mc mm b (F * n) M Ln (wS mm o (2 * (F' * n'))) x y := by
  have hP := hB.hP
  have hP' := hO.hP
  have hS' := hO.hS
  have hn' := hP'.hn
  have q0 := hP.hb
  have q1 := hP'.hb
  refine lpb_rel (b := fun s : Int × MM => b_X11_follow_67 0 b o o ((2 * (F' * n') : Nat) : Int) s.1 s.2) (c := fun s : Int × MM => b_X12_follow_89 0 (b : Int) (o : Int) s.1 s.2)
    (fun s t => ∃ p : Nat, s.1 = p ∧ t.1 = p ∧ p ≤ 2 * (F' * n') ∧ FK mc mm b (F * n) M Ln (wS mm o p) s.2 t.2) (fun x y => FK mc mm b (F * n) M Ln (wS mm o (2 * (F' * n'))) x y) (fun s => 2 * (F' * n') - s.1.toNat) ?_ (0, s) (0, t) ⟨0, rfl, rfl, by omega, hK⟩
  rintro ⟨_, m3⟩ ⟨_, m4⟩ ⟨p, rfl, rfl, hp, hF⟩
  simp only at hp hF
  show (∃ s' t', b_X11_follow_67 0 b o o ((2 * (F' * n') : Nat) : Int) (p : Int) m3 = some (.inl s') ∧ b_X12_follow_89 0 (b : Int) (o : Int) (p : Int) m4 = some (.inl t') ∧ _) ∨ ∃ v v', b_X11_follow_67 0 b o o ((2 * (F' * n') : Nat) : Int) (p : Int) m3 = some (.inr v) ∧ b_X12_follow_89 0 (b : Int) (o : Int) (p : Int) m4 = some (.inr v') ∧ _
  have f1 := hF.1
  have f2 := hF.2.1
  have hM4 := f2.SM h.M (fun s hs => by unfold WAm at hs; omega)
  have hC3 : SC m3 := h.C.mv2 (fun K i s hk => (f1.1 K i s (by unfold WAc; omega)).2.2) (fun K i k hk => by rw [f1.2.1]; exact hk)
  have hS3 := f1.BS hB.hS hP (fun K i s hk => by unfold CBS at hk; unfold WAc; omega)
  have hS3' := f1.BS hS' hP' (fun K i s hk => by unfold CBS at hk; unfold WAc; omega)
  have hP4' := f2.BP hP' (fun K h1 h2 => by unfold WAm; omega)
  unfold b_X11_follow_67 b_X12_follow_89
  rw [pagesOf_m hM4 hP4', Option.bind_some]
  by_cases q : ((2 * (F' * n') : Nat) : Int) ≤ (p : Int)
  · right
    rw [if_pos q, if_pos q]
    exact ⟨_, _, rfl, rfl, by rw [show 2 * (F' * n') = p by omega]; exact hF⟩
  · left
    obtain ⟨x, y, e1, e2, e3⟩ := fol_page h hB hO hbo h78 (p := p) (by omega) hF
    rw [if_neg q, if_neg q, ldR_of hS3'.z13 (by omega), tnc, hS3'.e13 p (by omega), nk_some, nk_of hS3.r4, nk_of hS3'.r4, nk_of hC3.r0, ck_of ⟨by omega, by omega⟩, show 16 * (o : Int) + (p : Int) = ((16 * o + p : Nat) : Int) by omega, e2, Option.bind_some]
    unfold f_X9_addPage j_X9_addPage_0_85 j_X12_follow_89_265
    rw [e1, Option.bind_some, bV_ok, ck_of ⟨by omega, by omega⟩]
    refine ⟨((p : Int) + 1, x), ((p : Int) + 1, y), rfl, ?_, ⟨p + 1, by simp, by simp, by omega, e3⟩, by simp only; omega⟩
    rw [ck_of ⟨by omega, by omega⟩]
theorem fol_fin (h : RR N mc mm) (hB : RBk mc mm b F n M Ln E) (hb : (b : Int) < gN mm 12 0 19) (h80 : gN mm 80 0 b = 0) {c : Int} {mc' mm' : MM} (hK : FK mc mm b (F * n) M Ln c mc' mm') : RR (N + 1) mc' mm' := by
  have hP := hB.hP
  have q0 := hP.hb
  have q1 := hP.hn
  have q2 := hP.hL
  have q3 := hP.hE
  have q4 := hP.ml
  obtain ⟨f1, f2, f3, hkt, f5⟩ := hK
  have cc : ∀ K i s', ¬ (45 ≤ K ∧ K ≤ 49 ∧ i = b) ∧ ¬ (K = 9 ∧ i = b ∧ s' = 5) → eq3 mc mc' K i s' := fun K i s' hk => f1.1 K i s' (by unfold WAc; omega)
  have cm : ∀ K i s', ¬ (K = 12 ∧ s' = 0) ∧ ¬ ((K = 81 ∨ K = 82) ∧ i = 0 ∧ 60 * b ≤ s' ∧ s' < 60 * b + 60) ∧ ¬ (K = 80 ∧ i = 0 ∧ s' = b) → eq3 mm mm' K i s' := fun K i s' hk => f2.1 K i s' (by unfold WAm; omega)
  have hzc : ∀ K i, gZ mc' K i = gZ mc K i := f1.2.1
  have hCC : ∀ K, gC mc' K = gC mc K := f1.2.2
  have hzm : ∀ K i k, gZ mm K i = some k → gZ mm' K i = some k := fun K i k hk => by rw [f2.2.1]; exact hk
  have cb : ∀ K i s', isBK K → ¬ CBk b K i → eq3 mc mc' K i s' := fun K i s' hK hn => cc K i s' ⟨fun q => hn (CBk.a (by omega) q.2.2), fun q => hn (CBk.a (by omega) q.2.1)⟩
  have mb : ∀ K s', 78 ≤ K → K ≤ 126 → K < 105 ∨ 107 < K → K < 121 ∨ 125 < K → ¬ MBk b K s' → eq3 mm mm' K 0 s' := fun K s' h1 h2 h3 h4 hn => cm K 0 s' ⟨by omega, fun q => hn (MBk.b q.1 q.2.2), fun q => hn (MBk.a (by omega) q.2.2)⟩
  refine h.one (b0 := b) hzc hCC hb (cm 12 0 19 (by omega)).1 (h.C.mv2 (fun K i s hk => (cc K i s (by omega)).2.2) (fun K i k hk => by rw [hzc]; exact hk)) (h.M.mv2 (fun s hs => (cm 12 0 s (by omega)).2.2) hzm) (h.T.keep (cc 10 0 5 (by omega)).1 (cm 12 0 1 (by omega)).1 (fun k => (cc 50 0 k (by omega)).1) (fun k => (cm 59 0 k (by omega)).1)) (h.Sp.keep (fun K i s hk => cc K i s (by omega)) (fun K i s hk => cm K i s (by omega)))
    (h.Ca.keep (cc 1 0 5 (by omega)).1 (cm 12 0 6 (by omega)).1 (fun K h1 h2 k => (cc K 0 k (by omega)).1) (fun K h1 h2 k => (cm K 0 k (by omega)).1)) (h.H.keep (by omega) (fun K i s hk => cc K i s (by omega)) (hCC 3) (fun K i s hk => cm K i s (by omega))) (h.Mi.keep (fun K i s hk => cc K i s (by omega)) (fun K i s hk => cm K i s (by omega))) (h.Pr.keep (fun i s _ => cc 6 i s (by omega)) (fun K s h1 h2 => cm K 0 s (by omega))) (h.Nb.keep (cc 11 0 8 (by omega)).1 (cm 12 0 19 (by omega)).1 (fun s => (cc 56 0 s (by omega)).2.2))
    (fun K i s hk => cc K i s (by omega)) cb (fun K i s hk => cm K i s (by omega)) mb (fun b' p f hbb hb3 hp hf h90 h7 hx => hx.other hbb hp hf cb mb (fun K i s hk => cm K i s (by omega)) h90 h7) (by rw [(cm 12 0 69 (by omega)).1]; exact Int.le_refl _) (fun x => by rw [(cm 63 0 x (by omega)).1]; exact Int.le_refl _) ⟨F, n, M, Ln, E, hP.keep (fun K h1 h2 => (cm K 0 b (by omega)).1), hB.hS.keep hP (fun K i s hk => cc K i s (by unfold CBS at hk; omega)) (fun K i k hk => by rw [hzc]; exact hk), hkt, fun p hp => ?_, fun p hp => (hB.po p hp).keep (by omega) (fun K i s hk => cc K i s (by unfold CPo at hk; omega)) (fun K i s hk => cm K i s (by unfold MPo at hk; omega)), fun p hp => (hB.pl p hp).keep (by have := (hB.pg p hp).pn; omega) (fun K i s hk => cc K i s (by unfold CPl at hk; omega)) (fun K i s hk => cm K i s (by unfold MPl at hk; omega)), fun f hf => (hB.ff f hf).keep (by omega) (fun K i s hk => cc K i s (by unfold CFo at hk; omega)) (fun K i s hk => cm K i s (by unfold MFo at hk; omega)) (by rw [(cm 12 0 69 (by omega)).1]; exact Int.le_refl _), fun p hp => (hB.pn p hp).keep (by have := (hB.pg p hp).pn; omega) (by have := (hB.ff _ (fo_lt hP.hF hp)).ns; omega) (fun K i s hk => cc K i s (by unfold CPn at hk; omega)) (fun K i s hk => cm K i s (by unfold MPn at hk; omega)), fun f hf => (hB.se f hf).keep (by omega) (fun p hp => by have := (hB.pg p hp).pn; omega) (fun K i s hk => cc K i s (by unfold CSe at hk; omega)) (fun K i s hk => cm K i s (by unfold MSe at hk; omega)) (fun x => by rw [(cm 63 0 x (by omega)).1]; exact Int.le_refl _), fun s hs => (hB.sh s hs).keep (by omega) (fun K i s' hk => cc K i s' (by unfold CSh at hk; omega)) (fun K i s' hk => cm K i s' (by unfold MSh at hk; omega)), hB.lv.keep (by omega) (by omega) (by omega) (fun K i s hk => cc K i s (by unfold CLv at hk; omega)) (fun K i s hk => cm K i s (by unfold MLv at hk; omega))⟩ (h.Pf.keep (Nat.le_succ N) (fun K i s' hk => cm K i s' (by omega))) (h.Pc.keep (fun K i s' hk => cm K i s' (by omega)))
  have hg := hB.pg p hp
  have x83 := (cm 83 0 (16 * b + p) (by omega)).1
  have x84 := (cm 84 0 (16 * b + p) (by omega)).1
  have x85 := (cm 85 0 (16 * b + p) (by omega)).1
  have x86 := (cm 86 0 (16 * b + p) (by omega)).1
  have x87 := (cm 87 0 (16 * b + p) (by omega)).1
  have x88 := (cm 88 0 (16 * b + p) (by omega)).1
  have x89 := (cm 89 0 (16 * b + p) (by omega)).1
  have x90 := (cm 90 0 (16 * b + p) (by omega)).1
  have y4 : ∀ s, gN mc' 4 (16 * b + p) s = gN mc 4 (16 * b + p) s := fun s => (cc 4 (16 * b + p) s (by omega)).1
  have hth := hg.th
  have hc5 := hkt.cnt
  have hwn := hg.wn
  have hln := hg.ln
  have u2 : gN mm 89 0 (16 * b + p) = 0 := Classical.byContradiction fun q => by
    have := (hg.w1 0 (by omega)).2
    omega
  have u1 : gN mm 88 0 (16 * b + p) = 0 := Classical.byContradiction fun q => by
    have := hg.l2 0 (by omega)
    have z1 := this.1
    have z2 := this.2.1
    have z3 := this.2.2.1
    omega
  refine ⟨by rw [x83, x84, y4]; exact hg.st, by rw [x83, x88, x89, x90]; exact hg.un, by rw [x89, y4]; exact hg.wn, by rw [x88, y4]; exact hg.ln, by rw [x85, y4]; omega, by rw [x87, y4]; exact hg.lo, by rw [x86, y4]; exact hg.cr, by rw [x90, (cc 5 (16 * b + p) 4 (by omega)).1]; exact hg.pn, fun l hl => by rw [x88] at hl; omega, fun l hl => by rw [x88] at hl; omega, ⟨fun z => by rw [x88] at z; omega, fun _ => by rw [x89]; exact u2⟩, fun l hl => by rw [x89] at hl; omega, fun l hl => by rw [x89] at hl; omega, fun l hl => by rw [x89] at hl; omega, fun l k hl => by rw [x88] at hl; omega, fun l hl => by rw [x89] at hl; omega, fun z => ?_⟩
  rw [x83] at z
  have := hg.f2 z
  rw [x89, x90, (cc 30 (16 * b + p) _ (by omega)).1]
  exact this
theorem call_follow (h : RR N mc mm) (a d : Int) : CalI N (f_X11_follow mc 0 a d) (f_X12_follow mm 0 a d) [0, 1, 2] := by
  have m78 : ∀ v : Int, v ≠ 0 → j_X12_follow_0_78 mm 0 a d 0 v = some (.inl (some (aI 0)), sN mm 12 0 0 v) := fun v hv => by
    unfold j_X12_follow_0_78; rw [holds1 _ hv, bI_ok, if_neg (fun q => q rfl)]
  have m20 : j_X12_follow_0_20 mm 0 a d = some (.inl (some (aI 0)), sN mm 12 0 0 1) := by
    unfold j_X12_follow_0_20 j_X12_follow_0_21 j_X12_follow_0_47 j_X12_follow_0_48; rw [if_pos rfl, if_neg (fun q => q rfl), m78 1 (by decide)]
  unfold f_X11_follow f_X12_follow
  by_cases hb : 0 ≤ a ∧ a < gN mm 12 0 19
  · obtain ⟨b, rfl⟩ := Int.ex hb.1
    obtain ⟨F, n, M, Ln, E, hB⟩ := h.Bk b hb.2
    have hP := hB.hP
    have hS := hB.hS
    have q0 := hP.hb
    rw [bookAt_ok h.Nb h.C hb.2, bR_ok, nk_some, isBook_ok h.Nb hb.2, Option.bind_some, if_neg (show ¬ (1 : Int) = 0 by decide)]
    by_cases hd : 0 ≤ d ∧ d < gN mm 12 0 19
    · obtain ⟨o, rfl⟩ := Int.ex hd.1
      obtain ⟨F', n', M', Ln', E', hO⟩ := h.Bk o hd.2
      have hS' := hO.hS
      rw [bookAt_ok h.Nb h.C hd.2, bR_ok, nk_some, isBook_ok h.Nb hd.2, Option.bind_some, if_neg (show ¬ (1 : Int) = 0 by decide)]
      have hcnt := hB.tx.cnt
      by_cases hbo : (b : Int) = o
      · rw [if_pos hbo]
        have e1 : j_X11_follow_0_23 mc 0 b o 0 = some (.inr 1, bX mc) := by unfold j_X11_follow_0_23; rw [rqA0, bV_ex]; rfl
        have e2 : j_X12_follow_0_21 mm 0 (b : Int) (o : Int) 1 = some (.inl (some (aI 0)), sN mm 12 0 0 2) := by
          have e3 : ∀ z, j_X12_follow_0_48 mm 0 (b : Int) (o : Int) 1 z = some (.inl (some (aI 0)), sN mm 12 0 0 2) := fun z => by
            unfold j_X12_follow_0_48; rw [if_pos (show ¬ (1 : Int) = 0 by decide), if_neg (fun q => q hbo), m78 2 (by decide)]
          unfold j_X12_follow_0_21 j_X12_follow_0_47
          rw [if_neg (show ¬ (1 : Int) = 0 by decide), nk_of h.M.r27, ldN_of h.M.z80 (by omega), wordsOn_m h.M hO, Option.bind_some, e3, e3]
          split
          · rfl
          · split <;> rfl
        rw [e1, e2]
        exact CalI.bad (k := 1) h rfl rfl rfl
      · have hbo' : b ≠ o := fun q => hbo (by rw [q])
        rw [if_neg hbo]
        unfold j_X11_follow_0_23 j_X12_follow_0_21
        have e48 : j_X11_follow_0_48 mc 0 b o = some (.inr 2, bX mc) := by unfold j_X11_follow_0_48 j_X11_follow_0_49; rw [rqS0, bV_ex]; rfl
        have m47 : j_X12_follow_0_47 mm 0 (b : Int) (o : Int) 1 = some (.inl (some (aI 0)), sN mm 12 0 0 3) := by
          unfold j_X12_follow_0_47 j_X12_follow_0_48; rw [if_pos (show ¬ (1 : Int) = 0 by decide), if_pos hbo, if_pos rfl, m78 3 (by decide)]
        rw [rqA _ (by decide), bV_ok, nk_of hS.r4, hcnt.1, if_neg (show ¬ (1 : Int) = 0 by decide), nk_of h.M.r27, ldN_of h.M.z80 (by omega), tnc, wordsOn_c hO, wordsOn_m h.M hO, Option.bind_some, Option.bind_some, e48, m47]
        by_cases h80 : gN mm 80 0 b = 0
        · rw [if_neg (show ¬ ¬ gN mm 80 0 b = 0 from fun q => q h80), if_neg (show ¬ ¬ gN mm 80 0 b = 0 from fun q => q h80)]
          by_cases hws : wS mm o (2 * (F' * n')) ≤ 0
          · rw [if_pos hws, if_pos hws]
            exact CalI.bad (k := 2) h rfl rfl rfl
          · rw [if_neg hws, if_neg hws]
            have h78 : gN mm 78 0 b = 0 := by have := hB.tx.pc; omega
            unfold j_X11_follow_0_49 j_X12_follow_0_48
            rw [rqS _ (by decide), bV_ok, nk_of hS'.r5, lenI_of hS'.z13, if_pos (show ¬ (1 : Int) = 0 by decide), if_pos hbo, if_neg (show ¬ (1 : Int) = 0 by decide)]
            unfold j_X12_follow_0_78
            rw [holds0, bI_ok, if_pos (show ¬ (1 : Int) = 0 by decide)]
            obtain ⟨x, y, e1, e2, e3⟩ := fol_all (s := mc) (t := sN mm 12 0 0 0) h hB hO hbo' h78 ⟨FrC.rf, FrC.rf.sN (Or.inl ⟨rfl, rfl⟩), gthr _ _, (hB.thr 0).tx, by rw [gthr' _ _ (Or.inl (by decide))]; exact h80⟩
            rw [e1, e2, Option.bind_some, Option.bind_some]
            unfold j_X11_follow_0_105 j_X12_follow_0_271
            have f1 := e3.1
            have f2 := e3.2.1
            have hS3 := f1.BS hS hP (fun K i s hk => by unfold CBS at hk; unfold WAc; omega)
            have hM4 := f2.SM h.M (fun s hs => by unfold WAm at hs; omega)
            rw [nk_of hS3.r4, nk_of hM4.r27, ldN_of hM4.z80 (by omega), tnc, e3.2.2.2.1.cnt.1]
            exact ⟨_, _, _, _, rfl, rfl, Or.inl ⟨rfl, e3.2.2.1⟩, fol_fin h hB hb.2 h80 e3⟩
        · rw [if_pos (show ¬ gN mm 80 0 b = 0 from h80), if_pos (show ¬ gN mm 80 0 b = 0 from h80)]
          exact CalI.bad (k := 2) h rfl rfl rfl
    · rw [bookAt_bad h.Nb h.C hd, bR_ex, isBook_bad h.Nb hd, Option.bind_some, if_pos rfl, m20]
      exact CalI.bad (k := 0) h rfl rfl rfl
  · rw [bookAt_bad h.Nb h.C hb, bR_ex, isBook_bad h.Nb hb, Option.bind_some, if_pos rfl, m20]
    exact CalI.bad (k := 0) h rfl rfl rfl
end FOLLOW
