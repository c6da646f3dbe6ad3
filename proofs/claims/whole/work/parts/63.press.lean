/-! PRESSES. -/
section PRESSES
variable {N : Nat} {mc mm : MM} {b F n M Ln E : Nat}
/-- working hours ahead of an hour -/
def wh (x : Int) : Int := x / 70 * 60 + (if 60 < x % 70 then 60 else x % 70)
theorem wh_s {x : Int} (h : 0 ≤ x) : wh (x + 1) = wh x + if x / 10 % 7 = 6 then 0 else 1 := by
  unfold wh
  split <;> split <;> split <;> omega
theorem wh_c (m : MM) {x : Int} (h : 0 ≤ x ∧ x ≤ 5001) : f_X11_workingHoursAhead m x = some (wh x) := by
  unfold f_X11_workingHoursAhead wh
  rw [dv_of ⟨by omega, by omega⟩, dv_of ⟨by omega, by omega⟩, ck_of ⟨by split <;> omega, by split <;> omega⟩]
theorem wh_b {x : Int} (h : 0 ≤ x ∧ x ≤ 5001) : 0 ≤ wh x ∧ wh x ≤ 5001 := by
  unfold wh
  split <;> omega
theorem wh_mono {x y : Int} (h : 0 ≤ x) (hxy : x ≤ y) : wh x ≤ wh y := by
  unfold wh
  split <;> split <;> omega
theorem wasDone_c (hB : RBk mc mm b F n M Ln E) {f : Nat} (hf : f < 2 * n) : f_X2_wasDone mc (8 * b + f) = some (if 3 ≤ gN mm 108 0 (8 * b + f) then 1 else 0) := by
  have h1 := (hB.ff f hf).how
  unfold f_X2_wasDone
  rw [h1.1]
  by_cases q : gN mm 108 0 (8 * b + f) = 3
  · rw [if_pos q, if_pos (by omega)]
  · rw [if_neg q]
    by_cases q' : gN mm 108 0 (8 * b + f) = 4
    · rw [if_neg (fun z => z q'), if_pos (by omega)]
    · rw [if_pos q', if_neg (by omega)]
def PrJ (a z w : Int) : Prop := (a = 5000 ∧ z = -1 ∧ w = 0) ∨ (0 ≤ a ∧ a ≤ z ∧ z ≤ 5000 ∧ z % 70 < 60 ∧ 0 < w)
theorem press_loop (h : RR N mc mm) (hB : RBk mc mm b F n M Ln E) :
    ∃ x y, lpb (fun s : Int × Int × Int × Int => b_X7_fewestPresses_22 mc b b ((2 * n : Nat) : Int) s.1 s.2.1 s.2.2.1 s.2.2.2) (5000, (-1), 0, 0) = some x ∧ lpb (fun s : Int × Int × Int × Int => b_X12_presses_34 mm 0 (b : Int) s.1 s.2.1 s.2.2.1 s.2.2.2) (0, 5000, (-1), 0) = some y ∧
      y = (x.2.2, x.1, x.2.1) ∧ PrJ x.1 x.2.1 x.2.2 ∧ x.2.2 ≤ 8 * 14 := by
  have hP := hB.hP
  have hS := hB.hS
  have hM := h.M
  have q0 := hP.hb
  have q1 := hP.hn
  have q3 := hP.hE
  have h69 := h.Mi.2.1
  refine lpb_rel (b := fun s : Int × Int × Int × Int => b_X7_fewestPresses_22 mc b b ((2 * n : Nat) : Int) s.1 s.2.1 s.2.2.1 s.2.2.2) (c := fun s : Int × Int × Int × Int => b_X12_presses_34 mm 0 (b : Int) s.1 s.2.1 s.2.2.1 s.2.2.2)
    (fun s t => ∃ f : Nat, f ≤ 2 * n ∧ s.2.2.2 = f ∧ t.2.2.2 = f ∧ s.2.2.1 = t.1 ∧ s.1 = t.2.1 ∧ s.2.1 = t.2.2.1 ∧ PrJ s.1 s.2.1 s.2.2.1 ∧ s.2.2.1 ≤ 14 * f ∧ 0 ≤ s.2.2.1) (fun x y => y = (x.2.2, x.1, x.2.1) ∧ PrJ x.1 x.2.1 x.2.2 ∧ x.2.2 ≤ 8 * 14) (fun s => 2 * n - s.2.2.2.toNat) ?_ _ _ ⟨0, by omega, rfl, rfl, rfl, rfl, rfl, Or.inl ⟨rfl, rfl, rfl⟩, by simp, by simp⟩
  rintro ⟨a, z, w, _⟩ ⟨w', a', z', _⟩ ⟨f, hf, rfl, rfl, g1, g2, g3, hJ, hw, hw0⟩
  simp only at hJ hw hw0 g1 g2 g3
  subst g1 g2 g3
  show (∃ s' t', b_X7_fewestPresses_22 mc b b ((2 * n : Nat) : Int) a z w (f : Int) = some (.inl s') ∧ b_X12_presses_34 mm 0 (b : Int) w a z (f : Int) = some (.inl t') ∧ _) ∨ ∃ v v', b_X7_fewestPresses_22 mc b b ((2 * n : Nat) : Int) a z w (f : Int) = some (.inr v) ∧ b_X12_presses_34 mm 0 (b : Int) w a z (f : Int) = some (.inr v') ∧ _
  unfold b_X7_fewestPresses_22 b_X12_presses_34
  have k1 : -2147483648 ≤ 2 * (n : Int) ∧ 2 * (n : Int) < 2147483648 := ⟨by omega, by omega⟩
  rw [nk_of hM.r21, ldN_of hM.z74 (by omega), tnc, hP.n, ck_of k1]
  by_cases q : ((2 * n : Nat) : Int) ≤ (f : Int)
  · right
    rw [if_pos q, if_pos (show 2 * (n : Int) ≤ (f : Int) by omega)]
    exact ⟨(a, z, w), (w, a, z), rfl, rfl, rfl, hJ, by simp only; omega⟩
  · left
    have hf2 : f < 2 * n := by omega
    have hff := hB.ff f hf2
    rw [if_neg q, ldR_of hS.z14 (by omega), tnc, hS.e14 f hf2, nk_some, wasDone_c hB hf2, Option.bind_some, if_neg (show ¬ (2 * (n : Int) ≤ (f : Int)) by omega), ck_of ⟨by omega, by omega⟩, nk_of hM.r56, ldN_of hM.z108 (by omega), tn8]
    by_cases h3 : 3 ≤ gN mm 108 0 (8 * b + f)
    · have hoh := hff.oh (by omega)
      have hdh := hff.dh
      have y8 : gN mc 2 (8 * b + f) 8 = gN mm 113 0 (8 * b + f) := hoh.1
      have y9 : gN mc 2 (8 * b + f) 9 = gN mm 114 0 (8 * b + f) := by omega
      obtain ⟨u, hu⟩ : ∃ u : Int, u = gN mm 113 0 (8 * b + f) := ⟨_, rfl⟩
      obtain ⟨v, hv⟩ : ∃ v : Int, v = gN mm 114 0 (8 * b + f) := ⟨_, rfl⟩
      have huv : 0 ≤ u ∧ u ≤ v ∧ v ≤ 5000 ∧ v % 70 < 60 := by omega
      rw [if_pos h3, if_neg (show ¬ (1 : Int) = 0 by decide), if_neg (show ¬ gN mm 108 0 (8 * b + f) < 3 by omega), y8, y9, hS.f3, ← hu, ← hv, lt0_eq, lt0_eq, ck_of ⟨by omega, by omega⟩, dv_of ⟨by omega, by omega⟩, ck_of ⟨by omega, by omega⟩, lt0_eq, ck_of ⟨by omega, by omega⟩, nk_of hM.r24, ldN_of hM.z77 (by omega), tnc, hP.e, ck_of ⟨by omega, by omega⟩, dv_of ⟨by omega, by omega⟩, ck_of ⟨by omega, by omega⟩, lt0_eq, nk_of hM.r61, ldN_of hM.z113 (by omega), tn8, ← hu]
      have hmod : ∀ s0 : Int, j_X12_presses_34_104 mm 0 (b : Int) (w + (1 + ((E : Int) + 1) / 2)) z (f : Int) (8 * (b : Int) + (f : Int)) s0 = some (.inl (w + (1 + ((E : Int) + 1) / 2), s0, (if z < v then v else z), (f : Int) + 1)) := fun s0 => by
        unfold j_X12_presses_34_104
        rw [nk_of hM.r62, ldN_of hM.z114 (by omega), tn8, ← hv]
        by_cases qz : v ≤ z
        · rw [if_pos qz, if_neg (by omega), ck_of ⟨by omega, by omega⟩]
        · rw [if_neg qz, if_pos (show z < v by omega), nk_of hM.r62, ldN_of hM.z114 (by omega), tn8, ← hv, ck_of ⟨by omega, by omega⟩]
      have hmod2 : (if a ≤ u then j_X12_presses_34_104 mm 0 (b : Int) (w + (1 + ((E : Int) + 1) / 2)) z (f : Int) (8 * (b : Int) + (f : Int)) a else nk 113 (gR mm 12 0 61) fun i13 => ldN mm 113 i13 (8 * (b : Int) + (f : Int)) fun v14 => j_X12_presses_34_104 mm 0 (b : Int) (w + (1 + ((E : Int) + 1) / 2)) z (f : Int) (8 * (b : Int) + (f : Int)) v14) = some (.inl (w + (1 + ((E : Int) + 1) / 2), (if u < a then u else a), (if z < v then v else z), (f : Int) + 1)) := by
        by_cases qa : a ≤ u
        · rw [if_pos qa, if_neg (show ¬ u < a by omega), hmod]
        · rw [if_neg qa, if_pos (show u < a by omega), nk_of hM.r61, ldN_of hM.z113 (by omega), tn8, ← hu, hmod]
      rw [hmod2]
      simp (disch := omega) only [ck_of]
      refine ⟨((if u < a then u else a), (if z < v then v else z), w + (1 + ((E : Int) + 1) / 2), (f : Int) + 1), (w + (1 + ((E : Int) + 1) / 2), (if u < a then u else a), (if z < v then v else z), (f : Int) + 1), rfl, rfl, ⟨f + 1, by omega, by simp, by simp, rfl, rfl, rfl, Or.inr ?_, ?_, ?_⟩, by simp only; omega⟩
      · simp only
        rcases hJ with ⟨j1, j2, j3⟩ | ⟨j1, j2, j3, j4, j5⟩
        · split <;> split <;> omega
        · split <;> split <;> omega
      · simp only; omega
      · simp only; omega
    · rw [if_neg h3, if_pos rfl, if_pos (show gN mm 108 0 (8 * b + f) < 3 by omega), ck_of ⟨by omega, by omega⟩]
      refine ⟨(a, z, w, (f : Int) + 1), (w, a, z, (f : Int) + 1), rfl, ?_, ⟨f + 1, by omega, by simp, by simp, rfl, rfl, rfl, hJ, by simp only; omega, hw0⟩, by simp only; omega⟩
      rw [ck_of ⟨by omega, by omega⟩]
theorem hol_m (m : MM) {x : Int} (h : 0 ≤ x) : f_X12_isHoliday m x = some (if x / 10 % 7 = 6 then 1 else 0) := by
  unfold f_X12_isHoliday
  rw [dv_of ⟨by omega, by omega⟩, dv_of ⟨by omega, by omega⟩]
  by_cases q : x / 10 % 7 = 6
  · rw [if_neg (fun z => z q), if_pos q]
  · rw [if_pos q, if_neg q]
theorem hours_m (m : MM) (w : Int) {a z : Int} (h : 0 ≤ a ∧ a ≤ z ∧ z ≤ 5000) : lpb (fun s : Int × Int => b_X12_presses_143 m w z s.1 s.2) (0, a) = some (wh (z + 1) - wh a) := by
  apply ev_eq
  refine lpb_run (fun s : Int × Int => a ≤ s.2 ∧ s.2 ≤ z + 1 ∧ s.1 = wh s.2 - wh a) (fun s => (z + 1 - s.2).toNat) ?_ _ ⟨by simp, by simp only; omega, by simp⟩
  rintro ⟨y, x⟩ ⟨h1, h2, h3⟩
  simp only at h1 h2 h3
  subst h3
  show Ev (b_X12_presses_143 m w z (wh x - wh a) x) _
  unfold b_X12_presses_143
  refine ev_if (fun hc => ev_exit (by rw [show x = z + 1 by omega])) fun hc => ?_
  have b1 := wh_b (x := x) ⟨by omega, by omega⟩
  have b2 := wh_b (x := a) ⟨by omega, by omega⟩
  have b3 := wh_mono (x := a) (y := x) (by omega) h1
  rw [hol_m m (by omega), Option.bind_some]
  by_cases q : x / 10 % 7 = 6
  · rw [if_pos q]
    refine ev_iff (show ¬ (1 : Int) = 0 by decide) (ev_ck (by omega) (ev_ck (by omega) (ev_back ⟨by simp only; omega, by simp only; omega, ?_⟩ (by simp only; omega))))
    simp only
    rw [wh_s (by omega), if_pos q]
    omega
  · rw [if_neg q]
    refine ev_ift rfl (ev_ck (by omega) (ev_ck (by omega) (ev_back ⟨by simp only; omega, by simp only; omega, ?_⟩ (by simp only; omega))))
    simp only
    rw [wh_s (by omega), if_neg q]
    omega
theorem call_presses (h : RR N mc mm) (a : Int) : Qry (f_X11_presses mc 0 a) (f_X12_presses mm 0 a) [0] mc mm := by
  unfold f_X11_presses f_X12_presses
  by_cases hb : 0 ≤ a ∧ a < gN mm 12 0 19
  · obtain ⟨b, rfl⟩ := Int.ex hb.1
    have h1 := h.thr 0
    obtain ⟨F, n, M, Ln, E, hB⟩ := h1.Bk b (by rw [gthr' _ _ (by omega)]; exact hb.2)
    have hP := hB.hP
    have hS := hB.hS
    have q1 := hP.hn
    rw [bookAt_ok h.Nb h.C hb.2, bR_ok, nk_some, isBook_ok h.Nb hb.2, Option.bind_some, if_neg (show ¬ (1 : Int) = 0 by decide)]
    unfold f_X7_fewestPresses j_X12_presses_0_14
    obtain ⟨⟨x1, x2, x3⟩, y, e1, e2, rfl, hJ, hw⟩ := press_loop h1 hB
    simp only at hJ hw
    rw [holds0, bI_ok, if_pos (show ¬ (1 : Int) = 0 by decide), nk_of hS.r6, lenI_of hS.z14, e1, e2, Option.bind_some, Option.bind_some]
    simp only
    unfold j_X7_fewestPresses_0_83 j_X12_presses_0_137
    rcases hJ with ⟨rfl, rfl, rfl⟩ | ⟨j1, j2, j3, j4, j5⟩
    · have e3 : lpb (fun s : Int × Int => b_X12_presses_143 (sN mm 12 0 0 0) 0 (-1) s.1 s.2) (0, 5000) = some 0 := by
        apply ev_eq
        refine lpb_run (fun s : Int × Int => s = (0, 5000)) (fun s => 0) ?_ _ rfl
        rintro _ rfl
        show Ev (b_X12_presses_143 _ 0 (-1) 0 5000) _
        unfold b_X12_presses_143
        exact ev_ift (by decide) (ev_exit rfl)
      rw [ck_of ⟨by omega, by omega⟩, wh_c _ ⟨by omega, by omega⟩, wh_c _ ⟨by omega, by omega⟩, Option.bind_some, Option.bind_some, ck_of ⟨by decide, by decide⟩, if_pos rfl, e3, Option.bind_some]
      unfold j_X12_presses_0_174
      rw [Option.bind_some, if_neg (show ¬ ¬ (0 : Int) = 0 by decide)]
      exact Qry.ok rfl rfl
    · have b1 := wh_b (x := x2 + 1) ⟨by omega, by omega⟩
      have b2 := wh_b (x := x1) ⟨by omega, by omega⟩
      have b3 := wh_mono (x := x1) (y := x2) (by omega) j2
      have b4 := wh_s (x := x2) (by omega)
      rw [if_neg (by omega)] at b4
      rw [ck_of ⟨by omega, by omega⟩, wh_c _ ⟨by omega, by omega⟩, wh_c _ ⟨by omega, by omega⟩, Option.bind_some, Option.bind_some, ck_of ⟨by omega, by omega⟩, if_neg (show ¬ x3 = 0 by omega), if_pos (show 0 < wh (x2 + 1) - wh x1 by omega), ck_of ⟨by omega, by omega⟩, dv_of ⟨by omega, by omega⟩, hours_m _ _ ⟨j1, j2, j3⟩, Option.bind_some, Option.bind_some]
      unfold j_X12_presses_0_174
      rw [if_pos (show ¬ x3 = 0 by omega), ck_of ⟨by omega, by omega⟩, dv_of ⟨by omega, by omega⟩]
      exact Qry.ok rfl rfl
  · rw [bookAt_bad h.Nb h.C hb, bR_ex, isBook_bad h.Nb hb, Option.bind_some, if_pos rfl]
    unfold j_X12_presses_0_14
    rw [holds1 _ (by decide), bI_ok, if_neg (fun q => q rfl)]
    exact Qry.bad (k := 0) rfl rfl rfl
end PRESSES
