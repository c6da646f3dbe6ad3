/-! SET: which piece goes to a place. -/
section SET
variable {F n M Ln E : Nat}
/-- the piece that a letter gets: from its own box, or turned, or none -/
def Pick (t : MM) (l : Nat) (pc tu : Int) (e : Nat) : Prop := (pc = -1 ∧ tu = 0 ∧ e = l ∧ gN t 66 0 l = -1 ∧ (tb l = -1 ∨ ∃ u : Nat, u < 28 ∧ tb l = u ∧ gN t 66 0 u = -1)) ∨ ∃ x : Nat, x < 400 ∧ pc = x ∧ e < 28 ∧ gN t 66 0 e = x ∧ ((tu = 0 ∧ e = l) ∨ (tu = 1 ∧ gN t 66 0 l = -1 ∧ tb l = e))
theorem pick_ex {t : MM} {l : Nat} (hl : l < 28) (h6 : ∀ e : Nat, e < 28 → -1 ≤ gN t 66 0 e ∧ gN t 66 0 e < 400) : ∃ pc tu e, Pick t l pc tu e := by
  have h1 := h6 l hl
  by_cases z : gN t 66 0 l = -1
  · have h2 := tb_rng (l := l)
    by_cases y : tb l = -1
    · exact ⟨-1, 0, l, Or.inl ⟨rfl, rfl, rfl, z, Or.inl y⟩⟩
    · obtain ⟨u, hu⟩ := Int.ex (show 0 ≤ tb l by omega)
      have h3 := h6 u (by omega)
      by_cases w : gN t 66 0 u = -1
      · exact ⟨-1, 0, l, Or.inl ⟨rfl, rfl, rfl, z, Or.inr ⟨u, by omega, hu, w⟩⟩⟩
      · obtain ⟨x, hx⟩ := Int.ex (show 0 ≤ gN t 66 0 u by omega)
        exact ⟨x, 1, u, Or.inr ⟨x, by omega, rfl, by omega, hx, Or.inr ⟨rfl, z, hu⟩⟩⟩
  · obtain ⟨x, hx⟩ := Int.ex (show 0 ≤ gN t 66 0 l by omega)
    exact ⟨x, 0, l, Or.inr ⟨x, by omega, rfl, hl, hx, Or.inl ⟨rfl, rfl⟩⟩⟩
theorem pick_c {s t mm : MM} {b p K l e : Nat} {pc tu ow : Int} (hP : BP mm b F n M Ln E) (hS : BS s b F n M Ln E) (hC : SC s) (hp : p < 2 * (F * n)) (hn : gN s 5 (16 * b + p) 4 = K) (hK : K < M * Ln) (hl : l < 28) (h24 : ∀ j, gN s 24 0 j = gN t 66 0 j) (h : Pick t l pc tu e) :
    (pc = -1 ∧ tu = 0 ∧ f_X5_fillNext s (16 * b + p) (l : Int) 0 ow = j_X5_fillNext_0_80 s (16 * b + p) (l : Int) 0 (l : Int) pc tu) ∨ ∃ x : Nat, x < 400 ∧ pc = x ∧ e < 28 ∧ gN t 66 0 e = x ∧ f_X5_fillNext s (16 * b + p) (l : Int) 0 ow = j_X5_fillNext_0_80 (sN (sN s 24 0 e (gN s 23 0 x)) 22 0 x ow) (16 * b + p) (l : Int) 0 (e : Int) pc tu := by
  unfold f_X5_fillNext
  rw [nk_of (hS.q0 p hp), lenI_of (hS.z34 p hp), hn, if_pos (by omega)]
  have j59 : ∀ (m : MM) (v w : Int), j_X5_fillNext_0_59 m (16 * b + p) (l : Int) 0 ow (l : Int) v w = j_X5_fillNext_0_80 m (16 * b + p) (l : Int) 0 (l : Int) v 0 := fun m v w => by
    unfold j_X5_fillNext_0_59 j_X5_fillNext_0_60
    rw [if_pos rfl]
  rcases h with ⟨rfl, rfl, -, a1, a2⟩ | ⟨x, hx, rfl, he, a3, a4⟩
  · refine Or.inl ⟨rfl, rfl, ?_⟩
    rw [take_c0 hC hl (by rw [h24, a1]), bI_ok, turned_c hl, Option.bind_some, if_neg (fun z => z rfl)]
    rcases a2 with z | ⟨u, hu, z, y⟩
    · rw [if_pos z, j59]
    · rw [if_neg (by omega), nk_of hC.c4, z, ldN_of hC.z24 (by omega), tnc, h24, y, if_pos rfl, j59]
  · refine Or.inr ⟨x, hx, rfl, he, a3, ?_⟩
    rcases a4 with ⟨rfl, rfl⟩ | ⟨rfl, a5, a6⟩
    · rw [take_c hC hl (by rw [h24, a3]) hx, bI_ok, turned_c hl, Option.bind_some, if_pos (show ¬ (x : Int) = -1 by omega), j59]
    · rw [take_c0 hC hl (by rw [h24, a5]), bI_ok, turned_c hl, Option.bind_some, if_neg (fun z => z rfl), a6, if_neg (show ¬ (e : Int) = -1 by omega), nk_of hC.c4, ldN_of hC.z24 (by omega), tnc, h24, a3, if_neg (show ¬ (x : Int) = -1 by omega)]
      unfold j_X5_fillNext_0_60
      rw [if_neg (show ¬ (1 : Int) = 0 by decide), take_c hC he (by rw [h24, a3]) hx, bI_ok]
/-- the model's memory with the place begun -/
def T0 (t : MM) (q K l : Nat) : MM := sN (sN (sN (sN t 90 0 q ((K : Int) + 1)) 99 0 (150 * q + K) l) 100 0 (150 * q + K) (-1)) 101 0 (150 * q + K) 0
theorem pick_m {t : MM} {b p d K l e : Nat} {pc tu : Int} (hM : SM t) (hb : b < 3) (hp : p < 16) (hn : gN t 90 0 (16 * b + p) = K) (hK : K < 150) (hl : l < 28) (h : Pick t l pc tu e) :
    (pc = -1 ∧ tu = 0 ∧ f_X12_fills t 0 (b : Int) (p : Int) (d : Int) (l : Int) = j_X12_fills_0_134 (T0 t (16 * b + p) K l) 0 (b : Int) (p : Int) (d : Int) (l : Int) ((150 * (16 * b + p) + K : Nat) : Int)) ∨ ∃ x : Nat, x < 400 ∧ pc = x ∧ e < 28 ∧ gN t 66 0 e = x ∧
      ((tu = 0 ∧ e = l ∧ f_X12_fills t 0 (b : Int) (p : Int) (d : Int) (l : Int) = j_X12_fills_0_134 (sN (sN (T0 t (16 * b + p) K l) 66 0 e (gN t 65 0 x)) 100 0 (150 * (16 * b + p) + K) x) 0 (b : Int) (p : Int) (d : Int) (l : Int) ((150 * (16 * b + p) + K : Nat) : Int)) ∨
       (tu = 1 ∧ tb l = e ∧ f_X12_fills t 0 (b : Int) (p : Int) (d : Int) (l : Int) = j_X12_fills_0_134 (sN (sN (sN (T0 t (16 * b + p) K l) 66 0 e (gN t 65 0 x)) 100 0 (150 * (16 * b + p) + K) x) 101 0 (150 * (16 * b + p) + K) 1) 0 (b : Int) (p : Int) (d : Int) (l : Int) ((150 * (16 * b + p) + K : Nat) : Int))) := by
  have hM0 : SM (T0 t (16 * b + p) K l) := hM.mv (fun _ => rfl) (fun _ _ _ q => q)
  have hM1 : SM (sN t 90 0 (16 * b + p) ((K : Int) + 1)) := hM.mv (fun _ => rfl) (fun _ _ _ q => q)
  have hM2 : SM (sN (sN t 90 0 (16 * b + p) ((K : Int) + 1)) 99 0 (150 * (16 * b + p) + K) l) := hM.mv (fun _ => rfl) (fun _ _ _ q => q)
  have hM3 : SM (sN (sN (sN t 90 0 (16 * b + p) ((K : Int) + 1)) 99 0 (150 * (16 * b + p) + K) l) 100 0 (150 * (16 * b + p) + K) (-1)) := hM.mv (fun _ => rfl) (fun _ _ _ q => q)
  have y66 : ∀ j, gN (T0 t (16 * b + p) K l) 66 0 j = gN t 66 0 j := fun j => by unfold T0; rw [gN_k (by decide), gN_k (by decide), gN_k (by decide), gN_k (by decide)]
  have y65 : ∀ j, gN (T0 t (16 * b + p) K l) 65 0 j = gN t 65 0 j := fun j => by unfold T0; rw [gN_k (by decide), gN_k (by decide), gN_k (by decide), gN_k (by decide)]
  have e0 : ∀ {X : Prop}, ((f_X12_fills t 0 (b : Int) (p : Int) (d : Int) (l : Int) = ldN (T0 t (16 * b + p) K l) 66 0 (l : Int) fun v14 => if v14 = (-1) then ((f_X12_turnedOf (T0 t (16 * b + p) K l) (l : Int)).bind fun v15 => if v15 = (-1) then (j_X12_fills_0_134 (T0 t (16 * b + p) K l) 0 (b : Int) (p : Int) (d : Int) (l : Int) ((150 * (16 * b + p) + K : Nat) : Int)) else
      nk 66 (gR (T0 t (16 * b + p) K l) 12 0 11) fun i16 => (f_X12_turnedOf (T0 t (16 * b + p) K l) (l : Int)).bind fun v17 => ldN (T0 t (16 * b + p) K l) 66 i16 v17 fun v18 => if v18 = (-1) then (j_X12_fills_0_134 (T0 t (16 * b + p) K l) 0 (b : Int) (p : Int) (d : Int) (l : Int) ((150 * (16 * b + p) + K : Nat) : Int)) else
      nk 100 (gR (T0 t (16 * b + p) K l) 12 0 47) fun i19 => (f_X12_turnedOf (T0 t (16 * b + p) K l) (l : Int)).bind fun v20 => bI (f_X12_takes (T0 t (16 * b + p) K l) 0 v20) (fun v22 m21 => stN m21 100 i19 ((150 * (16 * b + p) + K : Nat) : Int) v22 fun m23 => nk 101 (gR m23 12 0 48) fun i24 => stN m23 101 i24 ((150 * (16 * b + p) + K : Nat) : Int) 1 fun m25 => j_X12_fills_0_134 m25 0 (b : Int) (p : Int) (d : Int) (l : Int) ((150 * (16 * b + p) + K : Nat) : Int)) x0) else
      nk 100 (gR (T0 t (16 * b + p) K l) 12 0 47) fun i26 => bI (f_X12_takes (T0 t (16 * b + p) K l) 0 (l : Int)) (fun v28 m27 => stN m27 100 i26 ((150 * (16 * b + p) + K : Nat) : Int) v28 fun m29 => j_X12_fills_0_134 m29 0 (b : Int) (p : Int) (d : Int) (l : Int) ((150 * (16 * b + p) + K : Nat) : Int)) x0) → X) → X := fun {X} hh => hh (by
    unfold f_X12_fills
    have y90 : ∀ K', gN t 90 0 K' = gN t 90 0 K' := fun _ => rfl
    rw [ck_of ⟨by omega, by omega⟩, nk_of hM.r37, ldN_of hM.z90 (by omega), show (16 * (b : Int) + (p : Int)).toNat = 16 * b + p by omega, hn, ck_of ⟨by omega, by omega⟩, lt0_eq, show 150 * (16 * (b : Int) + (p : Int)) + (K : Int) = ((150 * (16 * b + p) + K : Nat) : Int) by omega, nk_of hM.r37, ldN_of hM.z90 (by omega), show (16 * (b : Int) + (p : Int)).toNat = 16 * b + p by omega, hn, ck_of ⟨by omega, by omega⟩, stN_of hM.z90 (by omega), show (16 * (b : Int) + (p : Int)).toNat = 16 * b + p by omega,
      nk_of hM1.r46, stN_of hM1.z99 (by omega), tnc, nk_of hM2.r47, stN_of hM2.z100 (by omega), tnc, nk_of hM3.r48, stN_of hM3.z101 (by omega), tnc, ← T0, nk_of hM0.r11])
  rcases h with ⟨rfl, rfl, -, a1, a2⟩ | ⟨x, hx, rfl, he, a3, a4⟩
  · refine Or.inl ⟨rfl, rfl, ?_⟩
    refine e0 fun e1 => ?_
    rw [e1, ldN_of hM0.z66 (by omega), tnc, y66, a1, if_pos rfl, turned_m hl, Option.bind_some]
    rcases a2 with z | ⟨u, hu, z, y⟩
    · rw [if_pos z]
    · rw [if_neg (by omega), nk_of hM0.r11, Option.bind_some, z, ldN_of hM0.z66 (by omega), tnc, y66, y, if_pos rfl]
  · refine Or.inr ⟨x, hx, rfl, he, a3, ?_⟩
    refine e0 fun e1 => ?_
    have tk := take_m hM0 he (by rw [y66, a3]) hx
    have hM4 : SM (sN (T0 t (16 * b + p) K l) 66 0 e (gN t 65 0 x)) := hM0.mv (fun _ => rfl) (fun _ _ _ q => q)
    have hM5 : SM (sN (sN (T0 t (16 * b + p) K l) 66 0 e (gN t 65 0 x)) 100 0 (150 * (16 * b + p) + K) x) := hM0.mv (fun _ => rfl) (fun _ _ _ q => q)
    rw [y65] at tk
    rcases a4 with ⟨rfl, rfl⟩ | ⟨rfl, a5, a6⟩
    · refine Or.inl ⟨rfl, rfl, ?_⟩
      rw [e1, ldN_of hM0.z66 (by omega), tnc, y66, a3, if_neg (show ¬ (x : Int) = -1 by omega), nk_of hM0.r47, tk, bI_ok, stN_of hM4.z100 (by omega), tnc]
    · refine Or.inr ⟨rfl, a6, ?_⟩
      rw [e1, ldN_of hM0.z66 (by omega), tnc, y66, a5, if_pos rfl, turned_m hl, Option.bind_some, a6, if_neg (show ¬ (e : Int) = -1 by omega), nk_of hM0.r11, Option.bind_some, ldN_of hM0.z66 (by omega), tnc, y66, a3, if_neg (show ¬ (x : Int) = -1 by omega), nk_of hM0.r47, Option.bind_some, tk, bI_ok, stN_of hM4.z100 (by omega), tnc, nk_of hM5.r48, stN_of hM5.z101 (by omega), tnc]
/-- a place more, empty -/
theorem RPc.grow {t : MM} (h : RPc t) {q K : Nat} (hn : gN t 90 0 q = K) (hK : K < 150) : RPc (sN (sN t 90 0 q ((K : Int) + 1)) 100 0 (150 * q + K) (-1)) := by
  have e6 : gN (sN (sN t 90 0 q ((K : Int) + 1)) 100 0 (150 * q + K) (-1)) 12 0 6 = gN t 12 0 6 := by simp [gN_sN]
  have m64 : ∀ j, gN (sN (sN t 90 0 q ((K : Int) + 1)) 100 0 (150 * q + K) (-1)) 64 0 j = gN t 64 0 j := fun j => by rw [gN_k (by decide), gN_k (by decide)]
  have m65 : ∀ j, gN (sN (sN t 90 0 q ((K : Int) + 1)) 100 0 (150 * q + K) (-1)) 65 0 j = gN t 65 0 j := fun j => by rw [gN_k (by decide), gN_k (by decide)]
  have m66 : ∀ j, gN (sN (sN t 90 0 q ((K : Int) + 1)) 100 0 (150 * q + K) (-1)) 66 0 j = gN t 66 0 j := fun j => by rw [gN_k (by decide), gN_k (by decide)]
  have m90 : ∀ j, gN (sN (sN t 90 0 q ((K : Int) + 1)) 100 0 (150 * q + K) (-1)) 90 0 j = if j = q then (K : Int) + 1 else gN t 90 0 j := fun j => by simp [gN_sN]
  have m100 : ∀ j, gN (sN (sN t 90 0 q ((K : Int) + 1)) 100 0 (150 * q + K) (-1)) 100 0 j = if j = 150 * q + K then (-1) else gN t 100 0 j := fun j => by simp [gN_sN]
  have hp := h.p
  have hi := h.i
  have old : ∀ q' k' y : Nat, q' < 48 → k' < 150 → (k' : Int) < (if q' = q then (K : Int) + 1 else gN t 90 0 q') → (if 150 * q' + k' = 150 * q + K then (-1 : Int) else gN t 100 0 (150 * q' + k')) = y → (k' : Int) < gN t 90 0 q' ∧ gN t 100 0 (150 * q' + k') = y := fun q' k' y h1 h2 h3 h4 => by
    by_cases z : 150 * q' + k' = 150 * q + K
    · rw [if_pos z] at h4; omega
    · rw [if_neg z] at h4
      by_cases w : q' = q
      · rw [if_pos w] at h3
        subst w
        exact ⟨by omega, h4⟩
      · rw [if_neg w] at h3
        exact ⟨h3, h4⟩
  unfold RPc at h ⊢
  rw [e6]
  simp only [m64, m65, m66, m90, m100]
  refine ⟨h.1, h.2.1, h.2.2.1, h.2.2.2.1, h.2.2.2.2.1, fun q' k' y h1 h2 h3 h4 => ?_, fun q' k' q2 k2 y a1 a2 a3 a4 a5 a6 a7 a8 => ?_⟩
  · obtain ⟨z1, z2⟩ := old q' k' y h1 h2 h3 h4
    exact hp q' k' y h1 h2 z1 z2
  · obtain ⟨z1, z2⟩ := old q' k' y a1 a2 a5 a7
    obtain ⟨z3, z4⟩ := old q2 k2 y a3 a4 a6 a8
    exact hi q' k' q2 k2 y a1 a2 a3 a4 z1 z3 z2 z4
end SET
