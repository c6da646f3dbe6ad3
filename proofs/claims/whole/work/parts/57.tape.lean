/-! THE WORDS OF THE TAPE. -/
theorem stL_of {X : Type} {m : MM} {K i n : Nat} {j : Int} {v : Int64} {f : MM → Option X} (hz : gZ m K i = some n) (h : 0 ≤ j ∧ j < n) : stL m K i j v f = f (sL m K i j.toNat v) := by unfold stL; rw [lenI_of hz, if_pos h]
theorem stR_of {X : Type} {m : MM} {K i n : Nat} {j : Int} {v : Option (Nat × Nat)} {f : MM → Option X} (hz : gZ m K i = some n) (h : 0 ≤ j ∧ j < n) : stR m K i j v f = f (sR m K i j.toNat v) := by unfold stR; rw [lenI_of hz, if_pos h]
/-- the letters of the word that ends ahead of a place of the tape -/
def wl (t : Nat → Int) : Nat → List Nat
  | 0 => []
  | k + 1 => if 97 ≤ t k ∧ t k ≤ 122 then wl t k ++ [(t k - 97).toNat] else []
/-- how many blanks and strokes are ahead -/
def sps (t : Nat → Int) : Nat → Nat
  | 0 => 0
  | k + 1 => sps t k + if 97 ≤ t k ∧ t k ≤ 122 then 0 else 1
/-- a word ends there -/
def bnd (t : Nat → Int) (T e : Nat) : Prop := e ≤ T ∧ (e = T ∨ ¬ (97 ≤ t e ∧ t e ≤ 122))
def TextOK (t : Nat → Int) (T : Nat) : Prop := (∀ k, k < T → ((97 ≤ t k ∧ t k ≤ 122) → (wl t k).length < 8) ∧ (¬ (97 ≤ t k ∧ t k ≤ 122) → 0 < (wl t k).length)) ∧ 0 < (wl t T).length
theorem wl_s {t : Nat → Int} {k : Nat} (h : 97 ≤ t k ∧ t k ≤ 122) : wl t (k + 1) = wl t k ++ [(t k - 97).toNat] := by rw [wl, if_pos h]
theorem wl_n {t : Nat → Int} {k : Nat} (h : ¬ (97 ≤ t k ∧ t k ≤ 122)) : wl t (k + 1) = [] := by rw [wl, if_neg h]
theorem sps_s {t : Nat → Int} {k : Nat} (h : 97 ≤ t k ∧ t k ≤ 122) : sps t (k + 1) = sps t k := by rw [sps, if_pos h]; rfl
theorem sps_n {t : Nat → Int} {k : Nat} (h : ¬ (97 ≤ t k ∧ t k ≤ 122)) : sps t (k + 1) = sps t k + 1 := by rw [sps, if_neg h]
theorem sps_mono {t : Nat → Int} {k : Nat} : ∀ d, sps t k ≤ sps t (k + d)
  | 0 => Nat.le_refl _
  | d + 1 => by
    have := sps_mono (t := t) (k := k) d
    by_cases h : 97 ≤ t (k + d) ∧ t (k + d) ≤ 122
    · rw [← Nat.add_assoc, sps_s h]; exact this
    · rw [← Nat.add_assoc, sps_n h]; omega
theorem sps_le {t : Nat → Int} : ∀ k, sps t k ≤ k
  | 0 => Nat.le_refl _
  | k + 1 => by
    have := sps_le (t := t) k
    by_cases q : 97 ≤ t k ∧ t k ≤ 122
    · rw [sps_s q]; omega
    · rw [sps_n q]; omega
theorem sps_lt {t : Nat → Int} {T e e' : Nat} (h : bnd t T e) (h' : e < e') (hT : e' ≤ T) : sps t e < sps t e' := by
  have h1 : ¬ (97 ≤ t e ∧ t e ≤ 122) := by
    rcases h.2 with z | z
    · omega
    · exact z
  have h2 := sps_n h1
  have h3 := sps_mono (t := t) (k := e + 1) (e' - (e + 1))
  rw [show e + 1 + (e' - (e + 1)) = e' by omega] at h3
  omega
theorem bnd_one {t : Nat → Int} {T e e' : Nat} (h : bnd t T e) (h' : bnd t T e') (hs : sps t e = sps t e') : e = e' := by
  rcases Nat.lt_trichotomy e e' with q | q | q
  · have := sps_lt h q h'.1; omega
  · exact q
  · have := sps_lt h' q h.1; omega
theorem wl_lt {t : Nat → Int} : ∀ {k : Nat}, ∀ a ∈ wl t k, a < 26
  | 0 => fun a ha => by cases ha
  | k + 1 => fun a ha => by
    by_cases h : 97 ≤ t k ∧ t k ≤ 122
    · rw [wl_s h] at ha
      rcases List.mem_append.mp ha with z | z
      · exact wl_lt a z
      · rw [List.mem_singleton] at z; omega
    · rw [wl_n h] at ha; cases ha
theorem wl_ok {t : Nat → Int} {T k : Nat} (h : TextOK t T) (hk : k ≤ T) : okW (wl t k) := by
  refine ⟨?_, wl_lt⟩
  cases k with
  | zero => exact Nat.zero_le _
  | succ k =>
    by_cases q : 97 ≤ t k ∧ t k ≤ 122
    · have := (h.1 k (by omega)).1 q
      rw [wl_s q, List.length_append]
      exact this
    · rw [wl_n q]; exact Nat.zero_le _
theorem sps_half {t : Nat → Int} {T : Nat} (h : TextOK t T) : ∀ k, k ≤ T → 2 * sps t k ≤ k ∧ ((wl t k).length ≠ 0 → 2 * sps t k + 1 ≤ k)
  | 0, _ => ⟨Nat.le_refl _, fun q => absurd rfl q⟩
  | k + 1, hk => by
    obtain ⟨h1, h2⟩ := sps_half h k (by omega)
    by_cases q : 97 ≤ t k ∧ t k ≤ 122
    · rw [sps_s q]
      exact ⟨by omega, fun _ => by omega⟩
    · have := (h.1 k (by omega)).2 q
      have := h2 (by omega)
      rw [sps_n q, wl_n q]
      exact ⟨by omega, fun z => absurd rfl z⟩
theorem cwN_snoc (a : Nat) : ∀ l : List Nat, cwN (l ++ [a]) = cwN l + (97 + a) * 256 ^ l.length
  | [] => by show (97 + a) + 256 * 0 = 0 + (97 + a) * 256 ^ 0; omega
  | x :: l => by
    show (97 + x) + 256 * cwN (l ++ [a]) = ((97 + x) + 256 * cwN l) + (97 + a) * 256 ^ (l.length + 1)
    rw [cwN_snoc a l, Nat.pow_succ, Nat.mul_add]
    have : 256 * ((97 + a) * 256 ^ l.length) = (97 + a) * (256 ^ l.length * 256) := by
      rw [Nat.mul_comm 256, Nat.mul_assoc]
    omega
theorem mwN_snoc (a : Nat) : ∀ l : List Nat, mwN (l ++ [a]) = mwN l + (a + 1) * 32 ^ l.length
  | [] => by show (a + 1) + 32 * 0 = 0 + (a + 1) * 32 ^ 0; omega
  | x :: l => by
    show (x + 1) + 32 * mwN (l ++ [a]) = ((x + 1) + 32 * mwN l) + (a + 1) * 32 ^ (l.length + 1)
    rw [mwN_snoc a l, Nat.pow_succ, Nat.mul_add]
    have : 32 * ((a + 1) * 32 ^ l.length) = (a + 1) * (32 ^ l.length * 32) := by
      rw [Nat.mul_comm 32, Nat.mul_assoc]
    omega
theorem cw_add {l : List Nat} {a : Nat} (h : okW l) (hl : l.length < 8) (ha : a < 26) : (Int64.ofNat (cwN l) ||| lshl (i2l ((97 + a : Nat) : Int)) (8 * ((l.length : Nat) : Int))) = Int64.ofNat (cwN (l ++ [a])) := by
  have h1 := cwN_lt l h.2
  have h2 : 256 ^ l.length = 2 ^ (8 * l.length) := by rw [Nat.pow_mul]
  have h3 : (2 : Nat) ^ (8 * l.length) ≤ 2 ^ 56 := Nat.pow_le_pow_right (by omega) (by omega)
  have h4 : (97 + a) * 2 ^ (8 * l.length) ≤ 122 * 2 ^ 56 := Nat.mul_le_mul (by omega) h3
  rw [i2l_nat _ (by omega), show 8 * ((l.length : Nat) : Int) = ((8 * l.length : Nat) : Int) by omega, lshl_nat _ _ (by omega) (by omega), lor_nat _ _ _ (by omega) (by omega), cwN_snoc, h2]
theorem mw_add {l : List Nat} {a : Nat} (h : okW l) (hl : l.length < 8) (ha : a < 26) : (Int64.ofNat (mwN l) ||| lshl (i2l ((a + 1 : Nat) : Int)) (5 * ((l.length : Nat) : Int))) = Int64.ofNat (mwN (l ++ [a])) := by
  have h1 := mwN_lt l h.2
  have h2 : 32 ^ l.length = 2 ^ (5 * l.length) := by rw [Nat.pow_mul]
  have h3 : (2 : Nat) ^ (5 * l.length) ≤ 2 ^ 35 := Nat.pow_le_pow_right (by omega) (by omega)
  have h4 : (a + 1) * 2 ^ (5 * l.length) ≤ 26 * 2 ^ 35 := Nat.mul_le_mul (by omega) h3
  rw [i2l_nat _ (by omega), show 5 * ((l.length : Nat) : Int) = ((5 * l.length : Nat) : Int) by omega, lshl_nat _ _ (by omega) (by omega), lor_nat _ _ _ (by omega) (by omega), mwN_snoc, h2]
/-- what lies on the model's tape -/
def TM (mm : MM) (t : Nat → Int) (T : Nat) : Prop := (SM mm) ∧
  (gN mm 12 0 1 = T) ∧
  (T ≤ 40) ∧
  (∀ k, k < T → gN mm 59 0 k = t k)
theorem TM.M {mm : MM} {t : Nat → Int} {T : Nat} (h : TM mm t T) : SM mm := h.1
theorem TM.n {mm : MM} {t : Nat → Int} {T : Nat} (h : TM mm t T) : gN mm 12 0 1 = T := h.2.1
theorem TM.h {mm : MM} {t : Nat → Int} {T : Nat} (h : TM mm t T) : T ≤ 40 := h.2.2.1
theorem TM.t {mm : MM} {t : Nat → Int} {T : Nat} (h : TM mm t T) : ∀ k, k < T → gN mm 59 0 k = t k := h.2.2.2
def TC (mc : MM) (t : Nat → Int) (T : Nat) : Prop := (SC mc) ∧
  (gN mc 10 0 5 = T) ∧
  (T ≤ 40) ∧
  (∀ k, k < T → gN mc 50 0 k = t k)
theorem TC.C {mc : MM} {t : Nat → Int} {T : Nat} (h : TC mc t T) : SC mc := h.1
theorem TC.n {mc : MM} {t : Nat → Int} {T : Nat} (h : TC mc t T) : gN mc 10 0 5 = T := h.2.1
theorem TC.h {mc : MM} {t : Nat → Int} {T : Nat} (h : TC mc t T) : T ≤ 40 := h.2.2.1
theorem TC.t {mc : MM} {t : Nat → Int} {T : Nat} (h : TC mc t T) : ∀ k, k < T → gN mc 50 0 k = t k := h.2.2.2
section TAPE
variable {mc mm : MM} {t : Nat → Int} {T : Nat}
theorem fault_m (h : TM mm t T) : Ev (f_X12_tapeFault mm 0) (fun v => v = -1 → TextOK t T) := by
  have hM := h.M
  have h40 := h.h
  unfold f_X12_tapeFault
  refine ev_lp (Sum.elim (fun r => 0 ≤ r) fun z => z = (((wl t T).length : Nat) : Int) ∧ ∀ k, k < T → ((97 ≤ t k ∧ t k ≤ 122) → (wl t k).length < 8) ∧ (¬ (97 ≤ t k ∧ t k ≤ 122) → 0 < (wl t k).length)) (fun s => ∃ k : Nat, s = ((((wl t k).length : Nat) : Int), (k : Int)) ∧ k ≤ T ∧ (wl t k).length ≤ 8 ∧ ∀ j, j < k → ((97 ≤ t j ∧ t j ≤ 122) → (wl t j).length < 8) ∧ (¬ (97 ≤ t j ∧ t j ≤ 122) → 0 < (wl t j).length)) (fun s => T - s.2.toNat) ⟨0, rfl, by omega, Nat.zero_le _, fun j hj => absurd hj (by omega)⟩ ?_ ?_
  · rintro _ ⟨k, rfl, hk, h8, hg⟩
    show Ev (b_X12_tapeFault_4 mm 0 (((wl t k).length : Nat) : Int) (k : Int)) _
    unfold b_X12_tapeFault_4
    rw [h.n]
    refine ev_if (fun hc => ev_exit ⟨by rw [show k = T by omega], fun j hj => hg j (by omega)⟩) fun hc => ?_
    rw [nk_of hM.r2, ldN_of hM.z59 (by omega), tnc, h.t k (by omega), isIn_m, Option.bind_some]
    unfold j_X12_tapeFault_4_45
    by_cases hl : 97 ≤ t k ∧ t k ≤ 122
    · rw [if_pos hl]
      refine ev_iff (show ¬ (1 : Int) = 0 by decide) (ev_if (fun he => ev_iff (show ¬ (1 : Int) = 0 by decide) (ev_ck (by omega) (ev_ck (by omega) (ev_back ⟨k + 1, ?_, by omega, ?_, fun j hj => ?_⟩ (by simp only; omega))))) fun he => ev_exit (Int.natCast_nonneg k))
      · rw [wl_s hl, List.length_append]; simp
      · rw [wl_s hl, List.length_append, List.length_singleton]; omega
      · by_cases q : j = k
        · rw [q]; exact ⟨fun _ => by omega, fun z => absurd hl z⟩
        · exact hg j (by omega)
    · rw [if_neg hl]
      refine ev_ift rfl (ev_if (fun he => ev_ift rfl (ev_ck (by omega) (ev_back ⟨k + 1, by rw [wl_n hl]; rfl, by omega, by rw [wl_n hl]; exact Nat.zero_le _, fun j hj => ?_⟩ (by simp only; omega)))) fun he => ev_exit (Int.natCast_nonneg k))
      by_cases q : j = k
      · rw [q]; exact ⟨fun z => absurd z hl, fun _ => by omega⟩
      · exact hg j (by omega)
  · rintro (r | z) hx
    · exact ev_some fun q => by
        have hx' : 0 ≤ r := hx
        omega
    · obtain ⟨hz, hg⟩ := hx
      show Ev (j_X12_tapeFault_0_63 mm 0 z) _
      unfold j_X12_tapeFault_0_63
      refine ev_if (fun hc => ev_some fun _ => ⟨hg, by omega⟩) fun hc => ev_some fun q => ?_
      rw [h.n] at q
      omega
theorem tapeWords_m (h : TM mm t T) : f_X12_tapeWords mm 0 = some ((sps t T + 1 : Nat) : Int) := by
  have hM := h.M
  have h40 := h.h
  have hs : ∀ k, sps t k ≤ k := fun k => by
    induction k with
    | zero => exact Nat.le_refl _
    | succ k ih => by_cases q : 97 ≤ t k ∧ t k ≤ 122
                   · rw [sps_s q]; omega
                   · rw [sps_n q]; omega
  apply ev_eq
  unfold f_X12_tapeWords
  refine ev_lp (fun z => z = ((sps t T + 1 : Nat) : Int)) (fun s => ∃ k : Nat, s = (((sps t k + 1 : Nat) : Int), (k : Int)) ∧ k ≤ T) (fun s => T - s.2.toNat) ⟨0, rfl, by omega⟩ ?_ ?_
  · rintro _ ⟨k, rfl, hk⟩
    have := hs k
    show Ev (b_X12_tapeWords_4 mm 0 ((sps t k + 1 : Nat) : Int) (k : Int)) _
    unfold b_X12_tapeWords_4
    rw [h.n]
    refine ev_if (fun hc => ev_exit (by rw [show k = T by omega])) fun hc => ?_
    rw [nk_of hM.r2, ldN_of hM.z59 (by omega), tnc, h.t k (by omega), isIn_m, Option.bind_some]
    by_cases hl : 97 ≤ t k ∧ t k ≤ 122
    · rw [if_pos hl]
      exact ev_iff (show ¬ (1 : Int) = 0 by decide) (ev_ck (by omega) (ev_ck (by omega) (ev_back ⟨k + 1, by rw [sps_s hl]; simp, by omega⟩ (by simp only; omega))))
    · rw [if_neg hl]
      exact ev_ift rfl (ev_ck (by omega) (ev_ck (by omega) (ev_back ⟨k + 1, by rw [sps_n hl]; simp, by omega⟩ (by simp only; omega))))
  · rintro z rfl
    exact ev_some rfl
theorem tapeFrom_m (h : TM mm t T) {i : Nat} (hi : i ≤ sps t T) : Ev (f_X12_tapeFrom mm 0 (i : Int)) (fun v => ∃ k : Nat, v = k ∧ k ≤ T ∧ sps t k = i ∧ wl t k = []) := by
  have hM := h.M
  have h40 := h.h
  unfold f_X12_tapeFrom
  refine ev_lp (fun v => ∃ k : Nat, v = k ∧ k ≤ T ∧ sps t k = i ∧ wl t k = []) (fun s => ∃ k : Nat, s = (((sps t k : Nat) : Int), (k : Int)) ∧ k ≤ T ∧ sps t k ≤ i ∧ (sps t k = i → wl t k = [])) (fun s => T - s.2.toNat) ⟨0, rfl, by omega, Nat.zero_le _, fun _ => rfl⟩ ?_ ?_
  · rintro _ ⟨k, rfl, hk, h1, h2⟩
    show Ev (b_X12_tapeFrom_4 mm 0 (i : Int) ((sps t k : Nat) : Int) (k : Int)) _
    unfold b_X12_tapeFrom_4
    refine ev_if (fun hc => ev_exit ⟨k, rfl, hk, by omega, h2 (by omega)⟩) fun hc => ?_
    have hkT : k < T := by
      rcases Nat.lt_or_ge k T with q | q
      · exact q
      · have : k = T := by omega
        subst this; omega
    have hsk := sps_le (t := t) k
    rw [nk_of hM.r2, ldN_of hM.z59 (by omega), tnc, h.t k hkT, isIn_m, Option.bind_some]
    by_cases hl : 97 ≤ t k ∧ t k ≤ 122
    · rw [if_pos hl]
      exact ev_iff (show ¬ (1 : Int) = 0 by decide) (ev_ck (by omega) (ev_ck (by omega) (ev_back ⟨k + 1, by rw [sps_s hl]; simp, by omega, by rw [sps_s hl]; omega, fun q => by rw [sps_s hl] at q; omega⟩ (by simp only; omega))))
    · rw [if_neg hl]
      exact ev_ift rfl (ev_ck (by omega) (ev_ck (by omega) (ev_back ⟨k + 1, by rw [sps_n hl]; simp, by omega, by rw [sps_n hl]; omega, fun q => wl_n hl⟩ (by simp only; omega))))
  · rintro z hz
    exact ev_some hz
/-- the word that begins at a place: its end -/
theorem tapeWord_m (hok : TextOK t T) (h : TM mm t T) {i : Nat} (hi : i ≤ sps t T) : Ev (f_X12_tapeWord mm 0 (i : Int)) (fun v => ∃ e : Nat, bnd t T e ∧ sps t e = i ∧ v = Int64.ofNat (mwN (wl t e))) := by
  have hM := h.M
  have h40 := h.h
  obtain ⟨_, e1, k0, rfl, hk0, hs0, hw0⟩ := tapeFrom_m h hi
  unfold f_X12_tapeWord
  rw [e1, Option.bind_some]
  refine ev_lp (fun v => ∃ e : Nat, bnd t T e ∧ sps t e = i ∧ v = Int64.ofNat (mwN (wl t e))) (fun s => ∃ k : Nat, s = (Int64.ofNat (mwN (wl t k)), (k : Int)) ∧ k0 ≤ k ∧ k ≤ T ∧ sps t k = i ∧ (wl t k).length = k - k0) (fun s => T - s.2.toNat) ⟨k0, by rw [hw0]; rfl, by omega, hk0, hs0, by rw [hw0, Nat.sub_self]; rfl⟩ ?_ ?_
  · rintro _ ⟨k, rfl, hk1, hk2, hs, hl⟩
    show Ev (b_X12_tapeWord_13 mm 0 (k0 : Int) (Int64.ofNat (mwN (wl t k))) (k : Int)) _
    unfold b_X12_tapeWord_13
    rw [h.n]
    refine ev_if (fun hc => ev_exit ⟨k, ⟨hk2, Or.inl (by omega)⟩, hs, rfl⟩) fun hc => ?_
    rw [nk_of hM.r2, ldN_of hM.z59 (by omega), tnc, h.t k (by omega), isIn_m, Option.bind_some]
    by_cases hq : 97 ≤ t k ∧ t k ≤ 122
    · have h8 := (hok.1 k (by omega)).1 hq
      rw [if_pos hq]
      refine ev_iff (show ¬ (1 : Int) = 0 by decide) ?_
      rw [nk_of hM.r2, ldN_of hM.z59 (by omega), tnc, h.t k (by omega)]
      refine ev_ck (by omega) (ev_ck (by omega) (ev_letL (ev_ck (by omega) (ev_back ⟨k + 1, ?_, by omega, by omega, by rw [sps_s hq]; exact hs, by rw [wl_s hq, List.length_append, List.length_singleton]; omega⟩ (by simp only; omega)))))
      rw [show (t k - 97 + 1) = (((t k - 97).toNat + 1 : Nat) : Int) by omega, show 5 * ((k : Int) - (k0 : Int)) = 5 * (((wl t k).length : Nat) : Int) by omega, mw_add (wl_ok hok (by omega)) h8 (by omega), wl_s hq]
      rfl
    · rw [if_neg hq]
      exact ev_ift rfl (ev_exit ⟨k, ⟨hk2, Or.inr hq⟩, hs, rfl⟩)
  · rintro z hz
    exact ev_some hz
theorem tapeEnds_m (h : TM mm t T) {i : Nat} (hi : i ≤ sps t T) : Ev (f_X12_tapeEnds mm 0 (i : Int)) (fun v => ∃ e : Nat, bnd t T e ∧ sps t e = i ∧ v = if e = T ∨ t e = 47 then 1 else 0) := by
  have hM := h.M
  have h40 := h.h
  obtain ⟨_, e1, k0, rfl, hk0, hs0, hw0⟩ := tapeFrom_m h hi
  unfold f_X12_tapeEnds
  rw [e1, Option.bind_some]
  refine ev_lp (fun v => ∃ e : Nat, v = (e : Int) ∧ bnd t T e ∧ sps t e = i) (fun s => ∃ k : Nat, s = (k : Int) ∧ k ≤ T ∧ sps t k = i) (fun s => T - s.toNat) ⟨k0, rfl, hk0, hs0⟩ ?_ ?_
  · rintro _ ⟨k, rfl, hk2, hs⟩
    show Ev (b_X12_tapeEnds_6 mm 0 (k : Int)) _
    unfold b_X12_tapeEnds_6
    rw [h.n]
    refine ev_if (fun hc => ev_exit ⟨k, rfl, ⟨hk2, Or.inl (by omega)⟩, hs⟩) fun hc => ?_
    rw [nk_of hM.r2, ldN_of hM.z59 (by omega), tnc, h.t k (by omega), isIn_m, Option.bind_some]
    by_cases hq : 97 ≤ t k ∧ t k ≤ 122
    · rw [if_pos hq]
      exact ev_iff (show ¬ (1 : Int) = 0 by decide) (ev_ck (by omega) (ev_back ⟨k + 1, by simp, by omega, by rw [sps_s hq]; exact hs⟩ (by omega)))
    · rw [if_neg hq]
      exact ev_ift rfl (ev_exit ⟨k, rfl, ⟨hk2, Or.inr hq⟩, hs⟩)
  · rintro _ ⟨e, rfl, he, hs⟩
    unfold j_X12_tapeEnds_0_36
    rw [h.n]
    refine ev_if (fun hc => ev_some ⟨e, he, hs, by rw [if_pos (Or.inl (by omega))]⟩) fun hc => ?_
    have heT := he.1
    rw [nk_of hM.r2, ldN_of hM.z59 (by omega), tnc, h.t e (by omega)]
    exact ev_if (fun hd => ev_some ⟨e, he, hs, by rw [if_neg (fun q => q.elim (fun z => hc (by omega)) hd)]⟩) fun hd => ev_some ⟨e, he, hs, by rw [if_pos (Or.inr (Classical.not_not.mp hd))]⟩
def WSp (K i s : Nat) : Prop := (K = 51 ∨ K = 52) ∧ i = 0
/-- the class's words and their ends -/
def SplR (t : Nat → Int) (T : Nat) (m : MM) : Prop := ∀ e, bnd t T e → gL m 51 0 (sps t e) = Int64.ofNat (cwN (wl t e)) ∧ gN m 52 0 (sps t e) = if e = T ∨ t e = 47 then 1 else 0
theorem splitText_c (hok : TextOK t T) (h : TC mc t T) : Ev (f_X10_splitText mc 0) (fun r => r.1 = .inl (some (aI ((sps t T + 1 : Nat) : Int))) ∧ FrC WSp mc r.2 ∧ SplR t T r.2) := by
  have hC := h.C
  have h40 := h.h
  unfold f_X10_splitText
  refine ev_lp (fun z => z.1 = ((sps t T + 1 : Nat) : Int) ∧ FrC WSp mc z.2 ∧ SplR t T z.2) (fun s => ∃ k : Nat, s.2.2.2.1 = k ∧ k ≤ T + 1 ∧ FrC WSp mc s.2.2.2.2 ∧ (k ≤ T → s.1 = (sps t k : Nat) ∧ s.2.1 = Int64.ofNat (cwN (wl t k)) ∧ s.2.2.1 = ((wl t k).length : Nat)) ∧ (k = T + 1 → s.1 = ((sps t T + 1 : Nat) : Int)) ∧ ∀ e, e < k → bnd t T e → gL s.2.2.2.2 51 0 (sps t e) = Int64.ofNat (cwN (wl t e)) ∧ gN s.2.2.2.2 52 0 (sps t e) = if e = T ∨ t e = 47 then 1 else 0) (fun s => T + 1 - s.2.2.2.1.toNat) ⟨0, rfl, by omega, FrC.rf, fun _ => ⟨rfl, rfl, rfl⟩, fun q => by omega, fun e he => absurd he (by omega)⟩ ?_ ?_
  · rintro ⟨many, word, run, _, m1⟩ ⟨k, rfl, hk, hF, h1, h2, h3⟩
    simp only at hF h1 h2 h3
    have hC1 : SC m1 := hC.mv2 (fun K i s hk => (hF.1 K i s (by unfold WSp; omega)).2.2) (fun K i k hk => by rw [hF.2.1]; exact hk)
    have f5 : gN m1 10 0 5 = (T : Int) := by rw [(hF.1 10 0 5 (by unfold WSp; omega)).1, h.n]
    have f50 : ∀ k, k < T → gN m1 50 0 k = t k := fun k hk => by rw [(hF.1 50 0 k (by unfold WSp; omega)).1, h.t k hk]
    show Ev (b_X10_splitText_10 0 many word run (k : Int) m1) _
    unfold b_X10_splitText_10
    rw [f5]
    refine ev_if (fun hc => ev_exit ⟨h2 (by omega), hF, fun e he => h3 e (by have := he.1; omega) he⟩) fun hc => ?_
    have hkT : k ≤ T := by omega
    obtain ⟨rfl, rfl, rfl⟩ := h1 hkT
    have hhalf := (sps_half hok k hkT).1
    have stop : bnd t T k → Ev (j_X10_splitText_10_64 m1 0 ((sps t k : Nat) : Int) (Int64.ofNat (cwN (wl t k))) (((wl t k).length : Nat) : Int) (k : Int)) (fun z => Sum.elim (fun s' : Int × Int64 × Int × Int × MM => (∃ k : Nat, s'.2.2.2.1 = k ∧ k ≤ T + 1 ∧ FrC WSp mc s'.2.2.2.2 ∧ (k ≤ T → s'.1 = (sps t k : Nat) ∧ s'.2.1 = Int64.ofNat (cwN (wl t k)) ∧ s'.2.2.1 = ((wl t k).length : Nat)) ∧ (k = T + 1 → s'.1 = ((sps t T + 1 : Nat) : Int)) ∧ ∀ e, e < k → bnd t T e → gL s'.2.2.2.2 51 0 (sps t e) = Int64.ofNat (cwN (wl t e)) ∧ gN s'.2.2.2.2 52 0 (sps t e) = if e = T ∨ t e = 47 then 1 else 0) ∧ T + 1 - s'.2.2.2.1.toNat < T + 1 - ((k : Int)).toNat) (fun z : Int × MM => z.1 = ((sps t T + 1 : Nat) : Int) ∧ FrC WSp mc z.2 ∧ SplR t T z.2) z) := by
      intro hb
      unfold j_X10_splitText_10_64
      rw [nk_of hC1.w1, lenI_of hC1.z51]
      refine ev_iff (by omega) ?_
      rw [nk_of hC1.w1, stL_of hC1.z51 (by omega), tnc]
      have hC2 : SC (sL m1 51 0 (sps t k) (Int64.ofNat (cwN (wl t k)))) := hC1.mv (fun _ _ _ _ => rfl) (fun _ _ _ q => q)
      rw [nk_of hC2.w2]
      have fin : ∀ v : Int, v = (if k = T ∨ t k = 47 then 1 else 0) → Ev (j_X10_splitText_10_111 (sL m1 51 0 (sps t k) (Int64.ofNat (cwN (wl t k)))) 0 ((sps t k : Nat) : Int) (k : Int) 0 ((sps t k : Nat) : Int) v) (fun z => Sum.elim (fun s' : Int × Int64 × Int × Int × MM => (∃ k : Nat, s'.2.2.2.1 = k ∧ k ≤ T + 1 ∧ FrC WSp mc s'.2.2.2.2 ∧ (k ≤ T → s'.1 = (sps t k : Nat) ∧ s'.2.1 = Int64.ofNat (cwN (wl t k)) ∧ s'.2.2.1 = ((wl t k).length : Nat)) ∧ (k = T + 1 → s'.1 = ((sps t T + 1 : Nat) : Int)) ∧ ∀ e, e < k → bnd t T e → gL s'.2.2.2.2 51 0 (sps t e) = Int64.ofNat (cwN (wl t e)) ∧ gN s'.2.2.2.2 52 0 (sps t e) = if e = T ∨ t e = 47 then 1 else 0) ∧ T + 1 - s'.2.2.2.1.toNat < T + 1 - ((k : Int)).toNat) (fun z : Int × MM => z.1 = ((sps t T + 1 : Nat) : Int) ∧ FrC WSp mc z.2 ∧ SplR t T z.2) z) := by
        intro v hv
        unfold j_X10_splitText_10_111
        have hv01 : v = 0 ∨ v = 1 := by rw [hv]; split <;> omega
        refine ev_cb hv01 ?_
        rw [stN_of hC2.z52 (by omega), tnc]
        refine ev_ck (by omega) (ev_ck (by omega) (ev_back ⟨k + 1, by simp, by omega, (hF.sL (Or.inl rfl |> fun q => ⟨q, rfl⟩)).sN ⟨Or.inr rfl, rfl⟩, fun hk1 => ?_, fun hk1 => ?_, fun e he hbe => ?_⟩ (by simp only; omega)))
        · have hq : ¬ (97 ≤ t k ∧ t k ≤ 122) := by
            rcases hb.2 with z | z
            · omega
            · exact z
          exact ⟨by rw [sps_n hq]; simp, by rw [wl_n hq]; rfl, by rw [wl_n hq]; rfl⟩
        · have : k = T := by omega
          simp only
          rw [this]; simp
        · simp only
          rw [gL_sN, gL_sL, gN_sN, gN_sL]
          by_cases q : e = k
          · subst q
            rw [if_pos ⟨rfl, rfl, rfl⟩, if_pos ⟨rfl, rfl, rfl⟩]
            exact ⟨rfl, hv⟩
          · have hlt := sps_lt hbe (show e < k by omega) hkT
            rw [if_neg (by omega), if_neg (by omega)]
            exact h3 e (by omega) hbe
      rw [show gN (sL m1 51 0 (sps t k) (Int64.ofNat (cwN (wl t k)))) 10 0 5 = (T : Int) from f5]
      refine ev_if (fun hd => fin 1 (by rw [if_pos (Or.inl (by omega))])) fun hd => ?_
      rw [nk_of hC2.w0, ldN_of hC2.z50 (by omega), tnc, show gN (sL m1 51 0 (sps t k) (Int64.ofNat (cwN (wl t k)))) 50 0 k = t k from f50 k (by omega)]
      exact ev_if (fun hd2 => fin 0 (by rw [if_neg (fun q => q.elim (fun z => hd (by omega)) hd2)])) fun hd2 => fin 1 (by rw [if_pos (Or.inr (Classical.not_not.mp hd2))])
    refine ev_if (fun hd => stop ⟨hkT, Or.inl (by omega)⟩) fun hd => ?_
    rw [nk_of hC1.w0, ldN_of hC1.z50 (by omega), tnc, f50 k (by omega), isLetter_c, Option.bind_some]
    by_cases hq : 97 ≤ t k ∧ t k ≤ 122
    · have h8 := (hok.1 k (by omega)).1 hq
      rw [if_pos hq]
      refine ev_iff (show ¬ (1 : Int) = 0 by decide) ?_
      rw [nk_of hC1.w0, ldN_of hC1.z50 (by omega), tnc, f50 k (by omega)]
      refine ev_ck (by omega) (ev_letL (ev_ck (by omega) (ev_ck (by omega) (ev_back ⟨k + 1, by simp, by omega, hF, fun _ => ⟨by rw [sps_s hq], ?_, by rw [wl_s hq, List.length_append]; simp⟩, fun q => by omega, fun e he hbe => ?_⟩ (by simp only; omega)))))
      · simp only
        rw [show t k = ((97 + (t k - 97).toNat : Nat) : Int) by omega, cw_add (wl_ok hok hkT) h8 (by omega), wl_s hq]
      · by_cases q : e = k
        · subst q
          rcases hbe.2 with z | z
          · omega
          · exact absurd hq z
        · exact h3 e (by omega) hbe
    · rw [if_neg hq]
      exact ev_ift rfl (stop ⟨hkT, Or.inr hq⟩)
  · rintro ⟨z1, z2⟩ ⟨hz1, hz2, hz3⟩
    unfold j_X10_splitText_0_126
    exact ev_some ⟨by rw [hz1], hz2, hz3⟩
end TAPE
