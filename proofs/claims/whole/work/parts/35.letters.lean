/-! LETTERS of a word, spellings: what the small programs come to. -/
theorem ck_of {X : Type} {x : Int} {o : Option X} (h : -2147483648 ≤ x ∧ x < 2147483648) : ck x o = o := if_pos h
theorem dv_of {X : Type} {x y : Int} {o : Option X} (h : 0 ≤ x ∧ 0 < y) : dv x y o = o := if_pos h
def ltr (l : List Nat) (k : Nat) : Int := match l[k]? with
  | some a => ((97 + a : Nat) : Int)
  | none => 0
theorem letterAt_eq {m : MM} {l : List Nat} (h : okW l) {k : Nat} (hk : k < 8) : f_X11_letterAt m (Int64.ofNat (cwN l)) (k : Int) = some (ltr l k) := by
  unfold f_X11_letterAt
  rw [ck_of ⟨by omega, by omega⟩, show (8 * (k : Int)) = ((8 * k : Nat) : Int) by omega, lushr_nat _ _ h.c (by omega), show (255 : Int64) = Int64.ofNat (2 ^ 8 - 1) from rfl,
    land_nat _ 8 (Nat.lt_of_le_of_lt (Nat.div_le_self _ _) h.c) (by decide), l2i_nat _ (Nat.lt_of_lt_of_le (Nat.mod_lt _ (by decide)) (by decide)), Nat.pow_mul]
  have h1 := cwN_at l k
  rcases h1 with h1 | h1
  · rw [show (2 : Nat) ^ 8 = 256 from rfl, h1]
    unfold ltr
    cases l[k]? <;> rfl
  · exact absurd h.2 h1
theorem ltr_lt {l : List Nat} {k : Nat} (h : okW l) (hk : k < l.length) : 97 ≤ ltr l k ∧ ltr l k ≤ 122 ∧ ltr l k = 97 + ((l[k] : Nat) : Int) := by
  unfold ltr
  rw [List.getElem?_eq_getElem hk]
  have := h.2 _ (List.getElem_mem hk)
  simp only
  omega
theorem ltr_ge {l : List Nat} {k : Nat} (hk : l.length ≤ k) : ltr l k = 0 := by
  unfold ltr
  rw [List.getElem?_eq_none hk]
theorem letters_c {m : MM} {l : List Nat} (h : okW l) : f_X11_letters m (Int64.ofNat (cwN l)) = some (l.length : Int) := by
  apply ev_eq
  unfold f_X11_letters
  refine ev_lp (fun x => x = (l.length : Int)) (fun s => ∃ k : Nat, s.2 = k ∧ k ≤ 8 ∧ s.1 = (min k l.length : Nat)) (fun s => 8 - s.2.toNat) ⟨0, rfl, by omega, by simp⟩ ?_ ?_
  · rintro ⟨a, b⟩ ⟨k, hb, hk, ha⟩
    simp only at hb ha
    subst hb
    unfold b_X11_letters_4
    refine ev_if (fun hc => ev_exit ?_) fun hc => ?_
    · have := h.1
      rw [ha, Nat.min_eq_right (by omega)]
    · refine ev_bind (ev_of (letterAt_eq h (by omega)) (Φ := fun v => v = ltr l k) rfl) ?_
      rintro v rfl
      by_cases hl : k < l.length
      · have h1 := ltr_lt h hl
        refine ev_iff (by omega) (ev_ck (by omega) (ev_ck (by omega) (ev_back ⟨k + 1, by simp, by omega, ?_⟩ (by simp only; omega))))
        simp only
        rw [ha, Nat.min_eq_left (by omega), Nat.min_eq_left (by omega)]
        rfl
      · refine ev_ift (ltr_ge (by omega)) (ev_ck (by omega) (ev_back ⟨k + 1, by simp, by omega, ?_⟩ (by simp only; omega)))
        simp only
        rw [ha, Nat.min_eq_right (by omega), Nat.min_eq_right (by omega)]
  · rintro x rfl
    exact ev_some rfl
theorem lshr_m {l : List Nat} (h : okW l) {k : Nat} (hk : k ≤ 8) : lshr (Int64.ofNat (mwN l)) (5 * (k : Int)) = Int64.ofNat (mwN l / 32 ^ k) := by
  have := h.m
  rw [show (5 * (k : Int)) = ((5 * k : Nat) : Int) by omega, lshr_nat _ _ (by omega) (by omega), Nat.pow_mul]
theorem i64_pos {x : Nat} (hx : x < 2 ^ 63) : lcm' (Int64.ofNat x) 0 = if 0 < x then 1 else 0 := by
  by_cases h : 0 < x
  · rw [if_pos h]
    unfold lcm'
    rw [if_pos]
    show (0 : Int64) < Int64.ofNat x
    rw [Int64.lt_iff_toInt_lt, Int64.toInt_ofNat_of_lt hx]
    show (0 : Int) < x
    omega
  · rw [if_neg h, show x = 0 by omega]
    rfl
theorem letters_m {m : MM} {l : List Nat} (h : okW l) : f_X12_letters m (Int64.ofNat (mwN l)) = some (l.length : Int) := by
  apply ev_eq
  unfold f_X12_letters
  have h8 := h.1
  have hm := h.m
  refine ev_lp (fun x => x = (l.length : Int)) (fun s => ∃ k : Nat, s = k ∧ k ≤ l.length) (fun s => 8 - s.toNat) ⟨0, rfl, by omega⟩ ?_ ?_
  · rintro _ ⟨k, rfl, hk⟩
    unfold b_X12_letters_2
    refine ev_ck (by omega) ?_
    rw [lshr_m h (by omega), i64_pos (Nat.lt_of_le_of_lt (Nat.div_le_self _ _) (by omega))]
    by_cases hl : k < l.length
    · rw [if_pos ((mwN_pos l k h.2).mpr hl)]
      exact ev_iff (by decide) (ev_ck (by omega) (ev_back ⟨k + 1, by simp, by omega⟩ (by omega)))
    · rw [if_neg (fun q => hl ((mwN_pos l k h.2).mp q))]
      exact ev_ift (by decide) (ev_exit (by omega))
  · rintro x rfl
    exact ev_some rfl
theorem letter_m {m : MM} {l : List Nat} (h : okW l) {k : Nat} (hk : k < l.length) : f_X12_letter m (Int64.ofNat (mwN l)) (k : Int) = some (ltr l k - 97) := by
  have h8 := h.1
  have hm := h.m
  have h1 := ltr_lt h hk
  have e : l2i (lshr (Int64.ofNat (mwN l)) (5 * (k : Int)) &&& 31) = ltr l k - 96 := by
    rw [lshr_m h (by omega), show (31 : Int64) = Int64.ofNat (2 ^ 5 - 1) from rfl, land_nat _ 5 (Nat.lt_of_le_of_lt (Nat.div_le_self _ _) (by omega)) (by decide), l2i_nat _ (Nat.lt_of_lt_of_le (Nat.mod_lt _ (by decide)) (by decide)), show (2 : Nat) ^ 5 = 32 from rfl, mwN_at l k h.2, List.getElem?_eq_getElem hk, h1.2.2]
    simp only
    omega
  unfold f_X12_letter
  rw [e, ck_of ⟨by omega, by omega⟩, ck_of ⟨by omega, by omega⟩]
  congr 1
  omega
/-- the first spelling of n that a word is; -1 -/
def SpR (n : Nat) (br am : Nat → Int64) (w : Int64) (v : Int) : Prop := (v = -1 ∧ ∀ s, s < n → br s ≠ w ∧ am s ≠ w) ∨ ∃ s : Nat, s < n ∧ v = s ∧ (br s = w ∨ am s = w) ∧ ∀ t, t < s → br t ≠ w ∧ am t ≠ w
theorem SpR.one {n : Nat} {br am : Nat → Int64} {w : Int64} {v v' : Int} (h : SpR n br am w v) (h' : SpR n br am w v') : v = v' := by
  rcases h with ⟨rfl, h⟩ | ⟨s, h1, rfl, h2, h3⟩ <;> rcases h' with ⟨rfl, h'⟩ | ⟨s', h1', rfl, h2', h3'⟩
  · rfl
  · have := h s' h1'
    rcases h2' with q | q
    · exact absurd q this.1
    · exact absurd q this.2
  · have := h' s h1
    rcases h2 with q | q
    · exact absurd q this.1
    · exact absurd q this.2
  · rcases Nat.lt_trichotomy s s' with q | q | q
    · have := h3' s q
      rcases h2 with z | z
      · exact absurd z this.1
      · exact absurd z this.2
    · rw [q]
    · have := h3 s' q
      rcases h2' with z | z
      · exact absurd z this.1
      · exact absurd z this.2
theorem spelling_c {m : MM} {w : Int64} {n : Nat} (h : SC m) (hn : gN m 10 0 6 = n) (h6 : n ≤ 6) : Ev (f_X10_spellingOf m 0 w) (SpR n (gL m 53 0) (gL m 54 0) w) := by
  unfold f_X10_spellingOf
  refine ev_lp (Sum.elim (SpR n (gL m 53 0) (gL m 54 0) w) fun _ => SpR n (gL m 53 0) (gL m 54 0) w (-1)) (fun s => ∃ k : Nat, s = k ∧ k ≤ n ∧ ∀ t, t < k → gL m 53 0 t ≠ w ∧ gL m 54 0 t ≠ w) (fun s => n - s.toNat) ⟨0, rfl, by omega, fun t ht => absurd ht (by omega)⟩ ?_ ?_
  · rintro _ ⟨k, rfl, hk, hno⟩
    unfold b_X10_spellingOf_2
    rw [hn]
    refine ev_if (fun hc => ev_exit (Or.inl ⟨rfl, fun s hs => hno s (by omega)⟩)) fun hc => ?_
    refine ev_nk h.w3 (ev_ldL h.z53 (by omega) ?_)
    refine ev_if (fun hc2 => ev_exit (Or.inr ⟨k, by omega, rfl, Or.inl (lcm_zero.mp hc2), hno⟩)) fun hc2 => ?_
    refine ev_nk h.w4 (ev_ldL h.z54 (by omega) ?_)
    refine ev_if (fun hc3 => ev_ck (by omega) (ev_back ⟨k + 1, by simp, by omega, fun t ht => ?_⟩ (by omega))) fun hc3 => ev_exit (Or.inr ⟨k, by omega, rfl, Or.inr (lcm_zero.mp (Classical.not_not.mp hc3)), hno⟩)
    by_cases q : t = k
    · subst q
      exact ⟨fun z => hc2 (lcm_zero.mpr z), fun z => hc3 (lcm_zero.mpr z)⟩
    · exact hno t (by omega)
  · rintro (r | u) hx
    · exact ev_some hx
    · exact ev_some hx
theorem spelling_m {m : MM} {w : Int64} {n : Nat} (h : SM m) (hn : gN m 12 0 3 = n) (h6 : n ≤ 6) : Ev (f_X12_spellingOf m 0 w) (SpR n (gL m 60 0) (gL m 61 0) w) := by
  unfold f_X12_spellingOf
  refine ev_lp (Sum.elim (SpR n (gL m 60 0) (gL m 61 0) w) fun _ => SpR n (gL m 60 0) (gL m 61 0) w (-1)) (fun s => ∃ k : Nat, s = k ∧ k ≤ n ∧ ∀ t, t < k → gL m 60 0 t ≠ w ∧ gL m 61 0 t ≠ w) (fun s => n - s.toNat) ⟨0, rfl, by omega, fun t ht => absurd ht (by omega)⟩ ?_ ?_
  · rintro _ ⟨k, rfl, hk, hno⟩
    unfold b_X12_spellingOf_2
    rw [hn]
    refine ev_if (fun hc => ev_exit (Or.inl ⟨rfl, fun s hs => hno s (by omega)⟩)) fun hc => ?_
    refine ev_nk h.r4 (ev_ldL h.z60 (by omega) ?_)
    refine ev_if (fun hc2 => ev_exit (Or.inr ⟨k, by omega, rfl, Or.inl (lcm_zero.mp hc2), hno⟩)) fun hc2 => ?_
    refine ev_nk h.r5 (ev_ldL h.z61 (by omega) ?_)
    refine ev_if (fun hc3 => ev_ck (by omega) (ev_back ⟨k + 1, by simp, by omega, fun t ht => ?_⟩ (by omega))) fun hc3 => ev_exit (Or.inr ⟨k, by omega, rfl, Or.inr (lcm_zero.mp (Classical.not_not.mp hc3)), hno⟩)
    by_cases q : t = k
    · subst q
      exact ⟨fun z => hc2 (lcm_zero.mpr z), fun z => hc3 (lcm_zero.mpr z)⟩
    · exact hno t (by omega)
  · rintro (r | u) hx
    · exact ev_some hx
    · exact ev_some hx
/-- related tables, related words: the same spelling -/
theorem SpR.rel {n : Nat} {br am br' am' : Nat → Int64} {w w' : Int64} {v : Int} (hb : ∀ s, s < n → WW (br s) (br' s)) (ha : ∀ s, s < n → WW (am s) (am' s)) (hw : WW w w') (h : SpR n br am w v) : SpR n br' am' w' v := by
  rcases h with ⟨rfl, h⟩ | ⟨s, h1, rfl, h2, h3⟩
  · exact Or.inl ⟨rfl, fun s hs => ⟨fun q => (h s hs).1 ((WW.eq_iff (hb s hs) hw).mpr q), fun q => (h s hs).2 ((WW.eq_iff (ha s hs) hw).mpr q)⟩⟩
  · refine Or.inr ⟨s, h1, rfl, h2.imp (fun q => (WW.eq_iff (hb s h1) hw).mp q) (fun q => (WW.eq_iff (ha s h1) hw).mp q), fun t ht => ?_⟩
    exact ⟨fun q => (h3 t ht).1 ((WW.eq_iff (hb t (by omega)) hw).mpr q), fun q => (h3 t ht).2 ((WW.eq_iff (ha t (by omega)) hw).mpr q)⟩
