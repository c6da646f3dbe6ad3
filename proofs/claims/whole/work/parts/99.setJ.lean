/-! SET: a word is set. -/
section SET
variable {F n M Ln E : Nat}
def ligN (a b : Int) : Int := if a = 102 then (if b = 105 then 26 else if b = 108 then 27 else -1) else -1
theorem joined_c {m : MM} {a b : Int} : f_X4_joined m a b = some (ligN a b) := by
  unfold f_X4_joined ligN
  by_cases h1 : a = 102
  · rw [if_pos h1, if_pos h1]
    by_cases h2 : b = 105
    · rw [if_neg (fun z => z h2), if_pos h2]
    · rw [if_pos h2, if_neg h2]
      by_cases h3 : b = 108
      · rw [if_neg (fun z => z h3), if_pos h3]
      · rw [if_pos h3, if_neg h3]
  · rw [if_neg h1, if_neg h1]
theorem ligN_rng {a b : Int} : ligN a b = -1 ∨ ligN a b = 26 ∨ ligN a b = 27 := by
  unfold ligN
  by_cases h1 : a = 102
  · rw [if_pos h1]
    by_cases h2 : b = 105
    · rw [if_pos h2]; exact Or.inr (Or.inl rfl)
    · rw [if_neg h2]
      by_cases h3 : b = 108
      · rw [if_pos h3]; exact Or.inr (Or.inr rfl)
      · rw [if_neg h3]; exact Or.inl rfl
  · rw [if_neg h1]; exact Or.inl rfl
/-- the letters that stand together here, or -1 -/
def ligW (l : List Nat) (i : Nat) : Int := if i + 1 < l.length then ligN (ltr l i) (ltr l (i + 1)) else -1
theorem ligW_rng {l : List Nat} {i : Nat} : ligW l i = -1 ∨ ((ligW l i = 26 ∨ ligW l i = 27) ∧ i + 1 < l.length) := by
  unfold ligW
  by_cases h : i + 1 < l.length
  · rw [if_pos h]
    rcases ligN_rng (a := ltr l i) (b := ltr l (i + 1)) with z | z | z
    · exact Or.inl z
    · exact Or.inr ⟨Or.inl z, h⟩
    · exact Or.inr ⟨Or.inr z, h⟩
  · rw [if_neg h]; exact Or.inl rfl
theorem word_c {s : MM} {q : Nat} {ow x : Int} {lst : List Nat} {i : Nat} (hC : SC s) (hok : okW lst) (hi : i < lst.length) (q8 : gR s 4 q 8 = some (5, q)) :
    ∃ bx st : Nat, bx < 28 ∧ (st = 0 ∨ (st = 1 ∧ i + 1 < lst.length)) ∧ ((st = 1 ∧ ligW lst i = bx ∧ gN s 24 0 bx ≠ -1) ∨ (st = 0 ∧ (bx : Int) = ltr lst i - 97 ∧ (ligW lst i = -1 ∨ ∃ u : Nat, u < 28 ∧ ligW lst i = u ∧ gN s 24 0 u = -1))) ∧
      b_X4_fillWord_12 q (Int64.ofNat (cwN lst)) 0 ow (lst.length : Int) x (i : Int) s = bI (f_X5_fillNext s q (bx : Int) 0 ow) (fun v10 m9 => if ¬ v10 = 0 then (j_X4_fillWord_12_114 m9 q (Int64.ofNat (cwN lst)) 0 ow x (lst.length : Int) (i : Int) (st : Int)) else
        ck (x + 1) <| j_X4_fillWord_12_114 m9 q (Int64.ofNat (cwN lst)) 0 ow (x + 1) (lst.length : Int) (i : Int) (st : Int)) x0 := by
  have h8 := hok.1
  have hl := ltr_lt hok hi
  have e49 : b_X4_fillWord_12 q (Int64.ofNat (cwN lst)) 0 ow (lst.length : Int) x (i : Int) s = j_X4_fillWord_12_49 s q (Int64.ofNat (cwN lst)) 0 ow x (lst.length : Int) (i : Int) (ligW lst i) := by
    unfold b_X4_fillWord_12 ligW
    rw [if_neg (by omega), ck_of ⟨by omega, by omega⟩]
    by_cases h : i + 1 < lst.length
    · rw [if_neg (by omega), if_pos h, letterAt_eq hok (by omega), Option.bind_some, ck_of ⟨by omega, by omega⟩, show (i : Int) + 1 = ((i + 1 : Nat) : Int) by omega, letterAt_eq hok (by omega), Option.bind_some, joined_c, Option.bind_some]
    · rw [if_pos (by omega), if_neg h]
  have e72 : ∀ v : Int, j_X4_fillWord_12_72 s q (Int64.ofNat (cwN lst)) 0 ow x (lst.length : Int) (i : Int) v = j_X4_fillWord_12_94 s q (Int64.ofNat (cwN lst)) 0 ow x (lst.length : Int) (i : Int) 0 (ltr lst i - 97) := fun v => by
    unfold j_X4_fillWord_12_72 j_X4_fillWord_12_73
    rw [if_pos rfl, letterAt_eq hok (by omega), Option.bind_some, ck_of ⟨by omega, by omega⟩]
  obtain ⟨lt, hlt⟩ := Int.ex (show 0 ≤ ltr lst i - 97 by omega)
  have e94 : ∀ (st bx : Nat), j_X4_fillWord_12_94 s q (Int64.ofNat (cwN lst)) 0 ow x (lst.length : Int) (i : Int) (st : Int) (bx : Int) = bI (f_X5_fillNext s q (bx : Int) 0 ow) (fun v10 m9 => if ¬ v10 = 0 then (j_X4_fillWord_12_114 m9 q (Int64.ofNat (cwN lst)) 0 ow x (lst.length : Int) (i : Int) (st : Int)) else
        ck (x + 1) <| j_X4_fillWord_12_114 m9 q (Int64.ofNat (cwN lst)) 0 ow (x + 1) (lst.length : Int) (i : Int) (st : Int)) x0 := fun st bx => by
    unfold j_X4_fillWord_12_94
    rw [nk_of q8]
  rcases ligW_rng (l := lst) (i := i) with z | ⟨z, hi1⟩
  · refine ⟨lt, 0, by omega, Or.inl rfl, Or.inr ⟨rfl, hlt.symm, Or.inl z⟩, ?_⟩
    rw [e49, z]
    unfold j_X4_fillWord_12_49
    rw [if_pos rfl, e72, hlt]
    exact e94 0 lt
  · obtain ⟨u, hu⟩ := Int.ex (show 0 ≤ ligW lst i by omega)
    have e49b : j_X4_fillWord_12_49 s q (Int64.ofNat (cwN lst)) 0 ow x (lst.length : Int) (i : Int) (ligW lst i) = if gN s 24 0 u = -1 then j_X4_fillWord_12_94 s q (Int64.ofNat (cwN lst)) 0 ow x (lst.length : Int) (i : Int) 0 (ltr lst i - 97) else j_X4_fillWord_12_94 s q (Int64.ofNat (cwN lst)) 0 ow x (lst.length : Int) (i : Int) 1 (u : Int) := by
      unfold j_X4_fillWord_12_49
      rw [if_neg (by omega), nk_of hC.c4, hu, ldN_of hC.z24 (by omega), tnc, e72]
      unfold j_X4_fillWord_12_73
      rw [if_neg (show ¬ (1 : Int) = 0 by decide)]
    by_cases y : gN s 24 0 u = -1
    · refine ⟨lt, 0, by omega, Or.inl rfl, Or.inr ⟨rfl, hlt.symm, Or.inr ⟨u, by omega, hu, y⟩⟩, ?_⟩
      rw [e49, e49b, if_pos y, hlt]
      exact e94 0 lt
    · refine ⟨u, 1, by omega, Or.inr ⟨rfl, hi1⟩, Or.inl ⟨rfl, hu, y⟩, ?_⟩
      rw [e49, e49b, if_neg y]
      exact e94 1 u
theorem word_m {t : MM} {b p d q ix : Nat} {y : Int} {lst : List Nat} {i bx st : Nat} (hM : SM t) (hok : okW lst) (hi : i < lst.length) (hix : ix < 2880) (hw : gL t 96 0 ix = Int64.ofNat (mwN lst)) (hbx : (st = 1 ∧ ligW lst i = bx ∧ gN t 66 0 bx ≠ -1) ∨ (st = 0 ∧ (bx : Int) = ltr lst i - 97 ∧ (ligW lst i = -1 ∨ ∃ u : Nat, u < 28 ∧ ligW lst i = u ∧ gN t 66 0 u = -1))) :
    b_X12_fillsPlaces_73 0 (b : Int) (p : Int) (d : Int) (q : Int) (ix : Int) (lst.length : Int) y (i : Int) t = bI (f_X12_fills t 0 (b : Int) (p : Int) (d : Int) (bx : Int)) (fun v21 m20 => ck (y + v21) <| if (st : Int) = 0 then (ck ((i : Int) + 1) <| some (.inl ((y + v21), ((i : Int) + 1), m20))) else
      ck ((i : Int) + 2) <| some (.inl ((y + v21), ((i : Int) + 2), m20))) x0 := by
  have h8 := hok.1
  have hl := ltr_lt hok hi
  have e121 : b_X12_fillsPlaces_73 0 (b : Int) (p : Int) (d : Int) (q : Int) (ix : Int) (lst.length : Int) y (i : Int) t = j_X12_fillsPlaces_73_158 t 0 (b : Int) (p : Int) (d : Int) (q : Int) y (ix : Int) (lst.length : Int) (i : Int) (ltr lst i - 97) (ligW lst i) := by
    unfold b_X12_fillsPlaces_73
    rw [if_neg (by omega), nk_of hM.r43, ldL_of hM.z96 (by omega), tnc, hw, letter_m hok hi, Option.bind_some, ck_of ⟨by omega, by omega⟩]
    by_cases h : i + 1 < lst.length
    · rw [if_neg (by omega), nk_of hM.r43, ldL_of hM.z96 (by omega), tnc, hw, ck_of ⟨by omega, by omega⟩, show (i : Int) + 1 = ((i + 1 : Nat) : Int) by omega, letter_m hok h, Option.bind_some]
      unfold j_X12_fillsPlaces_73_121 ligW ligN
      rw [if_pos h]
      by_cases h1 : ltr lst i = 102
      · rw [if_pos (by omega), if_pos h1]
        by_cases h2 : ltr lst (i + 1) = 105
        · rw [if_neg (fun z => z (by omega)), if_pos h2]
        · rw [if_pos (by omega), if_neg h2]
          by_cases h3 : ltr lst (i + 1) = 108
          · rw [if_neg (fun z => z (by omega)), if_pos h3]
          · rw [if_pos (by omega), if_neg h3]
      · rw [if_neg (by omega), if_neg h1]
    · rw [if_pos (by omega)]
      unfold j_X12_fillsPlaces_73_121 ligW
      rw [if_neg h]
      by_cases h1 : ltr lst i - 97 = 5
      · rw [if_pos h1, if_pos (by decide), if_pos (by decide)]
      · rw [if_neg h1]
  have e181 : ∀ v : Int, j_X12_fillsPlaces_73_181 t 0 (b : Int) (p : Int) (d : Int) (q : Int) y (ix : Int) (lst.length : Int) (i : Int) (ltr lst i - 97) v = bI (f_X12_fills t 0 (b : Int) (p : Int) (d : Int) (ltr lst i - 97)) (fun v21 m20 => ck (y + v21) <| if (0 : Int) = 0 then (ck ((i : Int) + 1) <| some (.inl ((y + v21), ((i : Int) + 1), m20))) else
      ck ((i : Int) + 2) <| some (.inl ((y + v21), ((i : Int) + 2), m20))) x0 := fun v => by
    unfold j_X12_fillsPlaces_73_181 j_X12_fillsPlaces_73_182 j_X12_fillsPlaces_73_202
    rw [if_pos rfl]
  rw [e121]
  unfold j_X12_fillsPlaces_73_158
  rcases hbx with ⟨rfl, z1, z2⟩ | ⟨rfl, z1, z2⟩
  · have z3 := ligW_rng (l := lst) (i := i)
    rw [z1, if_neg (by omega), nk_of hM.r11, ldN_of hM.z66 (by omega), tnc, if_neg z2]
    unfold j_X12_fillsPlaces_73_182 j_X12_fillsPlaces_73_202
    rw [if_neg (show ¬ (1 : Int) = 0 by decide)]
    rfl
  · rw [z1]
    rcases z2 with z3 | ⟨u, hu, z3, z4⟩
    · rw [if_pos z3, e181]
      rfl
    · rw [z3, if_neg (by omega), nk_of hM.r11, ldN_of hM.z66 (by omega), tnc, if_pos z4, e181]
      rfl
theorem word_eq {s2 t2 mm : MM} {b p d ix : Nat} {h0 : Int} (hP : BP mm b F n M Ln E) (hC2 : SC s2) (hM2 : SM t2) (hS2 : BS s2 b F n M Ln E) (hp : p < 2 * (F * n)) (hd : d < 4) (hh0 : 0 ≤ h0 ∧ h0 ≤ 10000000) {lst : List Nat} (hok : okW lst) (hix : ix < 2880) (hw : gL t2 96 0 ix = Int64.ofNat (mwN lst)) :
    ∀ (e i K la : Nat) (x y : Int) (s t : MM), lst.length - i ≤ e → i ≤ lst.length → PL s2 t2 s t (16 * b + p) d K la h0 → K + (lst.length - i) ≤ M * Ln → (0 ≤ x ∧ x ≤ la) → (0 ≤ y ∧ y ≤ la) →
      ∃ (s' t' : MM) (K' la' : Nat), lpb (fun z : Int × Int × MM => b_X4_fillWord_12 (16 * b + p) (Int64.ofNat (cwN lst)) 0 (100 + 100 * (b : Int) + (p : Int)) (lst.length : Int) z.1 z.2.1 z.2.2) (x, (i : Int), s) = some (x + ((la' : Int) - la), s') ∧
        lpb (fun z : Int × Int × MM => b_X12_fillsPlaces_73 0 (b : Int) (p : Int) (d : Int) ((16 * b + p : Nat) : Int) (ix : Int) (lst.length : Int) z.1 z.2.1 z.2.2) (y, (i : Int), t) = some (y + ((la' : Int) - la), t') ∧ PL s2 t2 s' t' (16 * b + p) d K' la' h0 ∧ K' ≤ K + (lst.length - i) ∧ K ≤ K' ∧ la ≤ la' := by
  have q3 := hP.ml
  have q1 := hP.hn
  have q0 := hP.hb
  have h8 := hok.1
  intro e
  induction e with
  | zero =>
    intro i K la x y s t he hi hPL hb hx hy
    refine ⟨s, t, K, la, ?_, ?_, hPL, by omega, Nat.le_refl _, Nat.le_refl _⟩
    · rw [lpb_eq]
      simp only
      unfold b_X4_fillWord_12
      rw [if_pos (by omega), Option.bind_some, Sum.elim_inr, show x + ((la : Int) - la) = x by omega]
    · rw [lpb_eq]
      simp only
      unfold b_X12_fillsPlaces_73
      rw [if_pos (by omega), Option.bind_some, Sum.elim_inr, show y + ((la : Int) - la) = y by omega]
  | succ e ih =>
    intro i K la x y s t he hi hPL hb hx hy
    by_cases hil : i < lst.length
    · have hC := PwC.C hC2 hPL.fs
      have hM := PwM.Md hM2 hPL.ft
      have hS := PwC.S hS2 hP hPL.fs
      have hla := hPL.la
      have h24 : ∀ j, gN s 24 0 j = gN t 66 0 j := fun j => (hPL.rc.2.2.2.1 j).2.2.2.2
      obtain ⟨bx, st, u1, u2, u3, u4⟩ := word_c (ow := 100 + 100 * (b : Int) + (p : Int)) (x := x) hC hok hil (hS.p8 p hp)
      have u5 := word_m (b := b) (p := p) (d := d) (q := 16 * b + p) (ix := ix) (y := y) (bx := bx) (st := st) hM hok hil hix (by rw [(hPL.ft.1 96 0 ix (by unfold PwM; omega)).2.1, hw]) (by simp only [h24] at u3; exact u3)
      obtain ⟨s', t', v, v1, v2, v3, v4⟩ := place_eq hP hC2 hM2 hS2 hp hd hh0 hPL (show K < M * Ln by omega) u1
      rw [v2, bI_ok] at u4
      rw [v3, bI_ok, ck_of ⟨by omega, by omega⟩] at u5
      have u6 : b_X4_fillWord_12 (16 * b + p) (Int64.ofNat (cwN lst)) 0 (100 + 100 * (b : Int) + (p : Int)) (lst.length : Int) x (i : Int) s = some (.inl (x + v, ((i + 1 + st : Nat) : Int), s')) := by
        rw [u4]
        have k114 : ∀ xx : Int, j_X4_fillWord_12_114 s' (16 * b + p) (Int64.ofNat (cwN lst)) 0 (100 + 100 * (b : Int) + (p : Int)) xx (lst.length : Int) (i : Int) (st : Int) = some (.inl (xx, ((i + 1 + st : Nat) : Int), s')) := fun xx => by
          unfold j_X4_fillWord_12_114
          rcases u2 with rfl | ⟨rfl, -⟩
          · rw [if_pos (show ((0 : Nat) : Int) = 0 from rfl), ck_of ⟨by omega, by omega⟩, show (i : Int) + 1 = ((i + 1 + 0 : Nat) : Int) by omega]
          · rw [if_neg (by decide), ck_of ⟨by omega, by omega⟩, ck_of ⟨by omega, by omega⟩, show (i : Int) + 1 + 1 = ((i + 1 + 1 : Nat) : Int) by omega]
        by_cases z : v = 0
        · rw [if_pos (by omega), k114, z, show x + ((0 : Nat) : Int) = x by omega]
        · rw [if_neg (fun w => w (by omega)), ck_of ⟨by omega, by omega⟩, k114, show (v : Int) = 1 by omega]
      have u7 : b_X12_fillsPlaces_73 0 (b : Int) (p : Int) (d : Int) ((16 * b + p : Nat) : Int) (ix : Int) (lst.length : Int) y (i : Int) t = some (.inl (y + v, ((i + 1 + st : Nat) : Int), t')) := by
        rw [u5]
        rcases u2 with rfl | ⟨rfl, -⟩
        · rw [if_pos (show ((0 : Nat) : Int) = 0 from rfl), ck_of ⟨by omega, by omega⟩, show (i : Int) + 1 = ((i + 1 + 0 : Nat) : Int) by omega]
        · rw [if_neg (by decide), ck_of ⟨by omega, by omega⟩, show (i : Int) + 2 = ((i + 1 + 1 : Nat) : Int) by omega]
      obtain ⟨s3, t3, K', la', w1, w2, w3, w4, w5, w6⟩ := ih (i + 1 + st) (K + 1) (la + v) (x + v) (y + v) s' t' (by omega) (by omega) v4 (by omega) (by omega) (by omega)
      refine ⟨s3, t3, K', la', ?_, ?_, w3, by omega, by omega, by omega⟩
      · rw [lpb_eq]
        simp only
        rw [u6, Option.bind_some, Sum.elim_inl, w1, show x + (v : Int) + ((la' : Int) - ((la + v : Nat) : Int)) = x + ((la' : Int) - la) by omega]
      · rw [lpb_eq]
        simp only
        rw [u7, Option.bind_some, Sum.elim_inl, w2, show y + (v : Int) + ((la' : Int) - ((la + v : Nat) : Int)) = y + ((la' : Int) - la) by omega]
    · refine ⟨s, t, K, la, ?_, ?_, hPL, by omega, Nat.le_refl _, Nat.le_refl _⟩
      · rw [lpb_eq]
        simp only
        unfold b_X4_fillWord_12
        rw [if_pos (by omega), Option.bind_some, Sum.elim_inr, show x + ((la : Int) - la) = x by omega]
      · rw [lpb_eq]
        simp only
        unfold b_X12_fillsPlaces_73
        rw [if_pos (by omega), Option.bind_some, Sum.elim_inr, show y + ((la : Int) - la) = y by omega]
end SET
