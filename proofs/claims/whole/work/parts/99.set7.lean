/-! SET: words grow where a line is cramped. -/
section SET
variable {N : Nat} {mc mm : MM} {b F n M Ln E d : Nat}
/-- by how much a word on a page can grow -/
theorem grow_eq (h : RR N mc mm) (hB : RBk mc mm b F n M Ln E) {q : Nat} {s t : MM} (hFs : Fsc q d mc s) (hFt : Fsm q d mm t) {Fr To k : Nat} (hTo : (To : Int) ≤ gN mm 80 0 b) (hw : WdR mc s t b q Fr To k) :
    ∃ (wd : Nat) (v : Int), gN s 27 q k = wd ∧ wd < 60 ∧ f_X12_spellingOf t 0 (gL t 96 0 (60 * q + k)) = some v ∧
      ((v = -1 ∧ f_X9_growth s b (wd : Int) = some 0) ∨ ∃ x g : Nat, v = x ∧ x < 6 ∧ f_X9_growth s b (wd : Int) = some (g : Int) ∧ 1 ≤ g ∧ g ≤ 3 ∧ mln (gL t 61 0 x) = mln (gL t 60 0 x) + g ∧
        f_X12_letters t (gL t 61 0 x) = some (mln (gL t 61 0 x) : Int) ∧ f_X12_letters t (gL t 60 0 x) = some (mln (gL t 60 0 x) : Int) ∧ mln (gL t 61 0 x) ≤ 8 ∧
        (gN s 28 q k = 0 ∨ gN s 28 q k = 1) ∧ (gN s 28 q k = 0 ↔ lcm' (gL t 96 0 (60 * q + k)) (gL t 60 0 x) = 0) ∧ gN mc 48 b wd ≠ -1 ∧ WW (gL mc 47 b wd) (gL t 61 0 x)) := by
  have hcnt := hB.tx.cnt
  have hSs := hFs.S hB
  have hMt := hFt.Md h.M
  have hSpb := h.Sp.b
  obtain ⟨wd, w1, w2, w3, w4, w5⟩ := hw
  have s46 : ∀ j, gL s 46 b j = gL mc 46 b j := fun j => (hFs.1 46 b j (by unfold ScW; omega)).2.1
  have s47 : ∀ j, gL s 47 b j = gL mc 47 b j := fun j => (hFs.1 47 b j (by unfold ScW; omega)).2.1
  have t60 : gL t 60 0 = gL mm 60 0 := funext fun x => (hFt.1 60 0 x (by unfold SmW; omega)).2.1
  have t61 : gL t 61 0 = gL mm 61 0 := funext fun x => (hFt.1 61 0 x (by unfold SmW; omega)).2.1
  have t3 : gN t 12 0 3 = gN mm 12 0 3 := (hFt.1 12 0 3 (by unfold SmW; omega)).1
  have hj : (wd : Int) < gN mm 80 0 b := by omega
  obtain ⟨v, e1, e2⟩ := spelling_m (w := gL t 96 0 (60 * q + k)) (n := (gN mm 12 0 3).toNat) hMt (by omega) (by omega)
  rw [t60, t61] at e2
  refine ⟨wd, v, w1, by omega, e1, ?_⟩
  have hg : f_X9_growth s b (wd : Int) = ((f_X11_letters s (gL mc 47 b wd)).bind fun v3 => (f_X11_letters s (gL mc 46 b wd)).bind fun v6 => ck (v3 - v6) <| some (v3 - v6)) := by
    unfold f_X9_growth
    rw [nk_of hSs.t2, ldL_of hSs.z47 (by omega), tnc, s47]
    congr 1
    funext v3
    rw [nk_of hSs.t1, ldL_of hSs.z46 (by omega), tnc, s46]
  rcases form_eq h hB hj with ⟨f1, f2, f3, f4⟩ | ⟨x, f1, f2, f3, f4⟩
  · left
    have q0 : gN s 28 q k = 0 := by
      rcases w4 with z | z
      · exact z
      · exact absurd f1 z.2
    rw [if_pos q0] at w5
    have e : gL t 96 0 (60 * q + k) = gL mm 81 0 (60 * b + wd) := (WW.eq_iff w5 f4).mp rfl
    rw [e] at e2
    have hv := e2.one (hB.tx.sp wd hj)
    refine ⟨by rw [hv, f1], ?_⟩
    rw [hg, f3, ← f2, f4.len_c, Option.bind_some, Option.bind_some, ck_of ⟨by omega, by omega⟩, show ∀ z : Int, z - z = 0 from fun z => by omega]
  · right
    have hlen := h.Sp.l x f2
    have l3 := f3.lw.2
    have l4 := f4.lw.2
    have hf : gN s 28 q k = 0 ∨ gN s 28 q k = 1 := by
      rcases w4 with z | z
      · exact Or.inl z
      · exact Or.inr z.1
    have hne : gL mm 60 0 x ≠ gL mm 61 0 x := fun q => by rw [q] at hlen; omega
    have key : gL t 96 0 (60 * q + k) = (if gN s 28 q k = 0 then gL mm 60 0 x else gL mm 61 0 x) := by
      split at w5
      next h0 => rw [if_pos h0]; exact (WW.eq_iff w5 f3).mp rfl
      next h0 => rw [if_neg h0]; exact (WW.eq_iff w5 f4).mp rfl
    have hx : SpR (gN mm 12 0 3).toNat (gL mm 60 0) (gL mm 61 0) (gL t 96 0 (60 * q + k)) (x : Int) := by
      refine Or.inr ⟨x, by omega, rfl, ?_, fun y hy => ?_⟩
      · rw [key]
        split
        · exact Or.inl rfl
        · exact Or.inr rfl
      · have d1 := h.Sp.d y x (by omega) f2 (by omega)
        have d2 := h.Sp.d x y f2 (by omega) (by omega)
        rw [key]
        split
        · exact ⟨d1.1, fun z => d2.2.2 z.symm⟩
        · exact ⟨d1.2.2, d1.2.1⟩
    refine ⟨x, mln (gL mm 61 0 x) - mln (gL mm 60 0 x), e2.one hx, by omega, ?_, by omega, by omega, by rw [t60, t61]; omega, by rw [t61]; exact f4.len_m, by rw [t60]; exact f3.len_m, by rw [t61]; exact l4, hf, ?_, by omega, by rw [t61]; exact f4⟩
    · rw [hg, f4.len_c, Option.bind_some, f3.len_c, Option.bind_some, ck_of ⟨by omega, by omega⟩]
      congr 1
      omega
    · rw [lcm_zero, t60, key]
      constructor
      · intro z
        rw [if_pos z]
      · intro z
        by_cases y : gN s 28 q k = 0
        · exact y
        · rw [if_neg y] at z
          exact absurd z.symm hne
end SET
