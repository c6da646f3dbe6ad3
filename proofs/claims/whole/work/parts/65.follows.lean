/-! FOLLOWS. -/
/-- lines on the first pages -/
def lS (mm : MM) (b : Nat) : Nat → Int
  | 0 => 0
  | p + 1 => lS mm b p + gN mm 88 0 (16 * b + p)
section FOLLOWS
variable {N : Nat} {mc mm : MM} {b F n M Ln E : Nat}
theorem lS_b (hB : RBk mc mm b F n M Ln E) : ∀ p : Nat, p ≤ 2 * (F * n) → 0 ≤ lS mm b p ∧ lS mm b p ≤ 6 * p
  | 0, _ => by show (0 : Int) ≤ 0 ∧ (0 : Int) ≤ _; omega
  | p + 1, hp => by
    have h1 := lS_b hB p (by omega)
    have h2 := (hB.pg p (by omega)).ln
    have h3 := hB.hP.hL
    show 0 ≤ lS mm b p + _ ∧ lS mm b p + _ ≤ _
    omega
theorem lS_mono (hB : RBk mc mm b F n M Ln E) {p : Nat} : ∀ q : Nat, p ≤ q → q ≤ 2 * (F * n) → lS mm b p ≤ lS mm b q
  | 0, h1, _ => by rw [show p = 0 by omega]; exact Int.le_refl _
  | q + 1, h1, h2 => by
    by_cases e : p = q + 1
    · rw [e]; exact Int.le_refl _
    · have := lS_mono hB (p := p) q (by omega) (by omega)
      have h3 := (hB.pg q (by omega)).ln
      show lS mm b p ≤ lS mm b q + _
      omega
theorem linesOn_c (hB : RBk mc mm b F n M Ln E) : f_X0_linesOnPages mc b = some (lS mm b (2 * (F * n))) := by
  have hS := hB.hS
  have hn := hB.hP.hn
  have hL := hB.hP.hL
  apply ev_eq
  unfold f_X0_linesOnPages
  rw [nk_of hS.r5, lenI_of hS.z13]
  refine ev_lp (fun z => z = lS mm b (2 * (F * n))) (fun s => ∃ k : Nat, s = (lS mm b k, (k : Int)) ∧ k ≤ 2 * (F * n)) (fun s => 2 * (F * n) - s.2.toNat) ⟨0, rfl, by omega⟩ ?_ ?_
  · rintro _ ⟨k, rfl, hk⟩
    show Ev (b_X0_linesOnPages_13 mc b _ (lS mm b k) (k : Int)) _
    unfold b_X0_linesOnPages_13
    refine ev_if (fun hc => ev_exit (by rw [show k = 2 * (F * n) by omega])) fun hc => ?_
    have h1 := lS_b hB k hk
    have h2 := (hB.pg k (by omega)).ln
    rw [ldR_of hS.z13 (by omega), tnc, hS.e13 k (by omega), nk_some, h2.1]
    exact ev_ck (by omega) (ev_ck (by omega) (ev_back ⟨k + 1, by simp [lS], by omega⟩ (by simp only; omega)))
  · rintro z rfl
    exact ev_some rfl
/-- the last word of a line, through the pages -/
theorem last_both (hM : SM mm) (hB : RBk mc mm b F n M Ln E) {i : Nat} (hi : i ≤ 1000) : ∃ v, f_X0_lastWordOfLine mc b (i : Int) = some v ∧ f_X12_lastWord mm 0 (b : Int) (i : Int) = some v ∧ ((v = -1 ∧ lS mm b (2 * (F * n)) ≤ i) ∨ (0 ≤ v ∧ v < gN mm 80 0 b ∧ (i : Int) < lS mm b (2 * (F * n)))) := by
  have hP := hB.hP
  have hS := hB.hS
  have q0 := hP.hb
  have q1 := hP.hn
  have q2 := hP.hL
  obtain ⟨x, y, e1, e2, e3⟩ := lpb_rel (b := fun s : Int × Int => b_X0_lastWordOfLine_14 mc b ((2 * (F * n) : Nat) : Int) s.1 s.2) (c := fun s : Int × Int => b_X12_lastWord_5 mm 0 (b : Int) s.1 s.2)
    (fun s t => s = t ∧ ∃ p : Nat, s.2 = p ∧ p ≤ 2 * (F * n) ∧ 0 ≤ s.1 ∧ s.1 + lS mm b p = i) (fun x y => x = y ∧ ((x = .inr () ∧ lS mm b (2 * (F * n)) ≤ i) ∨ ∃ v : Int, x = .inl v ∧ 0 ≤ v ∧ v < gN mm 80 0 b ∧ (i : Int) < lS mm b (2 * (F * n)))) (fun s => 2 * (F * n) - s.2.toNat) (by
    rintro ⟨r, _⟩ _ ⟨rfl, p, rfl, hp, hr, hri⟩
    simp only at hr hri
    show (∃ s' t', b_X0_lastWordOfLine_14 mc b ((2 * (F * n) : Nat) : Int) r (p : Int) = some (.inl s') ∧ b_X12_lastWord_5 mm 0 (b : Int) r (p : Int) = some (.inl t') ∧ _) ∨ ∃ v v', b_X0_lastWordOfLine_14 mc b ((2 * (F * n) : Nat) : Int) r (p : Int) = some (.inr v) ∧ b_X12_lastWord_5 mm 0 (b : Int) r (p : Int) = some (.inr v') ∧ _
    unfold b_X0_lastWordOfLine_14 b_X12_lastWord_5
    rw [pagesOf_m hM hP, Option.bind_some]
    by_cases q : ((2 * (F * n) : Nat) : Int) ≤ (p : Int)
    · right
      rw [if_pos q, if_pos q]
      refine ⟨_, _, rfl, rfl, rfl, Or.inl ⟨rfl, ?_⟩⟩
      rw [show 2 * (F * n) = p by omega]
      omega
    · have hp2 : p < 2 * (F * n) := by omega
      have hg := hB.pg p hp2
      have hln := hg.ln
      have hb := lS_b hB p hp
      have hs : lS mm b (p + 1) = lS mm b p + gN mm 88 0 (16 * b + p) := rfl
      have hmn := lS_mono hB (p := p + 1) (2 * (F * n)) (by omega) (Nat.le_refl _)
      have hm : (if gN mm 83 0 (16 * b + p) = 0 then j_X12_lastWord_5_45 mm 0 (b : Int) r (p : Int) (16 * (b : Int) + (p : Int)) 0 else nk 88 (gR mm 12 0 35) fun i4 => ldN mm 88 i4 (16 * (b : Int) + (p : Int)) fun v5 => j_X12_lastWord_5_45 mm 0 (b : Int) r (p : Int) (16 * (b : Int) + (p : Int)) v5) = j_X12_lastWord_5_45 mm 0 (b : Int) r (p : Int) (16 * (b : Int) + (p : Int)) (gN mm 88 0 (16 * b + p)) := by
        by_cases z : gN mm 83 0 (16 * b + p) = 0
        · rw [if_pos z, (hg.un z).1]
        · rw [if_neg z, nk_of hM.r35, ldN_of hM.z88 (by omega), tn16]
      have k1 : -2147483648 ≤ 16 * (b : Int) + (p : Int) ∧ 16 * (b : Int) + (p : Int) < 2147483648 := by omega
      rw [if_neg q, if_neg q, ldR_of hS.z13 (by omega), tnc, hS.e13 p hp2, nk_some, hln.1, ck_of k1, nk_of hM.r30, ldN_of hM.z83 (by omega), tn16, hm]
      unfold j_X12_lastWord_5_45
      by_cases z : gN mm 88 0 (16 * b + p) ≤ r
      · left
        rw [if_pos z, if_pos z]
        refine ⟨(r - gN mm 88 0 (16 * b + p), (p : Int) + 1), (r - gN mm 88 0 (16 * b + p), (p : Int) + 1), ?_, ?_, ⟨rfl, p + 1, by simp, by omega, by simp only; omega, by simp only; omega⟩, by simp only; omega⟩
        · rw [ck_of ⟨by omega, by omega⟩, ck_of ⟨by omega, by omega⟩]
        · rw [ck_of ⟨by omega, by omega⟩, ck_of ⟨by omega, by omega⟩]
      · right
        obtain ⟨l, rfl⟩ := Int.ex hr
        obtain ⟨g1, g2, g3, -, -⟩ := hg.l2 l (by omega)
        have hwn := hg.wn
        obtain ⟨e, he⟩ := Int.ex (show 0 ≤ gN mm 91 0 (6 * (16 * b + p) + l) + gN mm 92 0 (6 * (16 * b + p) + l) - 1 by omega)
        have hw1 := hg.w1 e (by omega)
        have hl6 : l < 6 := by omega
        rw [if_neg z, if_neg z]
        refine ⟨.inl (gN mm 95 0 (60 * (16 * b + p) + e)), .inl (gN mm 95 0 (60 * (16 * b + p) + e)), ?_, ?_, rfl, Or.inr ⟨_, rfl, hw1.2.1, hw1.2.2, by omega⟩⟩
        · unfold f_X4_lastWord
          rw [nk_of (hS.p1 p hp2), wbl_c hP hS hp2 hg (by omega), Option.bind_some, he, ck_of ⟨by omega, by omega⟩, if_neg (show ¬ (e : Int) < 0 by omega), ldN_of (hS.z27 p hp2) (by omega), tnc, hw1.1, Option.bind_some]
        · rw [nk_of hM.r42, nk_of hM.r38, show 6 * (16 * (b : Int) + (p : Int)) + (l : Int) = ((6 * (16 * b + p) + l : Nat) : Int) by omega, ldN_of hM.z91 (by omega), tnc, nk_of hM.r39, ldN_of hM.z92 (by omega), tnc, show 60 * (16 * (b : Int) + (p : Int)) + gN mm 91 0 (6 * (16 * b + p) + l) + gN mm 92 0 (6 * (16 * b + p) + l) - 1 = ((60 * (16 * b + p) + e : Nat) : Int) by omega, ldN_of hM.z95 (by omega), tnc]) ((i : Int), 0) ((i : Int), 0) ⟨rfl, 0, rfl, by omega, by simp only; omega, by show (i : Int) + 0 = i; omega⟩
  obtain ⟨rfl, e4⟩ := e3
  unfold f_X0_lastWordOfLine f_X12_lastWord
  rw [nk_of hS.r5, lenI_of hS.z13, e1, e2, Option.bind_some, Option.bind_some]
  rcases e4 with ⟨rfl, e5⟩ | ⟨v, rfl, e5, e6, e7⟩
  · exact ⟨-1, rfl, rfl, Or.inl ⟨rfl, e5⟩⟩
  · exact ⟨v, rfl, rfl, Or.inr ⟨e5, e6, e7⟩⟩
variable {o F' n' M' Ln' E' : Nat}
theorem like_both (h : RR N mc mm) (hB : RBk mc mm b F n M Ln E) (hO : RBk mc mm o F' n' M' Ln' E') {x y : Nat} (hx : (x : Int) < gN mm 80 0 b) (hy : (y : Int) < gN mm 80 0 o) :
    ∃ v, f_X9_isLike mc b (x : Int) o (y : Int) = some v ∧ ∃ s t, f_X12_spellingOf mm 0 (gL mm 81 0 (60 * b + x)) = some s ∧ f_X12_spellingOf mm 0 (gL mm 81 0 (60 * o + y)) = some t ∧
      v = (if lcm' (gL mm 81 0 (60 * b + x)) (gL mm 81 0 (60 * o + y)) = 0 then 1 else if s = -1 then 0 else if ¬ s = t then 0 else 1) := by
  have hS := hB.hS
  have hS' := hO.hS
  have tx := hB.tx
  have tx' := hO.tx
  have hc := tx.cnt
  have hc' := tx'.cnt
  have hb6 := h.Sp.b
  obtain ⟨s, e1, e2⟩ := spelling_m (w := gL mm 81 0 (60 * b + x)) h.M (n := (gN mm 12 0 3).toNat) (by omega) (by omega)
  obtain ⟨t, e3, e4⟩ := spelling_m (w := gL mm 81 0 (60 * o + y)) h.M (n := (gN mm 12 0 3).toNat) (by omega) (by omega)
  have es := (tx.sp x hx).one e2
  have et := (tx'.sp y hy).one e4
  have wx := tx.told x hx
  have wy := tx'.told y hy
  refine ⟨_, ?_, s, t, e1, e3, rfl⟩
  unfold f_X9_isLike
  rw [nk_of hS.t0, ldL_of hS.z45 (by omega), tnc, nk_of hS'.t0, ldL_of hS'.z45 (by omega), tnc, nk_of hS.t3, ldN_of hS.z48 (by omega), tnc, es, nk_of hS.t3, ldN_of hS.z48 (by omega), tnc, es, nk_of hS'.t3, ldN_of hS'.z48 (by omega), tnc, et]
  by_cases q : lcm' (gL mc 45 b x) (gL mc 45 o y) = 0
  · have q' : lcm' (gL mm 81 0 (60 * b + x)) (gL mm 81 0 (60 * o + y)) = 0 := lcm_zero.mpr ((wx.eq_iff wy).mp (lcm_zero.mp q))
    rw [if_neg (fun z => z q), if_pos q']
  · have q' : ¬ lcm' (gL mm 81 0 (60 * b + x)) (gL mm 81 0 (60 * o + y)) = 0 := fun z => q (lcm_zero.mpr ((wx.eq_iff wy).mpr (lcm_zero.mp z)))
    rw [if_pos q, if_neg q']
    by_cases q1 : s = -1
    · rw [if_pos q1, if_pos q1]
    · rw [if_neg q1, if_neg q1]
      by_cases q2 : s = t
      · rw [if_neg (fun z => z q2), if_neg (fun z => z q2)]
      · rw [if_pos q2, if_pos q2]
theorem follows_loop (h : RR N mc mm) (hB : RBk mc mm b F n M Ln E) (hO : RBk mc mm o F' n' M' Ln' E') :
    ∃ v, lpb (fun s : Int × Int => b_X11_follows_25 mc b o (lS mm b (2 * (F * n))) s.1 s.2) (0, 0) = some v ∧ lpb (fun s : Int × Int => b_X12_follows_35 mm 0 (b : Int) (o : Int) s.1 s.2) (0, 0) = some v := by
  have hP := hB.hP
  have hP' := hO.hP
  have hS := hB.hS
  have hS' := hO.hS
  have q0 := hP.hb
  have q0' := hP'.hb
  have q1 := hP.hn
  have hM := h.M
  have hL := lS_b hB (2 * (F * n)) (Nat.le_refl _)
  have hL' := lS_b hO (2 * (F' * n')) (Nat.le_refl _)
  have hc := hB.tx.cnt
  have hc' := hO.tx.cnt
  -- the model stops where one of the books has no more lines
  have tail : ∀ (d : Nat) (w : Int) (i : Nat), lS mm b (2 * (F * n)) - i ≤ d → (i : Int) ≤ lS mm b (2 * (F * n)) → lS mm o (2 * (F' * n')) ≤ i → lpb (fun s : Int × Int => b_X11_follows_25 mc b o (lS mm b (2 * (F * n))) s.1 s.2) (w, (i : Int)) = some w := by
    intro d w i hd hi ho
    apply ev_eq
    refine lpb_run (fun s : Int × Int => s.1 = w ∧ ∃ j : Nat, s.2 = j ∧ i ≤ j ∧ (j : Int) ≤ lS mm b (2 * (F * n))) (fun s => (lS mm b (2 * (F * n)) - s.2).toNat) ?_ _ ⟨rfl, i, rfl, Nat.le_refl _, hi⟩
    rintro ⟨_, _⟩ ⟨rfl, j, rfl, hj, hj2⟩
    show Ev (b_X11_follows_25 mc b o (lS mm b (2 * (F * n))) _ (j : Int)) _
    unfold b_X11_follows_25
    refine ev_if (fun hc => ev_exit rfl) fun hc => ?_
    obtain ⟨v, e1, -, e3⟩ := last_both hM hB (i := j) (by omega)
    obtain ⟨u, f1, -, f3⟩ := last_both hM hO (i := j) (by omega)
    have hu : u = -1 := by omega
    have hv : ¬ v = -1 := by omega
    rw [e1, f1, Option.bind_some, Option.bind_some]
    exact ev_iff hv (ev_ift hu (ev_ck (by omega) (ev_back ⟨rfl, j + 1, by simp, by omega, by omega⟩ (by simp only; omega))))
  have key : ∀ (d : Nat) (w : Int) (i : Nat), lS mm b (2 * (F * n)) - i ≤ d → (i : Int) ≤ lS mm b (2 * (F * n)) → 0 ≤ w → w ≤ i → ∃ v, lpb (fun s : Int × Int => b_X11_follows_25 mc b o (lS mm b (2 * (F * n))) s.1 s.2) (w, (i : Int)) = some v ∧ lpb (fun s : Int × Int => b_X12_follows_35 mm 0 (b : Int) (o : Int) s.1 s.2) (w, (i : Int)) = some v := by
    intro d
    induction d with
    | zero =>
      intro w i hd hi hw hw2
      have hiL : (i : Int) = lS mm b (2 * (F * n)) := by omega
      obtain ⟨v, e1, e2, e3⟩ := last_both hM hB (i := i) (by omega)
      have hv : v = -1 := by omega
      refine ⟨w, ?_, ?_⟩
      · rw [lpb_eq]
        simp only
        unfold b_X11_follows_25
        rw [if_pos (show lS mm b (2 * (F * n)) ≤ (i : Int) by omega)]
        rfl
      · rw [lpb_eq]
        simp only
        unfold b_X12_follows_35
        rw [e2, Option.bind_some, if_pos hv]
        rfl
    | succ d ih =>
      intro w i hd hi hw hw2
      obtain ⟨v, e1, e2, e3⟩ := last_both hM hB (i := i) (by omega)
      by_cases hiL : (i : Int) = lS mm b (2 * (F * n))
      · have hv : v = -1 := by omega
        refine ⟨w, ?_, ?_⟩
        · rw [lpb_eq]
          simp only
          unfold b_X11_follows_25
          rw [if_pos (show lS mm b (2 * (F * n)) ≤ (i : Int) by omega)]
          rfl
        · rw [lpb_eq]
          simp only
          unfold b_X12_follows_35
          rw [e2, Option.bind_some, if_pos hv]
          rfl
      · have hv : 0 ≤ v ∧ v < gN mm 80 0 b := by omega
        obtain ⟨u, f1, f2, f3⟩ := last_both hM hO (i := i) (by omega)
        by_cases hu : u = -1
        · refine ⟨w, tail (d + 1) w i hd hi (by omega), ?_⟩
          rw [lpb_eq]
          simp only
          unfold b_X12_follows_35
          rw [e2, Option.bind_some, if_neg (show ¬ v = -1 by omega), f2, Option.bind_some, if_pos hu]
          rfl
        · have hu2 : 0 ≤ u ∧ u < gN mm 80 0 o := by omega
          obtain ⟨x, rfl⟩ := Int.ex hv.1
          obtain ⟨y, rfl⟩ := Int.ex hu2.1
          obtain ⟨k, g1, s, t, g2, g3, rfl⟩ := like_both h hB hO hv.2 hu2.2
          have hx60 : x < 60 := by omega
          have hy60 : y < 60 := by omega
          obtain ⟨z, hz⟩ : ∃ z : Int, z = (if lcm' (gL mm 81 0 (60 * b + x)) (gL mm 81 0 (60 * o + y)) = 0 then 1 else if s = -1 then 0 else if ¬ s = t then 0 else 1) := ⟨_, rfl⟩
          rw [← hz] at g1
          have hz01 : z = 0 ∨ z = 1 := by rw [hz]; (repeat' split) <;> omega
          have a1 : b_X11_follows_25 mc b o (lS mm b (2 * (F * n))) w (i : Int) = some (.inl (w + z, (i : Int) + 1)) := by
            unfold b_X11_follows_25
            rw [if_neg (show ¬ lS mm b (2 * (F * n)) ≤ (i : Int) by omega), e1, f1, Option.bind_some, Option.bind_some, if_neg (show ¬ (x : Int) = -1 by omega), if_neg (show ¬ (y : Int) = -1 by omega), nk_of hS.r4, nk_of hS'.r4, g1, Option.bind_some]
            rcases hz01 with z0 | z0
            · rw [z0, if_pos rfl, Int.add_zero, ck_of ⟨by omega, by omega⟩]
            · rw [z0, if_neg (show ¬ (1 : Int) = 0 by decide), ck_of ⟨by omega, by omega⟩, ck_of ⟨by omega, by omega⟩]
          have a2 : b_X12_follows_35 mm 0 (b : Int) (o : Int) w (i : Int) = some (.inl (w + z, (i : Int) + 1)) := by
            unfold b_X12_follows_35
            have k0 : -2147483648 ≤ w ∧ w < 2147483648 := by omega
            have k1 : -2147483648 ≤ w + 1 ∧ w + 1 < 2147483648 := by omega
            have k2 : -2147483648 ≤ (i : Int) + 1 ∧ (i : Int) + 1 < 2147483648 := by omega
            rw [e2, Option.bind_some, if_neg (show ¬ (x : Int) = -1 by omega), f2, Option.bind_some, if_neg (show ¬ (y : Int) = -1 by omega), nk_of hM.r28, Option.bind_some, show 60 * (b : Int) + (x : Int) = ((60 * b + x : Nat) : Int) by omega, ldL_of hM.z81 (by omega), tnc, nk_of hM.r28, Option.bind_some, show 60 * (o : Int) + (y : Int) = ((60 * o + y : Nat) : Int) by omega, ldL_of hM.z81 (by omega), tnc, g2, Option.bind_some, g3, Option.bind_some, Option.bind_some]
            simp only [Int.add_zero, ck_of k0, ck_of k1, ck_of k2]
            by_cases c1 : lcm' (gL mm 81 0 (60 * b + x)) (gL mm 81 0 (60 * o + y)) = 0
            · rw [if_pos c1] at hz
              rw [if_pos c1, hz]
            · rw [if_neg c1] at hz
              rw [if_neg c1]
              by_cases c2 : s = -1
              · rw [if_pos c2] at hz
                rw [if_pos c2, hz, Int.add_zero]
              · rw [if_neg c2] at hz
                rw [if_neg c2]
                by_cases c3 : s = t
                · rw [if_neg (fun q => q c3)] at hz
                  rw [if_neg (fun q => q c3), hz]
                · rw [if_pos c3] at hz
                  rw [if_pos c3, hz, Int.add_zero]
          obtain ⟨r, r1, r2⟩ := ih (w + z) (i + 1) (by omega) (by omega) (by omega) (by omega)
          refine ⟨r, ?_, ?_⟩
          · rw [lpb_eq]
            simp only
            rw [a1]
            exact r1
          · rw [lpb_eq]
            simp only
            rw [a2]
            exact r2
  exact key (lS mm b (2 * (F * n))).toNat 0 0 (by omega) (by omega) (by omega) (by omega)
theorem call_follows (h : RR N mc mm) (a d : Int) : Qry (f_X11_follows mc 0 a d) (f_X12_follows mm 0 a d) [0] mc mm := by
  have m22 : j_X12_follows_0_22 mm 0 a d 0 1 = some (.inl (some (aI 0)), sN mm 12 0 0 1) := by
    unfold j_X12_follows_0_22; rw [holds1 _ (by decide), bI_ok, if_neg (fun q => q rfl)]
  unfold f_X11_follows f_X12_follows j_X12_follows_0_21
  by_cases hb : 0 ≤ a ∧ a < gN mm 12 0 19
  · obtain ⟨b, rfl⟩ := Int.ex hb.1
    rw [bookAt_ok h.Nb h.C hb.2, bR_ok, nk_some, isBook_ok h.Nb hb.2, Option.bind_some, if_neg (show ¬ (1 : Int) = 0 by decide)]
    by_cases hd : 0 ≤ d ∧ d < gN mm 12 0 19
    · obtain ⟨o, rfl⟩ := Int.ex hd.1
      rw [bookAt_ok h.Nb h.C hd.2, bR_ok, nk_some, isBook_ok h.Nb hd.2, Option.bind_some, if_neg (show ¬ (1 : Int) = 0 by decide)]
      have h1 := h.thr 0
      obtain ⟨F, n, M, Ln, E, hB⟩ := h1.Bk b (by rw [gthr' _ _ (by omega)]; exact hb.2)
      obtain ⟨F', n', M', Ln', E', hO⟩ := h1.Bk o (by rw [gthr' _ _ (by omega)]; exact hd.2)
      obtain ⟨v, e1, e2⟩ := follows_loop h1 hB hO
      unfold j_X12_follows_0_22
      rw [linesOn_c hB, Option.bind_some, e1, Option.bind_some, holds0, bI_ok, if_pos (show ¬ (1 : Int) = 0 by decide), e2, Option.bind_some]
      unfold j_X11_follows_0_89 j_X12_follows_0_142
      exact Qry.ok rfl rfl
    · rw [bookAt_bad h.Nb h.C hd, bR_ex, isBook_bad h.Nb hd, Option.bind_some, if_pos rfl, m22]
      exact Qry.bad (k := 0) rfl rfl rfl
  · rw [bookAt_bad h.Nb h.C hb, bR_ex, isBook_bad h.Nb hb, Option.bind_some, if_pos rfl, m22]
    exact Qry.bad (k := 0) rfl rfl rfl
end FOLLOWS
