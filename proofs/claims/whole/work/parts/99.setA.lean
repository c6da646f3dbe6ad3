/-! SET: the lines of a page are filled out. -/
section SET
variable {N : Nat} {mc mm : MM} {b F n M Ln E d : Nat}
theorem SR.put {t t' : MM} {q l : Nat} : ∀ {L : Nat}, l < L → (∀ i, i ≠ l → gN t' 93 0 (6 * q + i) = gN t 93 0 (6 * q + i)) → SR t' q L + (gN t 93 0 (6 * q + l)).toNat = SR t q L + (gN t' 93 0 (6 * q + l)).toNat
  | 0, h, _ => absurd h (Nat.not_lt_zero _)
  | L + 1, h, e => by
    rw [SR, SR]
    by_cases z : l = L
    · subst z
      rw [SR.congr (fun i hi => e i (by omega))]
      omega
    · have := SR.put (t := t) (t' := t') (q := q) (L := L) (l := l) (by omega) e
      rw [e L (by omega)]
      omega
theorem SR.le {t : MM} {q l : Nat} : ∀ {L : Nat}, l < L → (gN t 93 0 (6 * q + l)).toNat ≤ SR t q L
  | 0, h => absurd h (Nat.not_lt_zero _)
  | L + 1, h => by
    rw [SR]
    by_cases z : l = L
    · subst z; omega
    · have := SR.le (t := t) (q := q) (L := L) (l := l) (by omega)
      omega
def FI (mc mm s t : MM) (b q d Fr To L W B l : Nat) (T C : Nat → Nat) (cr : Int) : Prop := (Fsc q d mc s) ∧
  (Fsm q d mm t) ∧
  (gN s 4 q 14 = cr) ∧
  (gN s 4 q 10 = W) ∧
  (gN s 4 q 11 = L) ∧
  (gN t 88 0 q = L) ∧
  (∀ k, k < L → gN s 31 q k = T k ∧ gN t 91 0 (6 * q + k) = T k ∧ gN t 92 0 (6 * q + k) = C k ∧ gN s 33 q k = gN t 94 0 (6 * q + k) ∧ (gN t 94 0 (6 * q + k) = 0 ∨ gN t 94 0 (6 * q + k) = 1) ∧ gN s 32 q k = gN t 93 0 (6 * q + k) ∧ 0 ≤ gN t 93 0 (6 * q + k)) ∧
  (∀ k, k < W → WdR mc s t b q Fr To k) ∧
  (∀ k i, l ≤ k → k < L → T k ≤ i → i < T k + C k → gN s 29 q i = 1 ∧ gN t 97 0 (60 * q + i) = if i = T k then 0 else 1) ∧
  (∀ k i, k < l → k < L → T k ≤ i → i + 1 < T k + C k → gN t 97 0 (60 * q + (i + 1)) = gN s 29 q i ∧ 1 ≤ gN s 29 q i ∧ gN s 29 q i ≤ 3) ∧
  (∀ k, k < L → gN t 97 0 (60 * q + T k) = 0) ∧
  (LtS t q W + SR t q L ≤ B)
theorem FI.fs {mc mm s t : MM} {b q d Fr To L W B l : Nat} {T C : Nat → Nat} {cr : Int} (h : FI mc mm s t b q d Fr To L W B l T C cr) : Fsc q d mc s := h.1
theorem FI.ft {mc mm s t : MM} {b q d Fr To L W B l : Nat} {T C : Nat → Nat} {cr : Int} (h : FI mc mm s t b q d Fr To L W B l T C cr) : Fsm q d mm t := h.2.1
theorem FI.cr {mc mm s t : MM} {b q d Fr To L W B l : Nat} {T C : Nat → Nat} {cr : Int} (h : FI mc mm s t b q d Fr To L W B l T C cr) : gN s 4 q 14 = cr := h.2.2.1
theorem FI.w1 {mc mm s t : MM} {b q d Fr To L W B l : Nat} {T C : Nat → Nat} {cr : Int} (h : FI mc mm s t b q d Fr To L W B l T C cr) : gN s 4 q 10 = W := h.2.2.2.1
theorem FI.l1 {mc mm s t : MM} {b q d Fr To L W B l : Nat} {T C : Nat → Nat} {cr : Int} (h : FI mc mm s t b q d Fr To L W B l T C cr) : gN s 4 q 11 = L := h.2.2.2.2.1
theorem FI.l2 {mc mm s t : MM} {b q d Fr To L W B l : Nat} {T C : Nat → Nat} {cr : Int} (h : FI mc mm s t b q d Fr To L W B l T C cr) : gN t 88 0 q = L := h.2.2.2.2.2.1
theorem FI.ln {mc mm s t : MM} {b q d Fr To L W B l : Nat} {T C : Nat → Nat} {cr : Int} (h : FI mc mm s t b q d Fr To L W B l T C cr) : ∀ k, k < L → gN s 31 q k = T k ∧ gN t 91 0 (6 * q + k) = T k ∧ gN t 92 0 (6 * q + k) = C k ∧ gN s 33 q k = gN t 94 0 (6 * q + k) ∧ (gN t 94 0 (6 * q + k) = 0 ∨ gN t 94 0 (6 * q + k) = 1) ∧ gN s 32 q k = gN t 93 0 (6 * q + k) ∧ 0 ≤ gN t 93 0 (6 * q + k) := h.2.2.2.2.2.2.1
theorem FI.wd {mc mm s t : MM} {b q d Fr To L W B l : Nat} {T C : Nat → Nat} {cr : Int} (h : FI mc mm s t b q d Fr To L W B l T C cr) : ∀ k, k < W → WdR mc s t b q Fr To k := h.2.2.2.2.2.2.2.1
theorem FI.un {mc mm s t : MM} {b q d Fr To L W B l : Nat} {T C : Nat → Nat} {cr : Int} (h : FI mc mm s t b q d Fr To L W B l T C cr) : ∀ k i, l ≤ k → k < L → T k ≤ i → i < T k + C k → gN s 29 q i = 1 ∧ gN t 97 0 (60 * q + i) = if i = T k then 0 else 1 := h.2.2.2.2.2.2.2.2.1
theorem FI.fl {mc mm s t : MM} {b q d Fr To L W B l : Nat} {T C : Nat → Nat} {cr : Int} (h : FI mc mm s t b q d Fr To L W B l T C cr) : ∀ k i, k < l → k < L → T k ≤ i → i + 1 < T k + C k → gN t 97 0 (60 * q + (i + 1)) = gN s 29 q i ∧ 1 ≤ gN s 29 q i ∧ gN s 29 q i ≤ 3 := h.2.2.2.2.2.2.2.2.2.1
theorem FI.ze {mc mm s t : MM} {b q d Fr To L W B l : Nat} {T C : Nat → Nat} {cr : Int} (h : FI mc mm s t b q d Fr To L W B l T C cr) : ∀ k, k < L → gN t 97 0 (60 * q + T k) = 0 := h.2.2.2.2.2.2.2.2.2.2.1
theorem FI.us {mc mm s t : MM} {b q d Fr To L W B l : Nat} {T C : Nat → Nat} {cr : Int} (h : FI mc mm s t b q d Fr To L W B l T C cr) : LtS t q W + SR t q L ≤ B := h.2.2.2.2.2.2.2.2.2.2.2
abbrev Fz (q : Nat) (s s' : MM) : Prop := FrC (fun K i _ => (K = 28 ∨ K = 29 ∨ K = 32) ∧ i = q) s s'
abbrev Gz (q : Nat) (t t' : MM) : Prop := FrC (fun K i k => (K = 93 ∧ i = 0 ∧ 6 * q ≤ k ∧ k < 6 * q + 6) ∨ ((K = 96 ∨ K = 97) ∧ i = 0 ∧ 60 * q ≤ k ∧ k < 60 * q + 60)) t t'
theorem fills_run (h : RR N mc mm) (hB : RBk mc mm b F n M Ln E) {p : Nat} (hp : p < 2 * (F * n)) {To : Nat} (hTo : (To : Int) ≤ gN mm 80 0 b) {Fr L W B : Nat} (hLL : L ≤ Ln) (hW : W ≤ 60) (hBb : B ≤ 1000) {T C : Nat → Nat} {cr l1 l2 l3 : Int} (hC : ∀ k, k < L → 1 ≤ C k ∧ T k + C k ≤ W) (hch : ∀ k k', k < k' → k' < L → T k + C k ≤ T k') (hnx : ∀ k, k < L → T k + C k = if k + 1 < L then T (k + 1) else W) :
    ∀ (e l : Nat) (s t : MM), L - l = e → l ≤ L → FI mc mm s t b (16 * b + p) d Fr To L W B l T C cr → ∃ (s' t' : MM), lpb (fun z : Int × MM => b_X4_compose_63 (16 * b + p) b z.1 z.2) ((l : Int), s) = some s' ∧ lpb (fun z : Int × MM => b_X12_set_248 0 l1 l2 l3 ((16 * b + p : Nat) : Int) cr z.1 z.2) ((l : Int), t) = some t' ∧ FI mc mm s' t' b (16 * b + p) d Fr To L W B L T C cr ∧ Fz (16 * b + p) s s' ∧ Gz (16 * b + p) t t' := by
  have hP := hB.hP
  have q0 := hP.hb
  have q1 := hP.hn
  have q2 := hP.hL
  intro e
  induction e with
  | zero =>
    intro l s t he hl hA
    have hM := hA.ft.Md h.M
    have hS := hA.fs.S hB
    have hll : l = L := by omega
    subst hll
    refine ⟨s, t, ?_, ?_, hA, FrC.rf, FrC.rf⟩
    · rw [lpb_eq]
      simp only
      unfold b_X4_compose_63
      rw [hA.l1, if_pos (Int.le_refl _), Option.bind_some, Sum.elim_inr]
    · rw [lpb_eq]
      simp only
      unfold b_X12_set_248
      rw [nk_of hM.r35, ldN_of hM.z88 (by omega), tnc, hA.l2, if_pos (Int.le_refl _), Option.bind_some, Sum.elim_inr]
  | succ e ih =>
    intro l s t he hl hA
    have hM := hA.ft.Md h.M
    have hS := hA.fs.S hB
    have hlL : l < L := by omega
    obtain ⟨x1, x2, x3, x4, x5, x6, x7⟩ := hA.ln l hlL
    obtain ⟨c1, c2⟩ := hC l hlL
    have ek : (l : Int) + 1 = ((l + 1 : Nat) : Int) := by omega
    have el : 6 * ((16 * b + p : Nat) : Int) + (l : Int) = ((6 * (16 * b + p) + l : Nat) : Int) := by omega
    by_cases hf : gN t 94 0 (6 * (16 * b + p) + l) = 1
    case neg =>
      have hf0 : gN s 33 (16 * b + p) l = 0 := by
        rcases x5 with z | z
        · rw [x4, z]
        · exact absurd z hf
      have hA' : FI mc mm s t b (16 * b + p) d Fr To L W B (l + 1) T C cr := by
        refine ⟨hA.fs, hA.ft, hA.cr, hA.w1, hA.l1, hA.l2, hA.ln, hA.wd, fun k i z1 => hA.un k i (by omega), fun k i z1 z2 z3 z4 => ?_, hA.ze, hA.us⟩
        by_cases z : k = l
        · subst z
          obtain ⟨y1, y2⟩ := hA.un k i (Nat.le_refl _) z2 z3 (by omega)
          obtain ⟨y3, y4⟩ := hA.un k (i + 1) (Nat.le_refl _) z2 (by omega) z4
          rw [y1, y4, if_neg (by omega)]
          exact ⟨rfl, by decide, by decide⟩
        · exact hA.fl k i (by omega) z2 z3 z4
      obtain ⟨s', t', e1, e2, e3, e4, e5⟩ := ih (l + 1) s t (by omega) (by omega) hA'
      refine ⟨s', t', ?_, ?_, e3, e4, e5⟩
      · rw [lpb_eq]
        simp only
        unfold b_X4_compose_63 f_X4_fillOut
        rw [hA.l1, if_neg (by omega), nk_of (hS.p7 p hp), ldN_of (hS.z33 p hp) (by omega), tnc, hf0, if_neg (fun w => w rfl), bV_ok, ck_of ⟨by omega, by omega⟩, Option.bind_some, Sum.elim_inl, ek]
        exact e1
      · rw [lpb_eq]
        simp only
        unfold b_X12_set_248
        rw [nk_of hM.r35, ldN_of hM.z88 (by omega), tnc, hA.l2, if_neg (by omega), nk_of hM.r41, el, ldN_of hM.z94 (by omega), tnc, if_pos hf, ck_of ⟨by omega, by omega⟩, Option.bind_some, Sum.elim_inl, ek]
        exact e2
    case pos =>
      have hsr := SR.le (t := t) (q := 16 * b + p) hlL
      have hus := hA.us
      have hwb : f_X4_wordBehindLine s (16 * b + p) (l : Int) = some ((T l + C l : Nat) : Int) := by
        unfold f_X4_wordBehindLine
        rw [ck_of ⟨by omega, by omega⟩, hA.l1, hA.w1, hnx l hlL]
        by_cases z : l + 1 < L
        · rw [if_neg (by omega), if_pos z, nk_of (hS.p5 p hp), ldN_of (hS.z31 p hp) (by omega), ek, tnc, (hA.ln (l + 1) z).1]
        · rw [if_pos (by omega), if_neg z]
      obtain ⟨r, s1, t1, a1, a2, a3, a4, a5, a6, a7, a8, a9, a10⟩ := fill_eq h hB hp (by omega) (by omega) (W := W) ⟨c1, c2, hW⟩ hTo hA.fs hA.ft hA.cr x1 x2 x3 x6 rfl ⟨x7, by omega⟩ (by rw [x4, hf]; decide) (fun k z1 z2 => hA.un l k (Nat.le_refl _) hlL z1 z2) (fun i _ z2 => hA.wd i (by omega)) hwb
      have sep : ∀ k, k < L → k ≠ l → T k + C k ≤ T l ∨ T l + C l ≤ T k := fun k z1 z2 => by
        by_cases z : k < l
        · exact Or.inl (hch k l z hlL)
        · exact Or.inr (hch l k (by omega) z1)
      have hA' : FI mc mm s1 t1 b (16 * b + p) d Fr To L W B (l + 1) T C cr := by
        have hput := SR.put (t := t) (t' := t1) (q := 16 * b + p) hlL (fun i hi => (a5.1 93 0 _ (by omega)).1)
        rw [a7] at hput
        refine ⟨ hA.fs.tr (a4.sub (fun K i k z => Or.inr (Or.inl ⟨by omega, by omega, by omega⟩))), hA.ft.tr (a5.sub (fun K i k z => by unfold SmW; omega)), by rw [(a4.1 4 _ 14 (by omega)).1, hA.cr], by rw [(a4.1 4 _ 10 (by omega)).1, hA.w1], by rw [(a4.1 4 _ 11 (by omega)).1, hA.l1], by rw [(a5.1 88 0 _ (by omega)).1, hA.l2], fun k hk => ?_, fun k hk => ?_, fun k i z1 z2 z3 z4 => ?_, fun k i z1 z2 z3 z4 => ?_, fun k hk => ?_, by omega⟩
        · obtain ⟨y1, y2, y3, y4, y5, y6, y7⟩ := hA.ln k hk
          rw [(a4.1 31 _ k (by omega)).1, (a5.1 91 0 _ (by omega)).1, (a5.1 92 0 _ (by omega)).1, (a4.1 33 _ k (by omega)).1, (a5.1 94 0 _ (by omega)).1]
          refine ⟨y1, y2, y3, y4, y5, ?_⟩
          by_cases z : k = l
          · subst z
            rw [a6, a7]
            exact ⟨rfl, a3.1⟩
          · rw [(a4.1 32 _ k (by omega)).1, (a5.1 93 0 _ (by omega)).1]
            exact ⟨y6, y7⟩
        · by_cases z : T l ≤ k ∧ k < T l + C l
          · exact a8 k z.1 z.2
          · exact (hA.wd k hk).congr (a4.1 27 _ k (by omega)).1 (a4.1 28 _ k (by omega)).1 (a5.1 95 0 _ (by omega)).1 (a5.1 96 0 _ (by omega)).2.1
        · have := sep k z2 (by omega)
          rw [(a4.1 29 _ i (by omega)).1, (a5.1 97 0 _ (by omega)).1]
          exact hA.un k i (by omega) z2 z3 z4
        · by_cases z : k = l
          · subst z
            exact a10 i z3 z4
          · have := sep k z2 z
            rw [(a4.1 29 _ i (by omega)).1, (a5.1 97 0 _ (by omega)).1]
            exact hA.fl k i (by omega) z2 z3 z4
        · have hk1 := (hC k hk).1
          have : k ≠ l → T k + C k ≤ T l ∨ T l + C l ≤ T k := sep k hk
          by_cases z : k = l
          · subst z
            rw [(a5.1 97 0 _ (by omega)).1]
            exact hA.ze k hk
          · have := sep k hk z
            rw [(a5.1 97 0 _ (by omega)).1]
            exact hA.ze k hk
      obtain ⟨s', t', e1, e2, e3, e4, e5⟩ := ih (l + 1) s1 t1 (by omega) (by omega) hA'
      refine ⟨s', t', ?_, ?_, e3, (a4.sub (fun K i k z => by omega)).tr e4, (a5.sub (fun K i k z => by omega)).tr e5⟩
      · rw [lpb_eq]
        simp only
        unfold b_X4_compose_63
        rw [hA.l1, if_neg (by omega), a1, bV_ok, ck_of ⟨by omega, by omega⟩, Option.bind_some, Sum.elim_inl, ek]
        exact e1
      · rw [lpb_eq]
        simp only
        unfold b_X12_set_248
        rw [nk_of hM.r35, ldN_of hM.z88 (by omega), tnc, hA.l2, if_neg (by omega), nk_of hM.r41, el, ldN_of hM.z94 (by omega), tnc, hf, if_neg (fun w => w rfl), ck_of ⟨by omega, by omega⟩, a2, bV_ok, ck_of ⟨by omega, by omega⟩, Option.bind_some, Sum.elim_inl, ek]
        exact e2
end SET
