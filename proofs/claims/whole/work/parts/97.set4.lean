/-! SET: a line. -/
section SET
variable {N : Nat} {mc mm : MM} {b F n M Ln E d : Nat}
theorem exit_c {q To : Nat} {L room g cnt : Int} {s : MM} (h : 60 ≤ cnt ∨ g = 0 ∨ (To : Int) ≤ gN s 4 q 12) : b_X4_takeLine_29 q b d L (To : Int) room g cnt s = some (.inr (room, s)) := by
  unfold b_X4_takeLine_29
  by_cases h1 : 60 ≤ cnt
  · rw [if_pos h1]
  · rw [if_neg h1]
    by_cases h2 : g = 0
    · rw [if_pos h2]
    · rw [if_neg h2, if_pos (by omega)]
theorem run_eq (h : RR N mc mm) (hB : RBk mc mm b F n M Ln E) {p : Nat} (hp : p < 2 * (F * n)) (hd : (d : Int) < gN mm 12 0 12) {To : Nat} (hTo : (To : Int) ≤ gN mm 80 0 b) {s1 t1 : MM} (hF1 : Fsc (16 * b + p) d mc s1) (hG1 : Fsm (16 * b + p) d mm t1) {Fr A L T : Nat} {H0 cr : Int} (hL : L < Ln) (hcr : gN s1 4 (16 * b + p) 14 = cr) (hH0 : 0 ≤ H0 ∧ H0 ≤ 10000000) :
    ∀ (e c j : Nat) (used g st : Int) (s t : MM), To - j = e → LU mc mm s1 t1 s t b (16 * b + p) d Fr To M A L T c j used 0 H0 → (g = 0 ∨ g = 1) → (st = 0 ∨ st = 1) → (st = 0 ↔ g = 1 ∧ j < To) →
      ∃ (c' j' : Nat) (used' f : Int) (s' t' : MM), lpb (fun z : Int × Int × Int × MM => b_X4_takeLine_29 (16 * b + p) b d (L : Int) (To : Int) z.1 z.2.1 z.2.2.1 z.2.2.2) ((M : Int) - used, g, (c : Int), s) = some ((M : Int) - used', s') ∧ lpb (fun z : Int × Int × Int × MM => b_X12_laysLines_88 0 (b : Int) ((16 * b + p : Nat) : Int) (d : Int) (To : Int) cr ((6 * (16 * b + p) + L : Nat) : Int) z.1 z.2.1 z.2.2.1 z.2.2.2) ((j : Int), used, st, t) = some ((j' : Int), used', t') ∧ LU mc mm s1 t1 s' t' b (16 * b + p) d Fr To M A L T c' j' used' f H0 ∧ (f = 0 ∨ f = 1) ∧ c ≤ c' ∧ j ≤ j' ∧ (st = 0 → 1 ≤ c') ∧ (c < c' → j < j') := by
  intro e
  induction e using Nat.strongRecOn with
  | ind e ih =>
    intro c j used g st s t he hU hg hst hiff
    have em1 : ∀ (x : Int) (y : Int) (z : MM), lpb (fun z : Int × Int × Int × MM => b_X12_laysLines_88 0 (b : Int) ((16 * b + p : Nat) : Int) (d : Int) (To : Int) cr ((6 * (16 * b + p) + L : Nat) : Int) z.1 z.2.1 z.2.2.1 z.2.2.2) (x, y, 1, z) = some (x, y, z) := fun x y z => by
      rw [lpb_eq]
      simp only
      unfold b_X12_laysLines_88
      rw [if_pos (show ¬ (1 : Int) = 0 by decide), Option.bind_some, Sum.elim_inr]
    by_cases h0 : st = 0
    · obtain ⟨hg1, hj⟩ := hiff.mp h0
      rw [h0, hg1]
      rcases step_eq h hB hp rfl hd hTo hF1 hG1 hL hcr hH0 hU hj with ⟨j', used', g', st', s', t', e1, e2, e3, e4, e5, e6, e7⟩ | ⟨hc1, s', t', e1, e2, e7⟩
      · obtain ⟨c2, j2, used2, f2, s2, t2, r1, r2, r3, r4, r5, r6, r7, r8⟩ := ih (To - j') (by omega) (c + 1) j' used' g' st' s' t' rfl e7 e3 e4 e5
        refine ⟨c2, j2, used2, f2, s2, t2, ?_, ?_, r3, r4, by omega, by omega, fun _ => by omega, fun _ => by omega⟩
        · rw [lpb_eq]
          simp only
          rw [e1, Option.bind_some, Sum.elim_inl]
          exact r1
        · rw [lpb_eq]
          simp only
          rw [e2, Option.bind_some, Sum.elim_inl]
          exact r2
      · -- the word behind finds no room
        refine ⟨c, j, used, 1, s', t', ?_, ?_, e7, Or.inr rfl, Nat.le_refl _, Nat.le_refl _, fun _ => hc1, fun z => absurd z (by omega)⟩
        · rw [lpb_eq]
          simp only
          rw [e1, Option.bind_some, Sum.elim_inl, lpb_eq]
          simp only
          rw [exit_c (Or.inr (Or.inl rfl)), Option.bind_some, Sum.elim_inr]
        · rw [lpb_eq]
          simp only
          rw [e2, Option.bind_some, Sum.elim_inl]
          exact em1 _ _ _
    · have hst1 : st = 1 := by omega
      rw [hst1]
      have hex : 60 ≤ (c : Int) ∨ g = 0 ∨ (To : Int) ≤ gN s 4 (16 * b + p) 12 := by
        rw [hU.nx]
        rcases hg with z | z
        · exact Or.inr (Or.inl z)
        · refine Or.inr (Or.inr ?_)
          have : ¬ j < To := fun y => h0 (hiff.mpr ⟨z, y⟩)
          omega
      refine ⟨c, j, used, 0, s, t, ?_, em1 _ _ _, hU, Or.inl rfl, Nat.le_refl _, Nat.le_refl _, fun z => absurd z (by decide), fun z => absurd z (by omega)⟩
      rw [lpb_eq]
      simp only
      rw [exit_c hex, Option.bind_some, Sum.elim_inr]
/-- pages under way: so many lines are taken -/
def SR (t : MM) (q : Nat) : Nat → Nat
  | 0 => 0
  | l + 1 => SR t q l + (gN t 93 0 (6 * q + l)).toNat
theorem SR.congr {t t' : MM} {q : Nat} : ∀ {L : Nat}, (∀ l, l < L → gN t' 93 0 (6 * q + l) = gN t 93 0 (6 * q + l)) → SR t' q L = SR t q L
  | 0, _ => rfl
  | L + 1, h => by rw [SR, SR, SR.congr (fun k hk => h k (by omega)), h L (by omega)]
/-- a line as it was taken -/
def LiR (s t : MM) (q M L W l : Nat) : Prop := ∃ T C R f : Nat, gN s 31 q l = T ∧ gN t 91 0 (6 * q + l) = T ∧ gN t 92 0 (6 * q + l) = C ∧ (1 ≤ C ∧ T + C ≤ W) ∧ gN s 32 q l = R ∧ gN t 93 0 (6 * q + l) = R ∧ gN s 33 q l = f ∧ gN t 94 0 (6 * q + l) = f ∧ (f = 0 ∨ f = 1) ∧ (l + 1 = L → T + C = W) ∧ (l + 1 < L → gN t 91 0 (6 * q + (l + 1)) = ((T + C : Nat) : Int)) ∧ ∀ k, T ≤ k → k < T + C → gN s 29 q k = 1 ∧ gN t 97 0 (60 * q + k) = if k = T then 0 else 1
def LA (mc mm s t : MM) (b q d Fr To M Ln L W j : Nat) (H0 cr : Int) : Prop := (Fsc q d mc s) ∧
  (Fsm q d mm t) ∧
  (gN s 4 q 10 = W) ∧
  (gN t 89 0 q = W) ∧
  (gN s 4 q 11 = L) ∧
  (gN t 88 0 q = L) ∧
  (gN s 4 q 12 = j) ∧
  (gN s 4 q 14 = cr) ∧
  (gN s 4 q 13 = gN mc 4 q 13) ∧
  (L ≤ Ln) ∧
  (∀ k, k < W → WdR mc s t b q Fr To k) ∧
  (∀ l, l < L → LiR s t q M L W l) ∧
  ((0 < L → gN t 91 0 (6 * q + 0) = 0) ∧ (L = 0 → W = 0)) ∧
  (LtS t q W + SR t q L ≤ M * L) ∧
  (Fr + W ≤ j) ∧
  (j ≤ To) ∧
  (gN s 3 d 3 = gN t 70 0 d ∧ 0 ≤ gN t 70 0 d ∧ gN t 70 0 d ≤ H0 + W)
theorem LA.fs {mc mm s t : MM} {b q d Fr To M Ln L W j : Nat} {H0 cr : Int} (h : LA mc mm s t b q d Fr To M Ln L W j H0 cr) : Fsc q d mc s := h.1
theorem LA.ft {mc mm s t : MM} {b q d Fr To M Ln L W j : Nat} {H0 cr : Int} (h : LA mc mm s t b q d Fr To M Ln L W j H0 cr) : Fsm q d mm t := h.2.1
theorem LA.w1 {mc mm s t : MM} {b q d Fr To M Ln L W j : Nat} {H0 cr : Int} (h : LA mc mm s t b q d Fr To M Ln L W j H0 cr) : gN s 4 q 10 = W := h.2.2.1
theorem LA.w2 {mc mm s t : MM} {b q d Fr To M Ln L W j : Nat} {H0 cr : Int} (h : LA mc mm s t b q d Fr To M Ln L W j H0 cr) : gN t 89 0 q = W := h.2.2.2.1
theorem LA.l1 {mc mm s t : MM} {b q d Fr To M Ln L W j : Nat} {H0 cr : Int} (h : LA mc mm s t b q d Fr To M Ln L W j H0 cr) : gN s 4 q 11 = L := h.2.2.2.2.1
theorem LA.l2 {mc mm s t : MM} {b q d Fr To M Ln L W j : Nat} {H0 cr : Int} (h : LA mc mm s t b q d Fr To M Ln L W j H0 cr) : gN t 88 0 q = L := h.2.2.2.2.2.1
theorem LA.nx {mc mm s t : MM} {b q d Fr To M Ln L W j : Nat} {H0 cr : Int} (h : LA mc mm s t b q d Fr To M Ln L W j H0 cr) : gN s 4 q 12 = j := h.2.2.2.2.2.2.1
theorem LA.cr {mc mm s t : MM} {b q d Fr To M Ln L W j : Nat} {H0 cr : Int} (h : LA mc mm s t b q d Fr To M Ln L W j H0 cr) : gN s 4 q 14 = cr := h.2.2.2.2.2.2.2.1
theorem LA.lo {mc mm s t : MM} {b q d Fr To M Ln L W j : Nat} {H0 cr : Int} (h : LA mc mm s t b q d Fr To M Ln L W j H0 cr) : gN s 4 q 13 = gN mc 4 q 13 := h.2.2.2.2.2.2.2.2.1
theorem LA.LL {mc mm s t : MM} {b q d Fr To M Ln L W j : Nat} {H0 cr : Int} (h : LA mc mm s t b q d Fr To M Ln L W j H0 cr) : L ≤ Ln := h.2.2.2.2.2.2.2.2.2.1
theorem LA.wd {mc mm s t : MM} {b q d Fr To M Ln L W j : Nat} {H0 cr : Int} (h : LA mc mm s t b q d Fr To M Ln L W j H0 cr) : ∀ k, k < W → WdR mc s t b q Fr To k := h.2.2.2.2.2.2.2.2.2.2.1
theorem LA.li {mc mm s t : MM} {b q d Fr To M Ln L W j : Nat} {H0 cr : Int} (h : LA mc mm s t b q d Fr To M Ln L W j H0 cr) : ∀ l, l < L → LiR s t q M L W l := h.2.2.2.2.2.2.2.2.2.2.2.1
theorem LA.l0 {mc mm s t : MM} {b q d Fr To M Ln L W j : Nat} {H0 cr : Int} (h : LA mc mm s t b q d Fr To M Ln L W j H0 cr) : (0 < L → gN t 91 0 (6 * q + 0) = 0) ∧ (L = 0 → W = 0) := h.2.2.2.2.2.2.2.2.2.2.2.2.1
theorem LA.us {mc mm s t : MM} {b q d Fr To M Ln L W j : Nat} {H0 cr : Int} (h : LA mc mm s t b q d Fr To M Ln L W j H0 cr) : LtS t q W + SR t q L ≤ M * L := h.2.2.2.2.2.2.2.2.2.2.2.2.2.1
theorem LA.jw {mc mm s t : MM} {b q d Fr To M Ln L W j : Nat} {H0 cr : Int} (h : LA mc mm s t b q d Fr To M Ln L W j H0 cr) : Fr + W ≤ j := h.2.2.2.2.2.2.2.2.2.2.2.2.2.2.1
theorem LA.jt {mc mm s t : MM} {b q d Fr To M Ln L W j : Nat} {H0 cr : Int} (h : LA mc mm s t b q d Fr To M Ln L W j H0 cr) : j ≤ To := h.2.2.2.2.2.2.2.2.2.2.2.2.2.2.2.1
theorem LA.hd {mc mm s t : MM} {b q d Fr To M Ln L W j : Nat} {H0 cr : Int} (h : LA mc mm s t b q d Fr To M Ln L W j H0 cr) : gN s 3 d 3 = gN t 70 0 d ∧ 0 ≤ gN t 70 0 d ∧ gN t 70 0 d ≤ H0 + W := h.2.2.2.2.2.2.2.2.2.2.2.2.2.2.2.2
set_option maxHeartbeats 4000000 in
theorem line_eq (h : RR N mc mm) (hB : RBk mc mm b F n M Ln E) {p : Nat} (hp : p < 2 * (F * n)) (hd : (d : Int) < gN mm 12 0 12) {To : Nat} (hTo : (To : Int) ≤ gN mm 80 0 b) {s t : MM} {Fr L W j : Nat} {H0 cr : Int} (hH0 : 0 ≤ H0 ∧ H0 ≤ 10000000) (hA : LA mc mm s t b (16 * b + p) d Fr To M Ln L W j H0 cr) (hL : L < Ln) (hj : j < To) :
    ∃ (s' t' : MM) (W' j' : Nat), f_X4_takeLine s (16 * b + p) b d (L : Int) (To : Int) = some (.inl none, s') ∧ b_X12_laysLines_18 0 (b : Int) ((16 * b + p : Nat) : Int) (d : Int) (To : Int) cr (j : Int) t = some (.inl ((j' : Int), t')) ∧ j < j' ∧ gN s' 4 (16 * b + p) 11 = L ∧ LA mc mm (sN s' 4 (16 * b + p) 11 ((L : Int) + 1)) t' b (16 * b + p) d Fr To M Ln (L + 1) W' j' H0 cr := by
  have hP := hB.hP
  have q0 := hP.hb
  have q1 := hP.hn
  have q2 := hP.hL
  have qM := hP.hM
  have hcnt := hB.tx.cnt
  have hq48 : 16 * b + p < 48 := by omega
  have hSs := hA.fs.S hB
  have hMt := hA.ft.Md h.M
  have hPt := hA.ft.P hB
  have jw := hA.jw
  -- the line begins
  have hS1 : BS (sN s 31 (16 * b + p) L (W : Int)) b F n M Ln E := hSs.keep hP (fun K i k z => eq3.sN (by unfold CBS at z; omega)) (fun _ _ _ z => z)
  have hM1 : SM (sN t 91 0 (6 * (16 * b + p) + L) (W : Int)) := hMt.mv (fun _ => rfl) (fun _ _ _ z => z)
  have hM2 : SM (sN (sN t 91 0 (6 * (16 * b + p) + L) (W : Int)) 92 0 (6 * (16 * b + p) + L) 0) := hM1.mv (fun _ => rfl) (fun _ _ _ z => z)
  have eI : 6 * ((16 * b + p : Nat) : Int) + (L : Int) = ((6 * (16 * b + p) + L : Nat) : Int) := by omega
  generalize hs1 : sN (sN s 31 (16 * b + p) L (W : Int)) 33 (16 * b + p) L 0 = s1
  generalize ht1 : sN (sN (sN t 91 0 (6 * (16 * b + p) + L) (W : Int)) 92 0 (6 * (16 * b + p) + L) 0) 94 0 (6 * (16 * b + p) + L) 0 = t1
  have E1 : FrC (fun K i k => (K = 31 ∨ K = 33) ∧ i = 16 * b + p ∧ k = L) s s1 := by
    rw [← hs1]
    exact (FrC.rf.sN ⟨Or.inl rfl, rfl, rfl⟩).sN ⟨Or.inr rfl, rfl, rfl⟩
  have E2 : FrC (fun K i k => (K = 91 ∨ K = 92 ∨ K = 94) ∧ i = 0 ∧ k = 6 * (16 * b + p) + L) t t1 := by
    rw [← ht1]
    exact ((FrC.rf.sN ⟨Or.inl rfl, rfl, rfl⟩).sN ⟨Or.inr (Or.inl rfl), rfl, rfl⟩).sN ⟨Or.inr (Or.inr rfl), rfl, rfl⟩
  have v31 : gN s1 31 (16 * b + p) L = W := by rw [← hs1, gN_sN, if_neg (by omega), gN_sN, if_pos ⟨rfl, rfl, rfl⟩]
  have v33 : gN s1 33 (16 * b + p) L = 0 := by rw [← hs1, gN_sN, if_pos ⟨rfl, rfl, rfl⟩]
  have u91 : gN t1 91 0 (6 * (16 * b + p) + L) = W := by rw [← ht1, gN_sN, if_neg (by omega), gN_sN, if_neg (by omega), gN_sN, if_pos ⟨rfl, rfl, rfl⟩]
  have u92 : gN t1 92 0 (6 * (16 * b + p) + L) = 0 := by rw [← ht1, gN_sN, if_neg (by omega), gN_sN, if_pos ⟨rfl, rfl, rfl⟩]
  have u94 : gN t1 94 0 (6 * (16 * b + p) + L) = 0 := by rw [← ht1, gN_sN, if_pos ⟨rfl, rfl, rfl⟩]
  have hF1 : Fsc (16 * b + p) d mc s1 := hA.fs.tr (E1.sub (fun K i k z => Or.inr (Or.inl ⟨by omega, by omega, z.2.1⟩)))
  have hG1 : Fsm (16 * b + p) d mm t1 := hA.ft.tr (E2.sub (fun K i k z => Or.inr (Or.inr (Or.inl ⟨by omega, by omega, z.2.1, by omega, by omega⟩))))
  have hcr1 : gN s1 4 (16 * b + p) 14 = cr := by rw [(E1.1 4 _ 14 (by omega)).1]; exact hA.cr
  have hLt1 : LtS t1 (16 * b + p) W = LtS t (16 * b + p) W := LtS.congr (fun k hk => (E2.1 96 0 _ (by omega)).2.1)
  have hU0 : LU mc mm s1 t1 s1 t1 b (16 * b + p) d Fr To M (LtS t (16 * b + p) W) L W 0 j 0 0 H0 := by
    refine ⟨FrC.rf, FrC.rf, ?_, ?_, ?_, v33, u92, u94, fun k hk => ?_, fun k h1 h2 => absurd h2 (by omega), fun k h1 h2 => absurd h2 (by omega), ?_, by omega, fun _ => rfl, by omega, hA.jt, ?_⟩
    · rw [(E1.1 4 _ 10 (by omega)).1, hA.w1]; rfl
    · rw [(E2.1 89 0 _ (by omega)).1, hA.w2]; rfl
    · rw [(E1.1 4 _ 12 (by omega)).1, hA.nx]
    · exact (hA.wd k (by omega)).congr (E1.1 27 _ k (by omega)).1 (E1.1 28 _ k (by omega)).1 (E2.1 95 0 _ (by omega)).1 (E2.1 96 0 _ (by omega)).2.1
    · rw [Nat.add_zero, hLt1]; omega
    · rw [(E1.1 3 d 3 (by omega)).1, (E2.1 70 0 d (by omega)).1]
      exact hA.hd
  obtain ⟨c', j', used', f, s2, t2, r1, r2, r3, r4, r5, r6, r7, r8⟩ := run_eq h hB hp hd hTo hF1 hG1 hL hcr1 hH0 _ 0 j 0 1 0 s1 t1 rfl hU0 (Or.inr rfl) (Or.inl rfl) ⟨fun _ => ⟨rfl, hj⟩, fun _ => rfl⟩
  have hc1 := r7 rfl
  have hjj := r8 (by omega)
  have r1' : lpb (fun z : Int × Int × Int × MM => b_X4_takeLine_29 (16 * b + p) b d (L : Int) (To : Int) z.1 z.2.1 z.2.2.1 z.2.2.2) ((M : Int), 1, 0, s1) = some ((M : Int) - used', s2) := by
    rw [Int.sub_zero] at r1
    exact r1
  have hFs2 : Fsc (16 * b + p) d mc s2 := hF1.tr (r3.fs.sub (fun K i k z => z.sc))
  have hFt2 : Fsm (16 * b + p) d mm t2 := hG1.tr (r3.ft.sub (fun K i k z => z.sm (by omega)))
  have hSs2 := hFs2.S hB
  have hMt2 := hFt2.Md h.M
  have hPt2 := hFt2.P hB
  have hub := r3.ub
  have t288 : gN t2 88 0 (16 * b + p) = L := by rw [(r3.ft.1 88 0 _ (by unfold WlM; omega)).1, (E2.1 88 0 _ (by omega)).1, hA.l2]
  have hM3 : SM (sN t2 93 0 (6 * (16 * b + p) + L) ((M : Int) - used')) := hMt2.mv (fun _ => rfl) (fun _ _ _ z => z)
  refine ⟨sN s2 32 (16 * b + p) L ((M : Int) - used'), sN (sN t2 93 0 (6 * (16 * b + p) + L) ((M : Int) - used')) 88 0 (16 * b + p) ((L : Int) + 1), W + c', j', ?_, ?_, hjj, ?_, ?_⟩
  · unfold f_X4_takeLine
    rw [nk_of (hSs.p5 p hp), hA.w1, stN_of (hSs.z31 p hp) (by omega), tnc, nk_of (hS1.p7 p hp), stN_of (hS1.z33 p hp) (by omega), tnc, hs1, hSs.p0 p hp, r1', Option.bind_some]
    unfold j_X4_takeLine_0_187
    rw [nk_of (hSs2.p6 p hp), stN_of (hSs2.z32 p hp) (by omega), tnc]
  · unfold b_X12_laysLines_18
    rw [nk_of hMt.r35, ldN_of hMt.z88 (by omega), tnc, hA.l2, nk_of hMt.r23, ldN_of hMt.z76 (by omega), tnc, hPt.l, if_neg (by omega), if_neg (by omega), nk_of hMt.r35, ldN_of hMt.z88 (by omega), tnc, hA.l2, eI, ck_of ⟨by omega, by omega⟩, nk_of hMt.r38, nk_of hMt.r36, ldN_of hMt.z89 (by omega), tnc, hA.w2, stN_of hMt.z91 (by omega), tnc, nk_of hM1.r39, stN_of hM1.z92 (by omega), tnc, nk_of hM2.r41, stN_of hM2.z94 (by omega), tnc, ht1, r2, Option.bind_some]
    dsimp only
    unfold j_X12_laysLines_18_366
    rw [nk_of hMt2.r40, nk_of hMt2.r22, ldN_of hMt2.z75 (by omega), tnc, hPt2.m, ck_of ⟨by omega, by omega⟩, stN_of hMt2.z93 (by omega), tnc, nk_of hM3.r35, ldN_of hM3.z88 (by omega), tnc, gN_sN, if_neg (by omega), t288, ck_of ⟨by omega, by omega⟩, stN_of hM3.z88 (by omega), tnc]
  · rw [gN_sN, if_neg (by omega), (r3.fs.1 4 _ 11 (by unfold WlC; omega)).1, (E1.1 4 _ 11 (by omega)).1, hA.l1]
  · have hR : (M : Int) - used' = (((M : Int) - used').toNat : Int) := by omega
    have oS : ∀ K k, ((K = 31 ∨ K = 32 ∨ K = 33) ∧ k ≠ L) ∨ ((27 ≤ K ∧ K ≤ 29) ∧ k < W) → gN (sN (sN s2 32 (16 * b + p) L ((M : Int) - used')) 4 (16 * b + p) 11 ((L : Int) + 1)) K (16 * b + p) k = gN s K (16 * b + p) k := fun K k hk => by rw [gN_sN, if_neg (by omega), gN_sN, if_neg (by omega), (r3.fs.1 K _ k (by unfold WlC; omega)).1, (E1.1 K _ k (by omega)).1]
    have oT : ∀ K k, ((91 ≤ K ∧ K ≤ 94) ∧ k ≠ 6 * (16 * b + p) + L) ∨ ((95 ≤ K ∧ K ≤ 97) ∧ k < 60 * (16 * b + p) + W) → gN (sN (sN t2 93 0 (6 * (16 * b + p) + L) ((M : Int) - used')) 88 0 (16 * b + p) ((L : Int) + 1)) K 0 k = gN t K 0 k := fun K k hk => by rw [gN_sN, if_neg (by omega), gN_sN, if_neg (by omega), (r3.ft.1 K 0 k (by unfold WlM; omega)).1, (E2.1 K 0 k (by omega)).1]
    have oR : ∀ K k, K ≠ 4 → K ≠ 32 → gN (sN (sN s2 32 (16 * b + p) L ((M : Int) - used')) 4 (16 * b + p) 11 ((L : Int) + 1)) K (16 * b + p) k = gN s2 K (16 * b + p) k := fun K k h1 h2 => by rw [gN_sN, if_neg (by omega), gN_sN, if_neg (by omega)]
    have oU : ∀ K k, K ≠ 88 → K ≠ 93 → gN (sN (sN t2 93 0 (6 * (16 * b + p) + L) ((M : Int) - used')) 88 0 (16 * b + p) ((L : Int) + 1)) K 0 k = gN t2 K 0 k := fun K k h1 h2 => by rw [gN_sN, if_neg (by omega), gN_sN, if_neg (by omega)]
    have oL : ∀ k, gL (sN (sN t2 93 0 (6 * (16 * b + p) + L) ((M : Int) - used')) 88 0 (16 * b + p) ((L : Int) + 1)) 96 0 k = gL t2 96 0 k := fun k => rfl
    have o4 : ∀ k, k ≠ 11 → gN (sN (sN s2 32 (16 * b + p) L ((M : Int) - used')) 4 (16 * b + p) 11 ((L : Int) + 1)) 4 (16 * b + p) k = gN s2 4 (16 * b + p) k := fun k h1 => by rw [gN_sN, if_neg (by omega), gN_sN, if_neg (by omega)]
    have e32 : gN (sN (sN s2 32 (16 * b + p) L ((M : Int) - used')) 4 (16 * b + p) 11 ((L : Int) + 1)) 32 (16 * b + p) L = (M : Int) - used' := by rw [gN_sN, if_neg (by omega), gN_sN, if_pos ⟨rfl, rfl, rfl⟩]
    have e93 : gN (sN (sN t2 93 0 (6 * (16 * b + p) + L) ((M : Int) - used')) 88 0 (16 * b + p) ((L : Int) + 1)) 93 0 (6 * (16 * b + p) + L) = (M : Int) - used' := by rw [gN_sN, if_neg (by omega), gN_sN, if_pos ⟨rfl, rfl, rfl⟩]
    have e11 : gN (sN (sN s2 32 (16 * b + p) L ((M : Int) - used')) 4 (16 * b + p) 11 ((L : Int) + 1)) 4 (16 * b + p) 11 = (L : Int) + 1 := by rw [gN_sN, if_pos ⟨rfl, rfl, rfl⟩]
    have e88 : gN (sN (sN t2 93 0 (6 * (16 * b + p) + L) ((M : Int) - used')) 88 0 (16 * b + p) ((L : Int) + 1)) 88 0 (16 * b + p) = (L : Int) + 1 := by rw [gN_sN, if_pos ⟨rfl, rfl, rfl⟩]
    have e3 : gN (sN (sN s2 32 (16 * b + p) L ((M : Int) - used')) 4 (16 * b + p) 11 ((L : Int) + 1)) 3 d 3 = gN s2 3 d 3 := by rw [gN_sN, if_neg (by omega), gN_sN, if_neg (by omega)]
    have fS : Fsc (16 * b + p) d mc (sN (sN s2 32 (16 * b + p) L ((M : Int) - used')) 4 (16 * b + p) 11 ((L : Int) + 1)) := (hFs2.sN (Or.inr (Or.inl ⟨by omega, by omega, rfl⟩))).sN (Or.inl ⟨rfl, rfl, by omega⟩)
    have fT : Fsm (16 * b + p) d mm (sN (sN t2 93 0 (6 * (16 * b + p) + L) ((M : Int) - used')) 88 0 (16 * b + p) ((L : Int) + 1)) := (hFt2.sN (Or.inr (Or.inr (Or.inl ⟨by omega, by omega, rfl, by omega, by omega⟩)))).sN (Or.inr (Or.inl ⟨by omega, by omega, rfl, rfl⟩))
    generalize sN (sN s2 32 (16 * b + p) L ((M : Int) - used')) 4 (16 * b + p) 11 ((L : Int) + 1) = s3 at *
    generalize sN (sN t2 93 0 (6 * (16 * b + p) + L) ((M : Int) - used')) 88 0 (16 * b + p) ((L : Int) + 1) = t3 at *
    have hSR : SR t3 (16 * b + p) L = SR t (16 * b + p) L := SR.congr (fun l hl => oT 93 _ (by omega))
    have hLt : LtS t3 (16 * b + p) (W + c') = LtS t2 (16 * b + p) (W + c') := LtS.congr (fun k _ => oL _)
    have hus := hA.us
    have hus2 := r3.us
    have v312 : gN s2 31 (16 * b + p) L = W := by rw [(r3.fs.1 31 _ L (by unfold WlC; omega)).1, v31]
    have u912 : gN t2 91 0 (6 * (16 * b + p) + L) = W := by rw [(r3.ft.1 91 0 _ (by unfold WlM; omega)).1, u91]
    refine ⟨fS, fT, by rw [o4 10 (by decide)]; exact r3.w1, by rw [oU 89 _ (by decide) (by decide)]; exact r3.w2, by rw [e11]; omega, by rw [e88]; omega, by rw [o4 12 (by decide)]; exact r3.nx, ?_, ?_, by omega, fun k hk => ?_, fun l hl => ?_, ⟨fun _ => ?_, fun z => by omega⟩, ?_, r3.jw, r3.jt, ?_⟩
    · rw [o4 14 (by decide), (r3.fs.1 4 _ 14 (by unfold WlC; omega)).1]; exact hcr1
    · rw [o4 13 (by decide), (r3.fs.1 4 _ 13 (by unfold WlC; omega)).1, (E1.1 4 _ 13 (by omega)).1]; exact hA.lo
    · exact (r3.wd k hk).congr (oR 27 k (by decide) (by decide)) (oR 28 k (by decide) (by decide)) (oU 95 _ (by decide) (by decide)) (oL _)
    · by_cases z : l = L
      · rw [z]
        refine ⟨W, c', ((M : Int) - used').toNat, f.toNat, by rw [oR 31 L (by decide) (by decide)]; exact v312, by rw [oU 91 _ (by decide) (by decide)]; exact u912, by rw [oU 92 _ (by decide) (by decide)]; exact r3.y92, ⟨hc1, Nat.le_refl _⟩, by rw [e32]; exact hR, by rw [e93]; exact hR, by rw [oR 33 L (by decide) (by decide), r3.x33]; omega, by rw [oU 94 _ (by decide) (by decide), r3.y94]; omega, by omega, fun _ => rfl, fun y => by omega, fun k h1 h2 => ⟨by rw [oR 29 k (by decide) (by decide)]; exact r3.bl k h1 h2, by rw [oU 97 _ (by decide) (by decide)]; exact r3.ga k h1 h2⟩⟩
      · obtain ⟨T, C, R, g, a1, a2, a3, a4, a5, a6, a7, a8, a9, a10, a11, a12⟩ := hA.li l (by omega)
        refine ⟨T, C, R, g, by rw [oS 31 l (by omega)]; exact a1, by rw [oT 91 _ (by omega)]; exact a2, by rw [oT 92 _ (by omega)]; exact a3, by omega, by rw [oS 32 l (by omega)]; exact a5, by rw [oT 93 _ (by omega)]; exact a6, by rw [oS 33 l (by omega)]; exact a7, by rw [oT 94 _ (by omega)]; exact a8, a9, fun y => by omega, fun y => ?_, fun k h1 h2 => ⟨by rw [oS 29 k (by omega)]; exact (a12 k h1 h2).1, by rw [oT 97 _ (by omega)]; exact (a12 k h1 h2).2⟩⟩
        by_cases y2 : l + 1 = L
        · rw [y2, oU 91 _ (by decide) (by decide), u912, a10 y2]
        · rw [oT 91 _ (by omega)]; exact a11 (by omega)
    · by_cases z : L = 0
      · have := hA.l0.2 z
        rw [oU 91 _ (by decide) (by decide)]
        rw [z, this] at u912
        rw [u912]; rfl
      · rw [oT 91 _ (by omega)]; exact hA.l0.1 (by omega)
    · rw [SR, hSR, hLt, e93, Nat.mul_add, Nat.mul_one]
      omega
    · rw [e3, oU 70 d (by decide) (by decide)]
      exact r3.hd
end SET
