/-! SET: a line is filled out. -/
section SET
variable {N : Nat} {mc mm : MM} {b F n M Ln E d : Nat}
/-- what filling a line out writes -/
abbrev Fl (q T C l : Nat) (s s' : MM) : Prop := FrC (fun K i k => (K = 28 ∧ i = q ∧ T ≤ k ∧ k < T + C) ∨ (K = 29 ∧ i = q ∧ T ≤ k ∧ k + 1 < T + C) ∨ (K = 32 ∧ i = q ∧ k = l)) s s'
abbrev Gl (q T C l : Nat) (t t' : MM) : Prop := FrC (fun K i k => (K = 96 ∧ i = 0 ∧ 60 * q + T ≤ k ∧ k < 60 * q + (T + C)) ∨ (K = 97 ∧ i = 0 ∧ 60 * q + T < k ∧ k < 60 * q + (T + C)) ∨ (K = 93 ∧ i = 0 ∧ k = 6 * q + l)) t t'
theorem fill_eq (h : RR N mc mm) (hB : RBk mc mm b F n M Ln E) {p : Nat} (hp : p < 2 * (F * n)) {l T C W : Nat} (hl : l < 6) (hlL : l < Ln) (hC : 1 ≤ C ∧ T + C ≤ W ∧ W ≤ 60) {s t : MM} {cr R : Int} {Fr To : Nat} (hTo : (To : Int) ≤ gN mm 80 0 b) (hFs : Fsc (16 * b + p) d mc s) (hFt : Fsm (16 * b + p) d mm t) (hcr : gN s 4 (16 * b + p) 14 = cr)
    (h31 : gN s 31 (16 * b + p) l = T) (h91 : gN t 91 0 (6 * (16 * b + p) + l) = T) (h92 : gN t 92 0 (6 * (16 * b + p) + l) = C) (h32 : gN s 32 (16 * b + p) l = R) (h93 : gN t 93 0 (6 * (16 * b + p) + l) = R) (hR : 0 ≤ R ∧ R ≤ 1000) (h33 : gN s 33 (16 * b + p) l ≠ 0)
    (hbl : ∀ k, T ≤ k → k < T + C → gN s 29 (16 * b + p) k = 1 ∧ gN t 97 0 (60 * (16 * b + p) + k) = if k = T then 0 else 1) (hw : ∀ i, T ≤ i → i < T + C → WdR mc s t b (16 * b + p) Fr To i) (hwb : f_X4_wordBehindLine s (16 * b + p) (l : Int) = some ((T + C : Nat) : Int)) :
    ∃ (r : Int) (s' t' : MM), f_X4_fillOut s (16 * b + p) b (l : Int) = some (.inl none, s') ∧ f_X12_fillsOut t 0 ((16 * b + p : Nat) : Int) ((6 * (16 * b + p) + l : Nat) : Int) cr = some (.inl none, t') ∧ (0 ≤ r ∧ r ≤ R) ∧ Fl (16 * b + p) T C l s s' ∧ Gl (16 * b + p) T C l t t' ∧ gN s' 32 (16 * b + p) l = r ∧ gN t' 93 0 (6 * (16 * b + p) + l) = r ∧
      (∀ i, T ≤ i → i < T + C → WdR mc s' t' b (16 * b + p) Fr To i) ∧ ((LtS t' (16 * b + p) W : Nat) : Int) + r ≤ ((LtS t (16 * b + p) W : Nat) : Int) + R ∧ ∀ i, T ≤ i → i + 1 < T + C → gN t' 97 0 (60 * (16 * b + p) + (i + 1)) = gN s' 29 (16 * b + p) i ∧ (1 ≤ gN s' 29 (16 * b + p) i ∧ gN s' 29 (16 * b + p) i ≤ 3) := by
  have hP := hB.hP
  have q0 := hP.hb
  have q1 := hP.hn
  have hM := hFt.Md h.M
  have hS := hFs.S hB
  obtain ⟨r1, s1, t1, a1, a2, a3, a4, a5, a6, a7⟩ := rounds_eq (d := d) h hB hp hl ⟨hC.1, by omega⟩ (l1 := b) (l3 := cr) hR hFs hFt h31 hlL h93 (fun i h1 h2 => by
    obtain ⟨x1, x2⟩ := hbl i h1 (by omega)
    obtain ⟨y1, y2⟩ := hbl (i + 1) (by omega) h2
    rw [x1, y2, if_neg (by omega)]
    exact ⟨rfl, by omega, fun _ => by rw [if_neg (by omega)]; rfl⟩)
  have hFs1 : Fsc (16 * b + p) d mc s1 := hFs.tr (a4.sub (fun K i k z => Or.inr (Or.inl ⟨by omega, by omega, z.2.1⟩)))
  have hFt1 : Fsm (16 * b + p) d mm t1 := hFt.tr (a5.sub (fun K i k z => by unfold SmW; omega))
  have hS1 := hFs1.S hB
  have u31 : gN s1 31 (16 * b + p) l = T := by rw [(a4.1 31 _ l (by omega)).1, h31]
  have u14 : gN s1 4 (16 * b + p) 14 = cr := by rw [(a4.1 4 _ 14 (by omega)).1, hcr]
  have hw1 : ∀ i, T ≤ i → i < T + C → WdR mc s1 t1 b (16 * b + p) Fr To i := fun i h1 h2 => (hw i h1 h2).congr (a4.1 27 _ i (by omega)).1 (a4.1 28 _ i (by omega)).1 (a5.1 95 0 _ (by omega)).1 (a5.1 96 0 _ (by omega)).2.1
  obtain ⟨r2, s2, t2, c1, c2, c3, c4, c5, c6, c7, c8⟩ := grows_eq (d := d) h hB hp hl (by omega) (cr := cr) hTo hC.2.1 (l2 := (l : Int)) _ T r1 s1 t1 rfl (Nat.le_refl _) (by omega) ⟨a3.1, by omega⟩ hFs1 hFt1 u14 a6 hw1
  have hFs2 : Fsc (16 * b + p) d mc s2 := hFs1.tr (c4.sub (fun K i k z => Or.inr (Or.inl ⟨by omega, by omega, z.2.1⟩)))
  have hS2 := hFs2.S hB
  have hLt : LtS t1 (16 * b + p) W = LtS t (16 * b + p) W := LtS.congr (fun k _ => (a5.1 96 0 _ (by omega)).2.1)
  have k29 : ∀ i, gN s2 29 (16 * b + p) i = gN s1 29 (16 * b + p) i := fun i => (c4.1 29 _ i (by omega)).1
  have k97 : ∀ i, gN t2 97 0 i = gN t1 97 0 i := fun i => (c5.1 97 0 i (by omega)).1
  refine ⟨r2, sN s2 32 (16 * b + p) l r2, t2, ?_, ?_, by omega, ?_, ?_, by rw [gN_sN, if_pos ⟨rfl, rfl, rfl⟩], c6, ?_, by omega, ?_⟩
  · unfold f_X4_fillOut
    rw [nk_of (hS.p7 p hp), ldN_of (hS.z33 p hp) (by omega), tnc, if_pos h33, nk_of (hS.p6 p hp), ldN_of (hS.z32 p hp) (by omega), tnc, h32, hwb, Option.bind_some, a1, Option.bind_some]
    unfold j_X4_fillOut_0_80
    dsimp only
    rw [nk_of (hS1.p5 p hp), ldN_of (hS1.z31 p hp) (by omega), tnc, u31, c1, Option.bind_some]
    unfold j_X4_fillOut_0_155
    dsimp only
    rw [nk_of (hS2.p6 p hp), stN_of (hS2.z32 p hp) (by omega), tnc]
  · have e1 : 60 * ((16 * b + p : Nat) : Int) + (T : Int) = ((60 * (16 * b + p) + T : Nat) : Int) := by omega
    have e2 : ((60 * (16 * b + p) + T : Nat) : Int) + (C : Int) = ((60 * (16 * b + p) + (T + C) : Nat) : Int) := by omega
    unfold f_X12_fillsOut
    rw [nk_of hM.r38, ldN_of hM.z91 (by omega), tnc, h91, e1, ck_of ⟨by omega, by omega⟩, nk_of hM.r39, ldN_of hM.z92 (by omega), tnc, h92, e2, ck_of ⟨by omega, by omega⟩, a2, Option.bind_some]
    unfold j_X12_fillsOut_0_86
    rw [c2, Option.bind_some]
    rfl
  · exact ((a4.sub (fun K i k z => Or.inr (Or.inl z))).tr (c4.sub (fun K i k z => Or.inl z))).sN (Or.inr (Or.inr ⟨rfl, rfl, rfl⟩))
  · exact (a5.sub (fun K i k z => by omega)).tr (c5.sub (fun K i k z => by omega))
  · exact fun i h1 h2 => (c7 i h1 h2).congr (by rw [gN_sN, if_neg (by omega)]) (by rw [gN_sN, if_neg (by omega)]) rfl rfl
  · intro i h1 h2
    obtain ⟨x1, x2, -⟩ := a7 i h1 h2
    rw [gN_sN, if_neg (by omega), k29, k97]
    exact ⟨x1, by omega⟩
end SET
