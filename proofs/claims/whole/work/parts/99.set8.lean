/-! SET: the words of a line grow. -/
section SET
variable {N : Nat} {mc mm : MM} {b F n M Ln E d : Nat}
theorem LtS.put {t t' : MM} {q k : Nat} : ∀ {W : Nat}, k < W → (∀ i, i ≠ k → gL t' 96 0 (60 * q + i) = gL t 96 0 (60 * q + i)) → LtS t' q W + mln (gL t 96 0 (60 * q + k)) = LtS t q W + mln (gL t' 96 0 (60 * q + k))
  | 0, h, _ => absurd h (Nat.not_lt_zero _)
  | W + 1, h, e => by
    rw [LtS, LtS]
    by_cases z : k = W
    · subst z
      rw [LtS.congr (fun i hi => e i (by omega))]
      omega
    · have := LtS.put (t := t) (t' := t') (q := q) (W := W) (k := k) (by omega) e
      rw [e W (by omega)]
      omega
abbrev Fg (q T C : Nat) (s s' : MM) : Prop := FrC (fun K i k => K = 28 ∧ i = q ∧ T ≤ k ∧ k < T + C) s s'
abbrev Gg (q T C l : Nat) (t t' : MM) : Prop := FrC (fun K i k => (K = 96 ∧ i = 0 ∧ 60 * q + T ≤ k ∧ k < 60 * q + (T + C)) ∨ (K = 93 ∧ i = 0 ∧ k = 6 * q + l)) t t'
theorem grows_eq (h : RR N mc mm) (hB : RBk mc mm b F n M Ln E) {p : Nat} (hp : p < 2 * (F * n)) {l T C : Nat} (hl : l < 6) (hC : T + C ≤ 60) {cr : Int} {Fr To W : Nat} (hTo : (To : Int) ≤ gN mm 80 0 b) (hW : T + C ≤ W) {l2 : Int} :
    ∀ (e k : Nat) (rho : Int) (s t : MM), T + C - k = e → T ≤ k → k ≤ T + C → 0 ≤ rho ∧ rho ≤ 1000 → Fsc (16 * b + p) d mc s → Fsm (16 * b + p) d mm t → gN s 4 (16 * b + p) 14 = cr → gN t 93 0 (6 * (16 * b + p) + l) = rho → (∀ i, T ≤ i → i < T + C → WdR mc s t b (16 * b + p) Fr To i) →
      ∃ (rho' : Int) (s' t' : MM), lpb (fun z : Int × Int × MM => b_X4_fillOut_88 (16 * b + p) b l2 ((T + C : Nat) : Int) z.1 z.2.1 z.2.2) (rho, (k : Int), s) = some (rho', s') ∧
        lpb (fun z : Int × MM => b_X12_fillsOut_90 0 ((6 * (16 * b + p) + l : Nat) : Int) cr ((60 * (16 * b + p) + (T + C) : Nat) : Int) z.1 z.2) (((60 * (16 * b + p) + k : Nat) : Int), t) = some t' ∧
        (0 ≤ rho' ∧ rho' ≤ rho) ∧ Fg (16 * b + p) T C s s' ∧ Gg (16 * b + p) T C l t t' ∧ gN t' 93 0 (6 * (16 * b + p) + l) = rho' ∧ (∀ i, T ≤ i → i < T + C → WdR mc s' t' b (16 * b + p) Fr To i) ∧
        ((LtS t' (16 * b + p) W : Nat) : Int) + rho' = ((LtS t (16 * b + p) W : Nat) : Int) + rho := by
  have hP := hB.hP
  have q0 := hP.hb
  have q1 := hP.hn
  intro e
  induction e with
  | zero =>
    intro k rho s t he hk1 hk2 hrho hFs hFt hcr h93 hw
    refine ⟨rho, s, t, ?_, ?_, by omega, FrC.rf, FrC.rf, h93, hw, rfl⟩
    · rw [lpb_eq]
      simp only
      unfold b_X4_fillOut_88
      rw [if_pos (by omega), Option.bind_some, Sum.elim_inr]
    · rw [lpb_eq]
      simp only
      unfold b_X12_fillsOut_90
      rw [if_pos (by omega), Option.bind_some, Sum.elim_inr]
  | succ e ih =>
    intro k rho s t he hk1 hk2 hrho hFs hFt hcr h93 hw
    have hM := hFt.Md h.M
    have hS := hFs.S hB
    by_cases hc : cr = 0
    case neg =>
      refine ⟨rho, s, t, ?_, ?_, by omega, FrC.rf, FrC.rf, h93, hw, rfl⟩
      · rw [lpb_eq]
        simp only
        unfold b_X4_fillOut_88
        rw [if_neg (by omega), if_pos (by rw [hcr]; exact hc), Option.bind_some, Sum.elim_inr]
      · rw [lpb_eq]
        simp only
        unfold b_X12_fillsOut_90
        rw [if_neg (by omega), if_pos hc, Option.bind_some, Sum.elim_inr]
    case pos =>
      have ek : (k : Int) + 1 = ((k + 1 : Nat) : Int) := by omega
      have ek2 : ((60 * (16 * b + p) + k : Nat) : Int) + 1 = ((60 * (16 * b + p) + (k + 1) : Nat) : Int) := by omega
      -- both go on without a change
      have skip : b_X4_fillOut_88 (16 * b + p) b l2 ((T + C : Nat) : Int) rho (k : Int) s = some (.inl (rho, ((k + 1 : Nat) : Int), s)) →
          b_X12_fillsOut_90 0 ((6 * (16 * b + p) + l : Nat) : Int) cr ((60 * (16 * b + p) + (T + C) : Nat) : Int) ((60 * (16 * b + p) + k : Nat) : Int) t = some (.inl (((60 * (16 * b + p) + (k + 1) : Nat) : Int), t)) → (∃ (rho' : Int) (s' t' : MM), lpb (fun z : Int × Int × MM => b_X4_fillOut_88 (16 * b + p) b l2 ((T + C : Nat) : Int) z.1 z.2.1 z.2.2) (rho, (k : Int), s) = some (rho', s') ∧ lpb (fun z : Int × MM => b_X12_fillsOut_90 0 ((6 * (16 * b + p) + l : Nat) : Int) cr ((60 * (16 * b + p) + (T + C) : Nat) : Int) z.1 z.2) (((60 * (16 * b + p) + k : Nat) : Int), t) = some t' ∧ (0 ≤ rho' ∧ rho' ≤ rho) ∧ Fg (16 * b + p) T C s s' ∧ Gg (16 * b + p) T C l t t' ∧ gN t' 93 0 (6 * (16 * b + p) + l) = rho' ∧ (∀ i, T ≤ i → i < T + C → WdR mc s' t' b (16 * b + p) Fr To i) ∧ ((LtS t' (16 * b + p) W : Nat) : Int) + rho' = ((LtS t (16 * b + p) W : Nat) : Int) + rho) := fun a1 a2 => by
        obtain ⟨rho', s', t', e1, e2, e3⟩ := ih (k + 1) rho s t (by omega) (by omega) (by omega) hrho hFs hFt hcr h93 hw
        refine ⟨rho', s', t', ?_, ?_, e3⟩
        · rw [lpb_eq]
          simp only
          rw [a1, Option.bind_some, Sum.elim_inl]
          exact e1
        · rw [lpb_eq]
          simp only
          rw [a2, Option.bind_some, Sum.elim_inl]
          exact e2
      obtain ⟨wd, v, w1, w2, w3, w4⟩ := grow_eq h hB hFs hFt hTo (hw k hk1 (by omega))
      rcases w4 with ⟨z1, z2⟩ | ⟨x, g, z1, z2, z3, z4, z5, z6, z7, z8, z9, za, zb, zc, zd⟩
      · refine skip ?_ ?_
        · unfold b_X4_fillOut_88
          rw [if_neg (by omega), if_neg (by rw [hcr, hc]; decide), nk_of (hS.p1 p hp), ldN_of (hS.z27 p hp) (by omega), tnc, w1, z2, Option.bind_some, if_pos (Int.le_refl _), ck_of ⟨by omega, by omega⟩, ek]
        · unfold b_X12_fillsOut_90
          rw [if_neg (by omega), if_neg (by rw [hc]; decide), nk_of hM.r43, ldL_of hM.z96 (by omega), tnc, w3, Option.bind_some, if_pos z1, ck_of ⟨by omega, by omega⟩, ek2]
      · have c2 : b_X4_fillOut_88 (16 * b + p) b l2 ((T + C : Nat) : Int) rho (k : Int) s = if ¬ gN s 28 (16 * b + p) k = 0 then some (.inl (rho, ((k + 1 : Nat) : Int), s)) else if rho < (g : Int) then some (.inl (rho, ((k + 1 : Nat) : Int), s)) else some (.inl ((rho - (g : Int)), ((k + 1 : Nat) : Int), sN s 28 (16 * b + p) k 1)) := by
          unfold b_X4_fillOut_88
          rw [if_neg (by omega), if_neg (by rw [hcr, hc]; decide), nk_of (hS.p1 p hp), ldN_of (hS.z27 p hp) (by omega), tnc, w1, z3, Option.bind_some, if_neg (by omega), nk_of (hS.p2 p hp), ldN_of (hS.z28 p hp) (by omega), tnc, ck_of ⟨by omega, by omega⟩, ek]
          by_cases y : gN s 28 (16 * b + p) k = 0
          · by_cases y2 : rho < (g : Int)
            · rw [if_neg (fun w => w y), if_pos y2, if_neg (fun w => w y), if_pos y2]
            · rw [if_neg (fun w => w y), if_neg y2, if_neg (fun w => w y), if_neg y2, nk_of (hS.p2 p hp), stN_of (hS.z28 p hp) (by omega), tnc, ck_of ⟨by omega, by omega⟩, ck_of ⟨by omega, by omega⟩]
          · rw [if_pos y, if_pos y]
        have d2 : b_X12_fillsOut_90 0 ((6 * (16 * b + p) + l : Nat) : Int) cr ((60 * (16 * b + p) + (T + C) : Nat) : Int) ((60 * (16 * b + p) + k : Nat) : Int) t = if ¬ gN s 28 (16 * b + p) k = 0 then some (.inl (((60 * (16 * b + p) + (k + 1) : Nat) : Int), t)) else if rho < (g : Int) then some (.inl (((60 * (16 * b + p) + (k + 1) : Nat) : Int), t)) else some (.inl (((60 * (16 * b + p) + (k + 1) : Nat) : Int), sN (sL t 96 0 (60 * (16 * b + p) + k) (gL t 61 0 x)) 93 0 (6 * (16 * b + p) + l) (rho - (g : Int)))) := by
          have eg : ((mln (gL t 61 0 x) : Nat) : Int) - ((mln (gL t 60 0 x) : Nat) : Int) = (g : Int) := by omega
          have hN : SM (sL t 96 0 (60 * (16 * b + p) + k) (gL t 61 0 x)) := hM.mv (fun _ => rfl) (fun _ _ _ z => z)
          have hN93 : gN (sL t 96 0 (60 * (16 * b + p) + k) (gL t 61 0 x)) 93 0 (6 * (16 * b + p) + l) = rho := h93
          unfold b_X12_fillsOut_90
          rw [if_neg (by omega), if_neg (by rw [hc]; decide), nk_of hM.r43, ldL_of hM.z96 (by omega), tnc, w3, Option.bind_some, z1, if_neg (by omega), nk_of hM.r43, ldL_of hM.z96 (by omega), tnc, nk_of hM.r4, ldL_of hM.z60 (by omega), tnc, ck_of ⟨by omega, by omega⟩, ek2]
          by_cases y : gN s 28 (16 * b + p) k = 0
          · rw [if_neg (fun w => w (zb.mp y)), if_neg (fun w => w y), nk_of hM.r5, ldL_of hM.z61 (by omega), tnc, z7, Option.bind_some, nk_of hM.r4, ldL_of hM.z60 (by omega), tnc, z8, Option.bind_some, eg, ck_of ⟨by omega, by omega⟩, nk_of hM.r40, ldN_of hM.z93 (by omega), tnc, h93]
            by_cases y2 : rho < (g : Int)
            · rw [if_pos y2, if_pos y2]
            · rw [if_neg y2, if_neg y2, nk_of hM.r43, nk_of hM.r5, ldL_of hM.z61 (by omega), tnc, stL_of hM.z96 (by omega), tnc, nk_of hN.r40, ldN_of hN.z93 (by omega), tnc, hN93, ck_of ⟨by omega, by omega⟩, stN_of hN.z93 (by omega), tnc, ck_of ⟨by omega, by omega⟩]
          · rw [if_pos (fun w => y (zb.mpr w)), if_pos y]
        by_cases y1 : gN s 28 (16 * b + p) k = 0
        case neg => exact skip (by rw [c2, if_pos y1]) (by rw [d2, if_pos y1])
        case pos =>
          by_cases y2 : rho < (g : Int)
          · exact skip (by rw [c2, if_neg (fun w => w y1), if_pos y2]) (by rw [d2, if_neg (fun w => w y1), if_pos y2])
          · rw [if_neg (fun w => w y1), if_neg y2] at c2 d2
            have hl60 : mln (gL t 60 0 x) = mln (gL t 96 0 (60 * (16 * b + p) + k)) := by rw [lcm_zero.mp (zb.mp y1)]
            generalize hs1 : sN s 28 (16 * b + p) k 1 = s1 at c2
            generalize ht1 : sN (sL t 96 0 (60 * (16 * b + p) + k) (gL t 61 0 x)) 93 0 (6 * (16 * b + p) + l) (rho - (g : Int)) = t1 at d2
            have hFs1 : Fg (16 * b + p) T C s s1 := by rw [← hs1]; exact FrC.rf.sN ⟨rfl, rfl, hk1, by omega⟩
            have hFt1 : Gg (16 * b + p) T C l t t1 := by rw [← ht1]; exact (FrC.rf.sL (Or.inl ⟨rfl, rfl, by omega, by omega⟩)).sN (Or.inr ⟨rfl, rfl, rfl⟩)
            have v96 : ∀ i, gL t1 96 0 (60 * (16 * b + p) + i) = if i = k then gL t 61 0 x else gL t 96 0 (60 * (16 * b + p) + i) := fun i => by
              rw [← ht1, gL_sN, gL_sL]
              by_cases z : i = k
              · rw [if_pos z, if_pos ⟨rfl, rfl, by omega⟩]
              · rw [if_neg z, if_neg (by omega)]
            have v93 : gN t1 93 0 (6 * (16 * b + p) + l) = rho - (g : Int) := by rw [← ht1, gN_sN, if_pos ⟨rfl, rfl, rfl⟩]
            have v95 : ∀ i, gN t1 95 0 i = gN t 95 0 i := fun i => (hFt1.1 95 0 i (by omega)).1
            have v27 : ∀ i, gN s1 27 (16 * b + p) i = gN s 27 (16 * b + p) i := fun i => (hFs1.1 27 _ i (by omega)).1
            have v28 : ∀ i, gN s1 28 (16 * b + p) i = if i = k then 1 else gN s 28 (16 * b + p) i := fun i => by
              rw [← hs1, gN_sN]
              by_cases z : i = k
              · rw [if_pos z, if_pos ⟨rfl, rfl, z⟩]
              · rw [if_neg z, if_neg (fun w => z w.2.2)]
            have v14 : gN s1 4 (16 * b + p) 14 = cr := by rw [(hFs1.1 4 _ 14 (by omega)).1, hcr]
            have hw1 : ∀ i, T ≤ i → i < T + C → WdR mc s1 t1 b (16 * b + p) Fr To i := fun i h1 h2 => by
              by_cases z : i = k
              · subst z
                obtain ⟨wd', u1, u2, u3, u4, u5⟩ := hw i h1 h2
                have : wd' = wd := by omega
                subst this
                refine ⟨wd', by rw [v27]; exact u1, by rw [v95]; exact u2, u3, Or.inr ⟨by rw [v28, if_pos rfl], zc⟩, ?_⟩
                rw [v28, if_pos rfl, if_neg (by decide), v96, if_pos rfl]
                exact zd
              · exact (hw i h1 h2).congr (v27 i) (by rw [v28, if_neg z]) (v95 _) (by rw [v96, if_neg z])
            obtain ⟨rho', s', t', e1, e2, e3, e4, e5, e6, e7, e8⟩ := ih (k + 1) (rho - (g : Int)) s1 t1 (by omega) (by omega) (by omega) (by omega) (hFs.tr (hFs1.sub (fun K i k z => by unfold ScW; omega))) (hFt.tr (hFt1.sub (fun K i k z => by unfold SmW; omega))) v14 v93 hw1
            have hput := LtS.put (t := t) (t' := t1) (q := 16 * b + p) (k := k) (W := W) (by omega) (fun i hi => by rw [v96, if_neg hi])
            rw [v96, if_pos rfl] at hput
            refine ⟨rho', s', t', ?_, ?_, by omega, hFs1.tr e4, hFt1.tr e5, e6, e7, by omega⟩
            · rw [lpb_eq]
              simp only
              rw [c2, Option.bind_some, Sum.elim_inl]
              exact e1
            · rw [lpb_eq]
              simp only
              rw [d2, Option.bind_some, Sum.elim_inl]
              exact e2
end SET
