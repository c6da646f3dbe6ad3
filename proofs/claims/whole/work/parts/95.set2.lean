/-! SET: one word of a line. -/
section SET
variable {N : Nat} {mc mm : MM} {b F n M Ln E q d : Nat}
def nxW (q d K i k : Nat) : Prop := (K = 4 ∧ i = q ∧ k = 12) ∨ (K = 3 ∧ i = d ∧ k = 3)
/-- which word comes next: the eye may skip -/
theorem next_eq (h : RR N mc mm) (hB : RBk mc mm b F n M Ln E) {s t : MM} (hFs : Fsc q d mc s) (hFt : Fsm q d mm t) (hd : (d : Int) < gN mm 12 0 12) {j To : Nat} (hj : j < To) (hTo : (To : Int) ≤ gN mm 80 0 b) (hn : gN s 4 q 12 = j) (hch : gN s 3 d 3 = gN t 70 0 d ∧ 0 ≤ gN t 70 0 d ∧ gN t 70 0 d ≤ 100000000) {l2 l5 l6 l8 l9 : Int} (hl5 : l5 = (To : Int)) :
    ∃ (j' : Nat) (s' t' : MM), (j < j' ∧ j' ≤ To) ∧ f_X4_goOnBehind s q b d (To : Int) = some (.inl none, s') ∧ gN s' 4 q 12 = j' ∧ FrC (nxW q d) s s' ∧
      ((f_X12_sameBehind t 0 (b : Int) (j : Int) l5).bind fun v44 => if v44 = (-1) then (j_X12_laysLines_88_330 t 0 (b : Int) l2 (d : Int) l5 l6 (j : Int) l8 l9 ((j : Int) + 1)) else
        nk 70 (gR t 12 0 16) fun i45 => ldN t 70 i45 (d : Int) fun v46 => ck (v46 + 1) <| stN t 70 i45 (d : Int) (v46 + 1) fun m47 => nk 69 (gR m47 12 0 15) fun i48 => ldN m47 69 i48 (d : Int) fun v49 => if v49 ≤ 0 then (j_X12_laysLines_88_326 m47 0 (b : Int) l2 (d : Int) l5 l6 (j : Int) l8 l9 ((j : Int) + 1)) else
        nk 70 (gR m47 12 0 16) fun i50 => ldN m47 70 i50 (d : Int) fun v51 => nk 69 (gR m47 12 0 15) fun i52 => ldN m47 69 i52 (d : Int) fun v53 => dv v51 v53 <| if ¬ (v51 % v53) = 0 then (j_X12_laysLines_88_326 m47 0 (b : Int) l2 (d : Int) l5 l6 (j : Int) l8 l9 ((j : Int) + 1)) else
        ck (v44 + 1) <| j_X12_laysLines_88_328 m47 0 (b : Int) l2 (d : Int) l5 l6 (j : Int) l8 l9 (v44 + 1)) = j_X12_laysLines_88_330 t' 0 (b : Int) l2 (d : Int) l5 l6 (j : Int) l8 l9 (j' : Int) ∧ FrC (fun K i k => K = 70 ∧ i = 0 ∧ k = d) t t' ∧ gN s' 3 d 3 = gN t' 70 0 d ∧ gN t 70 0 d ≤ gN t' 70 0 d ∧ gN t' 70 0 d ≤ gN t 70 0 d + 1 := by
  subst hl5
  have hcnt := hB.tx.cnt
  have hH := h.H.1
  have hhd := h.H.2.2.2.2.1 d hd
  have hMt := hFt.Md h.M
  obtain ⟨v, e1, e2, e3⟩ := soon_eq h hB hFs hFt hj hTo
  have ep : (j : Int) + 1 = ((j + 1 : Nat) : Int) := by omega
  rw [e2, Option.bind_some]
  unfold f_X4_goOnBehind
  rw [hn, e1, Option.bind_some]
  -- the word behind, as it stands
  have plain : ∀ s1 : MM, gN s1 4 q 12 = j → j_X4_goOnBehind_0_28 s1 q v = some (.inl none, sN s1 4 q 12 ((j + 1 : Nat) : Int)) := fun s1 h1 => by
    unfold j_X4_goOnBehind_0_28 j_X4_goOnBehind_0_29 j_X4_goOnBehind_0_50
    rw [if_pos rfl, h1, ck_of ⟨by omega, by omega⟩, lt_eq, ep]
  rcases e3 with hv | ⟨i, hv, hi1, hi2⟩
  · rw [if_pos hv, if_pos hv, plain s hn]
    refine ⟨j + 1, _, t, by omega, rfl, by rw [gN_sN, if_pos ⟨rfl, rfl, rfl⟩], FrC.rf.sN (Or.inl ⟨rfl, rfl, rfl⟩), by rw [ep], FrC.rf, by rw [gN_sN, if_neg (by omega)]; exact hch.1, Int.le_refl _, by omega⟩
  · have hv1 : v ≠ -1 := by omega
    have s32 : gN s 3 d 2 = gN mm 69 0 d := by rw [(hFs.1 3 d 2 (by unfold ScW; omega)).1]; exact hhd.2.2.1
    have t69 : gN t 69 0 d = gN mm 69 0 d := (hFt.1 69 0 d (by unfold SmW; omega)).1
    have hM47 : SM (sN t 70 0 d (gN t 70 0 d + 1)) := hMt.mv (fun _ => rfl) (fun _ _ _ q => q)
    have u69 : gN (sN t 70 0 d (gN t 70 0 d + 1)) 69 0 d = gN mm 69 0 d := by rw [gN_sN, if_neg (by omega), t69]
    have u70 : gN (sN t 70 0 d (gN t 70 0 d + 1)) 70 0 d = gN t 70 0 d + 1 := by rw [gN_sN, if_pos ⟨rfl, rfl, rfl⟩]
    have w32 : gN (sN s 3 d 3 (gN t 70 0 d + 1)) 3 d 2 = gN mm 69 0 d := by rw [gN_sN, if_neg (by omega), s32]
    have w33 : gN (sN s 3 d 3 (gN t 70 0 d + 1)) 3 d 3 = gN t 70 0 d + 1 := by rw [gN_sN, if_pos ⟨rfl, rfl, rfl⟩]
    have w12 : gN (sN s 3 d 3 (gN t 70 0 d + 1)) 4 q 12 = j := by rw [gN_sN, if_neg (by omega), hn]
    have esk : f_X3_skipsNow s d = some (.inl (some (aI (if 0 < gN mm 69 0 d ∧ (gN t 70 0 d + 1) % gN mm 69 0 d = 0 then 1 else 0))), sN s 3 d 3 (gN t 70 0 d + 1)) := by
      unfold f_X3_skipsNow
      rw [hch.1, ck_of ⟨by omega, by omega⟩, lt_eq, w32, w33]
      by_cases q1 : gN mm 69 0 d ≤ 0
      · rw [if_pos q1, if_neg (fun z => by have := z.1; omega)]
      · rw [if_neg q1, dv_of ⟨by omega, by omega⟩]
        by_cases q2 : (gN t 70 0 d + 1) % gN mm 69 0 d = 0
        · rw [if_neg (fun z => z q2), if_pos ⟨by omega, q2⟩]
        · rw [if_pos q2, if_neg (fun z => q2 z.2)]
    rw [if_neg hv1, if_neg hv1, esk, bI_ok, nk_of hMt.r16, ldN_of hMt.z70 (by omega), tnc, ck_of ⟨by omega, by omega⟩, stN_of hMt.z70 (by omega), tnc, nk_of hM47.r15, ldN_of hM47.z69 (by omega), tnc, u69]
    have F70 : FrC (fun K i k => K = 70 ∧ i = 0 ∧ k = d) t (sN t 70 0 d (gN t 70 0 d + 1)) := FrC.rf.sN ⟨rfl, rfl, rfl⟩
    have FS : ∀ x : Int, FrC (nxW q d) s (sN (sN s 3 d 3 (gN t 70 0 d + 1)) 4 q 12 x) := fun x => (FrC.rf.sN (Or.inr ⟨rfl, rfl, rfl⟩)).sN (Or.inl ⟨rfl, rfl, rfl⟩)
    have r12 : ∀ x : Int, gN (sN (sN s 3 d 3 (gN t 70 0 d + 1)) 4 q 12 x) 4 q 12 = x := fun x => by rw [gN_sN, if_pos ⟨rfl, rfl, rfl⟩]
    have r33 : ∀ x : Int, gN (sN (sN s 3 d 3 (gN t 70 0 d + 1)) 4 q 12 x) 3 d 3 = gN (sN t 70 0 d (gN t 70 0 d + 1)) 70 0 d := fun x => by rw [gN_sN, if_neg (by omega), w33, u70]
    by_cases q1 : gN mm 69 0 d ≤ 0
    · rw [show (if 0 < gN mm 69 0 d ∧ (gN t 70 0 d + 1) % gN mm 69 0 d = 0 then (1 : Int) else 0) = 0 from if_neg (fun z => by have := z.1; omega), if_pos rfl, plain _ w12, if_pos q1]
      unfold j_X12_laysLines_88_326 j_X12_laysLines_88_328
      exact ⟨j + 1, _, _, by omega, rfl, r12 _, FS _, by rw [ep], F70, r33 _, by rw [u70]; omega, by rw [u70]; omega⟩
    · rw [if_neg q1, nk_of hM47.r16, ldN_of hM47.z70 (by omega), tnc, u70, nk_of hM47.r15, ldN_of hM47.z69 (by omega), tnc, u69, dv_of ⟨by omega, by omega⟩]
      by_cases q2 : (gN t 70 0 d + 1) % gN mm 69 0 d = 0
      · rw [show (if 0 < gN mm 69 0 d ∧ (gN t 70 0 d + 1) % gN mm 69 0 d = 0 then (1 : Int) else 0) = 1 from if_pos ⟨by omega, q2⟩, if_neg (show ¬ (1 : Int) = 0 by decide), if_neg (show ¬ ¬ (gN t 70 0 d + 1) % gN mm 69 0 d = 0 from fun z => z q2), ck_of ⟨by omega, by omega⟩]
        unfold j_X4_goOnBehind_0_29 j_X4_goOnBehind_0_50 j_X12_laysLines_88_328
        rw [if_neg (show ¬ (1 : Int) = 0 by decide), ck_of ⟨by omega, by omega⟩, lt_eq, hv, show (i : Int) + 1 = ((i + 1 : Nat) : Int) by omega]
        exact ⟨i + 1, _, _, by omega, rfl, r12 _, FS _, rfl, F70, r33 _, by rw [u70]; omega, by rw [u70]; omega⟩
      · rw [show (if 0 < gN mm 69 0 d ∧ (gN t 70 0 d + 1) % gN mm 69 0 d = 0 then (1 : Int) else 0) = 0 from if_neg (fun z => q2 z.2), if_pos rfl, plain _ w12, if_pos (show ¬ (gN t 70 0 d + 1) % gN mm 69 0 d = 0 from q2)]
        unfold j_X12_laysLines_88_326 j_X12_laysLines_88_328
        exact ⟨j + 1, _, _, by omega, rfl, r12 _, FS _, by rw [ep], F70, r33 _, by rw [u70]; omega, by rw [u70]; omega⟩
/-- letters of the first words of a page -/
noncomputable def LtS (t : MM) (q : Nat) : Nat → Nat
  | 0 => 0
  | k + 1 => LtS t q k + mln (gL t 96 0 (60 * q + k))
theorem LtS.congr {t t' : MM} {q : Nat} : ∀ {W : Nat}, (∀ k, k < W → gL t' 96 0 (60 * q + k) = gL t 96 0 (60 * q + k)) → LtS t' q W = LtS t q W
  | 0, _ => rfl
  | W + 1, h => by rw [LtS, LtS, LtS.congr (fun k hk => h k (by omega)), h W (by omega)]
/-- a word on a page -/
def WdR (mc s t : MM) (b q Fr To k : Nat) : Prop := ∃ wd : Nat, gN s 27 q k = wd ∧ gN t 95 0 (60 * q + k) = wd ∧ (Fr ≤ wd ∧ wd < To) ∧ (gN s 28 q k = 0 ∨ (gN s 28 q k = 1 ∧ gN mc 48 b wd ≠ -1)) ∧ WW (if gN s 28 q k = 0 then gL mc 46 b wd else gL mc 47 b wd) (gL t 96 0 (60 * q + k))
theorem WdR.congr {s t s' t' : MM} {Fr To k : Nat} (h : WdR mc s t b q Fr To k) (h1 : gN s' 27 q k = gN s 27 q k) (h2 : gN s' 28 q k = gN s 28 q k) (h3 : gN t' 95 0 (60 * q + k) = gN t 95 0 (60 * q + k)) (h4 : gL t' 96 0 (60 * q + k) = gL t 96 0 (60 * q + k)) : WdR mc s' t' b q Fr To k := by
  unfold WdR at h ⊢
  rw [h1, h2, h3, h4]
  exact h
/-- a line under way; what it writes -/
def WlC (q d L T K i k : Nat) : Prop := (K = 4 ∧ i = q ∧ (k = 10 ∨ k = 12)) ∨ (27 ≤ K ∧ K ≤ 29 ∧ i = q ∧ T ≤ k) ∨ (K = 33 ∧ i = q ∧ k = L) ∨ (K = 3 ∧ i = d ∧ k = 3)
def WlM (q d L T K i k : Nat) : Prop := (K = 89 ∧ i = 0 ∧ k = q) ∨ ((K = 92 ∨ K = 94) ∧ i = 0 ∧ k = 6 * q + L) ∨ (95 ≤ K ∧ K ≤ 97 ∧ i = 0 ∧ 60 * q + T ≤ k ∧ k < 60 * q + 60) ∨ (K = 70 ∧ i = 0 ∧ k = d)
def LU (mc mm s1 t1 s t : MM) (b q d Fr To M A L T c j : Nat) (used f H0 : Int) : Prop := (FrC (WlC q d L T) s1 s) ∧
  (FrC (WlM q d L T) t1 t) ∧
  (gN s 4 q 10 = ((T + c : Nat) : Int)) ∧
  (gN t 89 0 q = ((T + c : Nat) : Int)) ∧
  (gN s 4 q 12 = j) ∧
  (gN s 33 q L = f) ∧
  (gN t 92 0 (6 * q + L) = c) ∧
  (gN t 94 0 (6 * q + L) = f) ∧
  (∀ k, k < T + c → WdR mc s t b q Fr To k) ∧
  (∀ k, T ≤ k → k < T + c → gN s 29 q k = 1) ∧
  (∀ k, T ≤ k → k < T + c → gN t 97 0 (60 * q + k) = if k = T then 0 else 1) ∧
  (((LtS t q (T + c) : Nat) : Int) ≤ A + used) ∧
  (0 ≤ used ∧ used ≤ M) ∧
  (c = 0 → used = 0) ∧
  (Fr + (T + c) ≤ j) ∧
  (j ≤ To) ∧
  (gN s 3 d 3 = gN t 70 0 d ∧ 0 ≤ gN t 70 0 d ∧ gN t 70 0 d ≤ H0 + ((T + c : Nat) : Int))
theorem LU.fs {mc mm s1 t1 s t : MM} {b q d Fr To M A L T c j : Nat} {used f H0 : Int} (h : LU mc mm s1 t1 s t b q d Fr To M A L T c j used f H0) : FrC (WlC q d L T) s1 s := h.1
theorem LU.ft {mc mm s1 t1 s t : MM} {b q d Fr To M A L T c j : Nat} {used f H0 : Int} (h : LU mc mm s1 t1 s t b q d Fr To M A L T c j used f H0) : FrC (WlM q d L T) t1 t := h.2.1
theorem LU.w1 {mc mm s1 t1 s t : MM} {b q d Fr To M A L T c j : Nat} {used f H0 : Int} (h : LU mc mm s1 t1 s t b q d Fr To M A L T c j used f H0) : gN s 4 q 10 = ((T + c : Nat) : Int) := h.2.2.1
theorem LU.w2 {mc mm s1 t1 s t : MM} {b q d Fr To M A L T c j : Nat} {used f H0 : Int} (h : LU mc mm s1 t1 s t b q d Fr To M A L T c j used f H0) : gN t 89 0 q = ((T + c : Nat) : Int) := h.2.2.2.1
theorem LU.nx {mc mm s1 t1 s t : MM} {b q d Fr To M A L T c j : Nat} {used f H0 : Int} (h : LU mc mm s1 t1 s t b q d Fr To M A L T c j used f H0) : gN s 4 q 12 = j := h.2.2.2.2.1
theorem LU.x33 {mc mm s1 t1 s t : MM} {b q d Fr To M A L T c j : Nat} {used f H0 : Int} (h : LU mc mm s1 t1 s t b q d Fr To M A L T c j used f H0) : gN s 33 q L = f := h.2.2.2.2.2.1
theorem LU.y92 {mc mm s1 t1 s t : MM} {b q d Fr To M A L T c j : Nat} {used f H0 : Int} (h : LU mc mm s1 t1 s t b q d Fr To M A L T c j used f H0) : gN t 92 0 (6 * q + L) = c := h.2.2.2.2.2.2.1
theorem LU.y94 {mc mm s1 t1 s t : MM} {b q d Fr To M A L T c j : Nat} {used f H0 : Int} (h : LU mc mm s1 t1 s t b q d Fr To M A L T c j used f H0) : gN t 94 0 (6 * q + L) = f := h.2.2.2.2.2.2.2.1
theorem LU.wd {mc mm s1 t1 s t : MM} {b q d Fr To M A L T c j : Nat} {used f H0 : Int} (h : LU mc mm s1 t1 s t b q d Fr To M A L T c j used f H0) : ∀ k, k < T + c → WdR mc s t b q Fr To k := h.2.2.2.2.2.2.2.2.1
theorem LU.bl {mc mm s1 t1 s t : MM} {b q d Fr To M A L T c j : Nat} {used f H0 : Int} (h : LU mc mm s1 t1 s t b q d Fr To M A L T c j used f H0) : ∀ k, T ≤ k → k < T + c → gN s 29 q k = 1 := h.2.2.2.2.2.2.2.2.2.1
theorem LU.ga {mc mm s1 t1 s t : MM} {b q d Fr To M A L T c j : Nat} {used f H0 : Int} (h : LU mc mm s1 t1 s t b q d Fr To M A L T c j used f H0) : ∀ k, T ≤ k → k < T + c → gN t 97 0 (60 * q + k) = if k = T then 0 else 1 := h.2.2.2.2.2.2.2.2.2.2.1
theorem LU.us {mc mm s1 t1 s t : MM} {b q d Fr To M A L T c j : Nat} {used f H0 : Int} (h : LU mc mm s1 t1 s t b q d Fr To M A L T c j used f H0) : ((LtS t q (T + c) : Nat) : Int) ≤ A + used := h.2.2.2.2.2.2.2.2.2.2.2.1
theorem LU.ub {mc mm s1 t1 s t : MM} {b q d Fr To M A L T c j : Nat} {used f H0 : Int} (h : LU mc mm s1 t1 s t b q d Fr To M A L T c j used f H0) : 0 ≤ used ∧ used ≤ M := h.2.2.2.2.2.2.2.2.2.2.2.2.1
theorem LU.u0 {mc mm s1 t1 s t : MM} {b q d Fr To M A L T c j : Nat} {used f H0 : Int} (h : LU mc mm s1 t1 s t b q d Fr To M A L T c j used f H0) : c = 0 → used = 0 := h.2.2.2.2.2.2.2.2.2.2.2.2.2.1
theorem LU.jw {mc mm s1 t1 s t : MM} {b q d Fr To M A L T c j : Nat} {used f H0 : Int} (h : LU mc mm s1 t1 s t b q d Fr To M A L T c j used f H0) : Fr + (T + c) ≤ j := h.2.2.2.2.2.2.2.2.2.2.2.2.2.2.1
theorem LU.jt {mc mm s1 t1 s t : MM} {b q d Fr To M A L T c j : Nat} {used f H0 : Int} (h : LU mc mm s1 t1 s t b q d Fr To M A L T c j used f H0) : j ≤ To := h.2.2.2.2.2.2.2.2.2.2.2.2.2.2.2.1
theorem LU.hd {mc mm s1 t1 s t : MM} {b q d Fr To M A L T c j : Nat} {used f H0 : Int} (h : LU mc mm s1 t1 s t b q d Fr To M A L T c j used f H0) : gN s 3 d 3 = gN t 70 0 d ∧ 0 ≤ gN t 70 0 d ∧ gN t 70 0 d ≤ H0 + ((T + c : Nat) : Int) := h.2.2.2.2.2.2.2.2.2.2.2.2.2.2.2.2
end SET
