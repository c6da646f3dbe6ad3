/-! SET: the words of a page are set. -/
section SET
variable {F n M Ln E : Nat}
theorem PL.rb {s2 t2 s t : MM} {q d K la : Nat} {h0 : Int} (h : PL s2 t2 s t q d K la h0) : PL s t s t q d K la h0 := ⟨FrC.rf, FrC.rf, h.n1, h.n2, h.rc, h.pc, h.pl, h.g, h.la, h.hd⟩
theorem PL.w98 {s t : MM} {q d K la k : Nat} {h0 v w : Int} (h : PL s t s t q d K la h0) (hK : K ≤ 150) : PL (sN s 30 q k v) (sN t 98 0 (60 * q + k) w) (sN s 30 q k v) (sN t 98 0 (60 * q + k) w) q d K la h0 := by
  have c : ∀ K' i k', K' ≠ 30 → gN (sN s 30 q k v) K' i k' = gN s K' i k' := fun K' i k' z => gN_k z
  have m : ∀ K' i k', K' ≠ 98 → gN (sN t 98 0 (60 * q + k) w) K' i k' = gN t K' i k' := fun K' i k' z => gN_k z
  have hn2 := h.n2
  refine ⟨FrC.rf, FrC.rf, by rw [c 5 q 4 (by decide), h.n1], by rw [m 90 0 q (by decide), h.n2], h.rc.keep (c 1 0 5 (by decide)) (m 12 0 6 (by decide)) (fun K' h1 h2 k => c K' 0 k (by omega)) (fun K' h1 h2 k => m K' 0 k (by omega)), h.pc.eqN (fun K' j z => m K' 0 j (by omega)) (m 12 0 6 (by decide)), h.pl.keep (by omega) (fun K' i k' hk => eq3.sN (by unfold CPl at hk; omega)) (fun K' i k' hk => eq3.sN (by unfold MPl at hk; omega)), fun k' hk => ?_, h.la, by rw [m 71 0 d (by decide)]; exact h.hd⟩
  rw [m 102 0 _ (by decide), c 38 _ k' (by decide)]
  exact h.g k' hk
def PwC1 (q K i k : Nat) : Prop := PwC q K i k ∨ (K = 30 ∧ i = q)
def PwM1 (q d K i k : Nat) : Prop := PwM q d K i k ∨ (K = 98 ∧ i = 0 ∧ 60 * q ≤ k ∧ k < 60 * q + 60)
theorem PwM1.Md {q d : Nat} {t2 t : MM} (h : SM t2) (hf : FrC (PwM1 q d) t2 t) : SM t := hf.SM h (fun s hs => by unfold PwM1 PwM at hs; omega)
theorem PwC1.C {q : Nat} {s2 s : MM} (h : SC s2) (hf : FrC (PwC1 q) s2 s) : SC s := h.mv2 (fun K i k hk => (hf.1 K i k (by unfold PwC1 PwC; omega)).2.2) (fun K i k hk => by rw [hf.2.1]; exact hk)
theorem PwC1.S {q b : Nat} {s2 s mm : MM} (h : BS s2 b F n M Ln E) (hP : BP mm b F n M Ln E) (hf : FrC (PwC1 q) s2 s) : BS s b F n M Ln E := hf.BS h hP (fun K i k hk z => by unfold CBS at hk; unfold PwC1 PwC at z; omega)
def QL (s2 t2 s t : MM) (q d k K la : Nat) (h0 : Int) : Prop := (FrC (PwC1 q) s2 s) ∧
  (FrC (PwM1 q d) t2 t) ∧
  (PL s t s t q d K la h0) ∧
  (K ≤ LtS t2 q k) ∧
  (∀ j, j < k → gN s 30 q j = gN t 98 0 (60 * q + j) ∧ 0 ≤ gN t 98 0 (60 * q + j) ∧ gN t 98 0 (60 * q + j) ≤ K)
theorem QL.fs {s2 t2 s t : MM} {q d k K la : Nat} {h0 : Int} (h : QL s2 t2 s t q d k K la h0) : FrC (PwC1 q) s2 s := h.1
theorem QL.ft {s2 t2 s t : MM} {q d k K la : Nat} {h0 : Int} (h : QL s2 t2 s t q d k K la h0) : FrC (PwM1 q d) t2 t := h.2.1
theorem QL.pl {s2 t2 s t : MM} {q d k K la : Nat} {h0 : Int} (h : QL s2 t2 s t q d k K la h0) : PL s t s t q d K la h0 := h.2.2.1
theorem QL.us {s2 t2 s t : MM} {q d k K la : Nat} {h0 : Int} (h : QL s2 t2 s t q d k K la h0) : K ≤ LtS t2 q k := h.2.2.2.1
theorem QL.f1 {s2 t2 s t : MM} {q d k K la : Nat} {h0 : Int} (h : QL s2 t2 s t q d k K la h0) : ∀ j, j < k → gN s 30 q j = gN t 98 0 (60 * q + j) ∧ 0 ≤ gN t 98 0 (60 * q + j) ∧ gN t 98 0 (60 * q + j) ≤ K := h.2.2.2.2
theorem setWords_eq {mc s2 t2 mm : MM} {b p d Fr To W : Nat} {h0 : Int} (hP : BP mm b F n M Ln E) (hC2 : SC s2) (hM2 : SM t2) (hS2 : BS s2 b F n M Ln E) (hp : p < 2 * (F * n)) (hd : d < 4) (hh0 : 0 ≤ h0 ∧ h0 ≤ 10000000) (hW : W ≤ 60) (hTo : To ≤ 60) (hw1 : gN s2 4 (16 * b + p) 10 = W) (hw2 : gN t2 89 0 (16 * b + p) = W) (hL : LtS t2 (16 * b + p) W ≤ M * Ln)
    (hwd : ∀ k, k < W → WdR mc s2 t2 b (16 * b + p) Fr To k) (h46 : ∀ K i, (K = 46 ∨ K = 47) → gL s2 K b i = gL mc K b i) :
    ∀ (e k K la : Nat) (s t : MM), W - k = e → k ≤ W → QL s2 t2 s t (16 * b + p) d k K la h0 →
      ∃ (s' t' : MM) (K' la' : Nat), lpb (fun z : Int × Int × MM => b_X4_fillPlaces_6 (16 * b + p) b 0 (100 + 100 * (b : Int) + (p : Int)) z.1 z.2.1 z.2.2) ((la : Int), (k : Int), s) = some ((la' : Int), s') ∧
        lpb (fun z : Int × Int × MM => b_X12_fillsPlaces_26 0 (b : Int) (p : Int) (d : Int) ((16 * b + p : Nat) : Int) z.1 z.2.1 z.2.2) ((la : Int), ((60 * (16 * b + p) + k : Nat) : Int), t) = some ((la' : Int), t') ∧ QL s2 t2 s' t' (16 * b + p) d W K' la' h0 := by
  have q3 := hP.ml
  have q1 := hP.hn
  have q0 := hP.hb
  have mono : ∀ j, j ≤ W → LtS t2 (16 * b + p) j ≤ LtS t2 (16 * b + p) W := by
    have : ∀ (u j : Nat), W - j = u → j ≤ W → LtS t2 (16 * b + p) j ≤ LtS t2 (16 * b + p) W := by
      intro u
      induction u with
      | zero => intro j h1 h2; rw [show j = W by omega]; exact Nat.le_refl _
      | succ u ih =>
        intro j h1 h2
        have := ih (j + 1) (by omega) (by omega)
        rw [LtS] at this
        omega
    exact fun j hj => this _ j rfl hj
  intro e
  induction e with
  | zero =>
    intro k K la s t he hk hQ
    obtain rfl : k = W := by omega
    have hM := PwM1.Md hM2 hQ.ft
    refine ⟨s, t, K, la, ?_, ?_, hQ⟩
    · rw [lpb_eq]
      simp only
      unfold b_X4_fillPlaces_6
      rw [(hQ.fs.1 4 (16 * b + p) 10 (by unfold PwC1 PwC; omega)).1, hw1, if_pos (Int.le_refl _), Option.bind_some, Sum.elim_inr]
    · rw [lpb_eq]
      simp only
      unfold b_X12_fillsPlaces_26
      rw [nk_of hM.r36, ldN_of hM.z89 (by omega), tnc, (hQ.ft.1 89 0 (16 * b + p) (by unfold PwM1 PwM; omega)).1, hw2, ck_of ⟨by omega, by omega⟩, if_pos (by omega), Option.bind_some, Sum.elim_inr]
  | succ e ih =>
    intro k K la s t he hk hQ
    have hM := PwM1.Md hM2 hQ.ft
    have hC := PwC1.C hC2 hQ.fs
    have hS := PwC1.S hS2 hP hQ.fs
    have hn1 := hQ.pl.n1
    have hn2 := hQ.pl.n2
    have hla := hQ.pl.la
    have hus := hQ.us
    have hm1 := mono k hk
    have hm2 := mono (k + 1) (by omega)
    rw [LtS] at hm2
    obtain ⟨wd, e1, e2, e3, e4, e5⟩ := hwd k (by omega)
    obtain ⟨lst, hok, l1, l2⟩ := e5
    have hlen : mln (gL t2 96 0 (60 * (16 * b + p) + k)) = lst.length := LW.mln ⟨lst, hok, l2, rfl⟩
    rw [hlen] at hm2
    have h8 := hok.1
    have pl1 := hQ.pl.w98 (k := k) (v := (K : Int)) (w := (K : Int)) (by omega)
    have hC3 : SC (sN s 30 (16 * b + p) k (K : Int)) := hC.mv2 (fun _ _ _ _ => rfl) (fun _ _ _ q => q)
    have hM3 : SM (sN t 98 0 (60 * (16 * b + p) + k) (K : Int)) := hM.mv (fun _ => rfl) (fun _ _ _ q => q)
    have hS3 : BS (sN s 30 (16 * b + p) k (K : Int)) b F n M Ln E := hS.keep hP (fun K i s hk => eq3.sN (by unfold CBS at hk; omega)) (fun _ _ _ q => q)
    have y96 : gL (sN t 98 0 (60 * (16 * b + p) + k) (K : Int)) 96 0 (60 * (16 * b + p) + k) = Int64.ofNat (mwN lst) := by
      show gL t 96 0 (60 * (16 * b + p) + k) = _
      rw [(hQ.ft.1 96 0 (60 * (16 * b + p) + k) (by unfold PwM1 PwM; omega)).2.1, l2]
    obtain ⟨s', t', K', la', w1, w2, w3, w4, w5, w6⟩ := word_eq (ix := 60 * (16 * b + p) + k) hP hC3 hM3 hS3 hp hd hh0 hok (by omega) y96 lst.length 0 K la 0 la (sN s 30 (16 * b + p) k (K : Int)) (sN t 98 0 (60 * (16 * b + p) + k) (K : Int)) (by omega) (by omega) pl1 (by omega) (by omega) (by omega)
    have y27 : gN (sN s 30 (16 * b + p) k (K : Int)) 27 (16 * b + p) k = wd := by rw [gN_k (by decide), (hQ.fs.1 27 (16 * b + p) k (by unfold PwC1 PwC; omega)).1, e1]
    have y28 : gN (sN s 30 (16 * b + p) k (K : Int)) 28 (16 * b + p) k = gN s2 28 (16 * b + p) k := by rw [gN_k (by decide), (hQ.fs.1 28 (16 * b + p) k (by unfold PwC1 PwC; omega)).1]
    have yL : ∀ K' i, (K' = 46 ∨ K' = 47) → gL (sN s 30 (16 * b + p) k (K : Int)) K' b i = gL mc K' b i := fun K' i z => by
      show gL s K' b i = _
      rw [(hQ.fs.1 K' b i (by unfold PwC1 PwC; omega)).2.1, h46 K' i z]
    have form : f_X9_form (sN s 30 (16 * b + p) k (K : Int)) b (wd : Int) (gN s2 28 (16 * b + p) k) = some (Int64.ofNat (cwN lst)) := by
      unfold f_X9_form
      rcases e4 with z | ⟨z, -⟩
      · rw [if_pos z] at l1
        rw [if_pos z, nk_of hS3.t1, ldL_of hS3.z46 (by omega), tnc, yL 46 wd (Or.inl rfl), l1]
      · rw [if_neg (by omega)] at l1
        rw [if_neg (by omega), nk_of hS3.t2, ldL_of hS3.z47 (by omega), tnc, yL 47 wd (Or.inr rfl), l1]
    have w1' : lpb (fun z : Int × Int × MM => b_X4_fillWord_12 (16 * b + p) (Int64.ofNat (cwN lst)) 0 (100 + 100 * (b : Int) + (p : Int)) (lst.length : Int) z.1 z.2.1 z.2.2) (0, 0, sN s 30 (16 * b + p) k (K : Int)) = some (0 + ((la' : Int) - la), s') := w1
    have w2' : lpb (fun z : Int × Int × MM => b_X12_fillsPlaces_73 0 (b : Int) (p : Int) (d : Int) ((16 * b + p : Nat) : Int) ((60 * (16 * b + p) + k : Nat) : Int) (lst.length : Int) z.1 z.2.1 z.2.2) ((la : Int), 0, sN t 98 0 (60 * (16 * b + p) + k) (K : Int)) = some ((la : Int) + ((la' : Int) - la), t') := w2
    have hla' := w3.la
    have c1 : b_X4_fillPlaces_6 (16 * b + p) b 0 (100 + 100 * (b : Int) + (p : Int)) (la : Int) (k : Int) s = some (.inl ((la' : Int), ((k + 1 : Nat) : Int), s')) := by
      unfold b_X4_fillPlaces_6
      rw [(hQ.fs.1 4 (16 * b + p) 10 (by unfold PwC1 PwC; omega)).1, hw1, if_neg (by omega), nk_of (hS.p4 p hp), nk_of (hS.p8 p hp), stN_of (hS.z30 p hp) (by omega), tnc, hn1, nk_of (hS3.p1 p hp), ldN_of (hS3.z27 p hp) (by omega), tnc, y27, nk_of (hS3.p2 p hp), ldN_of (hS3.z28 p hp) (by omega), tnc, y28, form, Option.bind_some]
      unfold f_X4_fillWord
      rw [letters_c hok, Option.bind_some, w1', Option.bind_some]
      unfold j_X4_fillWord_0_128
      rw [bI_ok, ck_of ⟨by omega, by omega⟩, ck_of ⟨by omega, by omega⟩, show (la : Int) + (0 + ((la' : Int) - la)) = la' by omega, show (k : Int) + 1 = ((k + 1 : Nat) : Int) by omega]
    have c2 : b_X12_fillsPlaces_26 0 (b : Int) (p : Int) (d : Int) ((16 * b + p : Nat) : Int) (la : Int) ((60 * (16 * b + p) + k : Nat) : Int) t = some (.inl ((la' : Int), ((60 * (16 * b + p) + (k + 1) : Nat) : Int), t')) := by
      unfold b_X12_fillsPlaces_26
      rw [nk_of hM.r36, ldN_of hM.z89 (by omega), tnc, (hQ.ft.1 89 0 (16 * b + p) (by unfold PwM1 PwM; omega)).1, hw2, ck_of ⟨by omega, by omega⟩, if_neg (by omega), nk_of hM.r45, nk_of hM.r37, ldN_of hM.z90 (by omega), tnc, hn2, stN_of hM.z98 (by omega), tnc, nk_of hM3.r43, ldL_of hM3.z96 (by omega), tnc, y96, letters_m hok, Option.bind_some, w2', Option.bind_some]
      unfold j_X12_fillsPlaces_26_226
      rw [ck_of ⟨by omega, by omega⟩, show ((60 * (16 * b + p) + k : Nat) : Int) + 1 = ((60 * (16 * b + p) + (k + 1) : Nat) : Int) by omega, show (la : Int) + ((la' : Int) - la) = la' by omega]
    have g1 : FrC (PwC1 (16 * b + p)) (sN s 30 (16 * b + p) k (K : Int)) s' := w3.fs.sub fun K i k z => Or.inl z
    have g2 : FrC (PwM1 (16 * b + p) d) (sN t 98 0 (60 * (16 * b + p) + k) (K : Int)) t' := w3.ft.sub fun K i k z => Or.inl z
    have hQ' : QL s2 t2 s' t' (16 * b + p) d (k + 1) K' la' h0 := by
      refine ⟨(hQ.fs.sN (by unfold PwC1; omega)).tr g1, (hQ.ft.sN (by unfold PwM1; omega)).tr g2, w3.rb, by rw [LtS, hlen]; omega, fun j hj => ?_⟩
      rw [(w3.fs.1 30 (16 * b + p) j (by unfold PwC; omega)).1, (w3.ft.1 98 0 (60 * (16 * b + p) + j) (by unfold PwM; omega)).1, gN_sN, gN_sN]
      by_cases z : j = k
      · rw [if_pos ⟨rfl, rfl, z⟩, if_pos ⟨rfl, rfl, by omega⟩]
        omega
      · rw [if_neg (fun w => z w.2.2), if_neg (by omega)]
        have := hQ.f1 j (by omega)
        omega
    obtain ⟨s3, t3, K3, la3, r1, r2, r3⟩ := ih (k + 1) K' la' s' t' (by omega) (by omega) hQ'
    refine ⟨s3, t3, K3, la3, ?_, ?_, r3⟩
    · rw [lpb_eq]
      simp only
      rw [c1, Option.bind_some, Sum.elim_inl, r1]
    · rw [lpb_eq]
      simp only
      rw [c2, Option.bind_some, Sum.elim_inl, r2]
/-- all places of a page -/
theorem places_eq {mc s2 t2 mm : MM} {b p d Fr To W : Nat} {h0 : Int} (hP : BP mm b F n M Ln E) (hC2 : SC s2) (hM2 : SM t2) (hS2 : BS s2 b F n M Ln E) (hp : p < 2 * (F * n)) (hd : d < 4) (hh0 : 0 ≤ h0 ∧ h0 ≤ 10000000) (hW : W ≤ 60) (hTo : To ≤ 60) (hw1 : gN s2 4 (16 * b + p) 10 = W) (hw2 : gN t2 89 0 (16 * b + p) = W) (hL : LtS t2 (16 * b + p) W ≤ M * Ln)
    (hwd : ∀ k, k < W → WdR mc s2 t2 b (16 * b + p) Fr To k) (h46 : ∀ K i, (K = 46 ∨ K = 47) → gL s2 K b i = gL mc K b i) (h5 : gN s2 5 (16 * b + p) 4 = 0) (h71 : gN t2 71 0 d = h0) (hR : RC s2 t2) (hPc : RPc (sN t2 90 0 (16 * b + p) 0)) :
    ∃ (s' t' : MM) (K la : Nat), f_X4_fillPlaces s2 (16 * b + p) b 0 (100 + 100 * (b : Int) + (p : Int)) = some (.inl (some (aI (la : Int))), sN s' 30 (16 * b + p) W (K : Int)) ∧ f_X12_fillsPlaces t2 0 (b : Int) (p : Int) (d : Int) = some (.inl (some (aI (la : Int))), t') ∧ QL s2 t2 s' t' (16 * b + p) d W K la h0 := by
  have q3 := hP.ml
  have q1 := hP.hn
  have q0 := hP.hb
  have hM3 : SM (sN t2 90 0 (16 * b + p) 0) := hM2.mv (fun _ => rfl) (fun _ _ _ q => q)
  have y90 : gN (sN t2 90 0 (16 * b + p) 0) 90 0 (16 * b + p) = 0 := by rw [gN_sN, if_pos ⟨rfl, rfl, rfl⟩]
  have hQ : QL s2 t2 s2 (sN t2 90 0 (16 * b + p) 0) (16 * b + p) d 0 0 0 h0 := by
    refine ⟨FrC.rf, FrC.rf.sN (by unfold PwM1 PwM; omega), ⟨FrC.rf, FrC.rf, by rw [h5]; rfl, by rw [y90]; rfl, hR.keep rfl (gN_k (by decide)) (fun _ _ _ _ => rfl) (fun K h1 h2 k => gN_k (by omega)), hPc, ⟨fun k hk => by rw [y90] at hk; omega, fun k hk => by rw [y90] at hk; omega, fun k hk => by rw [y90] at hk; omega⟩, fun k hk => by omega, Nat.le_refl _, by rw [gN_k (by decide), h71]⟩, Nat.zero_le _, fun j hj => by omega⟩
  obtain ⟨s', t', K, la, r1, r2, r3⟩ := setWords_eq hP hC2 hM2 hS2 hp hd hh0 hW hTo hw1 hw2 hL hwd h46 W 0 0 0 s2 (sN t2 90 0 (16 * b + p) 0) (by omega) (by omega) hQ
  have r1' : lpb (fun z : Int × Int × MM => b_X4_fillPlaces_6 (16 * b + p) b 0 (100 + 100 * (b : Int) + (p : Int)) z.1 z.2.1 z.2.2) (0, 0, s2) = some ((la : Int), s') := r1
  have r2' : lpb (fun z : Int × Int × MM => b_X12_fillsPlaces_26 0 (b : Int) (p : Int) (d : Int) ((16 * b + p : Nat) : Int) z.1 z.2.1 z.2.2) (0, ((60 * (16 * b + p) : Nat) : Int), sN t2 90 0 (16 * b + p) 0) = some ((la : Int), t') := r2
  have hS' := PwC1.S hS2 hP r3.fs
  refine ⟨s', t', K, la, ?_, ?_, r3⟩
  · unfold f_X4_fillPlaces
    rw [r1', Option.bind_some]
    dsimp only
    unfold j_X4_fillPlaces_0_64
    rw [nk_of (hS'.p4 p hp), nk_of (hS'.p8 p hp), (r3.fs.1 4 (16 * b + p) 10 (by unfold PwC1 PwC; omega)).1, hw1, stN_of (hS'.z30 p hp) (by omega), tnc, r3.pl.n1]
  · unfold f_X12_fillsPlaces
    rw [ck_of ⟨by omega, by omega⟩, nk_of hM2.r37, stN_of hM2.z90 (by omega), show (16 * (b : Int) + (p : Int)).toNat = 16 * b + p by omega, ck_of ⟨by omega, by omega⟩, show 16 * (b : Int) + (p : Int) = ((16 * b + p : Nat) : Int) by omega, show 60 * ((16 * b + p : Nat) : Int) = ((60 * (16 * b + p) : Nat) : Int) by omega, r2', Option.bind_some]
    rfl
end SET
