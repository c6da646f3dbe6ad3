/-! SET: one place, both sides. -/
section SET
variable {F n M Ln E : Nat}
/-- what filling the places of a page writes -/
def PwC (q K i k : Nat) : Prop := K = 22 ∨ K = 24 ∨ ((34 ≤ K ∧ K ≤ 36) ∧ i = q) ∨ (K = 38 ∧ i = 24 * q) ∨ (K = 5 ∧ i = q ∧ k = 4)
def PwM (q d K i k : Nat) : Prop := K = 64 ∨ K = 66 ∨ (K = 90 ∧ i = 0 ∧ k = q) ∨ (99 ≤ K ∧ K ≤ 102 ∧ i = 0 ∧ 150 * q ≤ k ∧ k < 150 * q + 150) ∨ (K = 71 ∧ i = 0 ∧ k = d)
def PL (s2 t2 s t : MM) (q d K la : Nat) (h0 : Int) : Prop := (FrC (PwC q) s2 s) ∧
  (FrC (PwM q d) t2 t) ∧
  (gN s 5 q 4 = K) ∧
  (gN t 90 0 q = K) ∧
  (RC s t) ∧
  (RPc t) ∧
  (RPl s t q) ∧
  (∀ k, k < K → 0 ≤ gN t 102 0 (150 * q + k) ∧ gN t 102 0 (150 * q + k) ≤ 28 ∧ gN s 38 (24 * q) k = if gN t 102 0 (150 * q + k) = 28 then -1 else gN t 102 0 (150 * q + k)) ∧
  (la ≤ K) ∧
  (gN t 71 0 d + la = h0 + K)
theorem PL.fs {s2 t2 s t : MM} {q d K la : Nat} {h0 : Int} (h : PL s2 t2 s t q d K la h0) : FrC (PwC q) s2 s := h.1
theorem PL.ft {s2 t2 s t : MM} {q d K la : Nat} {h0 : Int} (h : PL s2 t2 s t q d K la h0) : FrC (PwM q d) t2 t := h.2.1
theorem PL.n1 {s2 t2 s t : MM} {q d K la : Nat} {h0 : Int} (h : PL s2 t2 s t q d K la h0) : gN s 5 q 4 = K := h.2.2.1
theorem PL.n2 {s2 t2 s t : MM} {q d K la : Nat} {h0 : Int} (h : PL s2 t2 s t q d K la h0) : gN t 90 0 q = K := h.2.2.2.1
theorem PL.rc {s2 t2 s t : MM} {q d K la : Nat} {h0 : Int} (h : PL s2 t2 s t q d K la h0) : RC s t := h.2.2.2.2.1
theorem PL.pc {s2 t2 s t : MM} {q d K la : Nat} {h0 : Int} (h : PL s2 t2 s t q d K la h0) : RPc t := h.2.2.2.2.2.1
theorem PL.pl {s2 t2 s t : MM} {q d K la : Nat} {h0 : Int} (h : PL s2 t2 s t q d K la h0) : RPl s t q := h.2.2.2.2.2.2.1
theorem PL.g {s2 t2 s t : MM} {q d K la : Nat} {h0 : Int} (h : PL s2 t2 s t q d K la h0) : ∀ k, k < K → 0 ≤ gN t 102 0 (150 * q + k) ∧ gN t 102 0 (150 * q + k) ≤ 28 ∧ gN s 38 (24 * q) k = if gN t 102 0 (150 * q + k) = 28 then -1 else gN t 102 0 (150 * q + k) := h.2.2.2.2.2.2.2.1
theorem PL.la {s2 t2 s t : MM} {q d K la : Nat} {h0 : Int} (h : PL s2 t2 s t q d K la h0) : la ≤ K := h.2.2.2.2.2.2.2.2.1
theorem PL.hd {s2 t2 s t : MM} {q d K la : Nat} {h0 : Int} (h : PL s2 t2 s t q d K la h0) : gN t 71 0 d + la = h0 + K := h.2.2.2.2.2.2.2.2.2
theorem place_fin {s2 t2 s t s' t' : MM} {q d K la v : Nat} {h0 : Int} (h : PL s2 t2 s t q d K la h0) (hv : v ≤ 1) {l pc tu pr so : Int} (fs' : FrC (PwC q) s s') (ft' : FrC (PwM q d) t t')
    (c34 : ∀ k, gN s' 34 q k = if k = K then l else gN s 34 q k) (c35 : ∀ k, gN s' 35 q k = if k = K then pc else gN s 35 q k) (c36 : ∀ k, gN s' 36 q k = if k = K then tu else gN s 36 q k) (c38 : ∀ k, gN s' 38 (24 * q) k = if k = K then pr else gN s 38 (24 * q) k) (c5 : gN s' 5 q 4 = (K : Int) + 1)
    (m99 : ∀ k, gN t' 99 0 (150 * q + k) = if k = K then l else gN t 99 0 (150 * q + k)) (m100 : ∀ k, gN t' 100 0 (150 * q + k) = if k = K then pc else gN t 100 0 (150 * q + k)) (m101 : ∀ k, gN t' 101 0 (150 * q + k) = if k = K then tu else gN t 101 0 (150 * q + k)) (m102 : ∀ k, gN t' 102 0 (150 * q + k) = if k = K then so else gN t 102 0 (150 * q + k)) (m90 : gN t' 90 0 q = (K : Int) + 1)
    (hl : 0 ≤ l ∧ l < 28) (hpc : -1 ≤ pc ∧ pc < 400) (htu : tu = 0 ∨ tu = 1) (hpt : pc = -1 → tu = 0) (hso : 0 ≤ so ∧ so ≤ 28) (hpr : pr = if so = 28 then -1 else so)
    (hrc : RC s' t') (hpc' : RPc t') (h71 : gN t' 71 0 d + v = gN t 71 0 d + 1) : PL s2 t2 s' t' q d (K + 1) (la + v) h0 := by
  have hn2 := h.n2
  have hpl := h.pl
  have hd := h.hd
  have hla := h.la
  refine ⟨h.fs.tr fs', h.ft.tr ft', by omega, by omega, hrc, hpc', ⟨fun k hk => ?_, fun k hk => ?_, fun k hk => ?_⟩, fun k hk => ?_, by omega, by omega⟩
  · rw [c34, m99]
    by_cases z : k = K
    · rw [if_pos z, if_pos z]; exact ⟨rfl, hl⟩
    · rw [if_neg z, if_neg z]; exact hpl.w k (by omega)
  · rw [c35, m100]
    by_cases z : k = K
    · rw [if_pos z, if_pos z]; exact ⟨rfl, hpc⟩
    · rw [if_neg z, if_neg z]; exact hpl.p k (by omega)
  · rw [c36, m101, m100]
    by_cases z : k = K
    · rw [if_pos z, if_pos z, if_pos z]; exact ⟨rfl, htu, hpt⟩
    · rw [if_neg z, if_neg z, if_neg z]; exact hpl.t k (by omega)
  · rw [c38, m102]
    by_cases z : k = K
    · rw [if_pos z, if_pos z]; exact ⟨hso.1, hso.2, hpr⟩
    · rw [if_neg z, if_neg z]; exact h.g k (by omega)
theorem PwM.Md {q d : Nat} {t2 t : MM} (h : SM t2) (hf : FrC (PwM q d) t2 t) : SM t := hf.SM h (fun s hs => by unfold PwM at hs; omega)
theorem PwC.C {q : Nat} {s2 s : MM} (h : SC s2) (hf : FrC (PwC q) s2 s) : SC s := h.mv2 (fun K i k hk => (hf.1 K i k (by unfold PwC; omega)).2.2) (fun K i k hk => by rw [hf.2.1]; exact hk)
theorem PwC.S {q b : Nat} {s2 s mm : MM} (h : BS s2 b F n M Ln E) (hP : BP mm b F n M Ln E) (hf : FrC (PwC q) s2 s) : BS s b F n M Ln E := hf.BS h hP (fun K i k hk z => by unfold CBS at hk; unfold PwC at z; omega)
set_option maxHeartbeats 4000000 in
theorem place_eq {s2 t2 s t mm : MM} {b p d K la l : Nat} {h0 : Int} (hP : BP mm b F n M Ln E) (hC2 : SC s2) (hM2 : SM t2) (hS2 : BS s2 b F n M Ln E) (hp : p < 2 * (F * n)) (hd : d < 4) (hh0 : 0 ≤ h0 ∧ h0 ≤ 10000000) (h : PL s2 t2 s t (16 * b + p) d K la h0) (hK : K < M * Ln) (hl : l < 28) :
    ∃ (s' t' : MM) (v : Nat), v ≤ 1 ∧ f_X5_fillNext s (16 * b + p) (l : Int) 0 (100 + 100 * (b : Int) + (p : Int)) = some (.inl (some (aI (1 - (v : Int)))), s') ∧ f_X12_fills t 0 (b : Int) (p : Int) (d : Int) (l : Int) = some (.inl (some (aI (v : Int))), t') ∧ PL s2 t2 s' t' (16 * b + p) d (K + 1) (la + v) h0 := by
  have q0 := hP.hb
  have q1 := hP.hn
  have q2 := hP.hE
  have q3 := hP.ml
  have hC := PwC.C hC2 h.fs
  have hM := PwM.Md hM2 h.ft
  have hS := PwC.S hS2 hP h.fs
  have hR := h.rc
  have hn1 := h.n1
  have hn2 := h.n2
  have hla := h.la
  have hhd := h.hd
  obtain ⟨r1, r2, r3, r4, r5, r6, r7⟩ := hR
  obtain ⟨pc, tu, e, hk⟩ := pick_ex (t := t) hl (fun e he => by have := r6 e he; omega)
  rcases pick_c (ow := 100 + 100 * (b : Int) + (p : Int)) hP hS hC hp hn1 hK hl (fun j => (r4 j).2.2.2.2) hk with ⟨rfl, rfl, e1⟩ | ⟨x, hx, rfl, he, a1, e1⟩
  · -- no piece
    rcases pick_m (d := d) hM q0 (by omega) hn2 (by omega) hl hk with ⟨-, -, e2⟩ | ⟨x, hx, z, -⟩
    · obtain ⟨so, u1, u2, u3⟩ := c80 hP hS hC hp hn1 hK (pc := -1) (tu := 0) (Or.inl rfl) (Or.inl rfl) (l : Int) (l : Int)
      have hM0 : SM (T0 t (16 * b + p) K l) := hM.mv (fun _ => rfl) (fun _ _ _ q => q)
      obtain ⟨w, v1, -, v3⟩ := m134 (p := p) (l := l) (d := d) (K := K) hM0 q0 (by omega) hd hl (by omega) (pc := -1) (tu := 0) (by unfold T0; rw [gN_k (by decide), gN_sN, if_pos ⟨rfl, rfl, rfl⟩]) (by unfold T0; rw [gN_sN, if_pos ⟨rfl, rfl, rfl⟩]) (Or.inl rfl) (by unfold T0; rw [gN_k (by decide), gN_k (by decide), gN_k (by decide), gN_k (by decide)]; omega)
      rcases v3 with ⟨-, v3⟩ | ⟨x, z, -⟩
      · have hso := u1 rfl
        have hw := v1 rfl
        rw [if_pos rfl, hso, if_neg (show ¬ ((0 : Int) = 1 ∧ (-1 : Int) = (l : Int)) by omega)] at u3
        rw [hw] at v3
        refine ⟨_, _, 1, Nat.le_refl _, by rw [e1, u3]; rfl, by rw [e2, v3]; rfl, ?_⟩
        have g1 := h.pc.grow hn2 (show K < 150 by omega)
        refine place_fin h (Nat.le_refl 1) (l := l) (pc := -1) (tu := 0) (pr := -1) (so := 28) ?_ ?_ (fun k => ?_) (fun k => ?_) (fun k => ?_) (fun k => ?_) ?_ (fun k => ?_) (fun k => ?_) (fun k => ?_) (fun k => ?_) ?_ (by omega) (by omega) (Or.inl rfl) (fun _ => rfl) (by omega) rfl ?_ ?_ ?_
        · exact ((((FrC.rf.sN (by unfold PwC; omega)).sN (by unfold PwC; omega)).sN (by unfold PwC; omega)).sN (by unfold PwC; omega)).sN (by unfold PwC; omega)
        · unfold T0
          exact ((((FrC.rf.sN (by unfold PwM; omega)).sN (by unfold PwM; omega)).sN (by unfold PwM; omega)).sN (by unfold PwM; omega)).sN (by unfold PwM; omega)
        · simp [gN_sN]
        · simp [gN_sN]
        · simp [gN_sN]
        · simp [gN_sN]
        · simp [gN_sN]
        · simp [T0, gN_sN]
        · simp [T0, gN_sN]
        · simp [T0, gN_sN]
        · simp [T0, gN_sN]
        · simp [T0, gN_sN]
        · exact h.rc.keep (by rw [gN_k (by decide), gN_k (by decide), gN_k (by decide), gN_k (by decide), gN_k (by decide)]) (by unfold T0; rw [gN_k (by decide), gN_k (by decide), gN_k (by decide), gN_k (by decide), gN_k (by decide)]) (fun K' h1 h2 k => by rw [gN_k (by omega), gN_k (by omega), gN_k (by omega), gN_k (by omega), gN_k (by omega)]) (fun K' h1 h2 k => by unfold T0; rw [gN_k (by omega), gN_k (by omega), gN_k (by omega), gN_k (by omega), gN_k (by omega)])
        · refine g1.eqN (fun K' j hK' => ?_) ?_
          · unfold T0
            rw [gN_k (show K' ≠ 102 by omega), gN_k (show K' ≠ 101 by omega)]
            by_cases z : K' = 100
            · subst z
              by_cases y : j = 150 * (16 * b + p) + K
              · rw [gN_sN, if_pos ⟨rfl, rfl, y⟩, gN_sN, if_pos ⟨rfl, rfl, y⟩]
              · rw [gN_sN, if_neg (fun w => y w.2.2), gN_k (by decide), gN_k (by decide), gN_sN, if_neg (fun w => y w.2.2), gN_k (by decide)]
            · rw [gN_k z, gN_k (show K' ≠ 99 by omega), gN_k z]
          · unfold T0
            rw [gN_k (by decide), gN_k (by decide), gN_k (by decide), gN_k (by decide), gN_k (by decide), gN_k (by decide), gN_k (by decide)]
        · unfold T0
          rw [gN_k (by decide), gN_k (by decide), gN_k (by decide), gN_k (by decide), gN_k (by decide)]
          omega
      · omega
    · omega
  · -- a piece
    rcases pick_m (d := d) hM q0 (by omega) hn2 (by omega) hl hk with ⟨z, -⟩ | ⟨x', hx', z, -, -, e2⟩
    · omega
    · obtain rfl : x = x' := by omega
      have hxn : (x : Int) < gN t 12 0 6 := by have := r6 e he; omega
      obtain ⟨s1, s3, s4⟩ := r5 x hxn
      have b23 : gN s 23 0 x = gN t 65 0 x := (r4 x).2.2.2.1
      rw [b23] at e1
      have hCa : SC (sN (sN s 24 0 e (gN t 65 0 x)) 22 0 x (100 + 100 * (b : Int) + (p : Int))) := hC.mv2 (fun _ _ _ _ => rfl) (fun _ _ _ q => q)
      have hSa : BS (sN (sN s 24 0 e (gN t 65 0 x)) 22 0 x (100 + 100 * (b : Int) + (p : Int))) b F n M Ln E := hS.keep hP (fun K i s hk => (eq3.sN (by unfold CBS at hk; omega)).tr (eq3.sN (by unfold CBS at hk; omega))) (fun _ _ _ q => q)
      have htu : tu = 0 ∨ tu = 1 := by
        rcases e2 with ⟨z, -⟩ | ⟨z, -⟩
        · exact Or.inl z
        · exact Or.inr z
      obtain ⟨so, -, u2, u3⟩ := c80 (K := K) hP hSa hCa hp (by rw [gN_k (by decide), gN_k (by decide), hn1]) hK (pc := (x : Int)) (tu := tu) (Or.inr ⟨x, hx, rfl⟩) htu (l : Int) (e : Int)
      have hso : so = gN t 62 0 x := by rw [u2 x rfl, gN_k (by decide), gN_k (by decide), (r4 x).1]
      rw [if_neg (show ¬ (x : Int) = -1 by omega), hso] at u3
      have hM0 : SM (T0 t (16 * b + p) K l) := hM.mv (fun _ => rfl) (fun _ _ _ q => q)
      -- the model's memory behind the taking
      obtain ⟨TT, f1, f2, f3, f4, f5, f6, f7, f8⟩ : ∃ TT : MM, f_X12_fills t 0 (b : Int) (p : Int) (d : Int) (l : Int) = j_X12_fills_0_134 TT 0 (b : Int) (p : Int) (d : Int) (l : Int) ((150 * (16 * b + p) + K : Nat) : Int) ∧ SM TT ∧ (∀ K' j, K' ≠ 66 → K' ≠ 90 → ¬ (99 ≤ K' ∧ K' ≤ 101) → gN TT K' 0 j = gN t K' 0 j) ∧ (∀ j, gN TT 66 0 j = if j = e then gN t 65 0 x else gN t 66 0 j) ∧ (∀ j, gN TT 90 0 j = if j = 16 * b + p then (K : Int) + 1 else gN t 90 0 j) ∧ ((∀ j, gN TT 99 0 j = if j = 150 * (16 * b + p) + K then (l : Int) else gN t 99 0 j) ∧ (∀ j, gN TT 100 0 j = if j = 150 * (16 * b + p) + K then (x : Int) else gN t 100 0 j) ∧ (∀ j, gN TT 101 0 j = if j = 150 * (16 * b + p) + K then tu else gN t 101 0 j)) ∧ FrC (PwM (16 * b + p) d) t TT ∧ (tu = 0 ∧ e = l ∨ tu = 1 ∧ tb l = e) := by
        have ft0 : FrC (PwM (16 * b + p) d) t (T0 t (16 * b + p) K l) := (((FrC.rf.sN (by unfold PwM; omega)).sN (by unfold PwM; omega)).sN (by unfold PwM; omega)).sN (by unfold PwM; omega)
        rcases e2 with ⟨z, y, e2⟩ | ⟨z, y, e2⟩
        · refine ⟨_, e2, hM0.mv (fun _ => rfl) (fun _ _ _ q => q), fun K' j h1 h2 h3 => ?_, fun j => ?_, fun j => ?_, ⟨fun j => ?_, fun j => ?_, fun j => ?_⟩, (ft0.sN (by unfold PwM; omega)).sN (by unfold PwM; omega), Or.inl ⟨z, y⟩⟩
          · unfold T0; rw [gN_k (by omega), gN_k h1, gN_k (by omega), gN_k (by omega), gN_k (by omega), gN_k h2]
          · simp [T0, gN_sN]
          · simp [T0, gN_sN]
          · simp [T0, gN_sN]
          · simp only [T0, gN_sN]
            by_cases w : j = 150 * (16 * b + p) + K
            · simp [w]
            · simp [w]
          · simp [T0, gN_sN, z]
        · refine ⟨_, e2, hM0.mv (fun _ => rfl) (fun _ _ _ q => q), fun K' j h1 h2 h3 => ?_, fun j => ?_, fun j => ?_, ⟨fun j => ?_, fun j => ?_, fun j => ?_⟩, ((ft0.sN (by unfold PwM; omega)).sN (by unfold PwM; omega)).sN (by unfold PwM; omega), Or.inr ⟨z, y⟩⟩
          · unfold T0; rw [gN_k (by omega), gN_k (by omega), gN_k h1, gN_k (by omega), gN_k (by omega), gN_k (by omega), gN_k h2]
          · simp [T0, gN_sN]
          · simp [T0, gN_sN]
          · simp [T0, gN_sN]
          · simp only [T0, gN_sN]
            by_cases w : j = 150 * (16 * b + p) + K
            · simp [w]
            · simp [w]
          · simp only [T0, gN_sN]
            by_cases w : j = 150 * (16 * b + p) + K
            · simp [w, z]
            · simp [w]
      obtain ⟨f61, f62, f63⟩ := f6
      have g71 : gN TT 71 0 d = gN t 71 0 d := f3 71 d (by decide) (by decide) (by omega)
      have g62 : gN TT 62 0 x = gN t 62 0 x := f3 62 x (by decide) (by decide) (by omega)
      obtain ⟨w, -, v2, v3⟩ := m134 (p := p) (l := l) (d := d) (K := K) f2 q0 (by omega) hd hl (by omega) (pc := (x : Int)) (tu := tu) (by rw [f62, if_pos rfl]) (by rw [f63, if_pos rfl]) (Or.inr ⟨x, hx, rfl⟩) (by rw [g71]; omega)
      rcases v3 with ⟨z, -⟩ | ⟨x', z, v3⟩
      · omega
      · obtain rfl : x = x' := by omega
        have hw := v2 x rfl
        rw [g62] at hw
        rw [g71] at v3
        -- prints agree
        have hpr : (if tu = 1 ∧ gN t 62 0 x = (e : Int) then (l : Int) else gN t 62 0 x) = w := by
          rw [hw]
          rcases f8 with ⟨z, -⟩ | ⟨z, y⟩
          · rw [if_neg (by omega), if_neg (by omega)]
          · rw [y]
        rw [hpr] at u3
        have hwb : 0 ≤ w ∧ w < 28 := by
          rw [hw]; split <;> omega
        clear hw hpr v2 u2 hk e2
        refine ⟨_, _, 0, by omega, by rw [e1, u3]; rfl, by rw [f1, v3]; rfl, ?_⟩
        have k1 : RPc (sN (sN t 66 0 e (gN t 65 0 x)) 64 0 x (100 + 100 * (b : Int) + (p : Int))) := h.pc.take he a1 hxn (by omega) s4.1
        have k2 := k1.grow (q := 16 * b + p) (K := K) (by rw [gN_k (by decide), gN_k (by decide), hn2]) (by omega)
        have hx64 : gN t 64 0 x = e := h.pc.t e x he a1
        have k3 := k2.lay (x := x) (q0 := 16 * b + p) (k0 := K) (by omega) (by omega) (by rw [gN_k (by decide), gN_sN, if_pos ⟨rfl, rfl, rfl⟩]; omega) (by rw [gN_k (by decide), gN_k (by decide), gN_k (by decide), gN_k (by decide)]; exact hxn) (by rw [gN_k (by decide), gN_k (by decide), gN_sN, if_pos ⟨rfl, rfl, rfl⟩]; omega) (fun q' k' h1 h2 h3 h4 => by
          by_cases z : 150 * q' + k' = 150 * (16 * b + p) + K
          · omega
          · rw [gN_sN, if_neg (by omega), gN_k (by decide), gN_k (by decide), gN_k (by decide)] at h4
            by_cases y : q' = 16 * b + p
            · rw [gN_k (by decide), gN_sN, if_pos ⟨rfl, rfl, y⟩] at h3
              have := (h.pc.p q' k' x h1 h2 (by rw [y, hn2]; omega) h4).2
              omega
            · rw [gN_k (by decide), gN_sN, if_neg (fun z => y z.2.2), gN_k (by decide), gN_k (by decide)] at h3
              have := (h.pc.p q' k' x h1 h2 h3 h4).2
              omega)
        have k4 : RC (sN (sN s 24 0 e (gN t 65 0 x)) 22 0 x (100 + 100 * (b : Int) + (p : Int))) (sN (sN t 66 0 e (gN t 65 0 x)) 64 0 x (100 + 100 * (b : Int) + (p : Int))) := h.rc.take ⟨s4.1, s4.2⟩
        refine place_fin h (show 0 ≤ 1 by omega) (l := l) (pc := x) (tu := tu) (pr := w) (so := w) ?_ ?_ (fun k => ?_) (fun k => ?_) (fun k => ?_) (fun k => ?_) ?_ (fun k => ?_) (fun k => ?_) (fun k => ?_) (fun k => ?_) ?_ (by omega) (by omega) htu (fun z => by omega) (by omega) (by rw [if_neg (by omega)]) ?_ ?_ ?_
        · exact ((((((FrC.rf.sN (by unfold PwC; omega)).sN (by unfold PwC; omega)).sN (by unfold PwC; omega)).sN (by unfold PwC; omega)).sN (by unfold PwC; omega)).sN (by unfold PwC; omega)).sN (by unfold PwC; omega)
        · exact ((f7.sN (by unfold PwM; omega)).sN (by unfold PwM; omega)).sN (by unfold PwM; omega)
        · simp [gN_sN]
        · simp [gN_sN]
        · simp [gN_sN]
        · simp [gN_sN]
        · simp [gN_sN]
        · rw [gN_k (by decide), gN_k (by decide), gN_k (by decide), f61]; simp
        · rw [gN_k (by decide), gN_k (by decide), gN_k (by decide), f62]; simp
        · rw [gN_k (by decide), gN_k (by decide), gN_k (by decide), f63]; simp
        · rw [gN_k (by decide), gN_k (by decide), gN_sN, f3 102 _ (by decide) (by decide) (by omega)]; simp
        · rw [gN_k (by decide), gN_k (by decide), gN_k (by decide), f5, if_pos rfl]
        · refine k4.keep (by rw [gN_k (by decide), gN_k (by decide), gN_k (by decide), gN_k (by decide), gN_k (by decide)]) (by rw [gN_k (by decide), gN_k (by decide), gN_k (by decide), f3 12 6 (by decide) (by decide) (by omega), gN_k (by decide), gN_k (by decide)]) (fun K' h1 h2 k => by rw [gN_k (by omega), gN_k (by omega), gN_k (by omega), gN_k (by omega), gN_k (by omega)]) (fun K' h1 h2 k => ?_)
          rw [gN_k (show K' ≠ 71 by omega)]
          by_cases z : K' = 64 ∧ k = x
          · rw [gN_sN, if_pos ⟨z.1, rfl, z.2⟩, gN_sN, if_pos ⟨z.1, rfl, z.2⟩]
          · rw [gN_sN, if_neg (fun y => z ⟨y.1, y.2.2⟩), gN_k (show K' ≠ 102 by omega), gN_sN (sN t 66 0 e (gN t 65 0 x)), if_neg (fun y => z ⟨y.1, y.2.2⟩)]
            by_cases y : K' = 66
            · subst y
              rw [f4, gN_sN]
              simp
            · rw [f3 K' k y (by omega) (by omega), gN_k y]
        · refine k3.eqN (fun K' j hK' => ?_) (by rw [gN_k (by decide), gN_k (by decide), gN_k (by decide), f3 12 6 (by decide) (by decide) (by omega), gN_k (by decide), gN_k (by decide), gN_k (by decide), gN_k (by decide), gN_k (by decide)])
          rw [gN_k (show K' ≠ 71 by omega)]
          have r102 : ∀ k, gN (sN TT 102 0 (150 * (16 * b + p) + K) w) K' 0 k = gN TT K' 0 k := fun k => gN_k (by omega)
          rcases show K' = 64 ∨ K' = 65 ∨ K' = 66 ∨ K' = 90 ∨ K' = 100 by omega with rfl | rfl | rfl | rfl | rfl
          · rw [gN_sN, r102, f3 64 j (by decide) (by decide) (by omega)]
            simp [gN_sN]
          · rw [gN_k (by decide), r102, f3 65 j (by decide) (by decide) (by omega)]
            simp [gN_sN]
          · rw [gN_k (by decide), r102, f4]
            simp [gN_sN]
          · rw [gN_k (by decide), r102, f5]
            simp [gN_sN]
          · rw [gN_k (by decide), r102, f62]
            simp only [gN_sN]
            by_cases y : j = 150 * (16 * b + p) + K
            · simp [y]
            · simp [y]
        · rw [gN_sN, if_pos ⟨rfl, rfl, rfl⟩]
          omega
end SET
