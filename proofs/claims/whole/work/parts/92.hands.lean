/-! HANDS: what is read. -/
section HANDS
variable {N : Nat} {mc mm : MM} {b F n M Ln E : Nat}
abbrev Fc (s s' : MM) : Prop := FrC (fun K i _ => (41 ≤ K ∧ K ≤ 43) ∧ i = 0) s s'
abbrev Fm (s s' : MM) : Prop := FrC (fun K i k => (K = 12 ∧ (k = 0 ∨ k = 79)) ∨ ((K = 129 ∨ K = 130) ∧ i = 0)) s s'
theorem RR.scrc {s : MM} (h : RR N mc mm) (hF : Fc mc s) : RR N s mm := h.scr (Nat.le_refl _) hF.2.1 (fun _ _ _ q => q) hF.2.2 (fun K i k h1 h2 => hF.1 K i k (fun q => h2 (by unfold scC; omega))) (fun _ _ _ _ _ => eq3.rf)
theorem RR.scrm {t : MM} (h : RR N mc mm) (hF : Fm mm t) : RR N mc t := h.scr (Nat.le_refl _) (fun _ _ => rfl) (fun K i k hk => by rw [hF.2.1]; exact hk) (fun _ => rfl) (fun _ _ _ _ _ => eq3.rf) (fun K i k h1 h2 => hF.1 K i k (fun q => h2 (by unfold scM; omega)))
theorem RBk.scrc {s : MM} (hB : RBk mc mm b F n M Ln E) (hF : Fc mc s) : RBk s mm b F n M Ln E := hB.scr hF.2.1 (fun K i k h1 => hF.1 K i k (by omega)) (fun _ _ _ _ => eq3.rf)
theorem RBk.scrm {t : MM} (hB : RBk mc mm b F n M Ln E) (hF : Fm mm t) : RBk mc t b F n M Ln E := hB.scr (fun _ _ => rfl) (fun _ _ _ _ => eq3.rf) (fun K i k h1 => hF.1 K i k (by omega))
/-- the spellings of each page -/
def Br (mm : MM) (b F n : Nat) (v : Int) (br : Nat → Nat) : Prop := ∀ p, p < 2 * (F * n) → br p < 64 ∧ f_X12_looseIn mm 0 ((16 * b + p : Nat) : Int) v = some (br p : Int)
theorem br_ex (h : RR N mc mm) (hB : RBk mc mm b F n M Ln E) {v : Int} (hv : v = 0 ∨ v = 1) : ∃ br, Br mm b F n v br := by
  have : ∀ p, ∃ y : Nat, p < 2 * (F * n) → y < 64 ∧ f_X12_looseIn mm 0 ((16 * b + p : Nat) : Int) v = some (y : Int) := fun p => by
    by_cases hp : p < 2 * (F * n)
    · obtain ⟨y, h1, h2, h3⟩ := loose_eq h hB hp hv
      exact ⟨y, fun _ => ⟨h1, h3⟩⟩
    · exact ⟨0, fun q => absurd q hp⟩
  obtain ⟨br, hbr⟩ := Classical.skolem.mp this
  exact ⟨br, hbr⟩
theorem Br.c {v : Int} {br : Nat → Nat} (hb : Br mm b F n v br) (h : RR N mc mm) (hB : RBk mc mm b F n M Ln E) (hv : v = 0 ∨ v = 1) {s : MM} (hF : Fc mc s) {p : Nat} (hp : p < 2 * (F * n)) : f_X4_looseSpellings s (16 * b + p) b v = some (br p : Int) := by
  obtain ⟨y, h1, h2, h3⟩ := loose_eq (h.scrc hF) (hB.scrc hF) hp hv
  rw [h2, ← h3, (hb p hp).2]
theorem Br.m {v : Int} {br : Nat → Nat} (hb : Br mm b F n v br) (h : RR N mc mm) (hB : RBk mc mm b F n M Ln E) (hv : v = 0 ∨ v = 1) {t : MM} (hF : Fm mm t) {p : Nat} (hp : p < 2 * (F * n)) : f_X12_looseIn t 0 ((16 * b + p : Nat) : Int) v = some (br p : Int) := by
  obtain ⟨y, h1, h2, h3⟩ := loose_eq (h.scrm hF) (hB.scrm hF) hp hv
  obtain ⟨y', h1', h2', h3'⟩ := loose_eq h hB hp hv
  rw [h3, ← h2, h2', ← h3', (hb p hp).2]
/-- the pages that are set, one behind the other -/
def Rd (b F n : Nat) (b0 b1 g : Nat → Nat) (k : Nat) (s t : MM) : Prop := (∀ i, i < k → g i < 2 * (F * n) ∧ gN s 42 0 i = b0 (g i) ∧ gN s 43 0 i = b1 (g i) ∧ gN t 130 0 i = ((16 * b + g i : Nat) : Int)) ∧ gN t 12 0 79 = k
theorem read_both (h : RR N mc mm) (hB : RBk mc mm b F n M Ln E) {b0 b1 : Nat → Nat} (h0 : Br mm b F n 0 b0) (h1 : Br mm b F n 1 b1) :
    ∀ (d p k : Nat) (g : Nat → Nat) (s t : MM), 2 * (F * n) - p = d → p ≤ 2 * (F * n) → k ≤ p → Fc mc s → Fm mm t → gN t 12 0 0 = 0 → Rd b F n b0 b1 g k s t → ∃ (k' : Nat) (g' : Nat → Nat) (s' t' : MM), lpb (fun z : Int × Int × MM => b_X7_readPages_14 0 b b ((2 * (F * n) : Nat) : Int) z.1 z.2.1 z.2.2) ((k : Int), (p : Int), s) = some ((k' : Int), s') ∧ lpb (fun z : Int × MM => b_X12_findUnlike_7 0 (b : Int) z.1 z.2) ((p : Int), t) = some t' ∧ k' ≤ 2 * (F * n) ∧ Fc mc s' ∧ Fm mm t' ∧ gN t' 12 0 0 = 0 ∧ Rd b F n b0 b1 g' k' s' t' := by
  have hP := hB.hP
  have hS := hB.hS
  have q0 := hP.hb
  have q1 := hP.hn
  intro d
  induction d with
  | zero =>
    intro p k g s t hd hp hk hFs hFt ht0 hR
    obtain rfl : p = 2 * (F * n) := by omega
    have hBt := hB.scrm hFt
    have hMt := (h.scrm hFt).M
    refine ⟨k, g, s, t, ?_, ?_, hk, hFs, hFt, ht0, hR⟩
    · rw [lpb_eq]
      simp only
      unfold b_X7_readPages_14
      rw [if_pos (Int.le_refl _), Option.bind_some, Sum.elim_inr]
    · rw [lpb_eq]
      simp only
      unfold b_X12_findUnlike_7
      rw [pagesOf_m hMt hBt.hP, Option.bind_some, if_pos (Int.le_refl _), Option.bind_some, Sum.elim_inr]
  | succ d ih =>
    intro p k g s t hd hp hk hFs hFt ht0 hR
    have hp2 : p < 2 * (F * n) := by omega
    have hBs := hB.scrc hFs
    have hSs := hBs.hS
    have hCs := (h.scrc hFs).C
    have hBt := hB.scrm hFt
    have hMt := (h.scrm hFt).M
    have hg := hB.pg p hp2
    have t83 : gN t 83 0 (16 * b + p) = gN mm 83 0 (16 * b + p) := (hFt.1 83 0 _ (by omega)).1
    have s9 : gN s 4 (16 * b + p) 9 = gN mc 4 (16 * b + p) 9 := (hFs.1 4 _ 9 (by omega)).1
    have ep : ((p + 1 : Nat) : Int) = (p : Int) + 1 := by omega
    have hst := hg.st
    by_cases hset : gN mm 83 0 (16 * b + p) = 0
    · obtain ⟨k', g', s', t', e1, e2, e3⟩ := ih (p + 1) k g s t (by omega) (by omega) (by omega) hFs hFt ht0 hR
      refine ⟨k', g', s', t', ?_, ?_, e3⟩
      · rw [lpb_eq]
        simp only
        unfold b_X7_readPages_14 f_X4_isSet
        rw [if_neg (show ¬ ((2 * (F * n) : Nat) : Int) ≤ (p : Int) by omega), ldR_of hSs.z13 (by omega), tnc, hSs.e13 p hp2, nk_some, s9, if_pos (by omega), Option.bind_some, if_pos rfl, ck_of ⟨by omega, by omega⟩, Option.bind_some, Sum.elim_inl]
        rw [ep] at e1
        exact e1
      · rw [lpb_eq]
        simp only
        unfold b_X12_findUnlike_7
        rw [pagesOf_m hMt hBt.hP, Option.bind_some, if_neg (show ¬ ((2 * (F * n) : Nat) : Int) ≤ (p : Int) by omega), nk_of hMt.r30, ldN_of hMt.z83 (by omega), tn16, t83, if_pos hset, ck_of ⟨by omega, by omega⟩, Option.bind_some, Sum.elim_inl]
        rw [ep] at e2
        exact e2
    · obtain ⟨g', hg'⟩ : ∃ g' : Nat → Nat, ∀ i, g' i = if i = k then p else g i := ⟨_, fun _ => rfl⟩
      have hF1 : Fc mc (sN s 42 0 k (b0 p : Int)) := hFs.sN ⟨⟨by decide, by decide⟩, rfl⟩
      have hF2 : Fc mc (sN (sN s 42 0 k (b0 p : Int)) 43 0 k (b1 p : Int)) := hF1.sN ⟨⟨by decide, by decide⟩, rfl⟩
      have hC1 := (h.scrc hF1).C
      have hS1 := (hB.scrc hF1).hS
      have hG1 : Fm mm (sN t 130 0 k ((16 * b + p : Nat) : Int)) := hFt.sN (Or.inr ⟨Or.inr rfl, rfl⟩)
      have hG2 : Fm mm (sN (sN t 130 0 k ((16 * b + p : Nat) : Int)) 12 0 79 ((k : Int) + 1)) := hG1.sN (Or.inl ⟨rfl, Or.inr rfl⟩)
      obtain ⟨k', g2, s', t', e1, e2, e3⟩ := ih (p + 1) (k + 1) g' _ _ (by omega) (by omega) (by omega) hF2 hG2 (by rw [gN_sN, if_neg (by omega), gN_sN, if_neg (by omega)]; exact ht0) ⟨fun i hi => by
        rw [hg']
        by_cases q : i = k
        · subst q
          rw [if_pos rfl]
          refine ⟨hp2, ?_, ?_, ?_⟩
          · rw [gN_sN, if_neg (by omega), gN_sN, if_pos ⟨rfl, rfl, rfl⟩]
          · rw [gN_sN, if_pos ⟨rfl, rfl, rfl⟩]
          · rw [gN_sN, if_neg (by omega), gN_sN, if_pos ⟨rfl, rfl, rfl⟩]
        · rw [if_neg q]
          obtain ⟨r1, r2, r3, r4⟩ := hR.1 i (by omega)
          refine ⟨r1, ?_, ?_, ?_⟩
          · rw [gN_sN, if_neg (by omega), gN_sN, if_neg (by omega)]; exact r2
          · rw [gN_sN, if_neg (by omega), gN_sN, if_neg (by omega)]; exact r3
          · rw [gN_sN, if_neg (by omega), gN_sN, if_neg (by omega)]; exact r4, by rw [gN_sN, if_pos ⟨rfl, rfl, rfl⟩]; omega⟩
      refine ⟨k', g2, s', t', ?_, ?_, e3⟩
      · rw [lpb_eq]
        simp only
        unfold b_X7_readPages_14 f_X4_isSet
        rw [if_neg (show ¬ ((2 * (F * n) : Nat) : Int) ≤ (p : Int) by omega), ldR_of hSs.z13 (by omega), tnc, hSs.e13 p hp2, nk_some, s9, if_neg (by omega), Option.bind_some, if_neg (show ¬ (1 : Int) = 0 by decide), nk_of hCs.s3, nk_of hSs.r4, h0.c h hB (Or.inl rfl) hFs hp2, Option.bind_some, stN_of hCs.z42 (by omega), tnc, nk_of hC1.s4, nk_of hS1.r4, h1.c h hB (Or.inr rfl) hF1 hp2, Option.bind_some, stN_of hC1.z43 (by omega), tnc, ck_of ⟨by omega, by omega⟩, ck_of ⟨by omega, by omega⟩, Option.bind_some, Sum.elim_inl]
        rw [ep, show ((k + 1 : Nat) : Int) = (k : Int) + 1 by omega] at e1
        exact e1
      · have hMt1 := (h.scrm hG1).M
        rw [lpb_eq]
        simp only
        unfold b_X12_findUnlike_7
        rw [pagesOf_m hMt hBt.hP, Option.bind_some, if_neg (show ¬ ((2 * (F * n) : Nat) : Int) ≤ (p : Int) by omega), nk_of hMt.r30, ldN_of hMt.z83 (by omega), tn16, t83, if_neg hset, nk_of hMt.r81, ck_of ⟨by omega, by omega⟩, hR.2, stN_of hMt.z130 (by omega), tnc, gN_sN, if_neg (by omega), hR.2, ck_of ⟨by omega, by omega⟩, lt_eq, ck_of ⟨by omega, by omega⟩, Option.bind_some, Sum.elim_inl, show 16 * (b : Int) + (p : Int) = ((16 * b + p : Nat) : Int) by omega]
        rw [ep] at e2
        exact e2
/-- pages that are unlike -/
def Un (b0 b1 g : Nat → Nat) (K i j : Nat) : Prop := (i < K ∧ j < K ∧ i ≠ j) ∧ (b0 (g i) &&& b1 (g j)) ||| (b1 (g i) &&& b0 (g j)) ≠ 0
theorem Un.sym {b0 b1 g : Nat → Nat} {K i j : Nat} (h : Un b0 b1 g K i j) : Un b0 b1 g K j i := by
  obtain ⟨⟨h1, h2, h3⟩, h4⟩ := h
  refine ⟨⟨h2, h1, fun q => h3 q.symm⟩, ?_⟩
  rw [Nat.and_comm (b0 (g j)), Nat.and_comm (b1 (g j)), Nat.or_comm]
  exact h4
def RowK (U : Nat → Nat → Prop) (k r : Nat) (s : MM) : Prop := ∃ a : Nat, a < 65536 ∧ gN s k 0 r = a ∧ ∀ j, (a.testBit j = true ↔ U r j)
theorem un_val {x y z w : Nat} (hx : x < 64) (hy : y < 64) (hz : z < 64) (hw : w < 64) : ior' (iand (x : Int) (y : Int)) (iand (z : Int) (w : Int)) = (((x &&& y) ||| (z &&& w) : Nat) : Int) := by
  rw [iand_nat (by omega) (by omega), iand_nat (by omega) (by omega)]
  have h1 : x &&& y ≤ x := Nat.and_le_left
  have h2 : z &&& w ≤ z := Nat.and_le_left
  exact ior_nat (by omega) (by omega)
theorem row_bit {a j : Nat} (ha : a < 65536) (hj : j < 16) : ior' (a : Int) (ishl 1 (j : Int)) = ((a ||| 2 ^ j : Nat) : Int) ∧ a ||| 2 ^ j < 65536 := by
  have h2 : 2 ^ j < 2 ^ 16 := Nat.pow_lt_pow_right (by decide) hj
  rw [ishl_nat (by omega), ior_nat (by omega) (by omega)]
  exact ⟨rfl, Nat.or_lt_two_pow (n := 16) ha h2⟩
theorem rows_c {s0 : MM} (hC0 : SC s0) {b0 b1 g : Nat → Nat} {K : Nat} (hK : K ≤ 16) (hb : ∀ i, i < K → b0 (g i) < 64 ∧ b1 (g i) < 64 ∧ gN s0 42 0 i = b0 (g i) ∧ gN s0 43 0 i = b1 (g i)) :
    ∃ s', lpb (fun z : Int × MM => b_X7_readPages_78 0 (K : Int) z.1 z.2) (0, s0) = some s' ∧ FrC (fun K i _ => K = 41 ∧ i = 0) s0 s' ∧ ∀ r, r < K → RowK (Un b0 b1 g K) 41 r s' := by
  have inner : ∀ r, r < K → ∀ (d j a : Nat) (s : MM), K - j = d → j ≤ K → a < 65536 → (∀ i, (a.testBit i = true ↔ i < j ∧ Un b0 b1 g K r i)) → gN s 41 0 r = a → FrC (fun K i _ => K = 41 ∧ i = 0) s0 s → ∃ s', lpb (fun z : Int × MM => b_X7_readPages_93 0 (K : Int) (r : Int) z.1 z.2) ((j : Int), s) = some s' ∧ RowK (Un b0 b1 g K) 41 r s' ∧ FrC (fun K i k => K = 41 ∧ i = 0 ∧ k = r) s s' := by
    intro r hr d
    induction d with
    | zero =>
      intro j a s hd hj ha hbit hv hF
      obtain rfl : j = K := by omega
      refine ⟨s, ?_, ⟨a, ha, hv, fun i => ?_⟩, FrC.rf⟩
      · rw [lpb_eq]
        simp only
        unfold b_X7_readPages_93
        rw [if_pos (Int.le_refl _), Option.bind_some, Sum.elim_inr]
      · rw [hbit]
        exact ⟨fun z => z.2, fun z => ⟨z.1.2.1, z⟩⟩
    | succ d ih =>
      intro j a s hd hj ha hbit hv hF
      have hj2 : j < K := by omega
      have hC : SC s := hC0.mv2 (fun K i k hk => (hF.1 K i k (by omega)).2.2) (fun K i k hk => by rw [hF.2.1]; exact hk)
      have ej : ((j + 1 : Nat) : Int) = (j : Int) + 1 := by omega
      have stay : ¬ Un b0 b1 g K r j → ∀ i, (a.testBit i = true ↔ i < j + 1 ∧ Un b0 b1 g K r i) := fun hno i => by
        rw [hbit]
        exact ⟨fun z => ⟨by omega, z.2⟩, fun z => ⟨by
          by_cases q : i = j
          · rw [q] at z; exact absurd z.2 hno
          · omega, z.2⟩⟩
      rw [lpb_eq]
      simp only
      unfold b_X7_readPages_93
      rw [if_neg (show ¬ (K : Int) ≤ (j : Int) by omega)]
      by_cases q : (j : Int) = (r : Int)
      · rw [if_pos q, ck_of ⟨by omega, by omega⟩, Option.bind_some, Sum.elim_inl, ← ej]
        exact ih (j + 1) a s (by omega) (by omega) ha (stay (fun z => z.1.2.2 (by omega))) hv hF
      · obtain ⟨x1, x2, x3, x4⟩ := hb r hr
        obtain ⟨y1, y2, y3, y4⟩ := hb j hj2
        have v42 : ∀ i, gN s 42 0 i = gN s0 42 0 i := fun i => (hF.1 42 0 i (by omega)).1
        have v43 : ∀ i, gN s 43 0 i = gN s0 43 0 i := fun i => (hF.1 43 0 i (by omega)).1
        rw [if_neg q, nk_of hC.s3, ldN_of hC.z42 (by omega), tnc, v42, x3, nk_of hC.s4, ldN_of hC.z43 (by omega), tnc, v43, y4, nk_of hC.s4, ldN_of hC.z43 (by omega), tnc, v43, x4, nk_of hC.s3, ldN_of hC.z42 (by omega), tnc, v42, y3, un_val x1 y2 x2 y1]
        by_cases q2 : (b0 (g r) &&& b1 (g j)) ||| (b1 (g r) &&& b0 (g j)) = 0
        · rw [if_pos (by rw [q2]; rfl), ck_of ⟨by omega, by omega⟩, Option.bind_some, Sum.elim_inl, ← ej]
          exact ih (j + 1) a s (by omega) (by omega) ha (stay (fun z => z.2 q2)) hv hF
        · obtain ⟨w1, w2⟩ := row_bit (j := j) ha (by omega)
          rw [if_neg (by omega), nk_of hC.s2, ldN_of hC.z41 (by omega), tnc, hv, w1, stN_of hC.z41 (by omega), tnc, ck_of ⟨by omega, by omega⟩, Option.bind_some, Sum.elim_inl, ← ej]
          obtain ⟨s', e1, e2, e3⟩ := ih (j + 1) (a ||| 2 ^ j) (sN s 41 0 r ((a ||| 2 ^ j : Nat) : Int)) (by omega) (by omega) w2 (fun i => by
            rw [or_pow_bit, hbit]
            constructor
            · rintro (z | z)
              · exact ⟨by omega, z.2⟩
              · rw [z]; exact ⟨by omega, ⟨hr, hj2, by omega⟩, q2⟩
            · rintro ⟨z1, z2⟩
              by_cases qi : i = j
              · exact Or.inr qi
              · exact Or.inl ⟨by omega, z2⟩) (by rw [gN_sN, if_pos ⟨rfl, rfl, rfl⟩]) (hF.sN ⟨rfl, rfl⟩)
          exact ⟨s', e1, e2, (FrC.rf.sN ⟨rfl, rfl, rfl⟩).tr e3⟩
  have outer : ∀ (d r : Nat) (s : MM), K - r = d → r ≤ K → FrC (fun K i _ => K = 41 ∧ i = 0) s0 s → (∀ r', r' < r → RowK (Un b0 b1 g K) 41 r' s) → ∃ s', lpb (fun z : Int × MM => b_X7_readPages_78 0 (K : Int) z.1 z.2) ((r : Int), s) = some s' ∧ FrC (fun K i _ => K = 41 ∧ i = 0) s0 s' ∧ ∀ r, r < K → RowK (Un b0 b1 g K) 41 r s' := by
    intro d
    induction d with
    | zero =>
      intro r s hd hr hF hrow
      obtain rfl : r = K := by omega
      refine ⟨s, ?_, hF, hrow⟩
      rw [lpb_eq]
      simp only
      unfold b_X7_readPages_78
      rw [if_pos (Int.le_refl _), Option.bind_some, Sum.elim_inr]
    | succ d ih =>
      intro r s hd hr hF hrow
      have hr2 : r < K := by omega
      have hC : SC s := hC0.mv2 (fun K i k hk => (hF.1 K i k (by omega)).2.2) (fun K i k hk => by rw [hF.2.1]; exact hk)
      obtain ⟨s1, e1, e2, e3⟩ := inner r hr2 K 0 0 (sN s 41 0 r 0) (by omega) (by omega) (by decide) (fun i => by simp) (by rw [gN_sN, if_pos ⟨rfl, rfl, rfl⟩]; rfl) (hF.sN ⟨rfl, rfl⟩)
      have e1' : lpb (fun z : Int × MM => b_X7_readPages_93 0 (K : Int) (r : Int) z.1 z.2) (0, sN s 41 0 r 0) = some s1 := e1
      rw [lpb_eq]
      simp only
      unfold b_X7_readPages_78
      rw [if_neg (show ¬ (K : Int) ≤ (r : Int) by omega), nk_of hC.s2, stN_of hC.z41 (by omega), tnc, e1', Option.bind_some]
      unfold j_X7_readPages_78_156
      rw [ck_of ⟨by omega, by omega⟩, Option.bind_some, Sum.elim_inl, show (r : Int) + 1 = ((r + 1 : Nat) : Int) by omega]
      refine ih (r + 1) s1 (by omega) (by omega) ((hF.sN ⟨rfl, rfl⟩).tr (e3.sub (fun K i k z => ⟨z.1, z.2.1⟩))) (fun r' hr' => ?_)
      by_cases q : r' = r
      · rw [q]; exact e2
      · obtain ⟨a, h1, h2, h3⟩ := hrow r' (by omega)
        refine ⟨a, h1, ?_, h3⟩
        rw [(e3.1 41 0 r' (fun z => q z.2.2)).1, gN_sN, if_neg (fun z => q z.2.2)]
        exact h2
  exact outer _ 0 s0 rfl (by omega) FrC.rf (fun r' h => absurd h (by omega))
end HANDS
