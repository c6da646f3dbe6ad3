/-! HANDS: the call. -/
section HANDS
variable {N : Nat} {mc mm : MM} {b F n M Ln E : Nat}
theorem ior_z {a : Nat} (h : a < 65536) : ior' (a : Int) 0 = (a : Int) := by
  have := ior_nat (a := a) (b := 0) (by omega) (by decide)
  rw [Nat.or_zero] at this
  exact this
theorem rows_m (h : RR N mc mm) (hB : RBk mc mm b F n M Ln E) {b0 b1 g : Nat → Nat} (h0 : Br mm b F n 0 b0) (h1 : Br mm b F n 1 b1) {K : Nat} (hK : K ≤ 16) {t0 : MM} (hF0 : Fm mm t0) (h79 : gN t0 12 0 79 = K) (hg : ∀ i, i < K → g i < 2 * (F * n) ∧ gN t0 130 0 i = ((16 * b + g i : Nat) : Int)) :
    ∃ t', lpb (fun z : Int × MM => b_X12_findUnlike_63 0 z.1 z.2) (0, t0) = some t' ∧ FrC (fun K i _ => K = 129 ∧ i = 0) t0 t' ∧ ∀ r, r < K → RowK (Un b0 b1 g K) 129 r t' := by
  have inner : ∀ r, r < K → ∀ (d j a : Nat) (s : MM), K - j = d → j ≤ K → a < 65536 → (∀ i, (a.testBit i = true ↔ i < j ∧ Un b0 b1 g K r i)) → gN s 129 0 r = a → FrC (fun K i _ => K = 129 ∧ i = 0) t0 s → ∃ s', lpb (fun z : Int × MM => b_X12_findUnlike_80 0 (r : Int) z.1 z.2) ((j : Int), s) = some s' ∧ RowK (Un b0 b1 g K) 129 r s' ∧ FrC (fun K i k => K = 129 ∧ i = 0 ∧ k = r) s s' := by
    intro r hr d
    induction d with
    | zero =>
      intro j a s hd hj ha hbit hv hF
      obtain rfl : j = K := by omega
      have s79 : gN s 12 0 79 = j := by rw [(hF.1 12 0 79 (fun q => absurd q.1 (by decide))).1, h79]
      refine ⟨s, ?_, ⟨a, ha, hv, fun i => ?_⟩, FrC.rf⟩
      · rw [lpb_eq]
        simp only
        unfold b_X12_findUnlike_80
        rw [s79, if_pos (Int.le_refl _), Option.bind_some, Sum.elim_inr]
      · rw [hbit]
        exact ⟨fun z => z.2, fun z => ⟨z.1.2.1, z⟩⟩
    | succ d ih =>
      intro j a s hd hj ha hbit hv hF
      have hj2 : j < K := by omega
      have hFs : Fm mm s := hF0.tr (hF.sub (fun K i k z => Or.inr ⟨Or.inl z.1, z.2⟩))
      have hM : SM s := (h.scrm hFs).M
      have s79 : gN s 12 0 79 = K := by rw [(hF.1 12 0 79 (fun q => absurd q.1 (by decide))).1, h79]
      have ej : ((j + 1 : Nat) : Int) = (j : Int) + 1 := by omega
      have stay : ¬ Un b0 b1 g K r j → ∀ i, (a.testBit i = true ↔ i < j + 1 ∧ Un b0 b1 g K r i) := fun hno i => by
        rw [hbit]
        exact ⟨fun z => ⟨by omega, z.2⟩, fun z => ⟨by
          by_cases q : i = j
          · rw [q] at z; exact absurd z.2 hno
          · omega, z.2⟩⟩
      have same : sN s 129 0 r (a : Int) = sN s 129 0 r (a : Int) := rfl
      -- a page that isn't unlike
      have skip : ¬ Un b0 b1 g K r j → ∃ s', (j_X12_findUnlike_80_125 s 0 (r : Int) (j : Int) 0 (r : Int) (a : Int)).bind (Sum.elim (lpb (fun z : Int × MM => b_X12_findUnlike_80 0 (r : Int) z.1 z.2)) some) = some s' ∧ RowK (Un b0 b1 g K) 129 r s' ∧ FrC (fun K i k => K = 129 ∧ i = 0 ∧ k = r) s s' := fun hno => by
        unfold j_X12_findUnlike_80_125 j_X12_findUnlike_80_126
        rw [ior_z ha, stN_of hM.z129 (by omega), tnc, ck_of ⟨by omega, by omega⟩, Option.bind_some, Sum.elim_inl, ← ej]
        obtain ⟨s', e1, e2, e3⟩ := ih (j + 1) a (sN s 129 0 r (a : Int)) (by omega) (by omega) ha (stay hno) (by rw [gN_sN, if_pos ⟨rfl, rfl, rfl⟩]) (hF.sN ⟨rfl, rfl⟩)
        exact ⟨s', e1, e2, (FrC.rf.sN ⟨rfl, rfl, rfl⟩).tr e3⟩
      rw [lpb_eq]
      simp only
      unfold b_X12_findUnlike_80
      rw [s79, if_neg (show ¬ (K : Int) ≤ (j : Int) by omega), nk_of hM.r80, ldN_of hM.z129 (by omega), tnc, hv]
      by_cases q : (j : Int) = (r : Int)
      · rw [if_pos q]
        exact skip (fun z => z.1.2.2 (by omega))
      · obtain ⟨x1, x2⟩ := hg r hr
        obtain ⟨y1, y2⟩ := hg j hj2
        have v130 : ∀ i, gN s 130 0 i = gN t0 130 0 i := fun i => (hF.1 130 0 i (fun q => absurd q.1 (by decide))).1
        have eu : f_X12_isUnlike s 0 ((16 * b + g r : Nat) : Int) ((16 * b + g j : Nat) : Int) = some (if (b0 (g r) &&& b1 (g j)) ||| (b1 (g r) &&& b0 (g j)) = 0 then 0 else 1) := by
          unfold f_X12_isUnlike
          rw [h0.m h hB (Or.inl rfl) hFs x1, Option.bind_some, h1.m h hB (Or.inr rfl) hFs y1, Option.bind_some, h1.m h hB (Or.inr rfl) hFs x1, Option.bind_some, h0.m h hB (Or.inl rfl) hFs y1, Option.bind_some, un_val (h0 _ x1).1 (h1 _ y1).1 (h1 _ x1).1 (h0 _ y1).1]
          by_cases z : (b0 (g r) &&& b1 (g j)) ||| (b1 (g r) &&& b0 (g j)) = 0
          · rw [if_pos (by rw [z]; rfl), if_pos z]
          · rw [if_neg (by omega), if_neg z]
        rw [if_neg q, nk_of hM.r81, ldN_of hM.z130 (by omega), tnc, v130, x2, nk_of hM.r81, ldN_of hM.z130 (by omega), tnc, v130, y2, eu, Option.bind_some]
        by_cases q2 : (b0 (g r) &&& b1 (g j)) ||| (b1 (g r) &&& b0 (g j)) = 0
        · rw [if_pos q2, if_pos rfl]
          exact skip (fun z => z.2 q2)
        · obtain ⟨w1, w2⟩ := row_bit (j := j) ha (by omega)
          rw [if_neg q2, if_neg (show ¬ (1 : Int) = 0 by decide)]
          unfold j_X12_findUnlike_80_126
          rw [w1, stN_of hM.z129 (by omega), tnc, ck_of ⟨by omega, by omega⟩, Option.bind_some, Sum.elim_inl, ← ej]
          obtain ⟨s', e1, e2, e3⟩ := ih (j + 1) (a ||| 2 ^ j) (sN s 129 0 r ((a ||| 2 ^ j : Nat) : Int)) (by omega) (by omega) w2 (fun i => by
            rw [or_pow_bit, hbit]
            constructor
            · rintro (z | z)
              · exact ⟨by omega, z.2⟩
              · rw [z]; exact ⟨by omega, ⟨hr, hj2, by omega⟩, q2⟩
            · rintro ⟨z1, z2⟩
              by_cases qi : i = j
              · exact Or.inr qi
              · exact Or.inl ⟨by omega, z2⟩) (by rw [gN_sN, if_pos ⟨rfl, rfl, rfl⟩]) (hF.sN ⟨rfl, rfl⟩)
          exact ⟨s', e1, e2, (FrC.rf.sN ⟨rfl, rfl, rfl⟩).tr e3⟩
  have outer : ∀ (d r : Nat) (s : MM), K - r = d → r ≤ K → FrC (fun K i _ => K = 129 ∧ i = 0) t0 s → (∀ r', r' < r → RowK (Un b0 b1 g K) 129 r' s) → ∃ s', lpb (fun z : Int × MM => b_X12_findUnlike_63 0 z.1 z.2) ((r : Int), s) = some s' ∧ FrC (fun K i _ => K = 129 ∧ i = 0) t0 s' ∧ ∀ r, r < K → RowK (Un b0 b1 g K) 129 r s' := by
    intro d
    induction d with
    | zero =>
      intro r s hd hr hF hrow
      obtain rfl : r = K := by omega
      have s79 : gN s 12 0 79 = r := by rw [(hF.1 12 0 79 (fun q => absurd q.1 (by decide))).1, h79]
      refine ⟨s, ?_, hF, hrow⟩
      rw [lpb_eq]
      simp only
      unfold b_X12_findUnlike_63
      rw [s79, if_pos (Int.le_refl _), Option.bind_some, Sum.elim_inr]
    | succ d ih =>
      intro r s hd hr hF hrow
      have hr2 : r < K := by omega
      have hFs : Fm mm s := hF0.tr (hF.sub (fun K i k z => Or.inr ⟨Or.inl z.1, z.2⟩))
      have hM : SM s := (h.scrm hFs).M
      have s79 : gN s 12 0 79 = K := by rw [(hF.1 12 0 79 (fun q => absurd q.1 (by decide))).1, h79]
      obtain ⟨s1, e1, e2, e3⟩ := inner r hr2 K 0 0 (sN s 129 0 r 0) (by omega) (by omega) (by decide) (fun i => by simp) (by rw [gN_sN, if_pos ⟨rfl, rfl, rfl⟩]; rfl) (hF.sN ⟨rfl, rfl⟩)
      have e1' : lpb (fun z : Int × MM => b_X12_findUnlike_80 0 (r : Int) z.1 z.2) (0, sN s 129 0 r 0) = some s1 := e1
      rw [lpb_eq]
      simp only
      unfold b_X12_findUnlike_63
      rw [s79, if_neg (show ¬ (K : Int) ≤ (r : Int) by omega), nk_of hM.r80, stN_of hM.z129 (by omega), tnc, e1', Option.bind_some]
      unfold j_X12_findUnlike_63_134
      rw [ck_of ⟨by omega, by omega⟩, Option.bind_some, Sum.elim_inl, show (r : Int) + 1 = ((r + 1 : Nat) : Int) by omega]
      refine ih (r + 1) s1 (by omega) (by omega) ((hF.sN ⟨rfl, rfl⟩).tr (e3.sub (fun K i k z => ⟨z.1, z.2.1⟩))) (fun r' hr' => ?_)
      by_cases q : r' = r
      · rw [q]; exact e2
      · obtain ⟨a, h1, h2, h3⟩ := hrow r' (by omega)
        refine ⟨a, h1, ?_, h3⟩
        rw [(e3.1 129 0 r' (fun z => q z.2.2)).1, gN_sN, if_neg (fun z => q z.2.2)]
        exact h2
  exact outer _ 0 t0 rfl (by omega) FrC.rf (fun r' h => absurd h (by omega))
/-- a graph's rows as one function -/
theorem ur_of {b0 b1 g : Nat → Nat} {K k : Nat} {s : MM} (hK : K ≤ 16) (h : ∀ r, r < K → RowK (Un b0 b1 g K) k r s) : ∃ u : Nat → Nat, UR (Un b0 b1 g K) u K ∧ ∀ p, p < K → gN s k 0 p = u p := by
  have : ∀ r, ∃ a : Nat, r < K → a < 65536 ∧ gN s k 0 r = a ∧ ∀ j, (a.testBit j = true ↔ Un b0 b1 g K r j) := fun r => by
    by_cases hr : r < K
    · obtain ⟨a, h1, h2, h3⟩ := h r hr
      exact ⟨a, fun _ => ⟨h1, h2, h3⟩⟩
    · exact ⟨0, fun q => absurd q hr⟩
  obtain ⟨u, hu⟩ := Classical.skolem.mp this
  exact ⟨u, ⟨hK, fun i j hij => hij.sym, fun i hi => hi.1.2.2 rfl, fun p hp => (hu p hp).1, fun p j hp => (hu p hp).2.2 j, fun i j hij => ⟨hij.1.1, hij.1.2.1⟩⟩, fun p hp => (hu p hp).2.1⟩
theorem col_all {U : Nat → Nat → Prop} {K m : Nat} (hK : K ≤ 16) : Col U (2 ^ K - 1) m 16 ↔ Qc U (fun _ => True) m K 0 (fun _ _ => False) := by
  have hb : ∀ i, (2 ^ K - 1).testBit i = true ↔ i < K := fun i => by rw [Nat.testBit_two_pow_sub_one]; simp
  constructor
  · rintro ⟨c, hc⟩
    refine ⟨c, fun i h1 h2 _ => ?_⟩
    obtain ⟨a1, a2, a3⟩ := hc i h1 (by omega) ((hb i).mpr h2)
    exact ⟨a1, fun j hj => hj.elim, fun j k1 k2 _ => a3 j k1 (by omega) ((hb j).mpr k2)⟩
  · rintro ⟨c, hc⟩
    refine ⟨c, fun i h1 h2 h3 => ?_⟩
    obtain ⟨a1, a2, a3⟩ := hc i h1 ((hb i).mp h3) trivial
    exact ⟨a1, fun j hj => hj.elim, fun j k1 k2 k3 => a3 j k1 ((hb j).mp k3) trivial⟩
/-- the class's parts are empty between its calls -/
def PZ (mc : MM) : Prop := ∀ k, k < 16 → gN mc 44 0 k = 0
theorem few_both {s0 t0 : MM} (hC0 : SC s0) (hM0 : SM t0) {U : Nat → Nat → Prop} {u w : Nat → Nat} {K : Nat} (hK0 : 0 < K) (hu : UR U u K) (hw : UR U w K) (hs : ∀ p, p < K → gN s0 41 0 p = u p) (hz : PZ s0) (h79 : gN t0 12 0 79 = K) (ht : ∀ p, p < K → gN t0 129 0 p = w p) :
    ∀ (d m : Nat) (s t : MM), K - m = d → 1 ≤ m → m ≤ K → Sm s0 s → F130 t0 t → ∃ (r : Nat) (s' t' : MM), lpb (fun z : Int × MM => b_X7_fewestHands_16 0 (K : Int) z.1 z.2) ((m : Int), s) = some ((r : Int), s') ∧ lpb (fun z : Int × MM => b_X12_hands_40 0 z.1 z.2) ((m : Int), t) = some ((r : Int), t') ∧ Sm s0 s' ∧ F130 t0 t' := by
  have hk := hu.k
  intro d
  induction d with
  | zero =>
    intro m s t hd hm1 hm hS hF
    obtain rfl : m = K := by omega
    have hM : SM t := hF.SM hM0 (fun s q => by have := q.1; omega)
    obtain ⟨r, t', e1, e2, e3, e4⟩ := canPart_m (t0 := t) hM hw hK0 (by rw [(hF.1 12 0 79 (fun q => absurd q.1 (by decide))).1, h79]) (fun p hp => by rw [(hF.1 129 0 p (fun q => absurd q.1 (by decide))).1]; exact ht p hp) (most := m) (by omega)
    have hfull : Qc U (fun _ => True) m m 0 (fun _ _ => False) := (col_all (by omega)).mp (Col.full (m := m) hu.i (fun i hi => bit_lt (by have : 0 < 2 ^ m := Nat.pow_pos (by decide); omega) hi))
    have hr : r = 1 := e3.mpr hfull
    refine ⟨m, s, t', ?_, ?_, hS, hF.tr e4⟩
    · rw [lpb_eq]
      simp only
      unfold b_X7_fewestHands_16
      rw [if_pos (Int.le_refl _), Option.bind_some, Sum.elim_inr]
    · rw [lpb_eq]
      simp only
      unfold b_X12_hands_40
      rw [(hF.1 12 0 79 (fun q => absurd q.1 (by decide))).1, h79, if_neg (by omega), e1, bI_ok, hr, if_pos (by decide), Option.bind_some, Sum.elim_inr]
  | succ d ih =>
    intro m s t hd hm1 hm hS hF
    have hmK : m < K := by omega
    have hM : SM t := hF.SM hM0 (fun s q => by have := q.1; omega)
    have hC : SC s := hC0.mv2 (fun K i k _ => (hS.1 K i k (fun q => q)).2.2) (fun K i k hk => by rw [hS.2.1]; exact hk)
    have s41 : ∀ p, p < K → gN s 41 0 p = u p := fun p hp => by rw [(hS.1 41 0 p (fun q => q)).1]; exact hs p hp
    obtain ⟨W, w1, w2, w3, w4⟩ := tight_c hC hu s41 m
    obtain ⟨r, t', e1, e2, e3, e4⟩ := canPart_m (t0 := t) hM hw hK0 (by rw [(hF.1 12 0 79 (fun q => absurd q.1 (by decide))).1, h79]) (fun p hp => by rw [(hF.1 129 0 p (fun q => absurd q.1 (by decide))).1]; exact ht p hp) (most := m) (by omega)
    obtain ⟨r', s', d1, d2, d3, d4⟩ := canPart_c (most := m) hu w2 w3 (by omega) 18 0 0 (fun _ => 0) s (by omega) (by omega) (by omega) hC s41 (fun k hk => ⟨by decide, by rw [(hS.1 44 0 k (fun q => q)).1, hz k hk]; rfl⟩) (fun k j hj => by unfold PB at hj; simp at hj) (fun k j _ hj => by unfold PB at hj; simp at hj)
    have eqP : Qc U (fun i => W.testBit i = true) m 16 0 (PB fun _ => 0) ↔ Col U W m 16 := Qc.iff (fun _ _ => Iff.rfl) (fun k j => by unfold PB; simp)
    have hrr : r' = r := by
      have : r' = 1 ↔ r = 1 := by rw [d3, e3, eqP, w4, col_all hk]
      omega
    have d1' : f_X7_canPart 18 s 0 0 0 (W : Int) (m : Int) = some (.inl (some (aI r')), s') := d1
    have ec : b_X7_fewestHands_16 0 (K : Int) (m : Int) s = if ¬ r = 0 then some (.inr ((m : Int), s')) else ck ((m : Int) + 1) (some (.inl ((m : Int) + 1, s'))) := by
      unfold b_X7_fewestHands_16
      rw [if_neg (show ¬ (K : Int) ≤ (m : Int) by omega), w1, Option.bind_some, d1', bI_ok, hrr]
    have em : b_X12_hands_40 0 (m : Int) t = if ¬ r = 0 then some (.inr ((m : Int), t')) else ck ((m : Int) + 1) (some (.inl ((m : Int) + 1, t'))) := by
      unfold b_X12_hands_40
      rw [(hF.1 12 0 79 (fun q => absurd q.1 (by decide))).1, h79, if_neg (by omega), e1, bI_ok]
    by_cases hr0 : r = 0
    · rw [if_neg (fun q => q hr0), ck_of ⟨by omega, by omega⟩] at ec em
      obtain ⟨x, s2, t2, f1, f2, f3⟩ := ih (m + 1) s' t' (by omega) (by omega) (by omega) (hS.tr d4) (hF.tr e4)
      refine ⟨x, s2, t2, ?_, ?_, f3⟩
      · rw [lpb_eq]
        simp only
        rw [ec, Option.bind_some, Sum.elim_inl, show (m : Int) + 1 = ((m + 1 : Nat) : Int) by omega]
        exact f1
      · rw [lpb_eq]
        simp only
        rw [em, Option.bind_some, Sum.elim_inl, show (m : Int) + 1 = ((m + 1 : Nat) : Int) by omega]
        exact f2
    · rw [if_pos hr0] at ec em
      refine ⟨m, s', t', ?_, ?_, hS.tr d4, hF.tr e4⟩
      · rw [lpb_eq]
        simp only
        rw [ec, Option.bind_some, Sum.elim_inr]
      · rw [lpb_eq]
        simp only
        rw [em, Option.bind_some, Sum.elim_inr]
theorem call_hands (hz : PZ mc) (h : RR N mc mm) (a : Int) : ∃ r mc' v mm', f_X11_hands mc 0 a = some (r, mc') ∧ f_X12_hands mm 0 a = some (.inl (some (aI v)), mm') ∧ Ans [0] r (gN mm' 12 0 0) v ∧ RR (N + 1) mc' mm' ∧ PZ mc' := by
  unfold f_X11_hands f_X12_hands
  rw [nk_of h.C.r6]
  by_cases hb : 0 ≤ a ∧ a < gN mm 12 0 19
  · obtain ⟨b, rfl⟩ := Int.ex hb.1
    obtain ⟨F, n, M, Ln, E, hB⟩ := h.Bk b hb.2
    have hP := hB.hP
    have hS := hB.hS
    have q1 := hP.hn
    rw [bookAt_ok h.Nb h.C hb.2, bR_ok, nk_some, isBook_ok h.Nb hb.2, Option.bind_some, if_neg (show ¬ (1 : Int) = 0 by decide)]
    unfold j_X12_hands_0_14
    rw [holds0, bI_ok, if_pos (show ¬ (1 : Int) = 0 by decide)]
    have hT := h.thr 0
    have hBT := hB.thr 0
    obtain ⟨b0, h0⟩ := br_ex hT hBT (v := 0) (Or.inl rfl)
    obtain ⟨b1, h1⟩ := br_ex hT hBT (v := 1) (Or.inr rfl)
    have hFm0 : Fm (sN mm 12 0 0 0) (sN (sN mm 12 0 0 0) 12 0 79 0) := FrC.rf.sN (Or.inl ⟨rfl, Or.inr rfl⟩)
    obtain ⟨K, g, s1, t1, e1, e2, e3, e4, e5, e6, e7⟩ := read_both hT hBT h0 h1 _ 0 0 (fun _ => 0) mc (sN (sN mm 12 0 0 0) 12 0 79 0) rfl (by omega) (by omega) FrC.rf hFm0 (by rw [gN_sN, if_neg (by decide), gthr]) ⟨fun i hi => absurd hi (by omega), by rw [gN_sN, if_pos ⟨rfl, rfl, rfl⟩]; rfl⟩
    have hK16 : K ≤ 16 := by omega
    have e1' : lpb (fun z : Int × Int × MM => b_X7_readPages_14 0 b b ((2 * (F * n) : Nat) : Int) z.1 z.2.1 z.2.2) (0, 0, mc) = some ((K : Int), s1) := e1
    have e2' : lpb (fun z : Int × MM => b_X12_findUnlike_7 0 (b : Int) z.1 z.2) (0, sN (sN mm 12 0 0 0) 12 0 79 0) = some t1 := e2
    have hC1 := (hT.scrc e4).C
    obtain ⟨s2, c1, c2, c3⟩ := rows_c hC1 (b0 := b0) (b1 := b1) (g := g) hK16 (fun i hi => by
      obtain ⟨r1, r2, r3, r4⟩ := e7.1 i hi
      exact ⟨(h0 _ r1).1, (h1 _ r1).1, r2, r3⟩)
    obtain ⟨t2, m1, m2, m3⟩ := rows_m hT hBT h0 h1 (g := g) hK16 e5 e7.2 (fun i hi => ⟨(e7.1 i hi).1, (e7.1 i hi).2.2.2⟩)
    have hFc2 : Fc mc s2 := e4.tr (c2.sub (fun K i k z => by omega))
    have hFm2 : Fm (sN mm 12 0 0 0) t2 := e5.tr (m2.sub (fun K i k z => Or.inr ⟨Or.inl z.1, z.2⟩))
    have t279 : gN t2 12 0 79 = K := by rw [(m2.1 12 0 79 (fun q => absurd q.1 (by decide))).1, e7.2]
    have t200 : gN t2 12 0 0 = 0 := by rw [(m2.1 12 0 0 (fun q => absurd q.1 (by decide))).1, e6]
    have hC2 := (hT.scrc hFc2).C
    have hM2 := (hT.scrm hFm2).M
    have hz2 : PZ s2 := fun k hk => by rw [(hFc2.1 44 0 k (by omega)).1]; exact hz k hk
    unfold f_X7_fewestHands f_X7_readPages f_X12_findUnlike j_X7_readPages_0_76 j_X12_findUnlike_0_61
    rw [nk_of hS.r5, lenI_of hS.z13, e1', Option.bind_some, c1, Option.bind_some]
    unfold j_X7_readPages_0_162
    rw [bI_ok, lt_eq, e2', Option.bind_some, m1, Option.bind_some]
    unfold j_X12_findUnlike_0_140
    rw [bV_ok, t279]
    have final : ∀ (r : Nat) (s3 t3 : MM), Sm s2 s3 → F130 t2 t3 → ∃ r' mc' v mm', (some ((.inl (some (aI (r : Int))), s3) : RV × MM) : MO) = some (r', mc') ∧ (some ((.inl (some (aI (r : Int))), t3) : RV × MM) : MO) = some (.inl (some (aI v)), mm') ∧ Ans [0] r' (gN mm' 12 0 0) v ∧ RR (N + 1) mc' mm' ∧ PZ mc' := fun r s3 t3 f1 f2 => by
      have hFc3 : Fc mc s3 := hFc2.tr (f1.sub (fun K i k z => z.elim))
      have hFm3 : Fm (sN mm 12 0 0 0) t3 := hFm2.tr (f2.sub (fun K i k z => Or.inr ⟨Or.inr z.1, z.2⟩))
      refine ⟨_, _, _, _, rfl, rfl, Or.inl ⟨rfl, by rw [(f2.1 12 0 0 (fun q => absurd q.1 (by decide))).1, t200]⟩, ((hT.scrc hFc3).scrm hFm3).up (by omega), fun k hk => by rw [(hFc3.1 44 0 k (by omega)).1]; exact hz k hk⟩
    by_cases hK0 : K = 0
    · subst hK0
      rw [if_neg (show ¬ ¬ ((0 : Nat) : Int) = 0 from fun q => q rfl), if_neg (show ¬ ¬ ((0 : Nat) : Int) = 0 from fun q => q rfl)]
      unfold j_X7_fewestHands_0_15 j_X12_hands_0_39
      have l1 : lpb (fun z : Int × MM => b_X7_fewestHands_16 0 ((0 : Nat) : Int) z.1 z.2) (0, s2) = some (((0 : Nat) : Int), s2) := by
        rw [lpb_eq]
        simp only
        unfold b_X7_fewestHands_16
        rw [if_pos (by decide), Option.bind_some, Sum.elim_inr]
        rfl
      have l2 : lpb (fun z : Int × MM => b_X12_hands_40 0 z.1 z.2) (0, t2) = some (((0 : Nat) : Int), t2) := by
        rw [lpb_eq]
        simp only
        unfold b_X12_hands_40
        rw [t279, if_pos (by decide), Option.bind_some, Sum.elim_inr]
        rfl
      rw [l1, l2, Option.bind_some, Option.bind_some]
      unfold j_X7_fewestHands_0_43 j_X12_hands_0_61
      rw [bI_ok]
      exact final 0 s2 t2 FrC.rf FrC.rf
    · rw [if_pos (show ¬ (K : Int) = 0 by omega), if_pos (show ¬ (K : Int) = 0 by omega)]
      obtain ⟨u, hu1, hu2⟩ := ur_of hK16 c3
      obtain ⟨w, hw1, hw2⟩ := ur_of hK16 m3
      obtain ⟨r, s3, t3, f1, f2, f3, f4⟩ := few_both hC2 hM2 (by omega) hu1 hw1 hu2 hz2 t279 hw2 _ 1 s2 t2 rfl (by omega) (by omega) FrC.rf FrC.rf
      have f1' : lpb (fun z : Int × MM => b_X7_fewestHands_16 0 (K : Int) z.1 z.2) (1, s2) = some ((r : Int), s3) := f1
      have f2' : lpb (fun z : Int × MM => b_X12_hands_40 0 z.1 z.2) (1, t2) = some ((r : Int), t3) := f2
      unfold j_X7_fewestHands_0_15 j_X12_hands_0_39
      rw [f1', f2', Option.bind_some, Option.bind_some]
      unfold j_X7_fewestHands_0_43 j_X12_hands_0_61
      rw [bI_ok]
      exact final r s3 t3 f3 f4
  · rw [bookAt_bad h.Nb h.C hb, bR_ex, isBook_bad h.Nb hb, Option.bind_some, if_pos rfl]
    unfold j_X12_hands_0_14
    rw [holds1 _ (by decide), bI_ok, if_neg (show ¬ ¬ (0 : Int) = 0 from fun q => q rfl)]
    exact ⟨_, _, _, _, rfl, rfl, Or.inr ⟨0, 0, rfl, rfl, by rw [gthr]; rfl⟩, ((h.thr 1).bX).up (by omega), hz⟩
end HANDS
