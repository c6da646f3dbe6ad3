/-! CORRECT. -/
section CORRECT
variable {N : Nat} {mc mm : MM} {b F n M Ln E : Nat}
theorem RPc.eqN {mm mm' : MM} (h : RPc mm) (hm : ∀ K s, (64 ≤ K ∧ K ≤ 66) ∨ K = 90 ∨ K = 100 → gN mm' K 0 s = gN mm K 0 s) (h6 : gN mm' 12 0 6 = gN mm 12 0 6) : RPc mm' := by
  have b64 := fun s => hm 64 s (by omega)
  have b65 := fun s => hm 65 s (by omega)
  have b66 := fun s => hm 66 s (by omega)
  have b90 := fun s => hm 90 s (by omega)
  have b100 := fun s => hm 100 s (by omega)
  unfold RPc at h ⊢
  simp only [b64, b65, b66, h6, b90, b100]
  exact h
/-- a piece taken from its box for a place -/
theorem RC.take {s t : MM} (h : RC s t) {d x : Nat} {nx ow : Int} (hnx : -1 ≤ nx ∧ nx < gN t 12 0 6) : RC (sN (sN s 24 0 d nx) 22 0 x ow) (sN (sN t 66 0 d nx) 64 0 x ow) := by
  obtain ⟨h1, h2, h3, h4, h5, h6, h7⟩ := h
  have e6 : gN (sN (sN t 66 0 d nx) 64 0 x ow) 12 0 6 = gN t 12 0 6 := by simp [gN_sN]
  have m62 : ∀ j, gN (sN (sN t 66 0 d nx) 64 0 x ow) 62 0 j = gN t 62 0 j := fun j => by simp [gN_sN]
  have m63 : ∀ j, gN (sN (sN t 66 0 d nx) 64 0 x ow) 63 0 j = gN t 63 0 j := fun j => by simp [gN_sN]
  have m64 : ∀ j, gN (sN (sN t 66 0 d nx) 64 0 x ow) 64 0 j = if j = x then ow else gN t 64 0 j := fun j => by simp [gN_sN]
  have m65 : ∀ j, gN (sN (sN t 66 0 d nx) 64 0 x ow) 65 0 j = gN t 65 0 j := fun j => by simp [gN_sN]
  have m66 : ∀ j, gN (sN (sN t 66 0 d nx) 64 0 x ow) 66 0 j = if j = d then nx else gN t 66 0 j := fun j => by simp [gN_sN]
  have c5 : gN (sN (sN s 24 0 d nx) 22 0 x ow) 1 0 5 = gN s 1 0 5 := by simp [gN_sN]
  have c20 : ∀ j, gN (sN (sN s 24 0 d nx) 22 0 x ow) 20 0 j = gN s 20 0 j := fun j => by simp [gN_sN]
  have c21 : ∀ j, gN (sN (sN s 24 0 d nx) 22 0 x ow) 21 0 j = gN s 21 0 j := fun j => by simp [gN_sN]
  have c22 : ∀ j, gN (sN (sN s 24 0 d nx) 22 0 x ow) 22 0 j = if j = x then ow else gN s 22 0 j := fun j => by simp [gN_sN]
  have c23 : ∀ j, gN (sN (sN s 24 0 d nx) 22 0 x ow) 23 0 j = gN s 23 0 j := fun j => by simp [gN_sN]
  have c24 : ∀ j, gN (sN (sN s 24 0 d nx) 22 0 x ow) 24 0 j = if j = d then nx else gN s 24 0 j := fun j => by simp [gN_sN]
  refine ⟨by rw [c5, e6]; exact h1, by rw [e6]; exact h2, by rw [e6]; exact h3, fun j => ?_, fun j hj => ?_, fun j hj => ?_, fun j hj => ?_⟩
  · obtain ⟨a1, a2, a3, a4, a5⟩ := h4 j
    rw [c20, c21, c22, c23, c24, m62, m63, m64, m65, m66, a1, a2, a3, a4, a5]
    exact ⟨rfl, rfl, rfl, rfl, rfl⟩
  · rw [e6] at hj ⊢
    rw [m62, m63, m65]
    exact h5 j hj
  · rw [e6, m66]
    by_cases q : j = d
    · rw [if_pos q]; exact hnx
    · rw [if_neg q]; exact h6 j hj
  · rw [e6] at hj
    rw [m63]
    exact h7 j hj
theorem RPc.take {t : MM} (h : RPc t) {d x : Nat} {ow : Int} (hd : d < 28) (hx : gN t 66 0 d = x) (hxn : (x : Int) < gN t 12 0 6) (how : 28 ≤ ow) (hnx : -1 ≤ gN t 65 0 x) : RPc (sN (sN t 66 0 d (gN t 65 0 x)) 64 0 x ow) := by
  have e6 : gN (sN (sN t 66 0 d (gN t 65 0 x)) 64 0 x ow) 12 0 6 = gN t 12 0 6 := by simp [gN_sN]
  have m64 : ∀ j, gN (sN (sN t 66 0 d (gN t 65 0 x)) 64 0 x ow) 64 0 j = if j = x then ow else gN t 64 0 j := fun j => by simp [gN_sN]
  have m65 : ∀ j, gN (sN (sN t 66 0 d (gN t 65 0 x)) 64 0 x ow) 65 0 j = gN t 65 0 j := fun j => by simp [gN_sN]
  have m66 : ∀ j, gN (sN (sN t 66 0 d (gN t 65 0 x)) 64 0 x ow) 66 0 j = if j = d then gN t 65 0 x else gN t 66 0 j := fun j => by simp [gN_sN]
  have m90 : ∀ j, gN (sN (sN t 66 0 d (gN t 65 0 x)) 64 0 x ow) 90 0 j = gN t 90 0 j := fun j => by simp [gN_sN]
  have m100 : ∀ j, gN (sN (sN t 66 0 d (gN t 65 0 x)) 64 0 x ow) 100 0 j = gN t 100 0 j := fun j => by simp [gN_sN]
  have ht := h.t
  have hu := h.u
  have hj := h.j
  have hh := h.h
  have hw := h.w
  have hp := h.p
  have hi := h.i
  have hxd := ht d x hd hx
  generalize (sN (sN t 66 0 d (gN t 65 0 x)) 64 0 x ow) = t' at *
  unfold RPc
  rw [e6]
  simp only [m64, m65, m66, m90, m100]
  refine ⟨fun b' y hb' hy => ?_, fun y z hy h1 h2 => ?_, fun y y' z hy hy' h1 h2 h3 h4 => ?_, fun b' y z hb' h1 hy h2 => ?_, fun y hy => ?_, fun q k y hq hk hk' hy => ?_, fun q k q' k' y a1 a2 a3 a4 a5 a6 a7 a8 => hi q k q' k' y a1 a2 a3 a4 a5 a6 a7 a8⟩
  · by_cases q : b' = d
    · rw [if_pos q] at hy
      rw [q]
      have z1 := hu x y hxn (by omega) hy
      have z2 := hh d x x hd hx hxn (by omega)
      have z3 : y ≠ x := fun z => z2 (by rw [hy, z])
      rw [if_neg z3]
      omega
    · rw [if_neg q] at hy
      have := ht b' y hb' hy
      rw [if_neg (fun z => by rw [z] at this; omega)]
      exact this
  · by_cases q : y = x
    · rw [if_pos q] at h1; omega
    · rw [if_neg q] at h1 ⊢
      have z1 := hu y z hy h1 h2
      have z2 := hh d y x hd hx hy h1
      have z3 : z ≠ x := fun w => z2 (by rw [h2, w])
      rw [if_neg z3]
      exact z1
  · by_cases q : y = x
    · rw [if_pos q] at h1; omega
    · by_cases q' : y' = x
      · rw [if_pos q'] at h2; omega
      · rw [if_neg q] at h1
        rw [if_neg q'] at h2
        exact hj y y' z hy hy' h1 h2 h3 h4
  · by_cases q' : y = x
    · rw [if_pos q'] at h2; omega
    · rw [if_neg q'] at h2
      by_cases q : b' = d
      · rw [if_pos q] at h1
        intro w
        exact q' (hj y x z hy hxn h2 (by omega) w h1)
      · rw [if_neg q] at h1
        exact hh b' y z hb' h1 hy h2
  · by_cases q : y = x
    · rw [if_pos q]; omega
    · rw [if_neg q]; exact hw y hy
  · have := hp q k y hq hk hk' hy
    rw [if_neg (fun z => by rw [z] at this; omega)]
    exact this
theorem RPc.lay {t : MM} (h : RPc t) {x q0 k0 : Nat} (hq0 : q0 < 48) (hk0 : k0 < 150) (hk0' : (k0 : Int) < gN t 90 0 q0) (hxn : (x : Int) < gN t 12 0 6) (hx28 : 28 ≤ gN t 64 0 x) (hno : ∀ q k, q < 48 → k < 150 → (k : Int) < gN t 90 0 q → gN t 100 0 (150 * q + k) = x → q = q0 ∧ k = k0) :
    RPc (sN t 100 0 (150 * q0 + k0) x) := by
  have e6 : gN (sN t 100 0 (150 * q0 + k0) x) 12 0 6 = gN t 12 0 6 := by simp [gN_sN]
  have mK : ∀ K j, K ≠ 100 → gN (sN t 100 0 (150 * q0 + k0) x) K 0 j = gN t K 0 j := fun K j hK => by rw [gN_sN, if_neg (fun q => hK q.1)]
  have m64 : ∀ j, gN (sN t 100 0 (150 * q0 + k0) x) 64 0 j = gN t 64 0 j := fun j => mK 64 j (by decide)
  have m65 : ∀ j, gN (sN t 100 0 (150 * q0 + k0) x) 65 0 j = gN t 65 0 j := fun j => mK 65 j (by decide)
  have m66 : ∀ j, gN (sN t 100 0 (150 * q0 + k0) x) 66 0 j = gN t 66 0 j := fun j => mK 66 j (by decide)
  have m90 : ∀ j, gN (sN t 100 0 (150 * q0 + k0) x) 90 0 j = gN t 90 0 j := fun j => mK 90 j (by decide)
  have m100 : ∀ j, gN (sN t 100 0 (150 * q0 + k0) x) 100 0 j = if j = 150 * q0 + k0 then (x : Int) else gN t 100 0 j := fun j => by simp [gN_sN]
  have hp := h.p
  have hi := h.i
  unfold RPc at h ⊢
  rw [e6]
  simp only [m64, m65, m66, m90, m100]
  refine ⟨h.1, h.2.1, h.2.2.1, h.2.2.2.1, h.2.2.2.2.1, fun q k y hq hk hk' hy => ?_, fun q k q' k' y a1 a2 a3 a4 a5 a6 a7 a8 => ?_⟩
  · by_cases z : 150 * q + k = 150 * q0 + k0
    · rw [if_pos z] at hy
      obtain rfl : y = x := by omega
      exact ⟨hxn, hx28⟩
    · rw [if_neg z] at hy
      exact hp q k y hq hk hk' hy
  · by_cases z : 150 * q + k = 150 * q0 + k0
    · by_cases z' : 150 * q' + k' = 150 * q0 + k0
      · omega
      · rw [if_pos z] at a7
        rw [if_neg z'] at a8
        obtain rfl : y = x := by omega
        have := hno q' k' a3 a4 a6 a8
        omega
    · by_cases z' : 150 * q' + k' = 150 * q0 + k0
      · rw [if_neg z] at a7
        rw [if_pos z'] at a8
        obtain rfl : y = x := by omega
        have := hno q k a1 a2 a5 a7
        omega
      · rw [if_neg z] at a7
        rw [if_neg z'] at a8
        exact hi q k q' k' y a1 a2 a3 a4 a5 a6 a7 a8
/-- what a correction leaves -/
theorem cor_rel (h : RR N mc mm) (hN : N ≤ 1900) (hb : (b : Int) < gN mm 12 0 19) (hB : RBk mc mm b F n M Ln E) {p k0 x d ns ns' c : Nat} (hp : p < 2 * (F * n)) (hk0 : (k0 : Int) < gN mm 90 0 (16 * b + p)) {mc' mm' : MM}
    (hst : gN mm 108 0 (8 * b + fo F p) = 1 ∨ gN mm 108 0 (8 * b + fo F p) = 2) (hns : gN mm 111 0 (8 * b + fo F p) = ns) (hns' : ns' = ns ∨ (ns' = ns + 1 ∧ gN mm 112 0 (26 * (8 * b + fo F p) + (ns - 1)) < gN mm 110 0 (8 * b + fo F p))) (hc : gN mm 12 0 52 = c) (hx : (x : Int) < gN mm 12 0 6) (hd28 : d < 28)
    (cc : ∀ K i s, ¬ ((22 ≤ K ∧ K ≤ 24) ∧ i = 0) ∧ ¬ ((K = 35 ∨ K = 36) ∧ i = 16 * b + p ∧ s = k0) ∧ ¬ (K = 2 ∧ i = 8 * b + fo F p ∧ s = 7) ∧ ¬ (K = 26 ∧ i = 8 * b + fo F p ∧ s = ns ∧ ns' = ns + 1) ∧ ¬ (K = 38 ∧ i = 24 * (16 * b + p) + (ns' - 1) ∧ s = k0) ∧ ¬ (K = 38 ∧ ns' = ns + 1 ∧ ∃ p', p' < 2 * (F * n) ∧ fo F p' = fo F p ∧ i = 24 * (16 * b + p') + ns) → eq3 mc mc' K i s)
    (cm : ∀ K i s, ¬ (K = 12 ∧ (s = 0 ∨ s = 52)) ∧ ¬ (64 ≤ K ∧ K ≤ 66) ∧ ¬ ((K = 100 ∨ K = 101) ∧ s = 150 * (16 * b + p) + k0) ∧ ¬ (K = 111 ∧ s = 8 * b + fo F p) ∧ ¬ (K = 112 ∧ s = 26 * (8 * b + fo F p) + ns ∧ ns' = ns + 1) ∧ ¬ ((105 ≤ K ∧ K ≤ 107) ∧ s = c) → eq3 mm mm' K i s)
    (hzc : ∀ K i, gZ mc' K i = gZ mc K i) (hzm : ∀ K i k, gZ mm K i = some k → gZ mm' K i = some k) (hCC : ∀ K, gC mc' K = gC mc K)
    (w7 : gN mc' 2 (8 * b + fo F p) 7 = ns') (x111 : gN mm' 111 0 (8 * b + fo F p) = ns') (x52 : gN mm' 12 0 52 = (c : Int) + 1)
    (w26 : ns' = ns + 1 → gN mc' 26 (8 * b + fo F p) ns = gN mm 110 0 (8 * b + fo F p)) (x112 : ns' = ns + 1 → gN mm' 112 0 (26 * (8 * b + fo F p) + ns) = gN mm 110 0 (8 * b + fo F p))
    (w35 : gN mc' 35 (16 * b + p) k0 = x) (w36 : gN mc' 36 (16 * b + p) k0 = 0) (x100 : gN mm' 100 0 (150 * (16 * b + p) + k0) = x) (x101 : gN mm' 101 0 (150 * (16 * b + p) + k0) = 0)
    (x105 : gN mm' 105 0 c = ((150 * (16 * b + p) + k0 : Nat) : Int)) (x106 : gN mm' 106 0 c = ((ns' - 1 : Nat) : Int)) (x107 : gN mm' 107 0 c = d)
    (w38 : gN mc' 38 (24 * (16 * b + p) + (ns' - 1)) k0 = d)
    (w38n : ns' = ns + 1 → ∀ p' k : Nat, p' < 2 * (F * n) → fo F p' = fo F p → (k : Int) < gN mm 90 0 (16 * b + p') → ¬ (p' = p ∧ k = k0) → gN mc' 38 (24 * (16 * b + p') + ns) k = gN mc 38 (24 * (16 * b + p') + (ns - 1)) k)
    (hRC : RC mc' mm') (hRPc : RPc mm') : RR (N + 1) mc' mm' := by
  have hP := hB.hP
  have hS := hB.hS
  have q0 := hP.hb
  have q1 := hP.hn
  have q2 := hP.hL
  have q3 := hP.hE
  have q4 := hP.ml
  have hf := fo_lt hP.hF hp
  have hff := hB.ff _ hf
  have hPf := h.Pf
  have hcN := hPf.c
  have hpgp := (hB.pg p hp).pn
  have zns := hff.ns
  have zpr := hff.pr
  have zsb := hff.sb (by omega)
  have hns1 : 1 ≤ ns ∧ ns ≤ E := by omega
  have hnsE : ns' ≤ E := by
    rcases hns' with q | ⟨q, q'⟩
    · omega
    · have := zsb (ns - 1) (by omega)
      omega
  have cb : ∀ K i s', isBK K → ¬ CBk b K i → eq3 mc mc' K i s' := fun K i s' hK hn => cc K i s' ⟨by unfold isBK at hK; omega, fun q => hn (CBk.c (by omega) (by omega)), fun q => hn (CBk.b (by omega) (by omega)), fun q => hn (CBk.b (by omega) (by omega)), fun q => hn (CBk.f q.1 (by omega)), fun q => by
    obtain ⟨y1, y2, p', y3, y4, y5⟩ := q
    exact hn (CBk.f y1 (by omega))⟩
  have mb : ∀ K s', 78 ≤ K → K ≤ 126 → K < 105 ∨ 107 < K → K < 121 ∨ 125 < K → ¬ MBk b K s' → eq3 mm mm' K 0 s' := fun K s' h1 h2 h3 h4 hn => cm K 0 s' ⟨by omega, by omega, fun q => hn (MBk.f (by omega) (by omega)), fun q => hn (MBk.g (by omega) (by omega)), fun q => hn (MBk.h q.1 (by omega)), by omega⟩
  have cc' : ∀ K i s, K ≠ 38 → ¬ ((22 ≤ K ∧ K ≤ 24) ∧ i = 0) ∧ ¬ ((K = 35 ∨ K = 36) ∧ i = 16 * b + p ∧ s = k0) ∧ ¬ (K = 2 ∧ i = 8 * b + fo F p ∧ s = 7) ∧ ¬ (K = 26 ∧ i = 8 * b + fo F p ∧ s = ns ∧ ns' = ns + 1) → eq3 mc mc' K i s := fun K i s h38 hk => cc K i s ⟨hk.1, hk.2.1, hk.2.2.1, hk.2.2.2, fun q => h38 q.1, fun q => h38 q.1⟩
  have hgl : ∀ k s, k ≠ 150 * (16 * b + p) + k0 → glF mm' k s (gN mm' 12 0 52).toNat = glF mm k s (gN mm 12 0 52).toNat := fun k s hk => by
    rw [x52, hc, show ((c : Int) + 1).toNat = c + 1 by omega, Int.toNat_natCast, glF, x105, if_neg (fun q => by have := q.1; omega)]
    exact glF_congr (cm 102 0 k (by omega)).1 _ (fun j hj => ⟨(cm 105 0 j (by omega)).1, (cm 106 0 j (by omega)).1, (cm 107 0 j (by omega)).1⟩)
  have hgl0 : ∀ s, glF mm' (150 * (16 * b + p) + k0) s (gN mm' 12 0 52).toNat = if ns' - 1 ≤ s then (d : Int) else glF mm (150 * (16 * b + p) + k0) s (gN mm 12 0 52).toNat := fun s => by
    rw [x52, hc, show ((c : Int) + 1).toNat = c + 1 by omega, Int.toNat_natCast, glF, x105, x106, x107]
    by_cases q : ns' - 1 ≤ s
    · rw [if_pos ⟨rfl, by omega⟩, if_pos q]
    · rw [if_neg (fun z => q (by omega)), if_neg q]
      exact glF_congr (cm 102 0 _ (by omega)).1 _ (fun j hj => ⟨(cm 105 0 j (by omega)).1, (cm 106 0 j (by omega)).1, (cm 107 0 j (by omega)).1⟩)
  refine h.one (b0 := b) hzc hCC hb (cm 12 0 19 (by omega)).1 (h.C.mv2 (fun K i s hk => (cc' K i s (by omega) (by omega)).2.2) (fun K i k hk => by rw [hzc]; exact hk)) (h.M.mv2 (fun s hs => (cm 12 0 s (by omega)).2.2) hzm) (h.T.keep (cc' 10 0 5 (by omega) (by omega)).1 (cm 12 0 1 (by omega)).1 (fun k => (cc' 50 0 k (by omega) (by omega)).1) (fun k => (cm 59 0 k (by omega)).1)) (h.Sp.keep (fun K i s hk => cc' K i s (by omega) (by omega)) (fun K i s hk => cm K i s (by omega)))
    hRC (h.H.keep (by omega) (fun K i s hk => cc' K i s (by omega) (by omega)) (hCC 3) (fun K i s hk => cm K i s (by omega))) (h.Mi.keep (fun K i s hk => cc' K i s (by omega) (by omega)) (fun K i s hk => cm K i s (by omega))) (h.Pr.keep (fun i s _ => cc' 6 i s (by omega) (by omega)) (fun K s h1 h2 => cm K 0 s (by omega))) (h.Nb.keep (cc' 11 0 8 (by omega) (by omega)).1 (cm 12 0 19 (by omega)).1 (fun s => (cc' 56 0 s (by omega) (by omega)).2.2))
    (fun K i s hk => cc' K i s (by omega) (by omega)) cb (fun K i s hk => cm K i s (by omega)) mb (fun b' p' f' hbb hb3 hp' hf' h90 h7 hx => ?_) (by rw [(cm 12 0 69 (by omega)).1]; exact Int.le_refl _) (fun x => by rw [(cm 63 0 x (by omega)).1]; exact Int.le_refl _) ⟨F, n, M, Ln, E, hP.keep (fun K h1 h2 => (cm K 0 b (by omega)).1), hS.keep hP (fun K i s hk => cc' K i s (by unfold CBS at hk; omega) (by unfold CBS at hk; omega)) (fun K i k hk => by rw [hzc]; exact hk), hB.tx.keep (fun K i s hk => cc' K i s (by unfold CTx at hk; omega) (by unfold CTx at hk; omega)) (fun K i s hk => cm K i s (by unfold MTx at hk; omega)), fun p hp => (hB.pg p hp).keep (by omega) (fun K i s hk => cc' K i s (by unfold CPg at hk; omega) (by unfold CPg at hk; omega)) (fun K i s hk => cm K i s (by unfold MPg at hk; omega)), fun p hp => (hB.po p hp).keep (by omega) (fun K i s hk => cc' K i s (by unfold CPo at hk; omega) (by unfold CPo at hk; omega)) (fun K i s hk => cm K i s (by unfold MPo at hk; omega)), fun p' hp' => ?_, fun f' hf' => ?_, fun p' hp' => ?_, fun f hf => (hB.se f hf).keep (by omega) (fun p hp => by have := (hB.pg p hp).pn; omega) (fun K i s hk => cc' K i s (by unfold CSe at hk; omega) (by unfold CSe at hk; omega)) (fun K i s hk => cm K i s (by unfold MSe at hk; omega)) (fun x => by rw [(cm 63 0 x (by omega)).1]; exact Int.le_refl _), fun s hs => (hB.sh s hs).keep (by omega) (fun K i s' hk => cc' K i s' (by unfold CSh at hk; omega) (by unfold CSh at hk; omega)) (fun K i s' hk => cm K i s' (by unfold MSh at hk; omega)), hB.lv.keep (by omega) (by omega) (by omega) (fun K i s hk => cc' K i s (by unfold CLv at hk; omega) (by unfold CLv at hk; omega)) (fun K i s hk => cm K i s (by unfold MLv at hk; omega))⟩ ⟨fun p' hp' => ?_, fun p1 p2 h1 h2 => ?_, fun p' hp' => ?_, fun p' hp' => ?_, fun k hk => ?_, by rw [x52]; omega⟩ hRPc
  · -- other books
    have y7 : gN mc' 2 (8 * b' + f') 7 = gN mc 2 (8 * b' + f') 7 := (cc' 2 _ 7 (by omega) (by omega)).1
    have y108 := (cm 108 0 (8 * b' + f') (by omega)).1
    have y90 := (cm 90 0 (16 * b' + p') (by omega)).1
    refine ⟨fun z => by rw [(cm 83 0 (16 * b' + p') (by omega)).1]; exact hx.st (by omega), fun k s hk hs => ?_, fun j k hj hk he => ?_⟩
    · rw [y90] at hk
      rw [y7] at hs
      rw [hgl _ _ (by omega), (cc 38 (24 * (16 * b' + p') + s) k ⟨by omega, by omega, by omega, by omega, by omega, fun q => by
        obtain ⟨y1, y2, p2, y3, y4, y5⟩ := q
        omega⟩).1]
      exact hx.g k s hk hs
    · by_cases qj : j = c
      · rw [qj, x105] at he; omega
      · rw [(cm 105 0 j (by omega)).1] at he
        rw [x52] at hj
        have := hx.c j k (by omega) hk he
        rw [y108, y7, (cm 106 0 j (by omega)).1]
        exact this
  · -- places
    have hx := hB.pl p' hp'
    have hpn := (hB.pg p' hp').pn
    have y90 := (cm 90 0 (16 * b + p') (by omega)).1
    have key : ∀ k : Nat, (k : Int) < gN mm 90 0 (16 * b + p') → (p' = p ∧ k = k0) ∨ (gN mc' 35 (16 * b + p') k = gN mc 35 (16 * b + p') k ∧ gN mc' 36 (16 * b + p') k = gN mc 36 (16 * b + p') k ∧ gN mm' 100 0 (150 * (16 * b + p') + k) = gN mm 100 0 (150 * (16 * b + p') + k) ∧ gN mm' 101 0 (150 * (16 * b + p') + k) = gN mm 101 0 (150 * (16 * b + p') + k)) := fun k hk => by
      by_cases q : p' = p ∧ k = k0
      · exact Or.inl q
      · exact Or.inr ⟨(cc' 35 _ k (by omega) (by omega)).1, (cc' 36 _ k (by omega) (by omega)).1, (cm 100 0 _ (by omega)).1, (cm 101 0 _ (by omega)).1⟩
    have hx4 := h.Ca.2.2.1
    refine ⟨fun k hk => ?_, fun k hk => ?_, fun k hk => ?_⟩
    · rw [y90] at hk
      rw [(cc' 34 _ k (by omega) (by omega)).1, (cm 99 0 _ (by omega)).1]
      exact hx.w k hk
    · rw [y90] at hk
      rcases key k hk with ⟨rfl, rfl⟩ | ⟨y1, y2, y3, y4⟩
      · rw [w35, x100]; omega
      · rw [y1, y3]; exact hx.p k hk
    · rw [y90] at hk
      rcases key k hk with ⟨rfl, rfl⟩ | ⟨y1, y2, y3, y4⟩
      · rw [w36, x101, x100]; omega
      · rw [y2, y3, y4]; exact hx.t k hk
  · -- formes
    by_cases q : f' = fo F p
    · subst q
      have z1 := hff.how
      have z2 := hff.dh
      have z4 := hff.sk
      have z6 := hff.oh
      have z7 := hff.rd
      have y108 := (cm 108 0 (8 * b + fo F p) (by omega)).1
      refine ⟨by rw [(cc' 2 (8 * b + fo F p) 4 (by omega) (by omega)).1, y108]; exact z1, by rw [(cc' 2 (8 * b + fo F p) 5 (by omega) (by omega)).1, (cm 109 0 (8 * b + fo F p) (by omega)).1, y108]; exact z4, by rw [(cc' 2 (8 * b + fo F p) 6 (by omega) (by omega)).1, (cm 110 0 (8 * b + fo F p) (by omega)).1, y108]; exact zpr, by rw [w7, x111, y108]; omega, by rw [(cc' 26 (8 * b + fo F p) 0 (by omega) (by omega)).1]; exact hff.s0, fun _ s hs => ?_, ?_, ?_, ?_⟩
      · rw [x111] at hs
        rw [(cm 110 0 (8 * b + fo F p) (by omega)).1]
        by_cases qs : s = ns ∧ ns' = ns + 1
        · rw [qs.1, w26 qs.2, x112 qs.2]
          have := zsb (ns - 1) (by omega)
          omega
        · rw [(cc' 26 (8 * b + fo F p) s (by omega) (by omega)).1, (cm 112 0 (26 * (8 * b + fo F p) + s) (by omega)).1]
          exact zsb s (by omega)
      · rw [y108, (cc' 2 (8 * b + fo F p) 8 (by omega) (by omega)).1, (cm 113 0 (8 * b + fo F p) (by omega)).1, (cm 12 0 69 (by omega)).1]
        exact z6
      · rw [(cc' 2 (8 * b + fo F p) 9 (by omega) (by omega)).1, y108, (cm 114 0 (8 * b + fo F p) (by omega)).1, (cm 113 0 (8 * b + fo F p) (by omega)).1, (cm 12 0 69 (by omega)).1]
        exact z2
      · rw [(cc' 2 (8 * b + fo F p) 10 (by omega) (by omega)).1, y108, (cm 115 0 (8 * b + fo F p) (by omega)).1]
        exact z7
    · exact (hB.ff f' hf').keep (by omega) (fun K i s' hk => cc' K i s' (by unfold CFo at hk; omega) (by unfold CFo at hk; omega)) (fun K i s' hk => cm K i s' (by unfold MFo at hk; omega)) (by rw [(cm 12 0 69 (by omega)).1]; exact Int.le_refl _)
  · -- prints
    have hx := hB.pn p' hp'
    have hpn := (hB.pg p' hp').pn
    have hfl := fo_lt hP.hF hp'
    have y108 := (cm 108 0 (8 * b + fo F p') (by omega)).1
    have y90 := (cm 90 0 (16 * b + p') (by omega)).1
    have hns2 := (hB.ff _ hfl).ns
    have h7 : gN mc 2 (8 * b + fo F p) 7 = ns := by omega
    refine ⟨fun z => by rw [(cm 83 0 (16 * b + p') (by omega)).1]; exact hx.st (by omega), fun k s hk hs => ?_, fun j k hj hk he => ?_⟩
    · rw [y90] at hk
      by_cases qf : fo F p' = fo F p
      · rw [qf] at hs hx
        rw [w7] at hs
        by_cases qk : p' = p ∧ k = k0
        · obtain ⟨rfl, rfl⟩ := qk
          rw [hgl0]
          by_cases qs : ns' - 1 ≤ s
          · rw [if_pos qs, show s = ns' - 1 by omega, w38, if_neg (by omega)]
            omega
          · rw [if_neg qs, (cc 38 (24 * (16 * b + p') + s) k ⟨by omega, by omega, by omega, by omega, by omega, fun q => by
              obtain ⟨y1, y2, p2, y3, y4, y5⟩ := q
              omega⟩).1]
            exact hx.g k s hk (by omega)
        · rw [hgl _ _ (by omega)]
          by_cases qs : s = ns ∧ ns' = ns + 1
          · rw [qs.1, w38n qs.2 p' k hp' qf hk qk]
            have e : glF mm (150 * (16 * b + p') + k) ns (gN mm 12 0 52).toNat = glF mm (150 * (16 * b + p') + k) (ns - 1) (gN mm 12 0 52).toNat := by
              have : ∀ m, (m : Int) ≤ gN mm 12 0 52 → glF mm (150 * (16 * b + p') + k) ns m = glF mm (150 * (16 * b + p') + k) (ns - 1) m := by
                intro m
                induction m with
                | zero => intro _; rfl
                | succ m ih =>
                  intro hm
                  rw [glF, glF, ih (by omega)]
                  by_cases q1 : gN mm 105 0 m = ((150 * (16 * b + p') + k : Nat) : Int)
                  · have := hx.c m k (by omega) (by omega) q1
                    rw [if_pos ⟨q1, by omega⟩, if_pos ⟨q1, by omega⟩]
                  · rw [if_neg (fun z => q1 z.1), if_neg (fun z => q1 z.1)]
              exact this _ (by omega)
            rw [e]
            exact hx.g k (ns - 1) hk (by omega)
          · rw [(cc 38 (24 * (16 * b + p') + s) k ⟨by omega, by omega, by omega, by omega, by omega, fun q => by
              obtain ⟨y1, y2, p2, y3, y4, y5⟩ := q
              omega⟩).1]
            exact hx.g k s hk (by omega)
      · rw [(cc' 2 (8 * b + fo F p') 7 (by omega) (by omega)).1] at hs
        have hpp : p' ≠ p := fun z => qf (by rw [z])
        rw [hgl _ _ (by omega), (cc 38 (24 * (16 * b + p') + s) k ⟨by omega, by omega, by omega, by omega, by omega, fun q => by
          obtain ⟨y1, y2, p2, y3, y4, y5⟩ := q
          obtain rfl : p2 = p' := by omega
          exact qf y4⟩).1]
        exact hx.g k s hk hs
    · rw [y108]
      by_cases qj : j = c
      · rw [qj, x105] at he
        obtain rfl : p' = p := by omega
        rw [qj, x106, w7]
        omega
      · rw [(cm 105 0 j (by omega)).1] at he
        rw [x52] at hj
        have hz := hx.c j k (by omega) hk he
        rw [(cm 106 0 j (by omega)).1]
        by_cases qf : fo F p' = fo F p
        · rw [qf] at hz ⊢
          rw [w7]
          omega
        · rw [(cc' 2 (8 * b + fo F p') 7 (by omega) (by omega)).1]
          exact hz
  · rw [(cm 122 0 p' (by omega)).1]
    rcases hPf.f p' hp' with z | ⟨b', f', n', z1, z2, z3, z4, z5⟩
    · exact Or.inl z
    · exact Or.inr ⟨b', f', n', by rw [(cm 12 0 19 (by omega)).1]; exact z1, by rw [(cm 74 0 b' (by omega)).1]; exact z2, z3, z4, by rw [(cm 108 0 _ (by omega)).1]; exact z5⟩
  · rw [(cm 122 0 p1 (by omega)).1, (cm 122 0 p2 (by omega)).1]
    exact hPf.u p1 p2 h1 h2
  · rw [(cm 123 0 p' (by omega)).1, (cm 12 0 69 (by omega)).1]
    exact hPf.s p' hp'
  · rw [(cm 124 0 p' (by omega)).1, (cm 12 0 69 (by omega)).1]
    exact hPf.h p' hp'
  · rw [(cm 125 0 k (by omega)).1]
    have := hPf.t k hk
    omega
theorem cpN_of {X : Type} {m : MM} {K i1 i2 n1 n2 : Nat} {n : Int} {f : MM → Option X} (h1 : gZ m K i1 = some n1) (h2 : gZ m K i2 = some n2) (h : 0 ≤ n ∧ n ≤ n1 ∧ n ≤ n2) : cpN m K i1 0 i2 0 n f = f (cpM m K i1 0 i2 0 n.toNat) := by
  unfold cpN
  rw [lenI_of h1, lenI_of h2, if_pos (by omega)]
  rfl
/-- a new state begins as a copy of the one before -/
def BgW (b F n f ns : Nat) (K i _ : Nat) : Prop := K = 38 ∧ ∃ p, p < 2 * (F * n) ∧ fo F p = f ∧ i = 24 * (16 * b + p) + ns
def BgC (m0 : MM) (b F n f ns j : Nat) (s : MM) : Prop := FrC (BgW b F n f ns) m0 s ∧ ∀ j' k : Nat, j' < j → j' < F → (k : Int) < gN m0 5 (16 * b + fpg F f j') 4 → gN s 38 (24 * (16 * b + fpg F f j') + ns) k = gN m0 38 (24 * (16 * b + fpg F f j') + (ns - 1)) k
theorem bg_loop {m0 : MM} (hP : BP mm b F n M Ln E) (hS : BS m0 b F n M Ln E) {f ns : Nat} (hf : f < 2 * n) (hns : 1 ≤ ns ∧ ns < E) (h7 : gN m0 2 (8 * b + f) 7 = ns) (h5 : ∀ p, p < 2 * (F * n) → 0 ≤ gN m0 5 (16 * b + p) 4 ∧ gN m0 5 (16 * b + p) 4 ≤ ((M * Ln : Nat) : Int)) :
    ∀ (d j : Nat) (s : MM), F - j = d → j ≤ F → BgC m0 b F n f ns j s → ∃ s', lpb (fun s : Int × MM => b_X2_beginStateIfPrinted_54 (8 * b + f) (8 * b + f) ((F : Nat) : Int) s.1 s.2) ((j : Int), s) = some s' ∧ BgC m0 b F n f ns F s' := by
  have q0 := hP.hb
  have q1 := hP.hn
  have q3 := hP.hE
  have hF8 : F ≤ 8 := by rcases hP.hF with z | z | z <;> omega
  intro d
  induction d with
  | zero =>
    intro j s hd hj hK
    obtain rfl : j = F := by omega
    rw [lpb_eq]
    simp only
    unfold b_X2_beginStateIfPrinted_54
    rw [if_pos (show ((j : Nat) : Int) ≤ (j : Int) from Int.le_refl _)]
    exact ⟨s, rfl, hK⟩
  | succ d ih =>
    intro j s hd hj hK
    obtain ⟨g1, g2⟩ := hK
    have hjF : j < F := by omega
    have hpl := fpg_lt (n := n) hP.hF hf hjF
    have hS' : BS s b F n M Ln E := g1.BS hS hP (fun K i s hk q => by unfold CBS at hk; have := q.1; omega)
    have x7 : gN s 2 (8 * b + f) 7 = ns := by rw [(g1.1 2 _ 7 (fun q => absurd q.1 (by decide))).1, h7]
    have x5 : gN s 5 (16 * b + fpg F f j) 4 = gN m0 5 (16 * b + fpg F f j) 4 := (g1.1 5 _ 4 (fun q => absurd q.1 (by decide))).1
    have hb5 := h5 _ hpl
    rw [lpb_eq]
    simp only
    unfold b_X2_beginStateIfPrinted_54 f_X5_beginState
    rw [if_neg (show ¬ ((F : Nat) : Int) ≤ (j : Int) by omega), ldR_of (hS'.z19 f hf) (by omega), tnc, hS'.e19 f j hf hjF, nk_some, nk_of (hS'.p8 _ hpl), x7, if_neg (show ¬ (ns : Int) < 1 by omega), nk_of (hS'.q3 _ hpl), lenI_of (hS'.z37 _ hpl), if_neg (show ¬ (E : Int) ≤ (ns : Int) by omega), nk_of (hS'.q3 _ hpl), ldR_of (hS'.z37 _ hpl) (by omega), show ((ns : Int) - 1).toNat = ns - 1 by omega, hS'.e37 _ _ hpl (by omega), nk_some, nk_of (hS'.q3 _ hpl), ldR_of (hS'.z37 _ hpl) (by omega), tnc, hS'.e37 _ _ hpl (by omega), nk_some, x5, cpN_of (hS'.z38 _ _ hpl (by omega)) (hS'.z38 _ _ hpl (by omega)) (by omega), bV_ok, ck_of ⟨by omega, by omega⟩]
    have hfo := fo_fpg hP.hF (show f < 8 by omega) hjF
    have z := ih (j + 1) (cpM s 38 (24 * (16 * b + fpg F f j) + (ns - 1)) 0 (24 * (16 * b + fpg F f j) + ns) 0 (gN m0 5 (16 * b + fpg F f j) 4).toNat) (by omega) (by omega) ⟨g1.tr ⟨fun K i k hk => ⟨by rw [gN_cpM, if_neg (fun q => hk ⟨q.1, fpg F f j, hpl, hfo, q.2.1⟩)], rfl, rfl⟩, fun _ _ => rfl, fun _ => rfl⟩, fun j' k h1 h2 h3 => by
      rw [gN_cpM]
      by_cases q : j' = j
      · subst q
        rw [if_pos ⟨rfl, rfl, by omega, by omega⟩, show 0 + (k - 0) = k by omega]
        refine (g1.1 38 _ k (fun q => ?_)).1
        obtain ⟨-, p', y1, y2, y3⟩ := q
        omega
      · have e1 := pif_fpg (f := f) hP.hF hjF
        have e2 := pif_fpg (f := f) hP.hF h2
        have hne : fpg F f j' ≠ fpg F f j := fun z => q (by rw [← e1, ← e2, z])
        rw [if_neg (fun z => hne (by have := z.2.1; omega))]
        exact g2 j' k (by omega) h2 h3⟩
    rw [show ((j + 1 : Nat) : Int) = (j : Int) + 1 by omega] at z
    exact z
theorem begin_c {m : MM} (hP : BP mm b F n M Ln E) (hS : BS m b F n M Ln E) {f ns : Nat} (hf : f < 2 * n) (hns : 1 ≤ ns ∧ ns ≤ E) (h7 : gN m 2 (8 * b + f) 7 = ns) (hlt : gN m 26 (8 * b + f) (ns - 1) < gN m 2 (8 * b + f) 6 → ns < E) (h5 : ∀ p, p < 2 * (F * n) → 0 ≤ gN m 5 (16 * b + p) 4 ∧ gN m 5 (16 * b + p) 4 ≤ ((M * Ln : Nat) : Int)) :
    ∃ s', f_X2_beginStateIfPrinted m (8 * b + f) = some (.inl none, s') ∧ ((gN m 2 (8 * b + f) 6 ≤ gN m 26 (8 * b + f) (ns - 1) ∧ s' = m) ∨ (gN m 26 (8 * b + f) (ns - 1) < gN m 2 (8 * b + f) 6 ∧ ∃ s1, BgC (sN m 26 (8 * b + f) ns (gN m 2 (8 * b + f) 6)) b F n f ns F s1 ∧ s' = sN s1 2 (8 * b + f) 7 ((ns : Int) + 1))) := by
  have q3 := hP.hE
  unfold f_X2_beginStateIfPrinted
  rw [nk_of (hS.o2 f hf), h7, ldN_of (hS.z26 f hf) (by omega), show ((ns : Int) - 1).toNat = ns - 1 by omega]
  by_cases q : gN m 2 (8 * b + f) 6 ≤ gN m 26 (8 * b + f) (ns - 1)
  · rw [if_pos q]
    exact ⟨m, rfl, Or.inl ⟨q, rfl⟩⟩
  · have hnsE := hlt (by omega)
    rw [if_neg q, nk_of (hS.o2 f hf), lenI_of (hS.z26 f hf), if_pos (show (ns : Int) < (E : Int) by omega), nk_of (hS.o2 f hf), stN_of (hS.z26 f hf) (by omega), tnc]
    have hS' : BS (sN m 26 (8 * b + f) ns (gN m 2 (8 * b + f) 6)) b F n M Ln E := hS.keep hP (fun K i s hk => eq3.sN (by unfold CBS at hk; omega)) (fun _ _ _ q => q)
    obtain ⟨s1, e1, e2⟩ := bg_loop hP hS' hf ⟨hns.1, hnsE⟩ (by rw [gN_sN, if_neg (by omega), h7]) (fun p hp => by rw [gN_sN, if_neg (by omega)]; exact h5 p hp) _ 0 _ rfl (by omega) ⟨FrC.rf, fun j' k h1 _ _ => by omega⟩
    have e1' : lpb (fun s : Int × MM => b_X2_beginStateIfPrinted_54 (8 * b + f) (8 * b + f) ((F : Nat) : Int) s.1 s.2) (0, sN m 26 (8 * b + f) ns (gN m 2 (8 * b + f) 6)) = some s1 := e1
    rw [nk_of (hS'.o0 f hf), lenI_of (hS'.z19 f hf), e1', Option.bind_some]
    unfold j_X2_beginStateIfPrinted_0_82
    have x7 : gN s1 2 (8 * b + f) 7 = ns := by rw [(e2.1.1 2 _ 7 (fun q => absurd q.1 (by decide))).1, gN_sN, if_neg (by omega), h7]
    rw [x7, ck_of ⟨by omega, by omega⟩, lt_eq]
    exact ⟨_, rfl, Or.inr ⟨by omega, s1, e2, rfl⟩⟩
/-- a piece in a place makes room for another -/
theorem replace_c {m : MM} (hP : BP mm b F n M Ln E) (hS : BS m b F n M Ln E) (hC : SC m) {p k0 st d x : Nat} {ow : Int} (hp : p < 2 * (F * n)) (hk0 : k0 < M * Ln) (hst : st < E) (hw : gN m 34 (16 * b + p) k0 = d) (hd : d < 28) (hx : gN m 24 0 d = x) (hx4 : x < 400) {y : Int} (hy : gN m 35 (16 * b + p) k0 = y) (hyb : y = -1 ∨ ∃ yn dy : Nat, yn < 400 ∧ dy < 28 ∧ y = yn ∧ gN m 20 0 yn = dy) :
    ∃ m9, ((y = -1 ∧ m9 = sN (sN m 24 0 d (gN m 23 0 x)) 22 0 x ow) ∨ ∃ yn dy : Nat, yn < 400 ∧ dy < 28 ∧ y = yn ∧ gN m 20 0 yn = dy ∧ m9 = pOn (sN (sN m 24 0 d (gN m 23 0 x)) 22 0 x ow) 22 23 24 dy yn) ∧ f_X5_replace m (16 * b + p) (k0 : Int) (st : Int) 0 ow = some (.inl none, sN (sN (sN m9 35 (16 * b + p) k0 x) 36 (16 * b + p) k0 0) 38 (24 * (16 * b + p) + st) k0 (gN m 20 0 x)) := by
  have hC3 : SC (sN (sN m 24 0 d (gN m 23 0 x)) 22 0 x ow) := hC.mv2 (fun _ _ _ _ => rfl) (fun _ _ _ q => q)
  have hS3 : BS (sN (sN m 24 0 d (gN m 23 0 x)) 22 0 x ow) b F n M Ln E := hS.keep hP (fun K i s hk => (eq3.sN (by unfold CBS at hk; omega)).tr (eq3.sN (by unfold CBS at hk; omega))) (fun _ _ _ q => q)
  have y35 : gN (sN (sN m 24 0 d (gN m 23 0 x)) 22 0 x ow) 35 (16 * b + p) k0 = y := by rw [gN_sN, if_neg (by omega), gN_sN, if_neg (by omega), hy]
  have tk : f_X1_take m 0 (d : Int) ow = some (.inl (some (aI (x : Int))), sN (sN m 24 0 d (gN m 23 0 x)) 22 0 x ow) := by
    unfold f_X1_take
    rw [nk_of hC.c4, ldN_of hC.z24 (by omega), tnc, hx, if_neg (show ¬ (x : Int) = -1 by omega), nk_of hC.c4, nk_of hC.c3, ldN_of hC.z23 (by omega), tnc, stN_of hC.z24 (by omega), tnc]
    have hC1 : SC (sN m 24 0 d (gN m 23 0 x)) := hC.mv2 (fun _ _ _ _ => rfl) (fun _ _ _ q => q)
    rw [nk_of hC1.c2, stN_of hC1.z22 (by omega), tnc]
  have fin : ∀ m9, BS m9 b F n M Ln E → SC m9 → gN m9 20 0 x = gN m 20 0 x → j_X5_replace_0_48 m9 (16 * b + p) (k0 : Int) (st : Int) 0 (x : Int) = some (.inl none, sN (sN (sN m9 35 (16 * b + p) k0 x) 36 (16 * b + p) k0 0) 38 (24 * (16 * b + p) + st) k0 (gN m 20 0 x)) := fun m9 hS9 hC9 h20 => by
    unfold j_X5_replace_0_48
    rw [nk_of (hS9.q1 p hp), stN_of (hS9.z35 p hp) (by omega), tnc]
    have hS10 : BS (sN m9 35 (16 * b + p) k0 (x : Int)) b F n M Ln E := hS9.keep hP (fun K i s hk => eq3.sN (by unfold CBS at hk; omega)) (fun _ _ _ q => q)
    rw [nk_of (hS10.q2 p hp), stN_of (hS10.z36 p hp) (by omega), tnc]
    have hS11 : BS (sN (sN m9 35 (16 * b + p) k0 (x : Int)) 36 (16 * b + p) k0 0) b F n M Ln E := hS10.keep hP (fun K i s hk => eq3.sN (by unfold CBS at hk; omega)) (fun _ _ _ q => q)
    have hC11 : SC (sN (sN m9 35 (16 * b + p) k0 (x : Int)) 36 (16 * b + p) k0 0) := hC9.mv2 (fun _ _ _ _ => rfl) (fun _ _ _ q => q)
    have y20 : gN (sN (sN m9 35 (16 * b + p) k0 (x : Int)) 36 (16 * b + p) k0 0) 20 0 x = gN m 20 0 x := by rw [gN_sN, if_neg (by omega), gN_sN, if_neg (by omega), h20]
    rw [nk_of (hS11.q3 p hp), ldR_of (hS11.z37 p hp) (by omega), tnc, hS11.e37 p st hp hst, nk_some, nk_of hC11.c0, ldN_of hC11.z20 (by omega), tnc, y20, stN_of (hS11.z38 p st hp hst) (by omega), tnc]
  unfold f_X5_replace
  rw [nk_of (hS.q0 p hp), ldN_of (hS.z34 p hp) (by omega), tnc, hw, tk, bI_ok, nk_of (hS3.q1 p hp), ldN_of (hS3.z35 p hp) (by omega), tnc, y35, if_pos (show ¬ (x : Int) = -1 by omega)]
  rcases hyb with hy1 | ⟨yn, dy, a1, a2, a3, a4⟩
  · rw [if_pos hy1, fin _ hS3 hC3 (by rw [gN_sN, if_neg (by omega), gN_sN, if_neg (by omega)])]
    exact ⟨_, Or.inl ⟨hy1, rfl⟩, rfl⟩
  · have y20 : gN (sN (sN m 24 0 d (gN m 23 0 x)) 22 0 x ow) 20 0 yn = dy := by rw [gN_sN, if_neg (by omega), gN_sN, if_neg (by omega), a4]
    rw [if_neg (show ¬ y = -1 by omega), nk_of hC3.c0, a3, ldN_of hC3.z20 (by omega), tnc, y20, putOn_c hC3 a2 a1, bV_ok, fin _ (hS3.keep hP (fun K i s hk => ((eq3.sN (by unfold CBS at hk; omega)).tr (eq3.sN (by unfold CBS at hk; omega))).tr (eq3.sN (by unfold CBS at hk; omega))) (fun _ _ _ q => q)) (hC3.mv2 (fun _ _ _ _ => rfl) (fun _ _ _ q => q)) (by simp [pOn, gN_sN])]
    exact ⟨_, Or.inr ⟨yn, dy, a1, a2, rfl, a4, rfl⟩, rfl⟩
theorem c333 {t : MM} (hM : SM t) {idx w x c ns' : Nat} (hidx : idx < 7200) (hw : w < 24) (hx : x < 400) (hc : gN t 12 0 52 = c) (hc2 : c < 2000) (hns : gN t 111 0 w = ns') (h1 : 1 ≤ ns' ∧ ns' ≤ 25) :
    j_X12_correct_0_333 t 0 (idx : Int) (w : Int) (x : Int) = some (.inl (some (aI ((ns' : Int) - 1))), sN (sN (sN (sN t 105 0 c (idx : Int)) 106 0 c ((ns' : Int) - 1)) 107 0 c (gN t 62 0 x)) 12 0 52 ((c : Int) + 1)) := by
  unfold j_X12_correct_0_333
  rw [nk_of hM.r53, hc, stN_of hM.z105 (by omega), tnc]
  have hM1 : SM (sN t 105 0 c (idx : Int)) := hM.mv (fun _ => rfl) (fun _ _ _ q => q)
  have y52 : gN (sN t 105 0 c (idx : Int)) 12 0 52 = c := by rw [gN_sN, if_neg (by omega), hc]
  have y111 : gN (sN t 105 0 c (idx : Int)) 111 0 w = ns' := by rw [gN_sN, if_neg (by omega), hns]
  rw [nk_of hM1.r54, nk_of hM1.r59, ldN_of hM1.z111 (by omega), tnc, y111, ck_of ⟨by omega, by omega⟩, y52, stN_of hM1.z106 (by omega), tnc]
  have hM2 : SM (sN (sN t 105 0 c (idx : Int)) 106 0 c ((ns' : Int) - 1)) := hM1.mv (fun _ => rfl) (fun _ _ _ q => q)
  have z52 : gN (sN (sN t 105 0 c (idx : Int)) 106 0 c ((ns' : Int) - 1)) 12 0 52 = c := by rw [gN_sN, if_neg (by omega), y52]
  have z62 : gN (sN (sN t 105 0 c (idx : Int)) 106 0 c ((ns' : Int) - 1)) 62 0 x = gN t 62 0 x := by rw [gN_sN, if_neg (by omega), gN_sN, if_neg (by omega)]
  rw [nk_of hM2.r55, nk_of hM2.r46, ldN_of hM2.z99 (by omega), tnc]
  unfold f_X12_printOf j_X12_printOf_0_30
  rw [if_pos (show ¬ (x : Int) = -1 by omega), if_pos (show ¬ (0 : Int) = 1 by decide), nk_of hM2.r7, ldN_of hM2.z62 (by omega), tnc, z62, Option.bind_some, z52, stN_of hM2.z107 (by omega), tnc]
  have hM3 : SM (sN (sN (sN t 105 0 c (idx : Int)) 106 0 c ((ns' : Int) - 1)) 107 0 c (gN t 62 0 x)) := hM2.mv (fun _ => rfl) (fun _ _ _ q => q)
  have v52 : gN (sN (sN (sN t 105 0 c (idx : Int)) 106 0 c ((ns' : Int) - 1)) 107 0 c (gN t 62 0 x)) 12 0 52 = c := by rw [gN_sN, if_neg (by omega), z52]
  rw [v52, ck_of ⟨by omega, by omega⟩, lt_eq]
  have hM4 : SM (sN (sN (sN (sN t 105 0 c (idx : Int)) 106 0 c ((ns' : Int) - 1)) 107 0 c (gN t 62 0 x)) 12 0 52 ((c : Int) + 1)) := hM3.mv (fun _ => rfl) (fun _ _ _ q => q)
  have v111 : gN (sN (sN (sN (sN t 105 0 c (idx : Int)) 106 0 c ((ns' : Int) - 1)) 107 0 c (gN t 62 0 x)) 12 0 52 ((c : Int) + 1)) 111 0 w = ns' := by rw [gN_sN, if_neg (by omega), gN_sN, if_neg (by omega), gN_sN, if_neg (by omega), y111]
  rw [nk_of hM4.r59, ldN_of hM4.z111 (by omega), tnc, v111, ck_of ⟨by omega, by omega⟩]
theorem c234 {t : MM} (hM : SM t) {b p idx w x c ns ns' : Nat} (hbp : b < 3 ∧ p < 16) (hidx : idx < 7200) (hw : w < 24) (hx : x < 400) (hc : gN t 12 0 52 = c) (hc2 : c < 2000) (hns : gN t 111 0 w = ns) (h1 : 1 ≤ ns ∧ ns' ≤ 24) (hlt : (gN t 110 0 w ≤ gN t 112 0 (26 * w + (ns - 1)) ∧ ns' = ns) ∨ (gN t 112 0 (26 * w + (ns - 1)) < gN t 110 0 w ∧ ns' = ns + 1)) :
    ∃ t2, ((ns' = ns ∧ t2 = sN (sN (sN t 100 0 idx (x : Int)) 101 0 idx 0) 64 0 x (100 + 100 * (b : Int) + (p : Int))) ∨ (ns' = ns + 1 ∧ t2 = sN (sN (sN (sN (sN t 100 0 idx (x : Int)) 101 0 idx 0) 64 0 x (100 + 100 * (b : Int) + (p : Int))) 112 0 (26 * w + ns) (gN t 110 0 w)) 111 0 w ((ns : Int) + 1))) ∧
      j_X12_correct_0_234 t 0 (b : Int) (p : Int) (idx : Int) (w : Int) (x : Int) = some (.inl (some (aI ((ns' : Int) - 1))), sN (sN (sN (sN t2 105 0 c (idx : Int)) 106 0 c ((ns' : Int) - 1)) 107 0 c (gN t 62 0 x)) 12 0 52 ((c : Int) + 1)) := by
  unfold j_X12_correct_0_234
  rw [nk_of hM.r47, stN_of hM.z100 (by omega), tnc]
  have hM1 : SM (sN t 100 0 idx (x : Int)) := hM.mv (fun _ => rfl) (fun _ _ _ q => q)
  rw [nk_of hM1.r48, stN_of hM1.z101 (by omega), tnc]
  have hM2 : SM (sN (sN t 100 0 idx (x : Int)) 101 0 idx 0) := hM1.mv (fun _ => rfl) (fun _ _ _ q => q)
  rw [nk_of hM2.r9, ck_of ⟨by omega, by omega⟩, stN_of hM2.z64 (by omega), tnc]
  have hM3 : SM (sN (sN (sN t 100 0 idx (x : Int)) 101 0 idx 0) 64 0 x (100 + 100 * (b : Int) + (p : Int))) := hM2.mv (fun _ => rfl) (fun _ _ _ q => q)
  have yK : ∀ K k, K ≠ 100 → K ≠ 101 → K ≠ 64 → gN (sN (sN (sN t 100 0 idx (x : Int)) 101 0 idx 0) 64 0 x (100 + 100 * (b : Int) + (p : Int))) K 0 k = gN t K 0 k := fun K k h1 h2 h3 => by rw [gN_sN, if_neg (by omega), gN_sN, if_neg (by omega), gN_sN, if_neg (by omega)]
  generalize hg : sN (sN (sN t 100 0 idx (x : Int)) 101 0 idx 0) 64 0 x (100 + 100 * (b : Int) + (p : Int)) = t3 at *
  have y110 := yK 110 w (by decide) (by decide) (by decide)
  have y111 := yK 111 w (by decide) (by decide) (by decide)
  have y112 := yK 112 (26 * w + (ns - 1)) (by decide) (by decide) (by decide)
  rw [hns] at y111
  rw [nk_of hM3.r58, ldN_of hM3.z110 (by omega), tnc, y110, nk_of hM3.r60, nk_of hM3.r59, ldN_of hM3.z111 (by omega), tnc, y111, ldN_of hM3.z112 (by omega), show (26 * (w : Int) + (ns : Int) - 1).toNat = 26 * w + (ns - 1) by omega, y112]
  rcases hlt with ⟨a1, a2⟩ | ⟨a1, a2⟩
  · rw [if_pos a1, c333 hM3 hidx hw hx (by rw [yK 12 52 (by decide) (by decide) (by decide), hc]) hc2 y111 (by omega), yK 62 x (by decide) (by decide) (by decide), a2]
    exact ⟨t3, Or.inl ⟨rfl, rfl⟩, rfl⟩
  · rw [if_neg (show ¬ gN t 110 0 w ≤ gN t 112 0 (26 * w + (ns - 1)) by omega), nk_of hM3.r60, nk_of hM3.r59, ldN_of hM3.z111 (by omega), tnc, y111, nk_of hM3.r58, ldN_of hM3.z110 (by omega), tnc, y110, stN_of hM3.z112 (by omega), show (26 * (w : Int) + (ns : Int)).toNat = 26 * w + ns by omega]
    have hM4 : SM (sN t3 112 0 (26 * w + ns) (gN t 110 0 w)) := hM3.mv (fun _ => rfl) (fun _ _ _ q => q)
    have z111 : gN (sN t3 112 0 (26 * w + ns) (gN t 110 0 w)) 111 0 w = ns := by rw [gN_sN, if_neg (by omega), y111]
    rw [nk_of hM4.r59, ldN_of hM4.z111 (by omega), tnc, z111, ck_of ⟨by omega, by omega⟩, stN_of hM4.z111 (by omega), tnc]
    have hM5 : SM (sN (sN t3 112 0 (26 * w + ns) (gN t 110 0 w)) 111 0 w ((ns : Int) + 1)) := hM4.mv (fun _ => rfl) (fun _ _ _ q => q)
    rw [c333 (ns' := ns') hM5 hidx hw hx (by rw [gN_sN, if_neg (by omega), gN_sN, if_neg (by omega), yK 12 52 (by decide) (by decide) (by decide), hc]) hc2 (by rw [gN_sN, if_pos ⟨rfl, rfl, rfl⟩]; omega) (by omega), gN_sN, if_neg (by omega), gN_sN, if_neg (by omega), yK 62 x (by decide) (by decide) (by decide)]
    exact ⟨_, Or.inr ⟨a2, rfl⟩, rfl⟩
theorem cor_fin (h : RR N mc mm) (hN : N ≤ 1900) (hb : (b : Int) < gN mm 12 0 19) (hB : RBk mc mm b F n M Ln E) {p k0 d x : Nat} (hp : p < 2 * (F * n)) (hk0 : (k0 : Int) < gN mm 90 0 (16 * b + p))
    (hst : gN mm 108 0 (8 * b + fo F p) = 1 ∨ gN mm 108 0 (8 * b + fo F p) = 2) (hd : gN mm 99 0 (150 * (16 * b + p) + k0) = d) (hx : gN mm 66 0 d = x) :
    ∃ v mc' mm', j_X11_correct_0_103 mc 0 (b : Int) (p : Int) (k0 : Int) (16 * b + p) (8 * b + fo F p) 1 = some (.inl (some (aI v)), mc') ∧ j_X12_correct_0_179 mm 0 (b : Int) (p : Int) ((150 * (16 * b + p) + k0 : Nat) : Int) ((8 * b + fo F p : Nat) : Int) 0 0 = some (.inl (some (aI v)), mm') ∧ gN mm' 12 0 0 = 0 ∧ RR (N + 1) mc' mm' := by
  have hP := hB.hP
  have hS := hB.hS
  have q0 := hP.hb
  have q1 := hP.hn
  have q3 := hP.hE
  have q4 := hP.ml
  have hf := fo_lt hP.hF hp
  have hff := hB.ff _ hf
  have hpg := (hB.pg p hp).pn
  have hpl := hB.pl p hp
  have hplw := hpl.w k0 hk0
  have hplp := hpl.p k0 hk0
  have hCa := h.Ca
  have hPc := h.Pc
  have zns := hff.ns
  have zpr := hff.pr
  have zsb := hff.sb (by omega)
  have hd28 : d < 28 := by omega
  have hxr := hCa.2.2.2.2.2.1 d hd28
  have hxn : (x : Int) < gN mm 12 0 6 := by omega
  have hx4 : x < 400 := by have := hCa.2.2.1; omega
  have hnx := hCa.2.2.2.2.1 x hxn
  have hxd : gN mm 64 0 x = d := hPc.t d x hd28 hx
  obtain ⟨c, hc⟩ := Int.ex h.Pf.c.1
  have hcN := h.Pf.c.2
  obtain ⟨ns, hns⟩ := Int.ex (show 0 ≤ gN mm 111 0 (8 * b + fo F p) by omega)
  have h7 : gN mc 2 (8 * b + fo F p) 7 = ns := by omega
  have hns1 : 1 ≤ ns ∧ ns ≤ E := by omega
  have hlast := zsb (ns - 1) (by omega)
  have e4 := hCa.2.2.2.1
  unfold j_X11_correct_0_103 j_X12_correct_0_179
  rw [rqS _ (by decide), bV_ok]
  obtain ⟨m1, eb, ebc⟩ := begin_c hP hS hf hns1 h7 (fun q => by omega) (fun p' hp' => by have := (hB.pg p' hp').pn; rw [this.1]; omega)
  rw [eb, bV_ok]
  obtain ⟨ns', g0, g0', g7, g26, g38, g1, gz, gc⟩ : ∃ ns' : Nat, ((gN mm 110 0 (8 * b + fo F p) ≤ gN mm 112 0 (26 * (8 * b + fo F p) + (ns - 1)) ∧ ns' = ns) ∨ (gN mm 112 0 (26 * (8 * b + fo F p) + (ns - 1)) < gN mm 110 0 (8 * b + fo F p) ∧ ns' = ns + 1)) ∧ ns' ≤ E ∧ gN m1 2 (8 * b + fo F p) 7 = ns' ∧ (ns' = ns + 1 → gN m1 26 (8 * b + fo F p) ns = gN mm 110 0 (8 * b + fo F p)) ∧ (ns' = ns + 1 → ∀ p' k : Nat, p' < 2 * (F * n) → fo F p' = fo F p → (k : Int) < gN mm 90 0 (16 * b + p') → gN m1 38 (24 * (16 * b + p') + ns) k = gN mc 38 (24 * (16 * b + p') + (ns - 1)) k) ∧ (∀ K i s, ¬ (K = 2 ∧ i = 8 * b + fo F p ∧ s = 7) ∧ ¬ (K = 26 ∧ i = 8 * b + fo F p ∧ s = ns ∧ ns' = ns + 1) ∧ ¬ (K = 38 ∧ ns' = ns + 1 ∧ ∃ p', p' < 2 * (F * n) ∧ fo F p' = fo F p ∧ i = 24 * (16 * b + p') + ns) → eq3 mc m1 K i s) ∧ (∀ K i, gZ m1 K i = gZ mc K i) ∧ ∀ K, gC m1 K = gC mc K := by
    rw [zpr.1, hlast.1] at ebc
    rcases ebc with ⟨a1, rfl⟩ | ⟨a1, s1, a2, rfl⟩
    · exact ⟨ns, Or.inl ⟨a1, rfl⟩, hns1.2, h7, fun q => by omega, fun q => by omega, fun _ _ _ _ => eq3.rf, fun _ _ => rfl, fun _ => rfl⟩
    · refine ⟨ns + 1, Or.inr ⟨a1, rfl⟩, by omega, by rw [gN_sN, if_pos ⟨rfl, rfl, rfl⟩]; omega, fun _ => ?_, fun _ p' k hp' hfo hk => ?_, fun K i s hk => ?_, fun K i => ?_, fun K => ?_⟩
      · rw [gN_sN, if_neg (by omega), (a2.1.1 26 _ ns (fun q => absurd q.1 (by decide))).1, gN_sN, if_pos ⟨rfl, rfl, rfl⟩]
      · have hfp : fpg F (fo F p) (pif F p') = p' := by rw [← hfo]; exact fpg_fo hP.hF
        have := a2.2 (pif F p') k (pif_lt hP.hF) (pif_lt hP.hF) (by rw [hfp, gN_sN, if_neg (by omega), (hB.pg p' hp').pn.1]; exact hk)
        rw [hfp] at this
        rw [gN_sN, if_neg (by omega), this, gN_sN, if_neg (by omega)]
      · exact ((eq3.sN (by omega)).tr (a2.1.1 K i s (fun q => hk.2.2 ⟨q.1, rfl, q.2⟩))).tr (eq3.sN (by omega))
      · show gZ s1 K i = gZ mc K i
        rw [a2.1.2.1]; rfl
      · show gC s1 K = gC mc K
        rw [a2.1.2.2]; rfl
  have g1' : ∀ K i s, K ≠ 38 → ¬ (K = 2 ∧ i = 8 * b + fo F p ∧ s = 7) ∧ ¬ (K = 26 ∧ i = 8 * b + fo F p ∧ s = ns ∧ ns' = ns + 1) → eq3 mc m1 K i s := fun K i s h38 hk => g1 K i s ⟨hk.1, hk.2, fun q => h38 q.1⟩
  have hS1 : BS m1 b F n M Ln E := hS.keep hP (fun K i s hk => g1' K i s (by unfold CBS at hk; omega) (by unfold CBS at hk; omega)) (fun K i k hk => by rw [gz]; exact hk)
  have hC1 : SC m1 := h.C.mv2 (fun K i s hk => (g1' K i s (by omega) (by omega)).2.2) (fun K i k hk => by rw [gz]; exact hk)
  have hRC1 : RC m1 (sN mm 12 0 0 0) := (h.thr 0).Ca.keep (g1' 1 0 5 (by omega) (by omega)).1 rfl (fun K h1 h2 k => (g1' K 0 k (by omega) (by omega)).1) (fun K h1 h2 k => rfl)
  -- the piece that makes room
  have hyb : gN mm 100 0 (150 * (16 * b + p) + k0) = -1 ∨ ∃ yn dy : Nat, yn < 400 ∧ dy < 28 ∧ gN mm 100 0 (150 * (16 * b + p) + k0) = yn ∧ gN m1 20 0 yn = dy := by
    by_cases q : gN mm 100 0 (150 * (16 * b + p) + k0) = -1
    · exact Or.inl q
    · obtain ⟨yn, hyn⟩ := Int.ex (show 0 ≤ gN mm 100 0 (150 * (16 * b + p) + k0) by omega)
      have hy1 := hPc.p (16 * b + p) k0 yn (by omega) (by omega) hk0 hyn
      have hy2 := hCa.2.2.2.2.1 yn hy1.1
      obtain ⟨dy, hdy⟩ := Int.ex hy2.1.1
      exact Or.inr ⟨yn, dy, by omega, by omega, hyn, by rw [(g1' 20 0 yn (by omega) (by omega)).1, (e4 yn).1, hdy]⟩
  rw [nk_of hC1.r1, g7, ck_of ⟨by omega, by omega⟩, ck_of ⟨by omega, by omega⟩, show (ns' : Int) - 1 = ((ns' - 1 : Nat) : Int) by omega]
  obtain ⟨m9, e9, er⟩ := replace_c (ow := 100 + 100 * (b : Int) + (p : Int)) hP hS1 hC1 hp (by omega) (show ns' - 1 < E by omega) (by rw [(g1' 34 _ k0 (by omega) (by omega)).1, hplw.1, hd]) hd28 (by rw [(g1' 24 0 d (by omega) (by omega)).1, (e4 d).2.2.2.2, hx]) hx4 (by rw [(g1' 35 _ k0 (by omega) (by omega)).1, hplp.1]) hyb
  rw [er, bV_ok]
  have c23 : gN m1 23 0 x = gN mm 65 0 x := by rw [(g1' 23 0 x (by omega) (by omega)).1, (e4 x).2.2.2.1]
  rw [c23] at e9
  have g9 : ∀ K i s, ¬ ((22 ≤ K ∧ K ≤ 24) ∧ i = 0) → eq3 m1 m9 K i s := fun K i s hk => by
    rcases e9 with ⟨-, rfl⟩ | ⟨yn, dy, -, -, -, -, rfl⟩
    · exact (eq3.sN (by omega)).tr (eq3.sN (by omega))
    · exact ((((eq3.sN (by omega)).tr (eq3.sN (by omega))).tr (eq3.sN (by omega))).tr (eq3.sN (by omega))).tr (eq3.sN (by omega))
  have z9 : (∀ K i, gZ m9 K i = gZ m1 K i) ∧ ∀ K, gC m9 K = gC m1 K := by
    rcases e9 with ⟨-, rfl⟩ | ⟨yn, dy, -, -, -, -, rfl⟩ <;> exact ⟨fun _ _ => rfl, fun _ => rfl⟩
  have c20 : gN m1 20 0 x = gN mm 62 0 x := by rw [(g1' 20 0 x (by omega) (by omega)).1, (e4 x).1]
  obtain ⟨kd, hkd⟩ := Int.ex hnx.1.1
  rw [c20, hkd]
  have w7 : gN (sN (sN (sN m9 35 (16 * b + p) k0 (x : Int)) 36 (16 * b + p) k0 0) 38 (24 * (16 * b + p) + (ns' - 1)) k0 (kd : Int)) 2 (8 * b + fo F p) 7 = ns' := by
    rw [gN_sN, if_neg (by omega), gN_sN, if_neg (by omega), gN_sN, if_neg (by omega), (g9 2 _ 7 (by omega)).1, g7]
  rw [w7, ck_of ⟨by omega, by omega⟩]
  -- the model
  have hM := (h.thr 0).M
  have tK : ∀ K k, K ≠ 12 → gN (sN mm 12 0 0 0) K 0 k = gN mm K 0 k := fun K k hK => gthr' _ _ (Or.inl hK)
  rw [holds0, bI_ok, if_pos (show ¬ (1 : Int) = 0 by decide), nk_of hM.r46, ldN_of hM.z99 (by omega), tnc, tK 99 _ (by decide), hd]
  unfold f_X12_takes
  rw [nk_of hM.r11, ldN_of hM.z66 (by omega), tnc, tK 66 _ (by decide), hx, nk_of hM.r11, nk_of hM.r10, ldN_of hM.z65 (by omega), tnc, tK 65 _ (by decide), stN_of hM.z66 (by omega), tnc, bI_ok]
  have hM20 : SM (sN (sN mm 12 0 0 0) 66 0 d (gN mm 65 0 x)) := hM.mv (fun _ => rfl) (fun _ _ _ q => q)
  have y100 : gN (sN (sN mm 12 0 0 0) 66 0 d (gN mm 65 0 x)) 100 0 (150 * (16 * b + p) + k0) = gN mm 100 0 (150 * (16 * b + p) + k0) := by rw [gN_sN, if_neg (by omega), tK 100 _ (by decide)]
  rw [nk_of hM20.r47, ldN_of hM20.z100 (by omega), tnc, y100]
  -- both ways come to the memory t30
  obtain ⟨t30, f30, et⟩ : ∃ t30, ((gN mm 100 0 (150 * (16 * b + p) + k0) = -1 ∧ t30 = sN (sN mm 12 0 0 0) 66 0 d (gN mm 65 0 x) ∧ m9 = sN (sN m1 24 0 d (gN mm 65 0 x)) 22 0 x (100 + 100 * (b : Int) + (p : Int))) ∨ ∃ yn dy : Nat, yn < 400 ∧ dy < 28 ∧ gN mm 100 0 (150 * (16 * b + p) + k0) = yn ∧ gN mm 62 0 yn = dy ∧ m9 = pOn (sN (sN m1 24 0 d (gN mm 65 0 x)) 22 0 x (100 + 100 * (b : Int) + (p : Int))) 22 23 24 dy yn ∧ t30 = pOn (sN (sN mm 12 0 0 0) 66 0 d (gN mm 65 0 x)) 64 65 66 dy yn) ∧
      (if gN mm 100 0 (150 * (16 * b + p) + k0) = -1 then j_X12_correct_0_234 (sN (sN mm 12 0 0 0) 66 0 d (gN mm 65 0 x)) 0 (b : Int) (p : Int) ((150 * (16 * b + p) + k0 : Nat) : Int) ((8 * b + fo F p : Nat) : Int) (x : Int) else
        nk 62 (gR (sN (sN mm 12 0 0 0) 66 0 d (gN mm 65 0 x)) 12 0 7) fun i24 => nk 100 (gR (sN (sN mm 12 0 0 0) 66 0 d (gN mm 65 0 x)) 12 0 47) fun i25 => ldN (sN (sN mm 12 0 0 0) 66 0 d (gN mm 65 0 x)) 100 i25 ((150 * (16 * b + p) + k0 : Nat) : Int) fun v26 => ldN (sN (sN mm 12 0 0 0) 66 0 d (gN mm 65 0 x)) 62 i24 v26 fun v27 => nk 100 (gR (sN (sN mm 12 0 0 0) 66 0 d (gN mm 65 0 x)) 12 0 47) fun i28 => ldN (sN (sN mm 12 0 0 0) 66 0 d (gN mm 65 0 x)) 100 i28 ((150 * (16 * b + p) + k0 : Nat) : Int) fun v29 => bV (f_X12_puts (sN (sN mm 12 0 0 0) 66 0 d (gN mm 65 0 x)) 0 v27 v29) (fun m30 => j_X12_correct_0_234 m30 0 (b : Int) (p : Int) ((150 * (16 * b + p) + k0 : Nat) : Int) ((8 * b + fo F p : Nat) : Int) (x : Int)) x0) = j_X12_correct_0_234 t30 0 (b : Int) (p : Int) ((150 * (16 * b + p) + k0 : Nat) : Int) ((8 * b + fo F p : Nat) : Int) (x : Int) := by
    rcases e9 with ⟨a1, a2⟩ | ⟨yn, dy, a1, a2, a3, a4, a5⟩
    · rw [if_pos a1]
      exact ⟨_, Or.inl ⟨a1, rfl, a2⟩, rfl⟩
    · have y62 : gN (sN (sN mm 12 0 0 0) 66 0 d (gN mm 65 0 x)) 62 0 yn = dy := by rw [gN_sN, if_neg (by omega), tK 62 _ (by decide), ← (e4 yn).1, ← (g1' 20 0 yn (by omega) (by omega)).1, a4]
      rw [if_neg (by omega), nk_of hM20.r7, nk_of hM20.r47, ldN_of hM20.z100 (by omega), tnc, y100, a3, ldN_of hM20.z62 (by omega), tnc, y62, nk_of hM20.r47, ldN_of hM20.z100 (by omega), tnc, y100, a3, puts_m hM20 a2 a1, bV_ok]
      exact ⟨_, Or.inr ⟨yn, dy, a1, a2, rfl, by rw [← (e4 yn).1, ← (g1' 20 0 yn (by omega) (by omega)).1, a4], a5, rfl⟩, rfl⟩
  rw [et]
  have g30 : ∀ K i s, ¬ (K = 12 ∧ s = 0) ∧ ¬ ((64 ≤ K ∧ K ≤ 66) ∧ i = 0) → eq3 mm t30 K i s := fun K i s hk => by
    rcases f30 with ⟨-, rfl, -⟩ | ⟨yn, dy, -, -, -, -, -, rfl⟩
    · exact (eq3.sN (by omega)).tr (eq3.sN (by omega))
    · exact ((((eq3.sN (by omega)).tr (eq3.sN (by omega))).tr (eq3.sN (by omega))).tr (eq3.sN (by omega))).tr (eq3.sN (by omega))
  have z30 : ∀ K i, gZ t30 K i = gZ mm K i := by
    rcases f30 with ⟨-, rfl, -⟩ | ⟨yn, dy, -, -, -, -, -, rfl⟩ <;> exact fun _ _ => rfl
  have t00 : gN t30 12 0 0 = 0 := by
    rcases f30 with ⟨-, rfl, -⟩ | ⟨yn, dy, -, -, -, -, -, rfl⟩
    · simp [gN_sN]
    · simp [pOn, gN_sN]
  have hM30 : SM t30 := h.M.mv2 (fun s hs => (g30 12 0 s (by omega)).2.2) (fun K i k hk => by rw [z30]; exact hk)
  obtain ⟨t2, f2, e2⟩ := c234 (t := t30) (b := b) (p := p) (idx := 150 * (16 * b + p) + k0) (w := 8 * b + fo F p) (x := x) (c := c) (ns := ns) (ns' := ns') hM30 ⟨q0, by omega⟩ (by omega) (by omega) hx4 (by rw [(g30 12 0 52 (by omega)).1, hc]) (by omega) (by rw [(g30 111 0 _ (by omega)).1, hns]) (by omega) (by rw [(g30 110 0 _ (by omega)).1, (g30 112 0 _ (by omega)).1]; exact g0)
  have y62 : gN t30 62 0 x = kd := by rw [(g30 62 0 x (by omega)).1, hkd]
  have y110 : gN t30 110 0 (8 * b + fo F p) = gN mm 110 0 (8 * b + fo F p) := (g30 110 0 _ (by omega)).1
  rw [e2, y62]
  rw [y110] at f2
  have hkd28 : kd < 28 := by omega
  -- what the memories hold
  have g2 : ∀ K i s, ¬ (K = 12 ∧ s = 0) ∧ ¬ ((64 ≤ K ∧ K ≤ 66) ∧ i = 0) ∧ ¬ ((K = 100 ∨ K = 101) ∧ i = 0 ∧ s = 150 * (16 * b + p) + k0) ∧ ¬ (K = 111 ∧ i = 0 ∧ s = 8 * b + fo F p) ∧ ¬ (K = 112 ∧ i = 0 ∧ s = 26 * (8 * b + fo F p) + ns ∧ ns' = ns + 1) → eq3 mm t2 K i s := fun K i s hk => by
    have := g30 K i s (by omega)
    rcases f2 with ⟨a, rfl⟩ | ⟨a, rfl⟩
    · exact ((this.tr (eq3.sN (by omega))).tr (eq3.sN (by omega))).tr (eq3.sN (by omega))
    · exact ((((this.tr (eq3.sN (by omega))).tr (eq3.sN (by omega))).tr (eq3.sN (by omega))).tr (eq3.sN (by omega))).tr (eq3.sN (by omega))
  have z2 : ∀ K i, gZ t2 K i = gZ mm K i := fun K i => by
    rw [← z30]
    rcases f2 with ⟨a, rfl⟩ | ⟨a, rfl⟩ <;> rfl
  have v100 : gN t2 100 0 (150 * (16 * b + p) + k0) = x ∧ gN t2 101 0 (150 * (16 * b + p) + k0) = 0 := by
    rcases f2 with ⟨a, rfl⟩ | ⟨a, rfl⟩ <;> simp [gN_sN]
  have v111 : gN t2 111 0 (8 * b + fo F p) = ns' := by
    rcases f2 with ⟨a, rfl⟩ | ⟨a, rfl⟩
    · rw [gN_sN, if_neg (by omega), gN_sN, if_neg (by omega), gN_sN, if_neg (by omega), (g30 111 0 _ (by omega)).1, hns, a]
    · rw [gN_sN, if_pos ⟨rfl, rfl, rfl⟩]; omega
  have v112 : ns' = ns + 1 → gN t2 112 0 (26 * (8 * b + fo F p) + ns) = gN mm 110 0 (8 * b + fo F p) := fun q => by
    rcases f2 with ⟨a, rfl⟩ | ⟨a, rfl⟩
    · omega
    · rw [gN_sN, if_neg (by omega), gN_sN, if_pos ⟨rfl, rfl, rfl⟩]
  have v0 : gN t2 12 0 0 = 0 := by
    rcases f2 with ⟨a, rfl⟩ | ⟨a, rfl⟩ <;> simp [gN_sN, t00]
  have vK : ∀ K j, 62 ≤ K → K ≤ 66 → gN t2 K 0 j = if K = 64 ∧ j = x then 100 + 100 * (b : Int) + (p : Int) else gN t30 K 0 j := fun K j h1 h2 => by
    rcases f2 with ⟨a, rfl⟩ | ⟨a, rfl⟩
    · rw [gN_sN]
      by_cases q : K = 64 ∧ j = x
      · rw [if_pos ⟨q.1, rfl, q.2⟩, if_pos q]
      · rw [if_neg (by omega), if_neg q, gN_sN, if_neg (by omega), gN_sN, if_neg (by omega)]
    · rw [gN_sN, if_neg (by omega), gN_sN, if_neg (by omega), gN_sN]
      by_cases q : K = 64 ∧ j = x
      · rw [if_pos ⟨q.1, rfl, q.2⟩, if_pos q]
      · rw [if_neg (by omega), if_neg q, gN_sN, if_neg (by omega), gN_sN, if_neg (by omega)]
  -- pieces
  have hT3 : RC (sN (sN m1 24 0 d (gN mm 65 0 x)) 22 0 x (100 + 100 * (b : Int) + (p : Int))) (sN (sN (sN mm 12 0 0 0) 66 0 d (gN mm 65 0 x)) 64 0 x (100 + 100 * (b : Int) + (p : Int))) := hRC1.take (by rw [gthr' _ _ (Or.inr (by decide))]; exact hnx.2.2)
  have hQ3 : RPc (sN (sN (sN mm 12 0 0 0) 66 0 d (gN mm 65 0 x)) 64 0 x (100 + 100 * (b : Int) + (p : Int))) := by
    have := (h.thr 0).Pc.take (d := d) (x := x) (ow := 100 + 100 * (b : Int) + (p : Int)) hd28 (by rw [tK 66 _ (by decide)]; exact hx) (by rw [gthr' _ _ (Or.inr (by decide))]; exact hxn) (by omega) (by rw [tK 65 _ (by decide)]; exact hnx.2.2.1)
    rw [tK 65 _ (by decide)] at this
    exact this
  obtain ⟨t9, k9, kq, kv⟩ : ∃ t9, RC m9 t9 ∧ RPc (sN t9 100 0 (150 * (16 * b + p) + k0) (x : Int)) ∧ (∀ K j, 62 ≤ K → K ≤ 66 → gN t9 K 0 j = gN t2 K 0 j) ∧ gN t9 12 0 6 = gN mm 12 0 6 ∧ (∀ j, gN t9 90 0 j = gN mm 90 0 j) ∧ ∀ j, j ≠ 150 * (16 * b + p) + k0 → gN t9 100 0 j = gN mm 100 0 j := by
    have hno : ∀ q k, q < 48 → k < 150 → (k : Int) < gN mm 90 0 q → gN mm 100 0 (150 * q + k) ≠ x := fun q k h1 h2 h3 h4 => by
      have := hPc.p q k x h1 h2 h3 h4
      omega
    rcases f30 with ⟨a1, rfl, a2⟩ | ⟨yn, dy, a1, a2, a3, a4, a5, rfl⟩
    · refine ⟨_, by rw [a2]; exact hT3, hQ3.lay (by omega) (by omega) ?_ ?_ ?_ (fun q k h1 h2 h3 h4 => ?_), fun K j h1 h2 => ?_, ?_, fun j => ?_, fun j hj => ?_⟩
      · rw [gN_sN, if_neg (by omega), gN_sN, if_neg (by omega), tK 90 _ (by decide)]; exact hk0
      · rw [gN_sN, if_neg (by omega), gN_sN, if_neg (by omega), gthr' _ _ (Or.inr (by decide))]; exact hxn
      · rw [gN_sN, if_pos ⟨rfl, rfl, rfl⟩]; omega
      · rw [gN_sN, if_neg (by omega), gN_sN, if_neg (by omega), tK 90 _ (by decide)] at h3
        rw [gN_sN, if_neg (by omega), gN_sN, if_neg (by omega), tK 100 _ (by decide)] at h4
        exact absurd h4 (hno q k h1 h2 h3)
      · rw [vK K j h1 h2, gN_sN]
        by_cases q : K = 64 ∧ j = x
        · rw [if_pos ⟨q.1, rfl, q.2⟩, if_pos q]
        · rw [if_neg (by omega), if_neg q]
      · rw [gN_sN, if_neg (by omega), gN_sN, if_neg (by omega), gthr' _ _ (Or.inr (by decide))]
      · rw [gN_sN, if_neg (by omega), gN_sN, if_neg (by omega), tK 90 _ (by decide)]
      · rw [gN_sN, if_neg (by omega), gN_sN, if_neg (by omega), tK 100 _ (by decide)]
    · have hy := hPc.p (16 * b + p) k0 yn (by omega) (by omega) hk0 a3
      have hyx : yn ≠ x := fun z => by rw [z] at hy; omega
      have hR9 := hT3.put (d := dy) (x := yn) a2 (by rw [gN_sN, if_neg (by omega), gN_sN, if_neg (by omega), gthr' _ _ (Or.inr (by decide))]; exact hy.1)
      have hQ9 := hQ3.put (d := dy) (x := yn) (q0 := 16 * b + p) (k0 := k0) a2 (by omega) (by omega) (by rw [gN_sN, if_neg (by omega), gN_sN, if_neg (by omega), tK 90 _ (by decide)]; exact hk0) (by rw [gN_sN, if_neg (by omega), gN_sN, if_neg (by omega), tK 100 _ (by decide)]; exact a3)
      generalize hgt : sN (sN (sN mm 12 0 0 0) 66 0 d (gN mm 65 0 x)) 64 0 x (100 + 100 * (b : Int) + (p : Int)) = t3 at *
      have t3K : ∀ K j, K ≠ 12 → K ≠ 66 → K ≠ 64 → gN t3 K 0 j = gN mm K 0 j := fun K j h1 h2 h3 => by rw [← hgt, gN_sN, if_neg (by omega), gN_sN, if_neg (by omega), tK K _ h1]
      have t36 : gN t3 12 0 6 = gN mm 12 0 6 := by rw [← hgt, gN_sN, if_neg (by omega), gN_sN, if_neg (by omega), gthr' _ _ (Or.inr (by decide))]
      have t364 : gN t3 64 0 x = 100 + 100 * (b : Int) + (p : Int) := by rw [← hgt, gN_sN, if_pos ⟨rfl, rfl, rfl⟩]
      have e9K : ∀ K j, K ≠ 64 → K ≠ 65 → K ≠ 66 → gN (pOn t3 64 65 66 dy yn) K 0 j = gN t3 K 0 j := fun K j h1 h2 h3 => by
        unfold pOn
        rw [gN_sN, if_neg (by omega), gN_sN, if_neg (by omega), gN_sN, if_neg (by omega)]
      have hl := hQ9.lay (x := x) (q0 := 16 * b + p) (k0 := k0) (by omega) (by omega) (by rw [gN_sN, if_neg (by omega), e9K 90 _ (by decide) (by decide) (by decide), t3K 90 _ (by decide) (by decide) (by decide)]; exact hk0) (by rw [gN_sN, if_neg (by omega), e9K 12 _ (by decide) (by decide) (by decide), t36]; exact hxn) (by rw [gN_sN, if_neg (by omega)]; unfold pOn; rw [gN_sN, if_neg (fun z => hyx z.2.2.symm), gN_sN, if_neg (by omega), gN_sN, if_neg (by omega), t364]; omega) (fun q k h1 h2 h3 h4 => by
        by_cases z : 150 * q + k = 150 * (16 * b + p) + k0
        · omega
        · rw [gN_sN, if_neg (by omega), e9K 90 _ (by decide) (by decide) (by decide), t3K 90 _ (by decide) (by decide) (by decide)] at h3
          rw [gN_sN, if_neg (by omega), e9K 100 _ (by decide) (by decide) (by decide), t3K 100 _ (by decide) (by decide) (by decide)] at h4
          exact absurd h4 (hno q k h1 h2 h3))
      refine ⟨pOn t3 64 65 66 dy yn, by rw [a5]; exact hR9, hl.eqN (fun K j hK => ?_) (by rw [gN_sN, if_neg (by omega), gN_sN, if_neg (by omega), gN_sN, if_neg (by omega)]), fun K j h1 h2 => ?_, by rw [e9K 12 _ (by decide) (by decide) (by decide), t36], fun j => by rw [e9K 90 _ (by decide) (by decide) (by decide), t3K 90 _ (by decide) (by decide) (by decide)], fun j hj => by rw [e9K 100 _ (by decide) (by decide) (by decide), t3K 100 _ (by decide) (by decide) (by decide)]⟩
      · by_cases z : K = 100 ∧ j = 150 * (16 * b + p) + k0
        · rw [gN_sN, if_pos ⟨z.1, rfl, z.2⟩, gN_sN, if_pos ⟨z.1, rfl, z.2⟩]
        · rw [gN_sN, if_neg (by omega), gN_sN, if_neg (by omega), gN_sN, if_neg (by omega)]
      · rw [vK K j h1 h2, ← hgt]
        obtain rfl | rfl | rfl | rfl | rfl : K = 62 ∨ K = 63 ∨ K = 64 ∨ K = 65 ∨ K = 66 := by omega
        · simp [pOn, gN_sN]
        · simp [pOn, gN_sN]
        · by_cases z1 : j = yn
          · subst z1
            simp [pOn, gN_sN, hyx]
          · by_cases z2 : j = x
            · subst z2
              simp [pOn, gN_sN, z1]
            · simp [pOn, gN_sN, z1, z2]
        · simp [pOn, gN_sN]
        · simp [pOn, gN_sN]
  refine ⟨_, _, _, rfl, rfl, ?_, ?_⟩
  · rw [gN_sN, if_neg (by omega), gN_sN, if_neg (by omega), gN_sN, if_neg (by omega), gN_sN, if_neg (by omega), v0]
  · refine cor_rel h hN hb hB (d := kd) (ns := ns) (ns' := ns') (c := c) hp hk0 hst hns ?_ hc hxn hkd28 (fun K i s hk => ?_) (fun K i s hk => ?_) (fun K i => ?_) (fun K i k hk => ?_) (fun K => ?_) w7 ?_ ?_ (fun q => ?_) (fun q => ?_) ?_ ?_ ?_ ?_ ?_ ?_ ?_ ?_ (fun q p' k hp' hfo hk hne => ?_) ?_ ?_
    · rcases g0 with z | z
      · exact Or.inl z.2
      · exact Or.inr ⟨z.2, z.1⟩
    · exact ((((g1 K i s ⟨hk.2.2.1, hk.2.2.2.1, hk.2.2.2.2.2⟩).tr (g9 K i s hk.1)).tr (eq3.sN (by omega))).tr (eq3.sN (by omega))).tr (eq3.sN (by omega))
    · exact ((((g2 K i s (by omega)).tr (eq3.sN (by omega))).tr (eq3.sN (by omega))).tr (eq3.sN (by omega))).tr (eq3.sN (by omega))
    · show gZ m9 K i = gZ mc K i
      rw [z9.1, gz]
    · show gZ t2 K i = some k
      rw [z2]; exact hk
    · show gC m9 K = gC mc K
      rw [z9.2, gc]
    · rw [gN_sN, if_neg (by omega), gN_sN, if_neg (by omega), gN_sN, if_neg (by omega), gN_sN, if_neg (by omega), v111]
    · rw [gN_sN, if_pos ⟨rfl, rfl, rfl⟩]
    · rw [gN_sN, if_neg (by omega), gN_sN, if_neg (by omega), gN_sN, if_neg (by omega), (g9 26 _ ns (by omega)).1, g26 q]
    · rw [gN_sN, if_neg (by omega), gN_sN, if_neg (by omega), gN_sN, if_neg (by omega), gN_sN, if_neg (by omega), v112 q]
    · rw [gN_sN, if_neg (by omega), gN_sN, if_neg (by omega), gN_sN, if_pos ⟨rfl, rfl, rfl⟩]
    · rw [gN_sN, if_neg (by omega), gN_sN, if_pos ⟨rfl, rfl, rfl⟩]
    · rw [gN_sN, if_neg (by omega), gN_sN, if_neg (by omega), gN_sN, if_neg (by omega), gN_sN, if_neg (by omega), v100.1]
    · rw [gN_sN, if_neg (by omega), gN_sN, if_neg (by omega), gN_sN, if_neg (by omega), gN_sN, if_neg (by omega), v100.2]
    · rw [gN_sN, if_neg (by omega), gN_sN, if_neg (by omega), gN_sN, if_neg (by omega), gN_sN, if_pos ⟨rfl, rfl, rfl⟩]
    · rw [gN_sN, if_neg (by omega), gN_sN, if_neg (by omega), gN_sN, if_pos ⟨rfl, rfl, rfl⟩]; omega
    · rw [gN_sN, if_neg (by omega), gN_sN, if_pos ⟨rfl, rfl, rfl⟩]
    · rw [gN_sN, if_pos ⟨rfl, rfl, rfl⟩]
    · rw [gN_sN, if_neg (fun z => hne (by have := z.2.1; have := z.2.2; omega)), gN_sN, if_neg (by omega), gN_sN, if_neg (by omega), (g9 38 _ k (by omega)).1, g38 q p' k hp' hfo hk]
    · exact k9.keep (by rw [gN_sN, if_neg (by omega), gN_sN, if_neg (by omega), gN_sN, if_neg (by omega)]) (by rw [gN_sN, if_neg (by omega), gN_sN, if_neg (by omega), gN_sN, if_neg (by omega), gN_sN, if_neg (by omega), (g2 12 0 6 (by omega)).1, kv.2.1]) (fun K h1 h2 k => by rw [gN_sN, if_neg (by omega), gN_sN, if_neg (by omega), gN_sN, if_neg (by omega)]) (fun K h1 h2 k => by rw [gN_sN, if_neg (by omega), gN_sN, if_neg (by omega), gN_sN, if_neg (by omega), gN_sN, if_neg (by omega), kv.1 K k h1 h2])
    · refine kq.eqN (fun K j hK => ?_) ?_
      · rw [gN_sN, if_neg (by omega), gN_sN, if_neg (by omega), gN_sN, if_neg (by omega), gN_sN, if_neg (by omega), gN_sN]
        by_cases z : K = 100 ∧ j = 150 * (16 * b + p) + k0
        · rw [if_pos ⟨z.1, rfl, z.2⟩, z.1, z.2, v100.1]
        · rw [if_neg (by omega)]
          rcases hK with q | q | q
          · exact (kv.1 K j (by omega) (by omega)).symm
          · rw [q, (g2 90 0 j (by omega)).1, kv.2.2.1]
          · rw [q, (g2 100 0 j (by omega)).1, kv.2.2.2 j (by omega)]
      · rw [gN_sN, if_neg (by omega), gN_sN, if_neg (by omega), gN_sN, if_neg (by omega), gN_sN, if_neg (by omega), (g2 12 0 6 (by omega)).1, gN_sN, if_neg (by omega), kv.2.1]
theorem call_correct (hN : N ≤ 1900) (h : RR N mc mm) (a c e : Int) : CalI N (f_X11_correct mc 0 a c e) (f_X12_correct mm 0 a c e) [0, 2] := by
  have m179 : ∀ (v u w : Int), v ≠ 0 → j_X12_correct_0_179 mm 0 a c u w 0 v = some (.inl (some (aI 0)), sN mm 12 0 0 v) := fun v u w hv => by
    unfold j_X12_correct_0_179; rw [holds1 _ hv, bI_ok, if_neg (fun q => q rfl)]
  have m48 : j_X12_correct_0_48 mm 0 a c e = some (.inl (some (aI 0)), sN mm 12 0 0 1) := by
    unfold j_X12_correct_0_48 j_X12_correct_0_49 j_X12_correct_0_66 j_X12_correct_0_85 j_X12_correct_0_107 j_X12_correct_0_156 j_X12_correct_0_157
    rw [if_pos rfl, if_pos rfl, if_pos rfl, if_pos rfl, if_neg (fun q => q rfl), m179 1 _ _ (by decide)]
  unfold f_X11_correct f_X12_correct
  by_cases hb : 0 ≤ a ∧ a < gN mm 12 0 19
  · obtain ⟨b, rfl⟩ := Int.ex hb.1
    obtain ⟨F, n, M, Ln, E, hB⟩ := h.Bk b hb.2
    have hP := hB.hP
    have hS := hB.hS
    have q0 := hP.hb
    have q1 := hP.hn
    have q4 := hP.ml
    have hF := hP.hF
    rw [bookAt_ok h.Nb h.C hb.2, bR_ok, nk_some]
    by_cases hp : 0 ≤ c ∧ c < (2 * (F * n) : Nat)
    · obtain ⟨p, rfl⟩ := Int.ex hp.1
      have hp2 : p < 2 * (F * n) := by omega
      have hg := hB.pg p hp2
      have hpn := hg.pn
      rw [pageOf_ok hS hp2, bR_ok, nk_some, nk_of (hS.p8 p hp2), isPage_ok h.Nb h.M hP hb.2 hp2, Option.bind_some, if_neg (show ¬ (1 : Int) = 0 by decide), nk_of h.M.r30, ldN_of h.M.z83 (by omega), tn16, hpn.1]
      have c36 : j_X11_correct_0_35 mc 0 (b : Int) (p : Int) e b (16 * b + p) = some (.inr 0, bX mc) := by unfold j_X11_correct_0_35 j_X11_correct_0_36; rw [rqI0, bV_ex]; rfl
      by_cases hk : 0 ≤ e ∧ e < gN mm 90 0 (16 * b + p)
      · obtain ⟨k0, rfl⟩ := Int.ex hk.1
        have h83 : gN mm 83 0 (16 * b + p) ≠ 0 := fun z => by have := hg.un z; omega
        have hf := fo_lt hF hp2
        have hff := hB.ff _ hf
        have hplw := (hB.pl p hp2).w k0 hk.2
        have hfo16 := formeOf_m h.M hP (show p < 16 by omega)
        rw [if_neg (show ¬ (k0 : Int) < 0 by omega), if_neg (show ¬ gN mm 90 0 (16 * b + p) ≤ (k0 : Int) by omega), if_neg h83, nk_of h.M.r37, ldN_of h.M.z90 (by omega), tn16, ck_of ⟨by omega, by omega⟩, isIn_m, if_pos (show 0 ≤ (k0 : Int) ∧ (k0 : Int) ≤ gN mm 90 0 (16 * b + p) - 1 by omega), Option.bind_some, if_neg (show ¬ (1 : Int) = 0 by decide)]
        unfold j_X11_correct_0_36 j_X12_correct_0_49 j_X12_correct_0_66 j_X12_correct_0_85 j_X12_correct_0_107
        rw [rqI _ (by decide), bV_ok, nk_of hS.r6, formeNumber_c hP hS (show p < 16 by omega), Option.bind_some, ldR_of hS.z14 (by omega), tnc, hS.e14 _ hf, nk_some, hff.how.1]
        rw [if_neg (show ¬ (1 : Int) = 0 by decide), ck_of ⟨by omega, by omega⟩, if_neg (show ¬ (1 : Int) = 0 by decide), ck_of ⟨by omega, by omega⟩, if_neg (show ¬ (1 : Int) = 0 by decide), hfo16, Option.bind_some, ck_of ⟨by omega, by omega⟩, if_neg (show ¬ (1 : Int) = 0 by decide), show 150 * (16 * (b : Int) + (p : Int)) + (k0 : Int) = ((150 * (16 * b + p) + k0 : Nat) : Int) by omega, show 8 * (b : Int) + ((fo F p : Nat) : Int) = ((8 * b + fo F p : Nat) : Int) by omega, nk_of h.M.r56, ldN_of h.M.z108 (by omega), tnc]
        have hM := h.M
        have c76 : j_X11_correct_0_76 mc 0 (b : Int) (p : Int) (k0 : Int) (16 * b + p) (8 * b + fo F p) 0 = some (.inr 2, bX mc) := by unfold j_X11_correct_0_76; rw [rqS0, bV_ex]; rfl
        have c103 : j_X11_correct_0_103 mc 0 (b : Int) (p : Int) (k0 : Int) (16 * b + p) (8 * b + fo F p) 0 = some (.inr 2, bX mc) := by unfold j_X11_correct_0_103; rw [rqS0, bV_ex]; rfl
        have m156 : j_X12_correct_0_156 mm 0 (b : Int) (p : Int) 1 ((150 * (16 * b + p) + k0 : Nat) : Int) ((8 * b + fo F p : Nat) : Int) = some (.inl (some (aI 0)), sN mm 12 0 0 2) := by
          unfold j_X12_correct_0_156 j_X12_correct_0_157
          rw [if_pos (show ¬ (1 : Int) = 0 by decide), if_pos rfl, m179 2 _ _ (by decide)]
        obtain ⟨d, hd⟩ := Int.ex hplw.2.1
        have go : (gN mm 108 0 (8 * b + fo F p) = 1 ∨ gN mm 108 0 (8 * b + fo F p) = 2) → CalI N (j_X11_correct_0_71 mc 0 (b : Int) (p : Int) (k0 : Int) b (16 * b + p) (8 * b + fo F p)) (j_X12_correct_0_136 mm 0 (b : Int) (p : Int) 1 ((150 * (16 * b + p) + k0 : Nat) : Int) ((8 * b + fo F p : Nat) : Int)) [0, 2] := fun hst => by
          unfold j_X11_correct_0_71 j_X11_correct_0_76 j_X12_correct_0_136
          rw [rqS _ (by decide), bV_ok, nk_of h.C.r1, nk_of h.C.c4, nk_of (hS.q0 p hp2), ldN_of (hS.z34 p hp2) (by omega), tnc, hplw.1, hd, ldN_of h.C.z24 (by omega), tnc, (h.Ca.2.2.2.1 d).2.2.2.2, nk_of hM.r11, nk_of hM.r46, ldN_of hM.z99 (by omega), tnc, hd, ldN_of hM.z66 (by omega), tnc]
          have hxr := h.Ca.2.2.2.2.2.1 d (by omega)
          by_cases hx : gN mm 66 0 d = -1
          · rw [if_pos hx, if_pos hx, c103, m156]
            exact CalI.bad (k := 1) h rfl rfl rfl
          · obtain ⟨x, hx'⟩ := Int.ex (show 0 ≤ gN mm 66 0 d by omega)
            obtain ⟨v, mc', mm', e1, e2, e3, e4⟩ := cor_fin h hN hb.2 hB hp2 hk.2 hst hd hx'
            rw [if_neg hx, if_neg hx, e1]
            unfold j_X12_correct_0_157
            rw [if_pos (show ¬ (1 : Int) = 0 by decide), if_neg (show ¬ (1 : Int) = 0 by decide), e2]
            exact ⟨_, _, _, _, rfl, rfl, Or.inl ⟨rfl, e3⟩, e4⟩
        by_cases h1 : gN mm 108 0 (8 * b + fo F p) = 1
        · rw [if_pos h1, if_pos h1]
          exact go (Or.inl h1)
        · rw [if_neg h1, if_neg h1, nk_of hM.r56, ldN_of hM.z108 (by omega), tnc]
          by_cases h2 : gN mm 108 0 (8 * b + fo F p) = 2
          · rw [if_neg (show ¬ ¬ gN mm 108 0 (8 * b + fo F p) = 2 from fun q => q h2), if_neg (show ¬ ¬ gN mm 108 0 (8 * b + fo F p) = 2 from fun q => q h2)]
            exact go (Or.inr h2)
          · rw [if_pos (show ¬ gN mm 108 0 (8 * b + fo F p) = 2 from h2), if_pos (show ¬ gN mm 108 0 (8 * b + fo F p) = 2 from h2), c76, m156]
            exact CalI.bad (k := 1) h rfl rfl rfl
      · have ec : (if e < 0 then j_X11_correct_0_35 mc 0 (b : Int) (p : Int) e b (16 * b + p) else if gN mm 90 0 (16 * b + p) ≤ e then j_X11_correct_0_35 mc 0 (b : Int) (p : Int) e b (16 * b + p) else j_X11_correct_0_36 mc 0 (b : Int) (p : Int) e b (16 * b + p) 1) = some (.inr 0, bX mc) := by
          by_cases z : e < 0
          · rw [if_pos z, c36]
          · rw [if_neg z, if_pos (by omega), c36]
        rw [ec]
        by_cases h83 : gN mm 83 0 (16 * b + p) = 0
        · rw [if_pos h83, m48]
          exact CalI.bad (k := 0) h rfl rfl rfl
        · rw [if_neg h83, nk_of h.M.r37, ldN_of h.M.z90 (by omega), tn16, ck_of ⟨by omega, by omega⟩, isIn_m, if_neg (by omega), Option.bind_some, if_pos rfl, m48]
          exact CalI.bad (k := 0) h rfl rfl rfl
    · rw [pageOf_bad hS hp, bR_ex, isPage_bad h.Nb h.M hP hb.2 hp, Option.bind_some, if_pos rfl, m48]
      exact CalI.bad (k := 0) h rfl rfl rfl
  · rw [bookAt_bad h.Nb h.C hb, bR_ex, isPage_b0 h.Nb hb, Option.bind_some, if_pos rfl, m48]
    exact CalI.bad (k := 0) h rfl rfl rfl
end CORRECT
