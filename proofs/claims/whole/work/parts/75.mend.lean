/-! CORRECT. -/
section CORRECT
variable {N : Nat} {mc mm : MM} {b F n M Ln E : Nat}
theorem RPc.eqN {mm mm' : MM} (h : RPc mm) (hm : ∀ K s, (64 ≤ K ∧ K ≤ 66) ∨ K = 90 ∨ K = 100 → gN mm' K 0 s = gN mm K 0 s) (h6 : gN mm' 12 0 6 = gN mm 12 0 6) : RPc mm' := by
  have b64 := fun s => hm 64 s (by omega)
  have b65 := fun s => hm 65 s (by omega)
  have b66 := fun s => hm 66 s (by omega)
  have b90 := fun s => hm 90 s (by omega)
  have b100 := fun s => hm 100 s (by omega)
  unfold RPc at h ⊢
  simp only [b64, b65, b66, h6, b90, b100]
  exact h
/-- a piece taken from its box for a place -/
theorem RC.take {s t : MM} (h : RC s t) {d x : Nat} {nx ow : Int} (hnx : -1 ≤ nx ∧ nx < gN t 12 0 6) : RC (sN (sN s 24 0 d nx) 22 0 x ow) (sN (sN t 66 0 d nx) 64 0 x ow) := by
  obtain ⟨h1, h2, h3, h4, h5, h6, h7⟩ := h
  have e6 : gN (sN (sN t 66 0 d nx) 64 0 x ow) 12 0 6 = gN t 12 0 6 := by simp [gN_sN]
  have m62 : ∀ j, gN (sN (sN t 66 0 d nx) 64 0 x ow) 62 0 j = gN t 62 0 j := fun j => by simp [gN_sN]
  have m63 : ∀ j, gN (sN (sN t 66 0 d nx) 64 0 x ow) 63 0 j = gN t 63 0 j := fun j => by simp [gN_sN]
  have m64 : ∀ j, gN (sN (sN t 66 0 d nx) 64 0 x ow) 64 0 j = if j = x then ow else gN t 64 0 j := fun j => by simp [gN_sN]
  have m65 : ∀ j, gN (sN (sN t 66 0 d nx) 64 0 x ow) 65 0 j = gN t 65 0 j := fun j => by simp [gN_sN]
  have m66 : ∀ j, gN (sN (sN t 66 0 d nx) 64 0 x ow) 66 0 j = if j = d then nx else gN t 66 0 j := fun j => by simp [gN_sN]
  have c5 : gN (sN (sN s 24 0 d nx) 22 0 x ow) 1 0 5 = gN s 1 0 5 := by simp [gN_sN]
  have c20 : ∀ j, gN (sN (sN s 24 0 d nx) 22 0 x ow) 20 0 j = gN s 20 0 j := fun j => by simp [gN_sN]
  have c21 : ∀ j, gN (sN (sN s 24 0 d nx) 22 0 x ow) 21 0 j = gN s 21 0 j := fun j => by simp [gN_sN]
  have c22 : ∀ j, gN (sN (sN s 24 0 d nx) 22 0 x ow) 22 0 j = if j = x then ow else gN s 22 0 j := fun j => by simp [gN_sN]
  have c23 : ∀ j, gN (sN (sN s 24 0 d nx) 22 0 x ow) 23 0 j = gN s 23 0 j := fun j => by simp [gN_sN]
  have c24 : ∀ j, gN (sN (sN s 24 0 d nx) 22 0 x ow) 24 0 j = if j = d then nx else gN s 24 0 j := fun j => by simp [gN_sN]
  refine ⟨by rw [c5, e6]; exact h1, by rw [e6]; exact h2, by rw [e6]; exact h3, fun j => ?_, fun j hj => ?_, fun j hj => ?_, fun j hj => ?_⟩
  · obtain ⟨a1, a2, a3, a4, a5⟩ := h4 j
    rw [c20, c21, c22, c23, c24, m62, m63, m64, m65, m66, a1, a2, a3, a4, a5]
    exact ⟨rfl, rfl, rfl, rfl, rfl⟩
  · rw [e6] at hj ⊢
    rw [m62, m63, m65]
    exact h5 j hj
  · rw [e6, m66]
    by_cases q : j = d
    · rw [if_pos q]; exact hnx
    · rw [if_neg q]; exact h6 j hj
  · rw [e6] at hj
    rw [m63]
    exact h7 j hj
theorem RPc.take {t : MM} (h : RPc t) {d x : Nat} {ow : Int} (hd : d < 28) (hx : gN t 66 0 d = x) (hxn : (x : Int) < gN t 12 0 6) (how : 28 ≤ ow) (hnx : -1 ≤ gN t 65 0 x) : RPc (sN (sN t 66 0 d (gN t 65 0 x)) 64 0 x ow) := by
  have e6 : gN (sN (sN t 66 0 d (gN t 65 0 x)) 64 0 x ow) 12 0 6 = gN t 12 0 6 := by simp [gN_sN]
  have m64 : ∀ j, gN (sN (sN t 66 0 d (gN t 65 0 x)) 64 0 x ow) 64 0 j = if j = x then ow else gN t 64 0 j := fun j => by simp [gN_sN]
  have m65 : ∀ j, gN (sN (sN t 66 0 d (gN t 65 0 x)) 64 0 x ow) 65 0 j = gN t 65 0 j := fun j => by simp [gN_sN]
  have m66 : ∀ j, gN (sN (sN t 66 0 d (gN t 65 0 x)) 64 0 x ow) 66 0 j = if j = d then gN t 65 0 x else gN t 66 0 j := fun j => by simp [gN_sN]
  have m90 : ∀ j, gN (sN (sN t 66 0 d (gN t 65 0 x)) 64 0 x ow) 90 0 j = gN t 90 0 j := fun j => by simp [gN_sN]
  have m100 : ∀ j, gN (sN (sN t 66 0 d (gN t 65 0 x)) 64 0 x ow) 100 0 j = gN t 100 0 j := fun j => by simp [gN_sN]
  have ht := h.t
  have hu := h.u
  have hj := h.j
  have hh := h.h
  have hw := h.w
  have hp := h.p
  have hi := h.i
  have hxd := ht d x hd hx
  generalize (sN (sN t 66 0 d (gN t 65 0 x)) 64 0 x ow) = t' at *
  unfold RPc
  rw [e6]
  simp only [m64, m65, m66, m90, m100]
  refine ⟨fun b' y hb' hy => ?_, fun y z hy h1 h2 => ?_, fun y y' z hy hy' h1 h2 h3 h4 => ?_, fun b' y z hb' h1 hy h2 => ?_, fun y hy => ?_, fun q k y hq hk hk' hy => ?_, fun q k q' k' y a1 a2 a3 a4 a5 a6 a7 a8 => hi q k q' k' y a1 a2 a3 a4 a5 a6 a7 a8⟩
  · by_cases q : b' = d
    · rw [if_pos q] at hy
      rw [q]
      have z1 := hu x y hxn (by omega) hy
      have z2 := hh d x x hd hx hxn (by omega)
      have z3 : y ≠ x := fun z => z2 (by rw [hy, z])
      rw [if_neg z3]
      omega
    · rw [if_neg q] at hy
      have := ht b' y hb' hy
      rw [if_neg (fun z => by rw [z] at this; omega)]
      exact this
  · by_cases q : y = x
    · rw [if_pos q] at h1; omega
    · rw [if_neg q] at h1 ⊢
      have z1 := hu y z hy h1 h2
      have z2 := hh d y x hd hx hy h1
      have z3 : z ≠ x := fun w => z2 (by rw [h2, w])
      rw [if_neg z3]
      exact z1
  · by_cases q : y = x
    · rw [if_pos q] at h1; omega
    · by_cases q' : y' = x
      · rw [if_pos q'] at h2; omega
      · rw [if_neg q] at h1
        rw [if_neg q'] at h2
        exact hj y y' z hy hy' h1 h2 h3 h4
  · by_cases q' : y = x
    · rw [if_pos q'] at h2; omega
    · rw [if_neg q'] at h2
      by_cases q : b' = d
      · rw [if_pos q] at h1
        intro w
        exact q' (hj y x z hy hxn h2 (by omega) w h1)
      · rw [if_neg q] at h1
        exact hh b' y z hb' h1 hy h2
  · by_cases q : y = x
    · rw [if_pos q]; omega
    · rw [if_neg q]; exact hw y hy
  · have := hp q k y hq hk hk' hy
    rw [if_neg (fun z => by rw [z] at this; omega)]
    exact this
theorem RPc.lay {t : MM} (h : RPc t) {x q0 k0 : Nat} (hq0 : q0 < 48) (hk0 : k0 < 150) (hk0' : (k0 : Int) < gN t 90 0 q0) (hxn : (x : Int) < gN t 12 0 6) (hx28 : 28 ≤ gN t 64 0 x) (hno : ∀ q k : Nat, q < 48 → k < 150 → (k : Int) < gN t 90 0 q → gN t 100 0 (150 * q + k) = x → q = q0 ∧ k = k0) :
    RPc (sN t 100 0 (150 * q0 + k0) x) := by
  have e6 : gN (sN t 100 0 (150 * q0 + k0) x) 12 0 6 = gN t 12 0 6 := by simp [gN_sN]
  have mK : ∀ K j, K ≠ 100 → gN (sN t 100 0 (150 * q0 + k0) x) K 0 j = gN t K 0 j := fun K j hK => by rw [gN_sN, if_neg (fun q => hK q.1)]
  have m64 : ∀ j, gN (sN t 100 0 (150 * q0 + k0) x) 64 0 j = gN t 64 0 j := fun j => mK 64 j (by decide)
  have m65 : ∀ j, gN (sN t 100 0 (150 * q0 + k0) x) 65 0 j = gN t 65 0 j := fun j => mK 65 j (by decide)
  have m66 : ∀ j, gN (sN t 100 0 (150 * q0 + k0) x) 66 0 j = gN t 66 0 j := fun j => mK 66 j (by decide)
  have m90 : ∀ j, gN (sN t 100 0 (150 * q0 + k0) x) 90 0 j = gN t 90 0 j := fun j => mK 90 j (by decide)
  have m100 : ∀ j, gN (sN t 100 0 (150 * q0 + k0) x) 100 0 j = if j = 150 * q0 + k0 then (x : Int) else gN t 100 0 j := fun j => by simp [gN_sN]
  have hp := h.p
  have hi := h.i
  unfold RPc at h ⊢
  rw [e6]
  simp only [m64, m65, m66, m90, m100]
  refine ⟨h.1, h.2.1, h.2.2.1, h.2.2.2.1, h.2.2.2.2.1, fun q k y hq hk hk' hy => ?_, fun q k q' k' y a1 a2 a3 a4 a5 a6 a7 a8 => ?_⟩
  · by_cases z : 150 * q + k = 150 * q0 + k0
    · rw [if_pos z] at hy
      obtain rfl : y = x := by omega
      exact ⟨hxn, hx28⟩
    · rw [if_neg z] at hy
      exact hp q k y hq hk hk' hy
  · by_cases z : 150 * q + k = 150 * q0 + k0
    · by_cases z' : 150 * q' + k' = 150 * q0 + k0
      · omega
      · rw [if_pos z] at a7
        rw [if_neg z'] at a8
        obtain rfl : y = x := by omega
        have := hno q' k' a3 a4 a6 a8
        omega
    · by_cases z' : 150 * q' + k' = 150 * q0 + k0
      · rw [if_neg z] at a7
        rw [if_pos z'] at a8
        obtain rfl : y = x := by omega
        have := hno q k a1 a2 a5 a7
        omega
      · rw [if_neg z] at a7
        rw [if_neg z'] at a8
        exact hi q k q' k' y a1 a2 a3 a4 a5 a6 a7 a8
set_option maxHeartbeats 8000000 in
/-- what a correction leaves -/
theorem cor_rel (h : RR N mc mm) (hN : N ≤ 1900) (hb : (b : Int) < gN mm 12 0 19) (hB : RBk mc mm b F n M Ln E) {p k0 x d ns ns' c : Nat} (hp : p < 2 * (F * n)) (hk0 : (k0 : Int) < gN mm 90 0 (16 * b + p)) {mc' mm' : MM}
    (hst : gN mm 108 0 (8 * b + fo F p) = 1 ∨ gN mm 108 0 (8 * b + fo F p) = 2) (hns : gN mm 111 0 (8 * b + fo F p) = ns) (hns' : ns' = ns ∨ (ns' = ns + 1 ∧ gN mm 112 0 (26 * (8 * b + fo F p) + (ns - 1)) < gN mm 110 0 (8 * b + fo F p))) (hc : gN mm 12 0 52 = c) (hx : (x : Int) < gN mm 12 0 6) (hd28 : d < 28)
    (cc : ∀ K i s, ¬ ((22 ≤ K ∧ K ≤ 24) ∧ i = 0) ∧ ¬ ((K = 35 ∨ K = 36) ∧ i = 16 * b + p ∧ s = k0) ∧ ¬ (K = 2 ∧ i = 8 * b + fo F p ∧ s = 7) ∧ ¬ (K = 26 ∧ i = 8 * b + fo F p ∧ s = ns ∧ ns' = ns + 1) ∧ ¬ (K = 38 ∧ i = 24 * (16 * b + p) + (ns' - 1) ∧ s = k0) ∧ ¬ (K = 38 ∧ ns' = ns + 1 ∧ ∃ p', p' < 2 * (F * n) ∧ fo F p' = fo F p ∧ i = 24 * (16 * b + p') + ns) → eq3 mc mc' K i s)
    (cm : ∀ K i s, ¬ (K = 12 ∧ (s = 0 ∨ s = 52)) ∧ ¬ (64 ≤ K ∧ K ≤ 66) ∧ ¬ ((K = 100 ∨ K = 101) ∧ s = 150 * (16 * b + p) + k0) ∧ ¬ (K = 111 ∧ s = 8 * b + fo F p) ∧ ¬ (K = 112 ∧ s = 26 * (8 * b + fo F p) + ns ∧ ns' = ns + 1) ∧ ¬ ((105 ≤ K ∧ K ≤ 107) ∧ s = c) → eq3 mm mm' K i s)
    (hzc : ∀ K i, gZ mc' K i = gZ mc K i) (hzm : ∀ K i k, gZ mm K i = some k → gZ mm' K i = some k) (hCC : ∀ K, gC mc' K = gC mc K)
    (w7 : gN mc' 2 (8 * b + fo F p) 7 = ns') (x111 : gN mm' 111 0 (8 * b + fo F p) = ns') (x52 : gN mm' 12 0 52 = (c : Int) + 1)
    (w26 : ns' = ns + 1 → gN mc' 26 (8 * b + fo F p) ns = gN mm 110 0 (8 * b + fo F p)) (x112 : ns' = ns + 1 → gN mm' 112 0 (26 * (8 * b + fo F p) + ns) = gN mm 110 0 (8 * b + fo F p))
    (w35 : gN mc' 35 (16 * b + p) k0 = x) (w36 : gN mc' 36 (16 * b + p) k0 = 0) (x100 : gN mm' 100 0 (150 * (16 * b + p) + k0) = x) (x101 : gN mm' 101 0 (150 * (16 * b + p) + k0) = 0)
    (x105 : gN mm' 105 0 c = ((150 * (16 * b + p) + k0 : Nat) : Int)) (x106 : gN mm' 106 0 c = ((ns' - 1 : Nat) : Int)) (x107 : gN mm' 107 0 c = d)
    (w38 : gN mc' 38 (24 * (16 * b + p) + (ns' - 1)) k0 = d)
    (w38n : ns' = ns + 1 → ∀ p' k : Nat, p' < 2 * (F * n) → fo F p' = fo F p → (k : Int) < gN mm 90 0 (16 * b + p') → ¬ (p' = p ∧ k = k0) → gN mc' 38 (24 * (16 * b + p') + ns) k = gN mc 38 (24 * (16 * b + p') + (ns - 1)) k)
    (hRC : RC mc' mm') (hRPc : RPc mm') : RR (N + 1) mc' mm' := by
  have hP := hB.hP
  have hS := hB.hS
  have q0 := hP.hb
  have q1 := hP.hn
  have q2 := hP.hL
  have q3 := hP.hE
  have q4 := hP.ml
  have hf := fo_lt hP.hF hp
  have hff := hB.ff _ hf
  have hPf := h.Pf
  have hcN := hPf.c
  have hpgp := (hB.pg p hp).pn
  have zns := hff.ns
  have zpr := hff.pr
  have zsb := hff.sb (by omega)
  have hns1 : 1 ≤ ns ∧ ns ≤ E := by omega
  have hnsE : ns' ≤ E := by
    rcases hns' with q | ⟨q, q'⟩
    · omega
    · have := zsb (ns - 1) (by omega)
      omega
  have cb : ∀ K i s', isBK K → ¬ CBk b K i → eq3 mc mc' K i s' := fun K i s' hK hn => cc K i s' ⟨by unfold isBK at hK; omega, fun q => hn (CBk.c (by omega) (by omega)), fun q => hn (CBk.b (by omega) (by omega)), fun q => hn (CBk.b (by omega) (by omega)), fun q => hn (CBk.f q.1 (by omega)), fun q => by
    obtain ⟨y1, y2, p', y3, y4, y5⟩ := q
    exact hn (CBk.f y1 (by omega))⟩
  have mb : ∀ K s', 78 ≤ K → K ≤ 126 → K < 105 ∨ 107 < K → K < 121 ∨ 125 < K → ¬ MBk b K s' → eq3 mm mm' K 0 s' := fun K s' h1 h2 h3 h4 hn => cm K 0 s' ⟨by omega, by omega, fun q => hn (MBk.f (by omega) (by omega)), fun q => hn (MBk.g (by omega) (by omega)), fun q => hn (MBk.h q.1 (by omega)), by omega⟩
  have cc' : ∀ K i s, K ≠ 38 → ¬ ((22 ≤ K ∧ K ≤ 24) ∧ i = 0) ∧ ¬ ((K = 35 ∨ K = 36) ∧ i = 16 * b + p ∧ s = k0) ∧ ¬ (K = 2 ∧ i = 8 * b + fo F p ∧ s = 7) ∧ ¬ (K = 26 ∧ i = 8 * b + fo F p ∧ s = ns ∧ ns' = ns + 1) → eq3 mc mc' K i s := fun K i s h38 hk => cc K i s ⟨hk.1, hk.2.1, hk.2.2.1, hk.2.2.2, fun q => h38 q.1, fun q => h38 q.1⟩
  have hgl : ∀ k s, k ≠ 150 * (16 * b + p) + k0 → glF mm' k s (gN mm' 12 0 52).toNat = glF mm k s (gN mm 12 0 52).toNat := fun k s hk => by
    rw [x52, hc, show ((c : Int) + 1).toNat = c + 1 by omega, Int.toNat_natCast, glF, x105, if_neg (fun q => by have := q.1; omega)]
    exact glF_congr (cm 102 0 k (by omega)).1 _ (fun j hj => ⟨(cm 105 0 j (by omega)).1, (cm 106 0 j (by omega)).1, (cm 107 0 j (by omega)).1⟩)
  have hgl0 : ∀ s, glF mm' (150 * (16 * b + p) + k0) s (gN mm' 12 0 52).toNat = if ns' - 1 ≤ s then (d : Int) else glF mm (150 * (16 * b + p) + k0) s (gN mm 12 0 52).toNat := fun s => by
    rw [x52, hc, show ((c : Int) + 1).toNat = c + 1 by omega, Int.toNat_natCast, glF, x105, x106, x107]
    by_cases q : ns' - 1 ≤ s
    · rw [if_pos ⟨rfl, by omega⟩, if_pos q]
    · rw [if_neg (fun z => q (by omega)), if_neg q]
      exact glF_congr (cm 102 0 _ (by omega)).1 _ (fun j hj => ⟨(cm 105 0 j (by omega)).1, (cm 106 0 j (by omega)).1, (cm 107 0 j (by omega)).1⟩)
  refine h.one (b0 := b) hzc hCC hb (cm 12 0 19 (by omega)).1 (h.C.mv2 (fun K i s hk => (cc' K i s (by omega) (by omega)).2.2) (fun K i k hk => by rw [hzc]; exact hk)) (h.M.mv2 (fun s hs => (cm 12 0 s (by omega)).2.2) hzm) (h.T.keep (cc' 10 0 5 (by omega) (by omega)).1 (cm 12 0 1 (by omega)).1 (fun k => (cc' 50 0 k (by omega) (by omega)).1) (fun k => (cm 59 0 k (by omega)).1)) (h.Sp.keep (fun K i s hk => cc' K i s (by omega) (by omega)) (fun K i s hk => cm K i s (by omega)))
    hRC (h.H.keep (by omega) (fun K i s hk => cc' K i s (by omega) (by omega)) (hCC 3) (fun K i s hk => cm K i s (by omega))) (h.Mi.keep (fun K i s hk => cc' K i s (by omega) (by omega)) (fun K i s hk => cm K i s (by omega))) (h.Pr.keep (fun i s _ => cc' 6 i s (by omega) (by omega)) (fun K s h1 h2 => cm K 0 s (by omega))) (h.Nb.keep (cc' 11 0 8 (by omega) (by omega)).1 (cm 12 0 19 (by omega)).1 (fun s => (cc' 56 0 s (by omega) (by omega)).2.2))
    (fun K i s hk => cc' K i s (by omega) (by omega)) cb (fun K i s hk => cm K i s (by omega)) mb (fun b' p' f' hbb hb3 hp' hf' h90 h7 hx => ?_) (by rw [(cm 12 0 69 (by omega)).1]; exact Int.le_refl _) (fun x => by rw [(cm 63 0 x (by omega)).1]; exact Int.le_refl _) ⟨F, n, M, Ln, E, hP.keep (fun K h1 h2 => (cm K 0 b (by omega)).1), hS.keep hP (fun K i s hk => cc' K i s (by unfold CBS at hk; omega) (by unfold CBS at hk; omega)) (fun K i k hk => by rw [hzc]; exact hk), hB.tx.keep (fun K i s hk => cc' K i s (by unfold CTx at hk; omega) (by unfold CTx at hk; omega)) (fun K i s hk => cm K i s (by unfold MTx at hk; omega)), fun p hp => (hB.pg p hp).keep (by omega) (fun K i s hk => cc' K i s (by unfold CPg at hk; omega) (by unfold CPg at hk; omega)) (fun K i s hk => cm K i s (by unfold MPg at hk; omega)), fun p hp => (hB.po p hp).keep (by omega) (fun K i s hk => cc' K i s (by unfold CPo at hk; omega) (by unfold CPo at hk; omega)) (fun K i s hk => cm K i s (by unfold MPo at hk; omega)), fun p' hp' => ?_, fun f' hf' => ?_, fun p' hp' => ?_, fun f hf => (hB.se f hf).keep (by omega) (fun p hp => by have := (hB.pg p hp).pn; omega) (fun K i s hk => cc' K i s (by unfold CSe at hk; omega) (by unfold CSe at hk; omega)) (fun K i s hk => cm K i s (by unfold MSe at hk; omega)) (fun x => by rw [(cm 63 0 x (by omega)).1]; exact Int.le_refl _), fun s hs => (hB.sh s hs).keep (by omega) (fun K i s' hk => cc' K i s' (by unfold CSh at hk; omega) (by unfold CSh at hk; omega)) (fun K i s' hk => cm K i s' (by unfold MSh at hk; omega)), hB.lv.keep (by omega) (by omega) (by omega) (fun K i s hk => cc' K i s (by unfold CLv at hk; omega) (by unfold CLv at hk; omega)) (fun K i s hk => cm K i s (by unfold MLv at hk; omega))⟩ ⟨fun p' hp' => ?_, fun p1 p2 h1 h2 => ?_, fun p' hp' => ?_, fun p' hp' => ?_, fun k hk => ?_, by rw [x52]; omega⟩ hRPc
  · -- other books
    have y7 : gN mc' 2 (8 * b' + f') 7 = gN mc 2 (8 * b' + f') 7 := (cc' 2 _ 7 (by omega) (by omega)).1
    have y108 := (cm 108 0 (8 * b' + f') (by omega)).1
    have y90 := (cm 90 0 (16 * b' + p') (by omega)).1
    refine ⟨fun z => by rw [(cm 83 0 (16 * b' + p') (by omega)).1]; exact hx.st (by omega), fun k s hk hs => ?_, fun j k hj hk he => ?_⟩
    · rw [y90] at hk
      rw [y7] at hs
      rw [hgl _ _ (by omega), (cc 38 (24 * (16 * b' + p') + s) k ⟨by omega, by omega, by omega, by omega, by omega, fun q => by
        obtain ⟨y1, y2, p2, y3, y4, y5⟩ := q
        omega⟩).1]
      exact hx.g k s hk hs
    · by_cases qj : j = c
      · rw [qj, x105] at he; omega
      · rw [(cm 105 0 j (by omega)).1] at he
        rw [x52] at hj
        have := hx.c j k (by omega) hk he
        rw [y108, y7, (cm 106 0 j (by omega)).1]
        exact this
  · -- places
    have hx := hB.pl p' hp'
    have hpn := (hB.pg p' hp').pn
    have y90 := (cm 90 0 (16 * b + p') (by omega)).1
    have key : ∀ k : Nat, (k : Int) < gN mm 90 0 (16 * b + p') → (p' = p ∧ k = k0) ∨ (gN mc' 35 (16 * b + p') k = gN mc 35 (16 * b + p') k ∧ gN mc' 36 (16 * b + p') k = gN mc 36 (16 * b + p') k ∧ gN mm' 100 0 (150 * (16 * b + p') + k) = gN mm 100 0 (150 * (16 * b + p') + k) ∧ gN mm' 101 0 (150 * (16 * b + p') + k) = gN mm 101 0 (150 * (16 * b + p') + k)) := fun k hk => by
      by_cases q : p' = p ∧ k = k0
      · exact Or.inl q
      · exact Or.inr ⟨(cc' 35 _ k (by omega) (by omega)).1, (cc' 36 _ k (by omega) (by omega)).1, (cm 100 0 _ (by omega)).1, (cm 101 0 _ (by omega)).1⟩
    have hx4 := h.Ca.2.2.1
    refine ⟨fun k hk => ?_, fun k hk => ?_, fun k hk => ?_⟩
    · rw [y90] at hk
      rw [(cc' 34 _ k (by omega) (by omega)).1, (cm 99 0 _ (by omega)).1]
      exact hx.w k hk
    · rw [y90] at hk
      rcases key k hk with ⟨rfl, rfl⟩ | ⟨y1, y2, y3, y4⟩
      · rw [w35, x100]; omega
      · rw [y1, y3]; exact hx.p k hk
    · rw [y90] at hk
      rcases key k hk with ⟨rfl, rfl⟩ | ⟨y1, y2, y3, y4⟩
      · rw [w36, x101, x100]; omega
      · rw [y2, y3, y4]; exact hx.t k hk
  · -- formes
    by_cases q : f' = fo F p
    · subst q
      have z1 := hff.how
      have z2 := hff.dh
      have z4 := hff.sk
      have z6 := hff.oh
      have z7 := hff.rd
      have y108 := (cm 108 0 (8 * b + fo F p) (by omega)).1
      refine ⟨by rw [(cc' 2 (8 * b + fo F p) 4 (by omega) (by omega)).1, y108]; exact z1, by rw [(cc' 2 (8 * b + fo F p) 5 (by omega) (by omega)).1, (cm 109 0 (8 * b + fo F p) (by omega)).1, y108]; exact z4, by rw [(cc' 2 (8 * b + fo F p) 6 (by omega) (by omega)).1, (cm 110 0 (8 * b + fo F p) (by omega)).1, y108]; exact zpr, by rw [w7, x111, y108]; omega, by rw [(cc' 26 (8 * b + fo F p) 0 (by omega) (by omega)).1]; exact hff.s0, fun _ s hs => ?_, ?_, ?_, ?_⟩
      · rw [x111] at hs
        rw [(cm 110 0 (8 * b + fo F p) (by omega)).1]
        by_cases qs : s = ns ∧ ns' = ns + 1
        · rw [qs.1, w26 qs.2, x112 qs.2]
          have := zsb (ns - 1) (by omega)
          omega
        · rw [(cc' 26 (8 * b + fo F p) s (by omega) (by omega)).1, (cm 112 0 (26 * (8 * b + fo F p) + s) (by omega)).1]
          exact zsb s (by omega)
      · rw [y108, (cc' 2 (8 * b + fo F p) 8 (by omega) (by omega)).1, (cm 113 0 (8 * b + fo F p) (by omega)).1, (cm 12 0 69 (by omega)).1]
        exact z6
      · rw [(cc' 2 (8 * b + fo F p) 9 (by omega) (by omega)).1, y108, (cm 114 0 (8 * b + fo F p) (by omega)).1, (cm 113 0 (8 * b + fo F p) (by omega)).1, (cm 12 0 69 (by omega)).1]
        exact z2
      · rw [(cc' 2 (8 * b + fo F p) 10 (by omega) (by omega)).1, y108, (cm 115 0 (8 * b + fo F p) (by omega)).1]
        exact z7
    · exact (hB.ff f' hf').keep (by omega) (fun K i s' hk => cc' K i s' (by unfold CFo at hk; omega) (by unfold CFo at hk; omega)) (fun K i s' hk => cm K i s' (by unfold MFo at hk; omega)) (by rw [(cm 12 0 69 (by omega)).1]; exact Int.le_refl _)
  · -- prints
    have hx := hB.pn p' hp'
    have hpn := (hB.pg p' hp').pn
    have hfl := fo_lt hP.hF hp'
    have y108 := (cm 108 0 (8 * b + fo F p') (by omega)).1
    have y90 := (cm 90 0 (16 * b + p') (by omega)).1
    have hns2 := (hB.ff _ hfl).ns
    have h7 : gN mc 2 (8 * b + fo F p) 7 = ns := by omega
    refine ⟨fun z => by rw [(cm 83 0 (16 * b + p') (by omega)).1]; exact hx.st (by omega), fun k s hk hs => ?_, fun j k hj hk he => ?_⟩
    · rw [y90] at hk
      by_cases qf : fo F p' = fo F p
      · rw [qf] at hs hx
        rw [w7] at hs
        by_cases qk : p' = p ∧ k = k0
        · obtain ⟨rfl, rfl⟩ := qk
          rw [hgl0]
          by_cases qs : ns' - 1 ≤ s
          · rw [if_pos qs, show s = ns' - 1 by omega, w38, if_neg (by omega)]
            omega
          · rw [if_neg qs, (cc 38 (24 * (16 * b + p') + s) k ⟨by omega, by omega, by omega, by omega, by omega, fun q => by
              obtain ⟨y1, y2, p2, y3, y4, y5⟩ := q
              omega⟩).1]
            exact hx.g k s hk (by omega)
        · rw [hgl _ _ (by omega)]
          by_cases qs : s = ns ∧ ns' = ns + 1
          · rw [qs.1, w38n qs.2 p' k hp' qf hk qk]
            have e : glF mm (150 * (16 * b + p') + k) ns (gN mm 12 0 52).toNat = glF mm (150 * (16 * b + p') + k) (ns - 1) (gN mm 12 0 52).toNat := by
              have : ∀ m : Nat, (m : Int) ≤ gN mm 12 0 52 → glF mm (150 * (16 * b + p') + k) ns m = glF mm (150 * (16 * b + p') + k) (ns - 1) m := by
                intro m
                induction m with
                | zero => intro _; rfl
                | succ m ih =>
                  intro hm
                  rw [glF, glF, ih (by omega)]
                  by_cases q1 : gN mm 105 0 m = ((150 * (16 * b + p') + k : Nat) : Int)
                  · have := hx.c m k (by omega) (by omega) q1
                    rw [if_pos ⟨q1, by omega⟩, if_pos ⟨q1, by omega⟩]
                  · rw [if_neg (fun z => q1 z.1), if_neg (fun z => q1 z.1)]
              exact this _ (by omega)
            rw [e]
            exact hx.g k (ns - 1) hk (by omega)
          · rw [(cc 38 (24 * (16 * b + p') + s) k ⟨by omega, by omega, by omega, by omega, by omega, fun q => by
              obtain ⟨y1, y2, p2, y3, y4, y5⟩ := q
              omega⟩).1]
            exact hx.g k s hk (by omega)
      · rw [(cc' 2 (8 * b + fo F p') 7 (by omega) (by omega)).1] at hs
        have hpp : p' ≠ p := fun z => qf (by rw [z])
        rw [hgl _ _ (by omega), (cc 38 (24 * (16 * b + p') + s) k ⟨by omega, by omega, by omega, by omega, by omega, fun q => by
          obtain ⟨y1, y2, p2, y3, y4, y5⟩ := q
          obtain rfl : p2 = p' := by omega
          exact qf y4⟩).1]
        exact hx.g k s hk hs
    · rw [y108]
      by_cases qj : j = c
      · rw [qj, x105] at he
        obtain rfl : p' = p := by omega
        rw [qj, x106, w7]
        omega
      · rw [(cm 105 0 j (by omega)).1] at he
        rw [x52] at hj
        have hz := hx.c j k (by omega) hk he
        rw [(cm 106 0 j (by omega)).1]
        by_cases qf : fo F p' = fo F p
        · rw [qf] at hz ⊢
          rw [w7]
          omega
        · rw [(cc' 2 (8 * b + fo F p') 7 (by omega) (by omega)).1]
          exact hz
  · rw [(cm 122 0 p' (by omega)).1]
    rcases hPf.f p' hp' with z | ⟨b', f', n', z1, z2, z3, z4, z5⟩
    · exact Or.inl z
    · exact Or.inr ⟨b', f', n', by rw [(cm 12 0 19 (by omega)).1]; exact z1, by rw [(cm 74 0 b' (by omega)).1]; exact z2, z3, z4, by rw [(cm 108 0 _ (by omega)).1]; exact z5⟩
  · rw [(cm 122 0 p1 (by omega)).1, (cm 122 0 p2 (by omega)).1]
    exact hPf.u p1 p2 h1 h2
  · rw [(cm 123 0 p' (by omega)).1, (cm 12 0 69 (by omega)).1]
    exact hPf.s p' hp'
  · rw [(cm 124 0 p' (by omega)).1, (cm 12 0 69 (by omega)).1]
    exact hPf.h p' hp'
  · rw [(cm 125 0 k (by omega)).1]
    have := hPf.t k hk
    omega
end CORRECT
