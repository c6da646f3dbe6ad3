/-! PUT AWAY. -/
section AWAY
variable {N : Nat} {mc mm : MM} {b F n M Ln E : Nat}
theorem RH.more {B : Int} {s t : MM} (h : RH B s t) {d : Nat} : RH (B + 1) (sN s 3 d 5 (gN s 3 d 5 + 1)) (sN t 72 0 d (gN t 72 0 d + 1)) := by
  obtain ⟨h1, h2, h3, h4, h5, h6⟩ := h
  have a7 : gN (sN s 3 d 5 (gN s 3 d 5 + 1)) 11 0 7 = gN s 11 0 7 := by rw [gN_sN, if_neg (by omega)]
  have a3 : ∀ i k, k ≠ 5 → gN (sN s 3 d 5 (gN s 3 d 5 + 1)) 3 i k = gN s 3 i k := fun i k hk => by rw [gN_sN, if_neg (by omega)]
  have a5 : ∀ i, gN (sN s 3 d 5 (gN s 3 d 5 + 1)) 3 i 5 = if i = d then gN s 3 d 5 + 1 else gN s 3 i 5 := fun i => by
    rw [gN_sN]
    by_cases q : i = d
    · rw [if_pos ⟨rfl, q, rfl⟩, if_pos q]
    · rw [if_neg (fun z => q z.2.1), if_neg q]
  have b12 : ∀ K k, K ≠ 72 → gN (sN t 72 0 d (gN t 72 0 d + 1)) K 0 k = gN t K 0 k := fun K k hk => by rw [gN_sN, if_neg (by omega)]
  have b72 : ∀ i, gN (sN t 72 0 d (gN t 72 0 d + 1)) 72 0 i = if i = d then gN t 72 0 d + 1 else gN t 72 0 i := fun i => by
    rw [gN_sN]
    by_cases q : i = d
    · rw [if_pos ⟨rfl, rfl, q⟩, if_pos q]
    · rw [if_neg (fun z => q z.2.2), if_neg q]
  unfold RH
  rw [a7, b12 12 12 (by decide)]
  refine ⟨h1, h2, h3, h4, fun i hi => ?_, fun i => ?_⟩
  · rw [a3 i 0 (by decide), a3 i 1 (by decide), a3 i 2 (by decide), b12 67 i (by decide), b12 68 i (by decide), b12 69 i (by decide)]
    exact h5 i hi
  · obtain ⟨z1, z2, z3⟩ := h6 i
    have := h6 d
    rw [a3 i 3 (by decide), a3 i 4 (by decide), a5, b12 70 i (by decide), b12 71 i (by decide), b72]
    refine ⟨by omega, by omega, ?_⟩
    by_cases q : i = d
    · rw [if_pos q, if_pos q]; omega
    · rw [if_neg q, if_neg q]; omega
/-- a piece that was in a place goes to a box -/
theorem RC.put {s t : MM} (h : RC s t) {d x : Nat} (hd : d < 28) (hx : (x : Int) < gN t 12 0 6) : RC (pOn s 22 23 24 d x) (pOn t 64 65 66 d x) := by
  obtain ⟨h1, h2, h3, h4, h5, h6, h7⟩ := h
  have e6 : gN (pOn t 64 65 66 d x) 12 0 6 = gN t 12 0 6 := by simp [pOn, gN_sN]
  have m62 : ∀ j, gN (pOn t 64 65 66 d x) 62 0 j = gN t 62 0 j := fun j => by simp [pOn, gN_sN]
  have m63 : ∀ j, gN (pOn t 64 65 66 d x) 63 0 j = gN t 63 0 j := fun j => by simp [pOn, gN_sN]
  have m64 : ∀ j, gN (pOn t 64 65 66 d x) 64 0 j = if j = x then (d : Int) else gN t 64 0 j := fun j => by simp [pOn, gN_sN]
  have m65 : ∀ j, gN (pOn t 64 65 66 d x) 65 0 j = if j = x then gN t 66 0 d else gN t 65 0 j := fun j => by simp [pOn, gN_sN]
  have m66 : ∀ j, gN (pOn t 64 65 66 d x) 66 0 j = if j = d then (x : Int) else gN t 66 0 j := fun j => by simp [pOn, gN_sN]
  have c5 : gN (pOn s 22 23 24 d x) 1 0 5 = gN s 1 0 5 := by simp [pOn, gN_sN]
  have c20 : ∀ j, gN (pOn s 22 23 24 d x) 20 0 j = gN s 20 0 j := fun j => by simp [pOn, gN_sN]
  have c21 : ∀ j, gN (pOn s 22 23 24 d x) 21 0 j = gN s 21 0 j := fun j => by simp [pOn, gN_sN]
  have c22 : ∀ j, gN (pOn s 22 23 24 d x) 22 0 j = if j = x then (d : Int) else gN s 22 0 j := fun j => by simp [pOn, gN_sN]
  have c23 : ∀ j, gN (pOn s 22 23 24 d x) 23 0 j = if j = x then gN s 24 0 d else gN s 23 0 j := fun j => by simp [pOn, gN_sN]
  have c24 : ∀ j, gN (pOn s 22 23 24 d x) 24 0 j = if j = d then (x : Int) else gN s 24 0 j := fun j => by simp [pOn, gN_sN]
  refine ⟨by rw [c5, e6]; exact h1, by rw [e6]; exact h2, by rw [e6]; exact h3, fun j => ?_, fun j hj => ?_, fun j hj => ?_, fun j hj => ?_⟩
  · obtain ⟨a1, a2, a3, a4, a5⟩ := h4 j
    rw [c20, c21, c22, c23, c24, m62, m63, m64, m65, m66, a1, a2, a3, a4, a5, (h4 d).2.2.2.2]
    exact ⟨rfl, rfl, rfl, rfl, rfl⟩
  · rw [e6] at hj ⊢
    rw [m62, m63, m65]
    have z1 := h5 j hj
    have z2 := h6 d hd
    by_cases q : j = x
    · rw [if_pos q]; exact ⟨z1.1, z1.2.1, z2⟩
    · rw [if_neg q]; exact z1
  · rw [e6, m66]
    by_cases q : j = d
    · rw [if_pos q]; omega
    · rw [if_neg q]; exact h6 j hj
  · rw [e6] at hj
    rw [m63]
    exact h7 j hj
theorem RPc.put {t : MM} (h : RPc t) {d x q0 k0 : Nat} (hd : d < 28) (hq0 : q0 < 48) (hk0 : k0 < 150) (hk0' : (k0 : Int) < gN t 90 0 q0) (hx0 : gN t 100 0 (150 * q0 + k0) = x) :
    RPc (sN (pOn t 64 65 66 d x) 100 0 (150 * q0 + k0) (-1)) := by
  have e6 : gN (sN (pOn t 64 65 66 d x) 100 0 (150 * q0 + k0) (-1)) 12 0 6 = gN t 12 0 6 := by simp [pOn, gN_sN]
  have m64 : ∀ j, gN (sN (pOn t 64 65 66 d x) 100 0 (150 * q0 + k0) (-1)) 64 0 j = if j = x then (d : Int) else gN t 64 0 j := fun j => by simp [pOn, gN_sN]
  have m65 : ∀ j, gN (sN (pOn t 64 65 66 d x) 100 0 (150 * q0 + k0) (-1)) 65 0 j = if j = x then gN t 66 0 d else gN t 65 0 j := fun j => by simp [pOn, gN_sN]
  have m66 : ∀ j, gN (sN (pOn t 64 65 66 d x) 100 0 (150 * q0 + k0) (-1)) 66 0 j = if j = d then (x : Int) else gN t 66 0 j := fun j => by simp [pOn, gN_sN]
  have m90 : ∀ j, gN (sN (pOn t 64 65 66 d x) 100 0 (150 * q0 + k0) (-1)) 90 0 j = gN t 90 0 j := fun j => by simp [pOn, gN_sN]
  have m100 : ∀ j, gN (sN (pOn t 64 65 66 d x) 100 0 (150 * q0 + k0) (-1)) 100 0 j = if j = 150 * q0 + k0 then -1 else gN t 100 0 j := fun j => by simp [pOn, gN_sN]
  have ht := h.t
  have hu := h.u
  have hj := h.j
  have hh := h.h
  have hw := h.w
  have hp := h.p
  have hi := h.i
  obtain ⟨hxn, hx28⟩ := hp q0 k0 x hq0 hk0 hk0' hx0
  generalize (sN (pOn t 64 65 66 d x) 100 0 (150 * q0 + k0) (-1)) = t' at *
  unfold RPc
  rw [e6]
  simp only [m64, m65, m66, m90, m100]
  refine ⟨fun b' y hb' hy => ?_, fun y z hy h1 h2 => ?_, fun y y' z hy hy' h1 h2 h3 h4 => ?_, fun b' y z hb' h1 hy h2 => ?_, fun y hy => ?_, fun q k y hq hk hk' hy => ?_, fun q k q' k' y a1 a2 a3 a4 a5 a6 a7 a8 => ?_⟩
  · by_cases q : b' = d
    · rw [if_pos q] at hy
      rw [if_pos (show y = x by omega), q]
    · rw [if_neg q] at hy
      have := ht b' y hb' hy
      rw [if_neg (fun z => by rw [z] at this; omega)]
      exact this
  · by_cases q : y = x
    · rw [if_pos q] at h2 ⊢
      have := ht d z hd h2
      rw [if_neg (fun w => by rw [w] at this; omega)]
      exact this
    · rw [if_neg q] at h1 h2 ⊢
      have := hu y z hy h1 h2
      rw [if_neg (fun w => by rw [w] at this; omega)]
      exact this
  · by_cases q : y = x
    · by_cases q' : y' = x
      · rw [q, q']
      · rw [if_pos q] at h3
        rw [if_neg q'] at h4 h2
        exact absurd h4 (hh d y' z hd h3 hy' h2)
    · by_cases q' : y' = x
      · rw [if_pos q'] at h4
        rw [if_neg q] at h3 h1
        exact absurd h3 (hh d y z hd h4 hy h1)
      · rw [if_neg q] at h1 h3
        rw [if_neg q'] at h2 h4
        exact hj y y' z hy hy' h1 h2 h3 h4
  · by_cases q : b' = d
    · rw [if_pos q] at h1
      have hzx : z = x := by omega
      subst hzx
      by_cases q' : y = z
      · rw [if_pos q']
        intro w
        have := ht d z hd w
        omega
      · rw [if_neg q'] at h2 ⊢
        intro w
        have := hu y z hy h2 w
        omega
    · rw [if_neg q] at h1
      by_cases q' : y = x
      · rw [if_pos q']
        intro w
        have y1 := ht d z hd w
        have y2 := ht b' z hb' h1
        omega
      · rw [if_neg q'] at h2 ⊢
        exact hh b' y z hb' h1 hy h2
  · by_cases q : y = x
    · rw [if_pos q]; omega
    · rw [if_neg q]; exact hw y hy
  · by_cases z : 150 * q + k = 150 * q0 + k0
    · rw [if_pos z] at hy; omega
    · rw [if_neg z] at hy
      have := hp q k y hq hk hk' hy
      rw [if_neg (fun w => ?_)]
      · exact this
      · rw [w] at hy
        have := hi q k q0 k0 x hq hk hq0 hk0 hk' hk0' hy hx0
        omega
  · by_cases z : 150 * q + k = 150 * q0 + k0
    · rw [if_pos z] at a7; omega
    · by_cases z' : 150 * q' + k' = 150 * q0 + k0
      · rw [if_pos z'] at a8; omega
      · rw [if_neg z] at a7
        rw [if_neg z'] at a8
        exact hi q k q' k' y a1 a2 a3 a4 a5 a6 a7 a8
def WAwc (b d K i s : Nat) : Prop := ((22 ≤ K ∧ K ≤ 24) ∧ i = 0) ∨ (K = 3 ∧ i = d ∧ s = 5) ∨ ((K = 35 ∨ K = 36) ∧ 16 * b ≤ i ∧ i < 16 * b + 16)
def WAwm (b d K i s : Nat) : Prop := (K = 12 ∧ s = 0) ∨ ((64 ≤ K ∧ K ≤ 66) ∧ i = 0) ∨ (K = 72 ∧ i = 0 ∧ s = d) ∨ ((K = 100 ∨ K = 101) ∧ i = 0 ∧ 2400 * b ≤ s ∧ s < 2400 * b + 2400)
/-- under way -/
def PA (mc mm : MM) (b d L : Nat) (B : Int) (s t : MM) : Prop := FrC (WAwc b d) mc s ∧ FrC (WAwm b d) mm t ∧ gN t 12 0 0 = 0 ∧ RC s t ∧ RPc t ∧ RH B s t ∧ ∀ p, p < 2 * L → RPl s t (16 * b + p)
theorem pa_place (h : RR N mc mm) (hB : RBk mc mm b F n M Ln E) {d : Nat} (hd : (d : Int) < gN mm 12 0 12) {p f k : Nat} (hp : p < 2 * (F * n)) (hf : fo F p = f) (hk : (k : Int) < gN mm 90 0 (16 * b + p)) {s t : MM} {B : Int} (hK : PA mc mm b d (F * n) B s t) (hB0 : 0 ≤ B ∧ B ≤ 100000000) {v w : Int} (hv : 0 ≤ v ∧ v ≤ 100000) (hw : 0 ≤ w ∧ w ≤ 100000) :
    ∃ e s' t', (e = 0 ∨ e = 1) ∧ b_X5_clear_5 (16 * b + p) 0 d v (k : Int) s = some (.inl (v + e, (k : Int) + 1, s')) ∧ b_X12_putAway_108 0 (b : Int) (f : Int) (d : Int) ((8 * b + f : Nat) : Int) (p : Int) ((16 * b + p : Nat) : Int) w ((150 * (16 * b + p) + k : Nat) : Int) t = some (.inl (w + e, ((150 * (16 * b + p) + (k + 1) : Nat) : Int), t')) ∧ PA mc mm b d (F * n) (B + 1) s' t' := by
  have hP := hB.hP
  have hS := hB.hS
  have q0 := hP.hb
  have q1 := hP.hn
  have q4 := hP.ml
  obtain ⟨f1, f2, f3, f4, f5, f6, f7⟩ := hK
  have hg := hB.pg p hp
  have hpn := hg.pn
  have hk144 : k < 144 := by omega
  have hkM : (k : Int) < ((M * Ln : Nat) : Int) := by omega
  have hS3 := f1.BS hS hP (fun K i s hk => by unfold CBS at hk; unfold WAwc; omega)
  have hP4 := f2.BP hP (fun K h1 h2 => by unfold WAwm; omega)
  have hM4 := f2.SM h.M (fun s hs => by unfold WAwm at hs; omega)
  have hC3 : SC s := h.C.mv2 (fun K i s hk => (f1.1 K i s (by unfold WAwc; omega)).2.2) (fun K i k hk => by rw [f1.2.1]; exact hk)
  have x54 : gN s 5 (16 * b + p) 4 = gN mm 90 0 (16 * b + p) := by rw [(f1.1 5 (16 * b + p) 4 (by unfold WAwc; omega)).1]; exact hpn.1
  have x90 : gN t 90 0 (16 * b + p) = gN mm 90 0 (16 * b + p) := (f2.1 90 0 _ (by unfold WAwm; omega)).1
  have hpl := f7 p hp
  have hplp := hpl.p k (by rw [x90]; exact hk)
  have hplt := hpl.t k (by rw [x90]; exact hk)
  have hd4 : d < 4 := by have := h.H.1; omega
  unfold b_X5_clear_5 b_X12_putAway_108
  rw [x54, if_neg (by omega), nk_of (hS3.q1 p hp), ldN_of (hS3.z35 p hp) (by omega), tnc, hplp.1]
  rw [nk_of hM4.r37, ldN_of hM4.z90 (by omega), tnc, x90, ck_of ⟨by omega, by omega⟩, if_neg (show ¬ 150 * ((16 * b + p : Nat) : Int) + gN mm 90 0 (16 * b + p) ≤ ((150 * (16 * b + p) + k : Nat) : Int) by omega), formeOf_m hM4 hP4 (show p < 16 by omega), Option.bind_some, if_neg (show ¬ ¬ ((fo F p : Nat) : Int) = (f : Int) from fun q => q (by rw [hf])), nk_of hM4.r47, ldN_of hM4.z100 (by omega), tnc]
  by_cases hx : gN t 100 0 (150 * (16 * b + p) + k) = -1
  · rw [if_pos hx, if_pos hx]
    unfold j_X5_clear_5_49
    have hS4 : BS (sN s 35 (16 * b + p) k (-1)) b F n M Ln E := hS3.keep hP (fun K i s hk => eq3.sN (by unfold CBS at hk; omega)) (fun _ _ _ q => q)
    refine ⟨0, sN (sN s 35 (16 * b + p) k (-1)) 36 (16 * b + p) k 0, t, Or.inl rfl, ?_, ?_, ?_⟩
    · rw [nk_of (hS3.q1 p hp), stN_of (hS3.z35 p hp) (by omega), tnc, nk_of (hS4.q2 p hp), stN_of (hS4.z36 p hp) (by omega), tnc, ck_of ⟨by omega, by omega⟩, Int.add_zero]
    · rw [ck_of ⟨by omega, by omega⟩, Int.add_zero, show ((150 * (16 * b + p) + (k + 1) : Nat) : Int) = ((150 * (16 * b + p) + k : Nat) : Int) + 1 by omega]
    · have g1 : FrC (WAwc b d) mc (sN (sN s 35 (16 * b + p) k (-1)) 36 (16 * b + p) k 0) := (f1.sN (by unfold WAwc; omega)).sN (by unfold WAwc; omega)
      refine ⟨g1, f2, f3, f4.keep (by simp [gN_sN]) rfl (fun K h1 h2 j => by rw [gN_sN, if_neg (by omega), gN_sN, if_neg (by omega)]) (fun _ _ _ _ => rfl), f5, f6.keep (by omega) (fun K i s' hk => (eq3.sN (by omega)).tr (eq3.sN (by omega))) rfl (fun _ _ _ _ => eq3.rf), fun p' hp' => ?_⟩
      have hy := f7 p' hp'
      refine ⟨fun k' hk' => ?_, fun k' hk' => ?_, fun k' hk' => ?_⟩
      · rw [gN_sN, if_neg (by omega), gN_sN, if_neg (by omega)]
        exact hy.w k' hk'
      · rw [gN_sN, if_neg (by omega), gN_sN]
        by_cases z : p' = p ∧ k' = k
        · obtain ⟨rfl, rfl⟩ := z
          rw [if_pos ⟨rfl, rfl, rfl⟩, hx]
          omega
        · rw [if_neg (by omega)]
          exact hy.p k' hk'
      · rw [gN_sN]
        by_cases z : p' = p ∧ k' = k
        · obtain ⟨rfl, rfl⟩ := z
          have := (hy.t k' hk').2.2 hx
          rw [if_pos ⟨rfl, rfl, rfl⟩, this]
          omega
        · rw [if_neg (by omega), gN_sN, if_neg (by omega)]
          exact hy.t k' hk'
  · rw [if_neg hx, if_neg hx]
    obtain ⟨x, hxx⟩ := Int.ex (show 0 ≤ gN t 100 0 (150 * (16 * b + p) + k) by omega)
    obtain ⟨hxn, hx28⟩ := f5.p (16 * b + p) k x (by omega) (by omega) (by rw [x90]; exact hk) hxx
    have hx4 : x < 400 := by have := f4.2.2.1; omega
    have hdt : (d : Int) < gN t 12 0 12 := by rw [(f2.1 12 0 12 (by unfold WAwm; omega)).1]; exact hd
    obtain ⟨-, hr1, -⟩ := f6.2.2.2.2.1 d hdt
    obtain ⟨-, -, hr5⟩ := f6.2.2.2.2.2 d
    have hso := (f4.2.2.2.2.1 x hxn).1
    have h20 := (f4.2.2.2.1 x).1
    have e12 : gN (sN t 72 0 d (gN t 72 0 d + 1)) 72 0 d = gN t 72 0 d + 1 := by rw [gN_sN, if_pos ⟨rfl, rfl, rfl⟩]
    have e5 : gN (sN s 3 d 5 (gN s 3 d 5 + 1)) 3 d 5 = gN s 3 d 5 + 1 := by rw [gN_sN, if_pos ⟨rfl, rfl, rfl⟩]
    have e1 : gN (sN s 3 d 5 (gN s 3 d 5 + 1)) 3 d 1 = gN t 68 0 d := by rw [gN_sN, if_neg (by omega), hr1.1]
    have e68 : gN (sN t 72 0 d (gN t 72 0 d + 1)) 68 0 d = gN t 68 0 d := by rw [gN_sN, if_neg (by omega)]
    have hM5 : SM (sN t 72 0 d (gN t 72 0 d + 1)) := hM4.mv2 (fun _ _ => rfl) (fun _ _ _ q => q)
    have hC5 : SC (sN s 3 d 5 (gN s 3 d 5 + 1)) := hC3.mv2 (fun _ _ _ _ => rfl) (fun _ _ _ q => q)
    have e100 : gN (sN t 72 0 d (gN t 72 0 d + 1)) 100 0 (150 * (16 * b + p) + k) = x := by rw [gN_sN, if_neg (by omega), hxx]
    have e62 : gN (sN t 72 0 d (gN t 72 0 d + 1)) 62 0 x = gN t 62 0 x := by rw [gN_sN, if_neg (by omega)]
    have hm6 := f6.more (d := d)
    have hR5 : RC (sN s 3 d 5 (gN s 3 d 5 + 1)) (sN t 72 0 d (gN t 72 0 d + 1)) := f4.keep (by rw [gN_sN, if_neg (by omega)]) (by rw [gN_sN, if_neg (by omega)]) (fun K h1 h2 j => by rw [gN_sN, if_neg (by omega)]) (fun K h1 h2 j => by rw [gN_sN, if_neg (by omega)])
    have hQ5 : RPc (sN t 72 0 d (gN t 72 0 d + 1)) := f5.keep (fun K i s' hk => eq3.sN (by omega))
    have g1 : FrC (WAwc b d) mc (sN s 3 d 5 (gN s 3 d 5 + 1)) := f1.sN (by unfold WAwc; omega)
    have g2 : FrC (WAwm b d) mm (sN t 72 0 d (gN t 72 0 d + 1)) := f2.sN (by unfold WAwm; omega)
    have g3 : gN (sN t 72 0 d (gN t 72 0 d + 1)) 12 0 0 = 0 := by rw [gN_sN, if_neg (by omega), f3]
    have g7 : ∀ p', p' < 2 * (F * n) → RPl (sN s 3 d 5 (gN s 3 d 5 + 1)) (sN t 72 0 d (gN t 72 0 d + 1)) (16 * b + p') := fun p' hp' => by
      have hz := (hB.pg p' hp').pn
      have hz2 : gN t 90 0 (16 * b + p') = gN mm 90 0 (16 * b + p') := (f2.1 90 0 _ (by unfold WAwm; omega)).1
      exact (f7 p' hp').keep (by rw [hz2]; omega) (fun K i s' hk => eq3.sN (by unfold CPl at hk; omega)) (fun K i s' hk => eq3.sN (by unfold MPl at hk; omega))
    have x90' : gN (sN t 72 0 d (gN t 72 0 d + 1)) 90 0 (16 * b + p) = gN t 90 0 (16 * b + p) := by rw [gN_sN, if_neg (by omega)]
    have e12n : gN (sN t 72 0 d (gN t 72 0 d + 1)) 12 0 6 = gN t 12 0 6 := by rw [gN_sN, if_neg (by omega)]
    have h20' : gN s 20 0 x = gN t 62 0 x := h20
    rw [hxx, nk_of hC3.c0, ldN_of hC3.z20 (by omega), tnc, h20']
    unfold f_X3_boxForNext
    rw [ck_of ⟨by omega, by omega⟩, lt_eq, e1, e5, hr5.1]
    have kw : -2147483648 ≤ w + 1 ∧ w + 1 < 2147483648 := by omega
    rw [ck_of kw, nk_of hM4.r18, ldN_of hM4.z72 (by omega), tnc, ck_of ⟨by omega, by omega⟩, stN_of hM4.z72 (by omega), tnc, nk_of hM5.r14, ldN_of hM5.z68 (by omega), tnc, e68, nk_of hM5.r18, ldN_of hM5.z72 (by omega), tnc, e12, nk_of hM5.r14, ldN_of hM5.z68 (by omega), tnc, e68]
    rw [hr5.1] at e5 e1 hC5 hR5 hm6 g1 g7
    have kc : -2147483648 ≤ gN t 72 0 d + 1 ∧ gN t 72 0 d + 1 < 2147483648 := by omega
    rw [ck_of kc]
    generalize hs1 : sN s 3 d 5 (gN t 72 0 d + 1) = s1 at *
    generalize ht1 : sN t 72 0 d (gN t 72 0 d + 1) = t1 at *
    -- a box, and the rest
    have rest : ∀ D : Nat, D < 28 → ∃ e s' t', (e = 0 ∨ e = 1) ∧ (bI (some (.inl (some (aI (D : Int))), s1) : MO) (fun v6 m5 => bV (f_X1_putOn m5 0 v6 (x : Int)) (fun m7 => ck (v + 1) <| j_X5_clear_5_49 m7 (16 * b + p) 0 d (v + 1) (k : Int)) x0) x0) = some (.inl (v + e, (k : Int) + 1, s')) ∧ j_X12_putAway_108_232 t1 0 (b : Int) (f : Int) (d : Int) ((8 * b + f : Nat) : Int) (w + 1) (p : Int) ((16 * b + p : Nat) : Int) ((150 * (16 * b + p) + k : Nat) : Int) 0 (D : Int) = some (.inl (w + e, ((150 * (16 * b + p) + (k + 1) : Nat) : Int), t')) ∧ PA mc mm b d (F * n) (B + 1) s' t' := by
      intro D hD
      have hS5 := g1.BS hS hP (fun K i s hk => by unfold CBS at hk; unfold WAwc; omega)
      have hSp : BS (pOn s1 22 23 24 D x) b F n M Ln E := hS5.keep hP (fun K i s hk => ((eq3.sN (by unfold CBS at hk; omega)).tr (eq3.sN (by unfold CBS at hk; omega))).tr (eq3.sN (by unfold CBS at hk; omega))) (fun _ _ _ q => q)
      have hSq : BS (sN (pOn s1 22 23 24 D x) 35 (16 * b + p) k (-1)) b F n M Ln E := hSp.keep hP (fun K i s hk => eq3.sN (by unfold CBS at hk; omega)) (fun _ _ _ q => q)
      have hMp : SM (pOn t1 64 65 66 D x) := hM5.mv2 (fun _ _ => rfl) (fun _ _ _ q => q)
      have hMq : SM (sN (pOn t1 64 65 66 D x) 100 0 (150 * (16 * b + p) + k) (-1)) := hMp.mv2 (fun _ _ => rfl) (fun _ _ _ q => q)
      have hxn1 : (x : Int) < gN t1 12 0 6 := by rw [e12n]; exact hxn
      refine ⟨1, sN (sN (pOn s1 22 23 24 D x) 35 (16 * b + p) k (-1)) 36 (16 * b + p) k 0, sN (sN (pOn t1 64 65 66 D x) 100 0 (150 * (16 * b + p) + k) (-1)) 101 0 (150 * (16 * b + p) + k) 0, Or.inr rfl, ?_, ?_, ?_⟩
      · rw [bI_ok, putOn_c hC5 hD hx4, bV_ok, ck_of ⟨by omega, by omega⟩]
        unfold j_X5_clear_5_49
        rw [nk_of (hSp.q1 p hp), stN_of (hSp.z35 p hp) (by omega), tnc, nk_of (hSq.q2 p hp), stN_of (hSq.z36 p hp) (by omega), tnc, ck_of ⟨by omega, by omega⟩]
      · unfold j_X12_putAway_108_232
        rw [nk_of hM5.r47, ldN_of hM5.z100 (by omega), tnc, e100, puts_m hM5 hD hx4, bV_ok, nk_of hMp.r47, stN_of hMp.z100 (by omega), tnc, nk_of hMq.r48, stN_of hMq.z101 (by omega), tnc, ck_of ⟨by omega, by omega⟩, show ((150 * (16 * b + p) + (k + 1) : Nat) : Int) = ((150 * (16 * b + p) + k : Nat) : Int) + 1 by omega]
      · have j1 : FrC (WAwc b d) mc (sN (sN (pOn s1 22 23 24 D x) 35 (16 * b + p) k (-1)) 36 (16 * b + p) k 0) := ((((g1.sN (by unfold WAwc; omega)).sN (by unfold WAwc; omega)).sN (by unfold WAwc; omega)).sN (by unfold WAwc; omega)).sN (by unfold WAwc; omega)
        have j2 : FrC (WAwm b d) mm (sN (sN (pOn t1 64 65 66 D x) 100 0 (150 * (16 * b + p) + k) (-1)) 101 0 (150 * (16 * b + p) + k) 0) := ((((g2.sN (by unfold WAwm; omega)).sN (by unfold WAwm; omega)).sN (by unfold WAwm; omega)).sN (by unfold WAwm; omega)).sN (by unfold WAwm; omega)
        refine ⟨j1, j2, by simp [pOn, gN_sN, g3], (hR5.put hD hxn1).keep (by simp [gN_sN]) (by simp [gN_sN]) (fun K h1 h2 j => by rw [gN_sN, if_neg (by omega), gN_sN, if_neg (by omega)]) (fun K h1 h2 j => by rw [gN_sN, if_neg (by omega), gN_sN, if_neg (by omega)]), (hQ5.put hD (by omega) (by omega) (by rw [x90', x90]; exact hk) e100).keep (fun K i s' hk => eq3.sN (by omega)), hm6.keep (by omega) (fun K i s' hk => ((((eq3.sN (by omega)).tr (eq3.sN (by omega))).tr (eq3.sN (by omega))).tr (eq3.sN (by omega))).tr (eq3.sN (by omega))) rfl (fun K i s' hk => ((((eq3.sN (by omega)).tr (eq3.sN (by omega))).tr (eq3.sN (by omega))).tr (eq3.sN (by omega))).tr (eq3.sN (by omega))), fun p' hp' => ?_⟩
        have hy := g7 p' hp'
        have hz := (hB.pg p' hp').pn
        have hz2 : gN t1 90 0 (16 * b + p') = gN mm 90 0 (16 * b + p') := (g2.1 90 0 _ (by unfold WAwm; omega)).1
        have a34 : ∀ k', gN (sN (sN (pOn s1 22 23 24 D x) 35 (16 * b + p) k (-1)) 36 (16 * b + p) k 0) 34 (16 * b + p') k' = gN s1 34 (16 * b + p') k' := fun k' => by simp [pOn, gN_sN]
        have a35 : ∀ k', gN (sN (sN (pOn s1 22 23 24 D x) 35 (16 * b + p) k (-1)) 36 (16 * b + p) k 0) 35 (16 * b + p') k' = if p' = p ∧ k' = k then -1 else gN s1 35 (16 * b + p') k' := fun k' => by
          rw [gN_sN, if_neg (by omega), gN_sN]
          by_cases z : p' = p ∧ k' = k
          · rw [if_pos z, if_pos ⟨rfl, by rw [z.1], z.2⟩]
          · rw [if_neg z, if_neg (by omega)]; simp [pOn, gN_sN]
        have a36 : ∀ k', gN (sN (sN (pOn s1 22 23 24 D x) 35 (16 * b + p) k (-1)) 36 (16 * b + p) k 0) 36 (16 * b + p') k' = if p' = p ∧ k' = k then 0 else gN s1 36 (16 * b + p') k' := fun k' => by
          rw [gN_sN]
          by_cases z : p' = p ∧ k' = k
          · rw [if_pos z, if_pos ⟨rfl, by rw [z.1], z.2⟩]
          · rw [if_neg z, if_neg (by omega)]; simp [pOn, gN_sN]
        have b90 : gN (sN (sN (pOn t1 64 65 66 D x) 100 0 (150 * (16 * b + p) + k) (-1)) 101 0 (150 * (16 * b + p) + k) 0) 90 0 (16 * b + p') = gN mm 90 0 (16 * b + p') := by rw [← hz2]; simp [pOn, gN_sN]
        have b99 : ∀ j, gN (sN (sN (pOn t1 64 65 66 D x) 100 0 (150 * (16 * b + p) + k) (-1)) 101 0 (150 * (16 * b + p) + k) 0) 99 0 j = gN t1 99 0 j := fun j => by simp [pOn, gN_sN]
        have b100 : ∀ k', k' < 150 → gN (sN (sN (pOn t1 64 65 66 D x) 100 0 (150 * (16 * b + p) + k) (-1)) 101 0 (150 * (16 * b + p) + k) 0) 100 0 (150 * (16 * b + p') + k') = if p' = p ∧ k' = k then -1 else gN t1 100 0 (150 * (16 * b + p') + k') := fun k' hk' => by
          rw [gN_sN, if_neg (by omega), gN_sN]
          by_cases z : p' = p ∧ k' = k
          · rw [if_pos z, if_pos ⟨rfl, rfl, by rw [z.1, z.2]⟩]
          · rw [if_neg z, if_neg (by omega)]; simp [pOn, gN_sN]
        have b101 : ∀ k', k' < 150 → gN (sN (sN (pOn t1 64 65 66 D x) 100 0 (150 * (16 * b + p) + k) (-1)) 101 0 (150 * (16 * b + p) + k) 0) 101 0 (150 * (16 * b + p') + k') = if p' = p ∧ k' = k then 0 else gN t1 101 0 (150 * (16 * b + p') + k') := fun k' hk' => by
          rw [gN_sN]
          by_cases z : p' = p ∧ k' = k
          · rw [if_pos z, if_pos ⟨rfl, rfl, by rw [z.1, z.2]⟩]
          · rw [if_neg z, if_neg (by omega)]; simp [pOn, gN_sN]
        refine ⟨fun k' hk' => ?_, fun k' hk' => ?_, fun k' hk' => ?_⟩
        · rw [b90] at hk'
          rw [a34, b99]
          exact hy.w k' (by rw [hz2]; exact hk')
        · rw [b90] at hk'
          rw [a35, b100 k' (by omega)]
          by_cases z : p' = p ∧ k' = k
          · rw [if_pos z, if_pos z]; omega
          · rw [if_neg z, if_neg z]
            exact hy.p k' (by rw [hz2]; exact hk')
        · rw [b90] at hk'
          rw [a36, b101 k' (by omega), b100 k' (by omega)]
          by_cases z : p' = p ∧ k' = k
          · rw [if_pos z, if_pos z]; omega
          · rw [if_neg z, if_neg z, if_neg z]
            exact hy.t k' (by rw [hz2]; exact hk')
    have m192 : j_X12_putAway_108_192 t1 0 (b : Int) (f : Int) (d : Int) ((8 * b + f : Nat) : Int) (w + 1) (p : Int) ((16 * b + p : Nat) : Int) ((150 * (16 * b + p) + k : Nat) : Int) 0 = j_X12_putAway_108_232 t1 0 (b : Int) (f : Int) (d : Int) ((8 * b + f : Nat) : Int) (w + 1) (p : Int) ((16 * b + p : Nat) : Int) ((150 * (16 * b + p) + k : Nat) : Int) 0 (gN t 62 0 x) := by
      unfold j_X12_putAway_108_192
      rw [if_pos rfl, nk_of hM5.r7, nk_of hM5.r47, ldN_of hM5.z100 (by omega), tnc, e100, ldN_of hM5.z62 (by omega), tnc, e62]
    have m192' : j_X12_putAway_108_192 t1 0 (b : Int) (f : Int) (d : Int) ((8 * b + f : Nat) : Int) (w + 1) (p : Int) ((16 * b + p : Nat) : Int) ((150 * (16 * b + p) + k : Nat) : Int) 1 = j_X12_putAway_108_232 t1 0 (b : Int) (f : Int) (d : Int) ((8 * b + f : Nat) : Int) (w + 1) (p : Int) ((16 * b + p : Nat) : Int) ((150 * (16 * b + p) + k : Nat) : Int) 0 ((gN t 62 0 x + 1) % 28) := by
      unfold j_X12_putAway_108_192
      rw [if_neg (show ¬ (1 : Int) = 0 by decide), nk_of hM5.r7, nk_of hM5.r47, ldN_of hM5.z100 (by omega), tnc, e100, ldN_of hM5.z62 (by omega), tnc, e62, ck_of ⟨by omega, by omega⟩, dv_of ⟨by omega, by omega⟩]
    unfold j_X12_putAway_108_191
    rw [m192, m192']
    obtain ⟨D0, hD0⟩ := Int.ex hso.1
    obtain ⟨D1, hD1⟩ := Int.ex (show 0 ≤ (gN t 62 0 x + 1) % 28 by omega)
    have r0 := rest D0 (by omega)
    have r1 := rest D1 (by omega)
    rw [← hD0] at r0
    rw [← hD1] at r1
    by_cases c1 : gN t 68 0 d ≤ 0
    · rw [if_pos c1, if_pos c1]
      exact r0
    · rw [if_neg c1, if_neg c1, dv_of ⟨by omega, by omega⟩, dv_of ⟨by omega, by omega⟩, dv_of ⟨by omega, by omega⟩]
      by_cases c2 : (gN t 72 0 d + 1) % gN t 68 0 d = 0
      · rw [if_neg (fun q => q c2), if_neg (fun q => q c2)]
        exact r1
      · rw [if_pos c2, if_pos c2]
        exact r0
theorem PA.up {d L : Nat} {B B' : Int} {s t : MM} (h : PA mc mm b d L B s t) (hB : B ≤ B') : PA mc mm b d L B' s t := by
  obtain ⟨f1, f2, f3, f4, f5, f6, f7⟩ := h
  exact ⟨f1, f2, f3, f4, f5, f6.keep hB (fun _ _ _ _ => eq3.rf) rfl (fun _ _ _ _ => eq3.rf), f7⟩
theorem pa_page (h : RR N mc mm) (hB : RBk mc mm b F n M Ln E) {d : Nat} (hd : (d : Int) < gN mm 12 0 12) {p f : Nat} (hp : p < 2 * (F * n)) (hf : fo F p = f) {s t : MM} {B : Int} (hK : PA mc mm b d (F * n) B s t) (hB0 : 0 ≤ B ∧ B ≤ 90000000) {w : Int} (hw : 0 ≤ w ∧ w ≤ 90000) :
    ∃ v s' t', 0 ≤ v ∧ v ≤ 144 ∧ f_X5_clear s (16 * b + p) 0 d = some (.inl (some (aI v)), s') ∧ lpb (fun s : Int × Int × MM => b_X12_putAway_108 0 (b : Int) (f : Int) (d : Int) ((8 * b + f : Nat) : Int) (p : Int) ((16 * b + p : Nat) : Int) s.1 s.2.1 s.2.2) (w, ((150 * (16 * b + p) + 0 : Nat) : Int), t) = some (w + v, t') ∧ PA mc mm b d (F * n) (B + 144) s' t' := by
  have hP := hB.hP
  have q0 := hP.hb
  have q1 := hP.hn
  have q4 := hP.ml
  have hpn := (hB.pg p hp).pn
  obtain ⟨x, y, e1, e2, e3, e4, e5, e6⟩ := lpb_rel (b := fun s : Int × Int × MM => b_X5_clear_5 (16 * b + p) 0 d s.1 s.2.1 s.2.2) (c := fun s : Int × Int × MM => b_X12_putAway_108 0 (b : Int) (f : Int) (d : Int) ((8 * b + f : Nat) : Int) (p : Int) ((16 * b + p : Nat) : Int) s.1 s.2.1 s.2.2)
    (fun s t => ∃ k : Nat, s.2.1 = k ∧ t.2.1 = ((150 * (16 * b + p) + k : Nat) : Int) ∧ (k : Int) ≤ gN mm 90 0 (16 * b + p) ∧ 0 ≤ s.1 ∧ s.1 ≤ k ∧ t.1 = w + s.1 ∧ PA mc mm b d (F * n) (B + k) s.2.2 t.2.2) (fun x y => 0 ≤ x.1 ∧ x.1 ≤ 144 ∧ y.1 = w + x.1 ∧ PA mc mm b d (F * n) (B + 144) x.2 y.2) (fun s => (gN mm 90 0 (16 * b + p) - s.2.1).toNat) (by
    rintro ⟨v, _, m3⟩ ⟨_, _, m4⟩ ⟨k, rfl, rfl, hk, hv, hv2, rfl, hF⟩
    simp only at hv hv2 hF
    show (∃ s' t', b_X5_clear_5 (16 * b + p) 0 d v (k : Int) m3 = some (.inl s') ∧ b_X12_putAway_108 0 (b : Int) (f : Int) (d : Int) ((8 * b + f : Nat) : Int) (p : Int) ((16 * b + p : Nat) : Int) (w + v) ((150 * (16 * b + p) + k : Nat) : Int) m4 = some (.inl t') ∧ _) ∨ ∃ x y, b_X5_clear_5 (16 * b + p) 0 d v (k : Int) m3 = some (.inr x) ∧ b_X12_putAway_108 0 (b : Int) (f : Int) (d : Int) ((8 * b + f : Nat) : Int) (p : Int) ((16 * b + p : Nat) : Int) (w + v) ((150 * (16 * b + p) + k : Nat) : Int) m4 = some (.inr y) ∧ _
    by_cases q : (k : Int) < gN mm 90 0 (16 * b + p)
    · left
      obtain ⟨e, s', t', he, a1, a2, a3⟩ := pa_place h hB hd hp hf q hF (by omega) (v := v) (w := w + v) (by omega) (by omega)
      refine ⟨(v + e, (k : Int) + 1, s'), (w + v + e, ((150 * (16 * b + p) + (k + 1) : Nat) : Int), t'), a1, a2, ⟨k + 1, by simp, rfl, by omega, by simp only; omega, by simp only; omega, by simp only; omega, ?_⟩, by simp only; omega⟩
      rw [show B + ((k + 1 : Nat) : Int) = B + (k : Int) + 1 by omega]
      exact a3
    · right
      have f1 := hF.1
      have f2 := hF.2.1
      have hM4 := f2.SM h.M (fun s hs => by unfold WAwm at hs; omega)
      have x54 : gN m3 5 (16 * b + p) 4 = gN mm 90 0 (16 * b + p) := by rw [(f1.1 5 (16 * b + p) 4 (by unfold WAwc; omega)).1]; exact hpn.1
      have x90 : gN m4 90 0 (16 * b + p) = gN mm 90 0 (16 * b + p) := (f2.1 90 0 _ (by unfold WAwm; omega)).1
      refine ⟨(v, m3), (w + v, m4), ?_, ?_, hv, by simp only; omega, rfl, hF.up (by omega)⟩
      · unfold b_X5_clear_5
        rw [x54, if_pos (by omega)]
      · unfold b_X12_putAway_108
        rw [nk_of hM4.r37, ldN_of hM4.z90 (by omega), tnc, x90, ck_of ⟨by omega, by omega⟩, if_pos (by omega)]) (0, 0, s) (w, ((150 * (16 * b + p) + 0 : Nat) : Int), t) ⟨0, rfl, rfl, by omega, by simp, by simp, by simp, by simpa using hK⟩
  obtain ⟨v, s'⟩ := x
  obtain ⟨w', t'⟩ := y
  simp only at e3 e4 e5 e6
  subst e5
  refine ⟨v, s', t', e3, e4, ?_, e2, e6⟩
  unfold f_X5_clear
  rw [e1, Option.bind_some]
  rfl
theorem cntF_congr {F p p' : Nat} (h : fo F p = fo F p') : ∀ k, cntF F p k = cntF F p' k
  | 0 => rfl
  | k + 1 => by rw [cntF, cntF, cntF_congr h k, h]
theorem cntF_all {F n f : Nat} (hF : F = 2 ∨ F = 4 ∨ F = 8) (hn : 1 ≤ n ∧ F * n ≤ 8) (hf : f < 2 * n) : cntF F (fpg F f 0) (2 * (F * n)) = F := by
  have k2 : ∀ n : Fin 5, ∀ f : Fin 8, f.val < 2 * n.val → cntF 2 (fpg 2 f.val 0) (2 * (2 * n.val)) = 2 := by decide
  have k4 : ∀ n : Fin 3, ∀ f : Fin 4, f.val < 2 * n.val → cntF 4 (fpg 4 f.val 0) (2 * (4 * n.val)) = 4 := by decide
  have k8 : ∀ n : Fin 2, ∀ f : Fin 2, f.val < 2 * n.val → cntF 8 (fpg 8 f.val 0) (2 * (8 * n.val)) = 8 := by decide
  rcases hF with rfl | rfl | rfl
  · exact k2 ⟨n, by omega⟩ ⟨f, by omega⟩ hf
  · exact k4 ⟨n, by omega⟩ ⟨f, by omega⟩ hf
  · exact k8 ⟨n, by omega⟩ ⟨f, by omega⟩ hf
theorem pa_all (h : RR N mc mm) (hB : RBk mc mm b F n M Ln E) {d : Nat} (hd : (d : Int) < gN mm 12 0 12) {f : Nat} (hf : f < 2 * n) {B : Int} (hB0 : 0 ≤ B ∧ B ≤ 80000000) : ∀ (r p : Nat), 2 * (F * n) - p ≤ r → p ≤ 2 * (F * n) → ∀ (w : Int) (s t : MM), 0 ≤ w → w ≤ 144 * cntF F (fpg F f 0) p → PA mc mm b d (F * n) (B + 144 * cntF F (fpg F f 0) p) s t →
    ∃ v s' t', lpb (fun s : Int × Int × MM => b_X11_putAway_53 0 (8 * b + f) d (8 * b + f) ((F : Nat) : Int) s.1 s.2.1 s.2.2) (w, ((cntF F (fpg F f 0) p : Nat) : Int), s) = some (v, s') ∧ lpb (fun s : Int × Int × MM => b_X12_putAway_81 0 (b : Int) (f : Int) (d : Int) ((8 * b + f : Nat) : Int) s.1 s.2.1 s.2.2) (w, (p : Int), t) = some (v, t') ∧ PA mc mm b d (F * n) (B + 144 * F) s' t' := by
  have hP := hB.hP
  have hS := hB.hS
  have q0 := hP.hb
  have q1 := hP.hn
  have q4 := hP.ml
  have hF := hP.hF
  have hF8 : F ≤ 8 := by omega
  have hf0 : fo F (fpg F f 0) = f := fo_fpg hF (by omega) (by omega)
  have hall := cntF_all hF ⟨q1.1, q1.2.2.2⟩ hf
  intro r
  induction r with
  | zero =>
    intro p hr hp w s t hw hw2 hK
    obtain rfl : p = 2 * (F * n) := by omega
    have hM4 := hK.2.1.SM h.M (fun s hs => by unfold WAwm at hs; omega)
    have hP4 := hK.2.1.BP hP (fun K h1 h2 => by unfold WAwm; omega)
    rw [hall] at hK ⊢
    refine ⟨w, s, t, ?_, ?_, hK⟩
    · rw [lpb_eq]
      simp only
      unfold b_X11_putAway_53
      rw [if_pos (Int.le_refl _)]
      rfl
    · rw [lpb_eq]
      simp only
      unfold b_X12_putAway_81
      rw [pagesOf_m hM4 hP4, Option.bind_some, if_pos (Int.le_refl _)]
      rfl
  | succ r ih =>
    intro p hr hp w s t hw hw2 hK
    by_cases hpe : p = 2 * (F * n)
    · exact ih p (by omega) hp w s t hw hw2 hK
    have hp2 : p < 2 * (F * n) := by omega
    have hM4 := hK.2.1.SM h.M (fun s hs => by unfold WAwm at hs; omega)
    have hP4 := hK.2.1.BP hP (fun K h1 h2 => by unfold WAwm; omega)
    have hcle := cntF_le F (fpg F f 0) p
    by_cases hfo : fo F p = f
    · have hcnt : cntF F (fpg F f 0) p = pif F p := by rw [cntF_congr (hf0.trans hfo.symm)]; exact cntF_pif hF (by omega)
      have hcs : cntF F (fpg F f 0) (p + 1) = cntF F (fpg F f 0) p + 1 := by rw [cntF, if_pos (by rw [hf0, hfo])]
      have hlt := pif_lt (p := p) hF
      have hpg : fpg F f (pif F p) = p := by rw [← hfo]; exact fpg_fo hF
      obtain ⟨v, s', t', g1, g2, g3, g4, g5⟩ := pa_page h hB hd hp2 hfo hK (by omega) (w := w) (by omega)
      obtain ⟨v2, s2, t2, k1, k2, k3⟩ := ih (p + 1) (by omega) (by omega) (w + v) s' t' (by omega) (by rw [hcs]; omega) (by rw [hcs]; exact g5.up (by omega))
      have hS3 := hK.1.BS hS hP (fun K i s hk => by unfold CBS at hk; unfold WAwc; omega)
      have hC3 : SC s := h.C.mv2 (fun K i s hk => (hK.1.1 K i s (by unfold WAwc; omega)).2.2) (fun K i k hk => by rw [hK.1.2.1]; exact hk)
      refine ⟨v2, s2, t2, ?_, ?_, k3⟩
      · rw [lpb_eq]
        simp only
        unfold b_X11_putAway_53
        rw [if_neg (by omega), ldR_of (hS3.z19 f hf) (by omega), tnc, hS3.e19 f _ hf (by omega), nk_some, hcnt, hpg, nk_of (hS3.p8 p hp2), nk_of hC3.r1, g3, bI_ok, ck_of ⟨by omega, by omega⟩, ck_of ⟨by omega, by omega⟩]
        rw [hcs, hcnt] at k1
        exact k1
      · rw [lpb_eq]
        simp only
        unfold b_X12_putAway_81
        rw [pagesOf_m hM4 hP4, Option.bind_some, if_neg (by omega), ck_of ⟨by omega, by omega⟩, ck_of ⟨by omega, by omega⟩, show 16 * (b : Int) + (p : Int) = ((16 * b + p : Nat) : Int) by omega, show 150 * ((16 * b + p : Nat) : Int) = ((150 * (16 * b + p) + 0 : Nat) : Int) by omega, g4, Option.bind_some]
        unfold j_X12_putAway_81_264
        rw [ck_of ⟨by omega, by omega⟩]
        exact k2
    · have hcs : cntF F (fpg F f 0) (p + 1) = cntF F (fpg F f 0) p := by rw [cntF, if_neg (by rw [hf0]; exact hfo)]; rfl
      obtain ⟨v2, s2, t2, k1, k2, k3⟩ := ih (p + 1) (by omega) (by omega) w s t hw (by rw [hcs]; exact hw2) (by rw [hcs]; exact hK)
      refine ⟨v2, s2, t2, by rw [hcs] at k1; exact k1, ?_, k3⟩
      have hpn := (hB.pg p hp2).pn
      have x90 : gN t 90 0 (16 * b + p) = gN mm 90 0 (16 * b + p) := (hK.2.1.1 90 0 _ (by unfold WAwm; omega)).1
      have e0 : lpb (fun s : Int × Int × MM => b_X12_putAway_108 0 (b : Int) (f : Int) (d : Int) ((8 * b + f : Nat) : Int) (p : Int) ((16 * b + p : Nat) : Int) s.1 s.2.1 s.2.2) (w, 150 * ((16 * b + p : Nat) : Int), t) = some (w, t) := by
        rw [lpb_eq]
        simp only
        unfold b_X12_putAway_108
        rw [nk_of hM4.r37, ldN_of hM4.z90 (by omega), tnc, ck_of ⟨by omega, by omega⟩, formeOf_m hM4 hP4 (show p < 16 by omega), Option.bind_some, if_pos (show ¬ ((fo F p : Nat) : Int) = (f : Int) by omega)]
        split <;> rfl
      rw [lpb_eq]
      simp only
      unfold b_X12_putAway_81
      rw [pagesOf_m hM4 hP4, Option.bind_some, if_neg (by omega), ck_of ⟨by omega, by omega⟩, ck_of ⟨by omega, by omega⟩, show 16 * (b : Int) + (p : Int) = ((16 * b + p : Nat) : Int) by omega, e0, Option.bind_some]
      unfold j_X12_putAway_81_264
      rw [ck_of ⟨by omega, by omega⟩]
      exact k2
theorem pa_fin (h : RR N mc mm) (hB : RBk mc mm b F n M Ln E) (hb : (b : Int) < gN mm 12 0 19) {d f : Nat} (hf : f < 2 * n) (h3 : gN mm 108 0 (8 * b + f) = 3) {s t : MM} {B : Int} (hBN : B ≤ ((2000 * (N + 1) : Nat) : Int)) (hK : PA mc mm b d (F * n) B s t) : RR (N + 1) (sN s 2 (8 * b + f) 4 4) (sN t 108 0 (8 * b + f) 4) := by
  have hP := hB.hP
  have q0 := hP.hb
  have q1 := hP.hn
  have q2 := hP.hL
  have q3 := hP.hE
  have q4 := hP.ml
  have hff := hB.ff f hf
  obtain ⟨f1, f2, f3, f4, f5, f6, f7⟩ := hK
  have w4 : gN (sN s 2 (8 * b + f) 4 4) 2 (8 * b + f) 4 = 4 := by rw [gN_sN, if_pos ⟨rfl, rfl, rfl⟩]
  have x108 : gN (sN t 108 0 (8 * b + f) 4) 108 0 (8 * b + f) = 4 := by rw [gN_sN, if_pos ⟨rfl, rfl, rfl⟩]
  have k4 : RC (sN s 2 (8 * b + f) 4 4) (sN t 108 0 (8 * b + f) 4) := f4.keep (by rw [gN_sN, if_neg (by omega)]) (by rw [gN_sN, if_neg (by omega)]) (fun K h1 h2 j => by rw [gN_sN, if_neg (by omega)]) (fun K h1 h2 j => by rw [gN_sN, if_neg (by omega)])
  have k5 : RPc (sN t 108 0 (8 * b + f) 4) := f5.keep (fun K i s' hk => eq3.sN (by omega))
  have k6 : RH ((2000 * (N + 1) : Nat) : Int) (sN s 2 (8 * b + f) 4 4) (sN t 108 0 (8 * b + f) 4) := f6.keep hBN (fun K i s' hk => eq3.sN (by omega)) rfl (fun K i s' hk => eq3.sN (by omega))
  have k7 : ∀ p, p < 2 * (F * n) → RPl (sN s 2 (8 * b + f) 4 4) (sN t 108 0 (8 * b + f) 4) (16 * b + p) := fun p hp => by
    have hz := (hB.pg p hp).pn
    have hz2 : gN t 90 0 (16 * b + p) = gN mm 90 0 (16 * b + p) := (f2.1 90 0 _ (by unfold WAwm; omega)).1
    exact (f7 p hp).keep (by rw [hz2]; omega) (fun K i s' hk => eq3.sN (by unfold CPl at hk; omega)) (fun K i s' hk => eq3.sN (by unfold MPl at hk; omega))
  have cc : ∀ K i s', ¬ (22 ≤ K ∧ K ≤ 24) ∧ ¬ (K = 3 ∧ s' = 5) ∧ ¬ ((K = 35 ∨ K = 36) ∧ 16 * b ≤ i ∧ i < 16 * b + 16) ∧ ¬ (K = 2 ∧ i = 8 * b + f ∧ s' = 4) → eq3 mc (sN s 2 (8 * b + f) 4 4) K i s' := fun K i s' hk => (f1.1 K i s' (by unfold WAwc; omega)).tr (eq3.sN (by omega))
  have cm : ∀ K i s', ¬ (K = 12 ∧ s' = 0) ∧ ¬ (64 ≤ K ∧ K ≤ 66) ∧ ¬ (K = 72) ∧ ¬ ((K = 100 ∨ K = 101) ∧ i = 0 ∧ 2400 * b ≤ s' ∧ s' < 2400 * b + 2400) ∧ ¬ (K = 108 ∧ i = 0 ∧ s' = 8 * b + f) → eq3 mm (sN t 108 0 (8 * b + f) 4) K i s' := fun K i s' hk => (f2.1 K i s' (by unfold WAwm; omega)).tr (eq3.sN (by omega))
  have hzc : ∀ K i, gZ (sN s 2 (8 * b + f) 4 4) K i = gZ mc K i := f1.2.1
  have hCC : ∀ K, gC (sN s 2 (8 * b + f) 4 4) K = gC mc K := f1.2.2
  have hzm : ∀ K i k, gZ mm K i = some k → gZ (sN t 108 0 (8 * b + f) 4) K i = some k := fun K i k hk => by rw [← f2.2.1] at hk; exact hk
  generalize (sN s 2 (8 * b + f) 4 4) = mc' at *
  generalize (sN t 108 0 (8 * b + f) 4) = mm' at *
  have cb : ∀ K i s', isBK K → ¬ CBk b K i → eq3 mc mc' K i s' := fun K i s' hK hn => cc K i s' ⟨by unfold isBK at hK; omega, by unfold isBK at hK; omega, fun q => hn (CBk.c (by omega) q.2), fun q => hn (CBk.b (by omega) (by omega))⟩
  have mb : ∀ K s', 78 ≤ K → K ≤ 126 → K < 105 ∨ 107 < K → K < 121 ∨ 125 < K → ¬ MBk b K s' → eq3 mm mm' K 0 s' := fun K s' h1 h2 h3 h4 hn => cm K 0 s' ⟨by omega, by omega, by omega, fun q => hn (MBk.f (by omega) q.2.2), fun q => hn (MBk.g (by omega) (by omega))⟩
  refine h.one (b0 := b) hzc hCC hb (cm 12 0 19 (by omega)).1 (h.C.mv2 (fun K i s hk => (cc K i s (by omega)).2.2) (fun K i k hk => by rw [hzc]; exact hk)) (h.M.mv2 (fun s hs => (cm 12 0 s (by omega)).2.2) hzm) (h.T.keep (cc 10 0 5 (by omega)).1 (cm 12 0 1 (by omega)).1 (fun k => (cc 50 0 k (by omega)).1) (fun k => (cm 59 0 k (by omega)).1)) (h.Sp.keep (fun K i s hk => cc K i s (by omega)) (fun K i s hk => cm K i s (by omega)))
    k4 k6 (h.Mi.keep (fun K i s hk => cc K i s (by omega)) (fun K i s hk => cm K i s (by omega))) (h.Pr.keep (fun i s _ => cc 6 i s (by omega)) (fun K s h1 h2 => cm K 0 s (by omega))) (h.Nb.keep (cc 11 0 8 (by omega)).1 (cm 12 0 19 (by omega)).1 (fun s => (cc 56 0 s (by omega)).2.2))
    (fun K i s hk => cc K i s (by omega)) cb (fun K i s hk => cm K i s (by omega)) mb (fun b' p f hbb hb3 hp hf h90 h7 hx => hx.other hbb hp hf cb mb (fun K i s hk => cm K i s (by omega)) h90 h7) (by rw [(cm 12 0 69 (by omega)).1]; exact Int.le_refl _) (fun x => by rw [(cm 63 0 x (by omega)).1]; exact Int.le_refl _) ⟨F, n, M, Ln, E, hP.keep (fun K h1 h2 => (cm K 0 b (by omega)).1), hB.hS.keep hP (fun K i s hk => cc K i s (by unfold CBS at hk; omega)) (fun K i k hk => by rw [hzc]; exact hk), hB.tx.keep (fun K i s hk => cc K i s (by unfold CTx at hk; omega)) (fun K i s hk => cm K i s (by unfold MTx at hk; omega)), fun p hp => (hB.pg p hp).keep (by omega) (fun K i s hk => cc K i s (by unfold CPg at hk; omega)) (fun K i s hk => cm K i s (by unfold MPg at hk; omega)), fun p hp => (hB.po p hp).keep (by omega) (fun K i s hk => cc K i s (by unfold CPo at hk; omega)) (fun K i s hk => cm K i s (by unfold MPo at hk; omega)), k7, fun f' hf' => ?_, fun p hp => ?_, fun f' hf' => ?_, fun s hs => ?_, ?_⟩ (h.Pf.st (Nat.le_succ N) (fun K i s' hk => cm K i s' (by omega)) (fun x hx => by
      by_cases q : x = 8 * b + f
      · rw [q] at hx; omega
      · rw [(cm 108 0 x (by omega)).1]; exact hx)) k5
  · by_cases q : f' = f
    · subst q
      have z0 := hff.sk
      have z1 := hff.pr
      have z2 := hff.ns
      have z3 := hff.oh (by omega)
      have z4 := hff.dh
      have z5 := hff.sb (by omega)
      have y2 : ∀ k, k ≠ 4 → gN mc' 2 (8 * b + f') k = gN mc 2 (8 * b + f') k := fun k hk => (cc 2 (8 * b + f') k (by omega)).1
      have y26 : ∀ k, gN mc' 26 (8 * b + f') k = gN mc 26 (8 * b + f') k := fun k => (cc 26 (8 * b + f') k (by omega)).1
      have yK : ∀ K, 109 ≤ K → K ≤ 115 → ∀ j, gN mm' K 0 j = gN mm K 0 j := fun K h1 h2 j => (cm K 0 j (by omega)).1
      have y69 := (cm 12 0 69 (by omega)).1
      refine ⟨by rw [w4, x108]; omega, by rw [y2 5 (by decide), x108, yK 109 (by omega) (by omega)]; omega, by rw [y2 6 (by decide), x108, yK 110 (by omega) (by omega)]; omega, by rw [y2 7 (by decide), x108, yK 111 (by omega) (by omega)]; omega, by rw [y26]; exact hff.s0, fun _ s hs => ?_, fun _ => by rw [y2 8 (by decide), yK 113 (by omega) (by omega), y69]; exact z3, by rw [y2 9 (by decide), x108, yK 113 (by omega) (by omega), yK 114 (by omega) (by omega), y69]; omega, ⟨fun z => by rw [x108] at z; omega, fun z => by rw [x108] at z; omega⟩⟩
      rw [yK 111 (by omega) (by omega)] at hs
      rw [y26, yK 112 (by omega) (by omega), yK 110 (by omega) (by omega)]
      exact z5 s hs
    · exact (hB.ff f' hf').keep (by omega) (fun K i s' hk => cc K i s' (by unfold CFo at hk; omega)) (fun K i s' hk => cm K i s' (by unfold MFo at hk; omega)) (by rw [(cm 12 0 69 (by omega)).1]; exact Int.le_refl _)
  · have hpg := (hB.pg p hp).pn
    have hfl := fo_lt hP.hF hp
    have hns := (hB.ff _ hfl).ns
    by_cases q : fo F p = f
    · have hx := hB.pn p hp
      rw [q] at hx ⊢
      have hm83 := (cm 83 0 (16 * b + p) (by omega)).1
      have hm90 := (cm 90 0 (16 * b + p) (by omega)).1
      have hm52 := (cm 12 0 52 (by omega)).1
      have y7 := (cc 2 (8 * b + f) 7 (by omega)).1
      have hgl : ∀ k s, glF mm' k s (gN mm' 12 0 52).toNat = glF mm k s (gN mm 12 0 52).toNat := fun k s => by
        rw [hm52]
        exact glF_congr (cm 102 0 k (by omega)).1 _ (fun j _ => ⟨(cm 105 0 j (by omega)).1, (cm 106 0 j (by omega)).1, (cm 107 0 j (by omega)).1⟩)
      refine ⟨fun _ => by rw [hm83]; exact hx.st (by omega), fun k s hk hs => ?_, fun j k hj hk he => ?_⟩
      · rw [hm90] at hk
        rw [y7] at hs
        rw [hgl, (cc 38 (24 * (16 * b + p) + s) k (by omega)).1]
        exact hx.g k s hk hs
      · rw [hm52] at hj
        rw [(cm 105 0 j (by omega)).1] at he
        have := hx.c j k hj hk he
        rw [x108, (cm 106 0 j (by omega)).1, y7]
        omega
    · exact (hB.pn p hp).keep (by omega) (by omega) (fun K i s' hk => cc K i s' (by unfold CPn at hk; omega)) (fun K i s' hk => cm K i s' (by unfold MPn at hk; omega))
  · have hx := hB.se f' hf'
    by_cases q : f' = f
    · subst q
      have a25 : ∀ x, gN mc' 25 (8 * b + f') x = gN mc 25 (8 * b + f') x := fun x => (cc 25 (8 * b + f') x (by omega)).1
      have b103 : ∀ x, gN mm' 103 0 x = gN mm 103 0 x := fun x => (cm 103 0 x (by omega)).1
      have b104 : ∀ x, gN mm' 104 0 x = gN mm 104 0 x := fun x => (cm 104 0 x (by omega)).1
      have b90 : ∀ x, gN mm' 90 0 x = gN mm 90 0 x := fun x => (cm 90 0 x (by omega)).1
      refine ⟨fun z => by rw [x108] at z; omega, fun _ p hp hfo k hk => ?_, fun _ x hx' => ?_, fun x => by rw [a25, (cm 63 0 x (by omega)).1]; exact hx.b x⟩
      · rw [b90] at hk
        have := hx.s (by omega) p hp hfo k hk
        simp only [a25, b103, b104]
        exact this
      · simp only [b90, b103] at hx'
        rw [a25]
        exact hx.z (by omega) x hx'
    · exact hx.keep (by omega) (fun p hp => by have := (hB.pg p hp).pn; omega) (fun K i s' hk => cc K i s' (by unfold CSe at hk; omega)) (fun K i s' hk => cm K i s' (by unfold MSe at hk; omega)) (fun x => by rw [(cm 63 0 x (by omega)).1]; exact Int.le_refl _)
  · have hx := hB.sh s hs
    have a8 : ∀ k, gN mc' 8 (4 * b + s) k = gN mc 8 (4 * b + s) k := fun k => (cc 8 (4 * b + s) k (by omega)).1
    have a82 : gR mc' 8 (4 * b + s) 2 = gR mc 8 (4 * b + s) 2 := (cc 8 (4 * b + s) 2 (by omega)).2.2
    have bK : ∀ K, 116 ≤ K → K ≤ 120 → ∀ j, gN mm' K 0 j = gN mm K 0 j := fun K h1 h2 j => (cm K 0 j (by omega)).1
    have st1 : ∀ j, gN mm' 108 0 j = gN mm 108 0 j ∨ (j = 8 * b + f ∧ gN mm' 108 0 j = 4 ∧ gN mm 108 0 j = 3) := fun j => by
      by_cases q : j = 8 * b + f
      · exact Or.inr ⟨q, by rw [q]; exact x108, by rw [q]; exact h3⟩
      · exact Or.inl (cm 108 0 j (by omega)).1
    refine ⟨by rw [a8, bK 120 (by omega) (by omega)]; exact hx.t, ?_⟩
    rw [a82, a8, a8, bK 117 (by omega) (by omega), bK 118 (by omega) (by omega), bK 119 (by omega) (by omega)]
    rcases hx.k with ⟨k1, k2, k3, k4⟩ | ⟨k1, k2, k3, d, e, k4, k5, k6, k7, k8⟩
    · refine Or.inl ⟨k1, k2, ?_, ?_⟩
      · have := st1 (8 * b + 2 * s); omega
      · have := st1 (8 * b + (2 * s + 1)); omega
    · refine Or.inr ⟨k1, k2, k3, d, e, k4, k5, ?_, ?_, fun z => ?_⟩
      · have := st1 (8 * b + (2 * s + d)); omega
      · rw [bK 116 (by omega) (by omega)]; exact k7
      · rw [bK 116 (by omega) (by omega)]
        refine k8 ?_
        have := st1 (8 * b + (2 * s + e)); omega
  · have hx := hB.lv
    have st1 : ∀ j, gN mm' 108 0 j = gN mm 108 0 j ∨ (j = 8 * b + f ∧ gN mm' 108 0 j = 4 ∧ gN mm 108 0 j = 3) := fun j => by
      by_cases q : j = 8 * b + f
      · exact Or.inr ⟨q, by rw [q]; exact x108, by rw [q]; exact h3⟩
      · exact Or.inl (cm 108 0 j (by omega)).1
    refine ⟨by rw [(cc 0 b 11 (by omega)).1, (cm 79 0 b (by omega)).1]; exact hx.bd, fun z c l hc hl => ?_, fun z f' hf' => ?_, fun f' h1 h2 => ?_⟩
    · rw [(cm 79 0 b (by omega)).1] at z
      rw [(cc 18 (24 * b + c) l (by omega)).1, (cm 126 0 (8 * (24 * b + c) + l) (by omega)).1]
      exact hx.l z c l hc hl
    · rw [(cm 79 0 b (by omega)).1] at z
      have := hx.d z f' hf'
      have := st1 (8 * b + f')
      omega
    · rw [(cm 108 0 (8 * b + f') (by omega)).1]; exact hx.u f' h1 h2
theorem call_putAway (h : RR N mc mm) (hN : N ≤ 600) (a c e : Int) : CalI N (f_X11_putAway mc 0 a c e) (f_X12_putAway mm 0 a c e) [0, 2] := by
  have m67 : ∀ (x v : Int), v ≠ 0 → j_X12_putAway_0_67 mm 0 a c e x 0 v = some (.inl (some (aI 0)), sN mm 12 0 0 v) := fun x v hv => by
    unfold j_X12_putAway_0_67; rw [holds1 _ hv, bI_ok, if_neg (fun q => q rfl)]
  have m21 : j_X12_putAway_0_21 mm 0 a c e = some (.inl (some (aI 0)), sN mm 12 0 0 1) := by
    unfold j_X12_putAway_0_21 j_X12_putAway_0_22 j_X12_putAway_0_39; rw [if_pos rfl, if_neg (fun q => q rfl), m67 _ 1 (by decide)]
  have hH := h.H.1
  unfold f_X11_putAway f_X12_putAway
  by_cases hb : 0 ≤ a ∧ a < gN mm 12 0 19
  · obtain ⟨b, rfl⟩ := Int.ex hb.1
    obtain ⟨F, n, M, Ln, E, hB⟩ := h.Bk b hb.2
    have hP := hB.hP
    have hS := hB.hS
    have q0 := hP.hb
    have q1 := hP.hn
    have hF := hP.hF
    rw [bookAt_ok h.Nb h.C hb.2, bR_ok, nk_some]
    by_cases hc : 0 ≤ c ∧ c < (2 * n : Nat)
    · obtain ⟨f, rfl⟩ := Int.ex hc.1
      have hf : f < 2 * n := by omega
      have hff := hB.ff f hf
      rw [formeOf_ok hS hf, bR_ok, nk_some, isForme_ok h.Nb h.M hP hb.2 hf, Option.bind_some, if_neg (show ¬ (1 : Int) = 0 by decide), handAt_c h.C h.H, isHand_m _ hH.2, Option.bind_some]
      by_cases he : 0 ≤ e ∧ e < gN mm 12 0 12
      · obtain ⟨d, rfl⟩ := Int.ex he.1
        rw [if_pos he, if_pos he, if_neg (show ¬ (1 : Int) = 0 by decide), bR_ok, tnc, nk_some, hff.how.1]
        unfold j_X12_putAway_0_22 j_X12_putAway_0_39
        rw [if_neg (show ¬ (1 : Int) = 0 by decide), ck_of ⟨by omega, by omega⟩, if_pos (show ¬ (1 : Int) = 0 by decide), nk_of h.M.r56, ldN_of h.M.z108 (by omega), tn8]
        by_cases h3 : gN mm 108 0 (8 * b + f) = 3
        · rw [if_neg (show ¬ ¬ gN mm 108 0 (8 * b + f) = 3 from fun q => q h3), if_neg (show ¬ ¬ gN mm 108 0 (8 * b + f) = 3 from fun q => q h3)]
          unfold j_X11_putAway_0_32 j_X12_putAway_0_67
          rw [rqS _ (by decide), bV_ok, nk_of (hS.o0 f hf), lenI_of (hS.z19 f hf), holds0, bI_ok, if_pos (show ¬ (1 : Int) = 0 by decide)]
          have hT0 := h.thr 0
          have hpl : ∀ p, p < 2 * (F * n) → RPl mc (sN mm 12 0 0 0) (16 * b + p) := fun p hp => (hB.thr 0).pl p hp
          obtain ⟨v, s', t', e1, e2, e3⟩ := pa_all h hB he.2 hf (B := ((2000 * N : Nat) : Int)) (by omega) (2 * (F * n)) 0 (by omega) (by omega) 0 mc (sN mm 12 0 0 0) (by omega) (by omega) ⟨FrC.rf, FrC.rf.sN (Or.inl ⟨rfl, rfl⟩), gthr _ _, hT0.Ca, hT0.Pc, hT0.H.keep (by omega) (fun _ _ _ _ => eq3.rf) rfl (fun _ _ _ _ => eq3.rf), hpl⟩
          rw [show 8 * (b : Int) + (f : Int) = ((8 * b + f : Nat) : Int) by omega]
          have e1' : lpb (fun s : Int × Int × MM => b_X11_putAway_53 0 (8 * b + f) d (8 * b + f) ((F : Nat) : Int) s.1 s.2.1 s.2.2) (0, 0, mc) = some (v, s') := e1
          have e2' : lpb (fun s : Int × Int × MM => b_X12_putAway_81 0 (b : Int) (f : Int) (d : Int) ((8 * b + f : Nat) : Int) s.1 s.2.1 s.2.2) (0, 0, sN mm 12 0 0 0) = some (v, t') := e2
          rw [e1', e2', Option.bind_some, Option.bind_some]
          unfold j_X11_putAway_0_92 j_X12_putAway_0_270
          have hM4 := e3.2.1.SM h.M (fun s hs => by unfold WAwm at hs; omega)
          rw [lt_eq, nk_of hM4.r56, stN_of hM4.z108 (by omega), tnc]
          refine ⟨_, _, _, _, rfl, rfl, Or.inl ⟨rfl, ?_⟩, pa_fin h hB hb.2 hf h3 (by omega) e3⟩
          rw [gN_sN, if_neg (by omega)]
          exact e3.2.2.1
        · have e32 : j_X11_putAway_0_32 mc 0 (8 * b + f) d 0 = some (.inr 2, bX mc) := by unfold j_X11_putAway_0_32; rw [rqS0, bV_ex]; rfl
          rw [if_pos h3, if_pos h3, e32, m67 _ 2 (by decide)]
          exact CalI.bad (k := 1) h rfl rfl rfl
      · rw [if_neg he, if_neg he, if_pos rfl, m21, bR_ex]
        exact CalI.bad (k := 0) h rfl rfl rfl
    · rw [formeOf_bad hS hc, bR_ex, isForme_bad h.Nb h.M hP hb.2 hc, Option.bind_some, if_pos rfl, m21]
      exact CalI.bad (k := 0) h rfl rfl rfl
  · rw [bookAt_bad h.Nb h.C hb, bR_ex, isForme_b0 h.Nb hb, Option.bind_some, if_pos rfl, m21]
    exact CalI.bad (k := 0) h rfl rfl rfl
end AWAY
