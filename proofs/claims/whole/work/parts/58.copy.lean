/-! A WORD IS ADDED TO A COPY; copy. -/
/-- the class's copy with one word more -/
def addC (m : MM) (b k : Nat) (w x y : Int64) (v e : Int) : MM := sN (sN (sL (sL (sN (sL m 45 b k w) 48 b k v) 46 b k x) 47 b k y) 49 b k e) 9 b 5 ((k : Int) + 1)
def addM (m : MM) (b k : Nat) (w : Int64) (e : Int) : MM := sN (sN (sL m 81 0 (60 * b + k) w) 82 0 (60 * b + k) e) 80 0 b ((k : Int) + 1)
section COPY
variable {N : Nat} {mc mm : MM} {b F n M Ln E : Nat}
theorem add_run {mx : MM} (hC : SC mc) (hS : BS mc b F n M Ln E) (hSp : RSp mc mx) {k : Nat} (hk : gN mc 9 b 5 = k) (hk60 : k < 60) {c w : Int64} (hw : WW c w) {e : Int} (he : e = 0 ∨ e = 1) :
    ∃ v x y, f_X9_add mc b c e 0 = some (.inl none, addC mc b k c x y v e) ∧ SpR (gN mx 12 0 3).toNat (gL mx 60 0) (gL mx 61 0) w v ∧ ((v = -1 ∧ x = c ∧ y = c) ∨ ∃ s : Nat, v = s ∧ (s : Int) < gN mx 12 0 3 ∧ x = gL mc 53 0 s ∧ y = gL mc 54 0 s) := by
  have h6 := hSp.b
  obtain ⟨v, e1, e2⟩ := spelling_c (w := c) hC (n := (gN mx 12 0 3).toNat) (by rw [hSp.c]; omega) (by omega)
  have e3 : SpR (gN mx 12 0 3).toNat (gL mx 60 0) (gL mx 61 0) w v := e2.rel (fun s hs => (hSp.w s (by omega)).1) (fun s hs => (hSp.w s (by omega)).2) hw
  have hv := e3.told
  unfold f_X9_add
  rw [hk, if_pos (by omega), e1, Option.bind_some, nk_of hS.t0, stL_of hS.z45 (by omega), tnc]
  have r1 : ∀ K s i, gR (sL mc 45 b k c) K i s = gR mc K i s := fun _ _ _ => rfl
  have k1 : gN (sL mc 45 b k c) 9 b 5 = k := hk
  rw [k1, nk_of (show gR (sL mc 45 b k c) 9 b 3 = some (48, b) from hS.t3), stN_of (show gZ (sL mc 45 b k c) 48 b = some 60 from hS.z48) (by omega), tnc]
  have k2 : gN (sN (sL mc 45 b k c) 48 b k v) 9 b 5 = k := by rw [gN_sN, if_neg (by omega)]; exact hk
  rw [k2, nk_of (show gR (sN (sL mc 45 b k c) 48 b k v) 9 b 1 = some (46, b) from hS.t1)]
  have tail : ∀ x y : Int64, (v = -1 → y = c) → (∀ s : Nat, v = s → y = gL mc 54 0 s) → j_X9_add_0_65 (sN (sL mc 45 b k c) 48 b k v) b c e 0 v b (k : Int) x = some (.inl none, addC mc b k c x y v e) := by
    intro x y hy1 hy2
    unfold j_X9_add_0_65
    rw [stL_of (show gZ (sN (sL mc 45 b k c) 48 b k v) 46 b = some 60 from hS.z46) (by omega), tnc, nk_of (show gR (sL (sN (sL mc 45 b k c) 48 b k v) 46 b k x) 9 b 2 = some (47, b) from hS.t2)]
    have k3 : gN (sL (sN (sL mc 45 b k c) 48 b k v) 46 b k x) 9 b 5 = k := k2
    have fin : j_X9_add_0_92 (sL (sN (sL mc 45 b k c) 48 b k v) 46 b k x) b e b (k : Int) y = some (.inl none, addC mc b k c x y v e) := by
      unfold j_X9_add_0_92
      rw [stL_of (show gZ (sL (sN (sL mc 45 b k c) 48 b k v) 46 b k x) 47 b = some 60 from hS.z47) (by omega), tnc, nk_of (show gR (sL (sL (sN (sL mc 45 b k c) 48 b k v) 46 b k x) 47 b k y) 9 b 4 = some (49, b) from hS.t4), cb_of he]
      rw [show gN (sL (sL (sN (sL mc 45 b k c) 48 b k v) 46 b k x) 47 b k y) 9 b 5 = k from k2, stN_of (show gZ (sL (sL (sN (sL mc 45 b k c) 48 b k v) 46 b k x) 47 b k y) 49 b = some 60 from hS.z49) (by omega), tnc]
      have k4 : gN (sN (sL (sL (sN (sL mc 45 b k c) 48 b k v) 46 b k x) 47 b k y) 49 b k e) 9 b 5 = k := by rw [gN_sN, if_neg (by omega)]; exact k2
      rw [k4, ck_of ⟨by omega, by omega⟩, lt_eq]
      rfl
    rw [k3]
    by_cases h1 : v = -1
    · rw [if_neg (fun q => q h1)]
      obtain rfl := hy1 h1
      exact fin
    · obtain ⟨s, hs⟩ := Int.ex (show 0 ≤ v by omega)
      rw [if_pos h1, nk_of (show gR (sL (sN (sL mc 45 b k c) 48 b k v) 46 b k x) 10 0 4 = some (54, 0) from hC.w4), ldL_of (show gZ (sL (sN (sL mc 45 b k c) 48 b k v) 46 b k x) 54 0 = some 6 from hC.z54) (by omega), hs, tnc, show gL (sL (sN (sL mc 45 b k c) 48 b k (s : Int)) 46 b k x) 54 0 s = gL mc 54 0 s by rw [gL_sL, if_neg (by omega), gL_sN, gL_sL, if_neg (by omega)], ← hy2 s hs, ← hs]
      exact fin
  by_cases h1 : v = -1
  · refine ⟨v, c, c, ?_, e3, Or.inl ⟨h1, rfl, rfl⟩⟩
    rw [if_neg (fun q => q h1)]
    exact tail c c (fun _ => rfl) (fun s hs => by omega)
  · obtain ⟨s, hs⟩ := Int.ex (show 0 ≤ v by omega)
    refine ⟨v, gL mc 53 0 s, gL mc 54 0 s, ?_, e3, Or.inr ⟨s, hs, by omega, rfl, rfl⟩⟩
    rw [if_pos h1, nk_of (show gR (sN (sL mc 45 b k c) 48 b k v) 10 0 3 = some (53, 0) from hC.w3), ldL_of (show gZ (sN (sL mc 45 b k c) 48 b k v) 53 0 = some 6 from hC.z53) (by omega)]
    have e5 : gL (sN (sL mc 45 b k c) 48 b k v) 53 0 v.toNat = gL mc 53 0 s := by rw [gL_sN, gL_sL, if_neg (by omega), hs, tnc]
    rw [e5]
    exact tail _ _ (fun q => absurd q h1) (fun s' hs' => by rw [show s' = s by omega])
theorem RTx.add {L : Nat} (h : RTx mc mm b L M Ln) (h78 : gN mm 78 0 b = 0) {k : Nat} (hk : gN mm 80 0 b = k) (hk60 : k < 60) {c w x y : Int64} {v e : Int} (hw : WW c w) (he : e = 0 ∨ e = 1) (hv : SpR (gN mm 12 0 3).toNat (gL mm 60 0) (gL mm 61 0) w v)
    (hxy : (v = -1 ∧ x = c ∧ y = c) ∨ ∃ s : Nat, v = s ∧ (s : Int) < gN mm 12 0 3 ∧ x = gL mc 53 0 s ∧ y = gL mc 54 0 s) : RTx (addC mc b k c x y v e) (addM mm b k w e) b L M Ln := by
  have hcnt := h.cnt
  have a5 : gN (addC mc b k c x y v e) 9 b 5 = (k : Int) + 1 := by unfold addC; rw [gN_sN, if_pos ⟨rfl, rfl, rfl⟩]
  have b80 : gN (addM mm b k w e) 80 0 b = (k : Int) + 1 := by unfold addM; rw [gN_sN, if_pos ⟨rfl, rfl, rfl⟩]
  have a45 : ∀ j, gL (addC mc b k c x y v e) 45 b j = if j = k then c else gL mc 45 b j := fun j => by
    unfold addC
    rw [gL_sN, gL_sN, gL_sL, if_neg (by omega), gL_sL, if_neg (by omega), gL_sN, gL_sL]
    split <;> split <;> first | rfl | omega
  have a46 : ∀ j, gL (addC mc b k c x y v e) 46 b j = if j = k then x else gL mc 46 b j := fun j => by
    unfold addC
    rw [gL_sN, gL_sN, gL_sL, if_neg (by omega), gL_sL, gL_sN]
    by_cases q : j = k
    · rw [if_pos ⟨rfl, rfl, q⟩, if_pos q]
    · rw [if_neg (fun z => q z.2.2), if_neg q, gL_sL, if_neg (by omega)]
  have a47 : ∀ j, gL (addC mc b k c x y v e) 47 b j = if j = k then y else gL mc 47 b j := fun j => by
    unfold addC
    rw [gL_sN, gL_sN, gL_sL]
    by_cases q : j = k
    · rw [if_pos ⟨rfl, rfl, q⟩, if_pos q]
    · rw [if_neg (fun z => q z.2.2), if_neg q, gL_sL, if_neg (by omega), gL_sN, gL_sL, if_neg (by omega)]
  have a48 : ∀ j, gN (addC mc b k c x y v e) 48 b j = if j = k then v else gN mc 48 b j := fun j => by
    unfold addC
    rw [gN_sN, if_neg (by omega), gN_sN, if_neg (by omega), gN_sL, gN_sL, gN_sN, gN_sL]
    split <;> split <;> first | rfl | omega
  have a49 : ∀ j, gN (addC mc b k c x y v e) 49 b j = if j = k then e else gN mc 49 b j := fun j => by
    unfold addC
    rw [gN_sN, if_neg (by omega), gN_sN, gN_sL, gN_sL]
    by_cases q : j = k
    · rw [if_pos ⟨rfl, rfl, q⟩, if_pos q]
    · rw [if_neg (fun z => q z.2.2), if_neg q, gN_sN, if_neg (by omega), gN_sL]
  have ag : ∀ K s, K = 53 ∨ K = 54 → gL (addC mc b k c x y v e) K 0 s = gL mc K 0 s := fun K s hK => by
    unfold addC
    rw [gL_sN, gL_sN, gL_sL, if_neg (by omega), gL_sL, if_neg (by omega), gL_sN, gL_sL, if_neg (by omega)]
  have a10 : gN (addC mc b k c x y v e) 0 b 10 = gN mc 0 b 10 := by
    unfold addC
    rw [gN_sN, if_neg (by omega), gN_sN, if_neg (by omega), gN_sL, gN_sL, gN_sN, if_neg (by omega), gN_sL]
  have b81 : ∀ j, gL (addM mm b k w e) 81 0 (60 * b + j) = if j = k then w else gL mm 81 0 (60 * b + j) := fun j => by
    unfold addM
    rw [gL_sN, gL_sN, gL_sL]
    split <;> split <;> first | rfl | omega
  have b82 : ∀ j, gN (addM mm b k w e) 82 0 (60 * b + j) = if j = k then e else gN mm 82 0 (60 * b + j) := fun j => by
    unfold addM
    rw [gN_sN, if_neg (by omega), gN_sN, gN_sL]
    split <;> split <;> first | rfl | omega
  have bg : ∀ K, K = 60 ∨ K = 61 → gL (addM mm b k w e) K 0 = gL mm K 0 := fun K hK => funext fun s => by
    unfold addM
    rw [gL_sN, gL_sN, gL_sL, if_neg (by omega)]
  have b3 : gN (addM mm b k w e) 12 0 3 = gN mm 12 0 3 := by
    unfold addM
    rw [gN_sN, if_neg (by omega), gN_sN, if_neg (by omega), gN_sL]
  have b78 : gN (addM mm b k w e) 78 0 b = 0 := by
    unfold addM
    rw [gN_sN, if_neg (by omega), gN_sN, if_neg (by omega), gN_sL, h78]
  refine ⟨by rw [a5, b80]; omega, fun j hj => ?_, fun j hj => ?_, fun j hj => ?_, fun j hj => ?_, Or.inl b78, by rw [a10, b78, h.co, h78], fun z => absurd b78 z⟩
  · rw [b80] at hj
    rw [a45, b81]
    by_cases q : j = k
    · rw [if_pos q, if_pos q]; exact hw
    · rw [if_neg q, if_neg q]; exact h.told j (by omega)
  · rw [b80] at hj
    rw [a49, b82]
    by_cases q : j = k
    · rw [if_pos q, if_pos q]; exact ⟨rfl, he⟩
    · rw [if_neg q, if_neg q]; exact h.ends j (by omega)
  · rw [b80] at hj
    rw [b3, bg 60 (by omega), bg 61 (by omega), a48, b81]
    by_cases q : j = k
    · rw [if_pos q, if_pos q]; exact hv
    · rw [if_neg q, if_neg q]; exact h.sp j (by omega)
  · rw [b80] at hj
    rw [a48, a45, a46, a47, b3]
    simp only [ag 53 _ (Or.inl rfl), ag 54 _ (Or.inr rfl)]
    by_cases q : j = k
    · rw [if_pos q, if_pos q, if_pos q, if_pos q]; exact hxy
    · rw [if_neg q, if_neg q, if_neg q, if_neg q]; exact h.fm j (by omega)
def WAc (b K i s : Nat) : Prop := (45 ≤ K ∧ K ≤ 49 ∧ i = b) ∨ (K = 9 ∧ i = b ∧ s = 5)
def WAm (b K i s : Nat) : Prop := ((K = 81 ∨ K = 82) ∧ i = 0 ∧ 60 * b ≤ s ∧ s < 60 * b + 60) ∨ (K = 80 ∧ i = 0 ∧ s = b)
theorem addC_fr {W : Nat → Nat → Nat → Prop} {m0 m : MM} {k : Nat} {w x y : Int64} {v e : Int} (h : FrC W m0 m) (hW : ∀ K i s, WAc b K i s → W K i s) : FrC W m0 (addC m b k w x y v e) := by
  unfold addC
  exact (((((h.sL (hW _ _ _ (by unfold WAc; omega))).sN (hW _ _ _ (by unfold WAc; omega))).sL (hW _ _ _ (by unfold WAc; omega))).sL (hW _ _ _ (by unfold WAc; omega))).sN (hW _ _ _ (by unfold WAc; omega))).sN (hW _ _ _ (by unfold WAc; omega))
theorem addM_fr {W : Nat → Nat → Nat → Prop} {m0 m : MM} {k : Nat} {w : Int64} {e : Int} (hk : k < 60) (h : FrC W m0 m) (hW : ∀ K i s, WAm b K i s → W K i s) : FrC W m0 (addM m b k w e) := by
  unfold addM
  exact ((h.sL (hW _ _ _ (by unfold WAm; omega))).sN (hW _ _ _ (by unfold WAm; omega))).sN (hW _ _ _ (by unfold WAm; omega))
theorem tm_of (h : RR N mc mm) : ∃ T, TM mm (fun k => gN mm 59 0 k) T ∧ TC mc (fun k => gN mm 59 0 k) T := by
  obtain ⟨h1, h2, h3, h4⟩ := h.T
  obtain ⟨T, hT⟩ := Int.ex h2
  exact ⟨T, ⟨h.M, hT, by omega, fun _ _ => rfl⟩, ⟨h.C, by rw [h1, hT], by omega, fun k hk => (h4 k (by omega)).1⟩⟩
theorem TM.mv {t : Nat → Int} {T : Nat} {W : Nat → Nat → Nat → Prop} {m m' : MM} (h : TM m t T) (hF : FrC W m m') (h1 : ¬ W 12 0 1) (h2 : ∀ s, ¬ W 59 0 s) (h3 : ∀ s, W 12 0 s → s = 0 ∨ s = 1 ∨ s = 3 ∨ s = 6 ∨ s = 12 ∨ s = 19 ∨ s = 52 ∨ s = 69 ∨ s = 74 ∨ s = 79) : TM m' t T := ⟨hF.SM h.M h3, by rw [(hF.1 12 0 1 h1).1]; exact h.n, h.h, fun k hk => by rw [(hF.1 59 0 k (h2 k)).1]; exact h.t k hk⟩
end COPY
