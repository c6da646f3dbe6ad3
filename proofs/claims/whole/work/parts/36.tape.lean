/-! THE TAPE: type, wipe, fault. -/
/-- answers agree: a value on both sides, or an exception and its place -/
def Ans (xs : List Nat) (r : RV) (t b : Int) : Prop := (r = .inl (some (aI b)) ∧ t = 0) ∨ ∃ e k : Nat, r = .inr e ∧ xs[k]? = some e ∧ t = ((k + 1 : Nat) : Int)
def isSg (x : Int) : Prop := (97 ≤ x ∧ x ≤ 122) ∨ x = 32 ∨ x = 47
/-- the tapes agree -/
def RT (mc mm : MM) : Prop := gN mc 10 0 5 = gN mm 12 0 1 ∧ 0 ≤ gN mm 12 0 1 ∧ gN mm 12 0 1 ≤ 40 ∧ ∀ k : Nat, (k : Int) < gN mm 12 0 1 → gN mc 50 0 k = gN mm 59 0 k ∧ isSg (gN mm 59 0 k)
theorem isIn_m (m : MM) (x lo hi : Int) : f_X12_isIn m x lo hi = some (if lo ≤ x ∧ x ≤ hi then 1 else 0) := by
  unfold f_X12_isIn
  by_cases h1 : x < lo
  · rw [if_pos h1, if_neg (by omega)]
  · rw [if_neg h1]
    by_cases h2 : hi < x
    · rw [if_pos h2, if_neg (by omega)]
    · rw [if_neg h2, if_pos (by omega)]
theorem holds_m (m : MM) (v : Int) : f_X12_holds m 0 v = some (.inl (some (aI (if v = 0 then 1 else 0))), sN m 12 0 0 v) := by
  unfold f_X12_holds
  show (if ¬ v = 0 then _ else _) = _
  by_cases h : v = 0
  · rw [if_neg (fun q => q h), if_pos h]
  · rw [if_pos h, if_neg h]
theorem rqA (m : MM) {v : Int} (h : v ≠ 0) : f_X11_requireArgument m v = some (.inl none, m) := if_pos h
theorem rqA0 (m : MM) : f_X11_requireArgument m 0 = some (.inr 1, bX m) := if_neg (fun q => q rfl)
theorem rqI (m : MM) {v : Int} (h : v ≠ 0) : f_X11_requireIndex m v = some (.inl none, m) := if_pos h
theorem rqI0 (m : MM) : f_X11_requireIndex m 0 = some (.inr 0, bX m) := if_neg (fun q => q rfl)
theorem rqS (m : MM) {v : Int} (h : v ≠ 0) : f_X11_requireState m v = some (.inl none, m) := if_pos h
theorem rqS0 (m : MM) : f_X11_requireState m 0 = some (.inr 2, bX m) := if_neg (fun q => q rfl)
def chr (c : Int64) (k : Nat) : Int := l2i (lushr c ((8 * k : Nat) : Int) &&& 255)
theorem letterAt_any {m : MM} {c : Int64} {k : Nat} (hk : k < 8) : f_X11_letterAt m c (k : Int) = some (chr c k) := by
  unfold f_X11_letterAt
  rw [ck_of ⟨by omega, by omega⟩]
  unfold chr
  rw [show ((8 * k : Nat) : Int) = 8 * (k : Int) by omega]
theorem chr_m {c : Int64} {k : Nat} (hk : k < 8) : l2i (lshr c (8 * (k : Int)) &&& 255) = chr c k := by
  unfold chr
  rw [show 8 * (k : Int) = ((8 * k : Nat) : Int) by omega]
  congr 1
  unfold lshr lushr
  rw [sh_u _ (by omega), sh_l _ (by omega)]
  apply Int64.toBitVec_inj.mp
  show (c.toBitVec.sshiftRight' ((Int64.ofNat (8 * k)).toBitVec.smod 64)) &&& 255#64 = (c.toBitVec >>> ((UInt64.ofNat (8 * k)).toBitVec % 64)) &&& 255#64
  have e1 : ((Int64.ofNat (8 * k)).toBitVec.smod 64).toNat = 8 * k := by
    have : ∀ s : Fin 64, ((Int64.ofNat (s : Nat)).toBitVec.smod 64).toNat = (s : Nat) := by decide +kernel
    exact this ⟨8 * k, by omega⟩
  have e2 : ((UInt64.ofNat (8 * k)).toBitVec % 64).toNat = 8 * k := by
    rw [BitVec.toNat_umod]
    show (BitVec.ofNat 64 (8 * k)).toNat % 64 = 8 * k
    rw [BitVec.toNat_ofNat]
    omega
  rw [BitVec.sshiftRight', e1, BitVec.ushiftRight_eq', e2]
  apply BitVec.eq_of_getLsbD_eq
  intro i hi
  rw [BitVec.getLsbD_and, BitVec.getLsbD_and, BitVec.getLsbD_sshiftRight, BitVec.getLsbD_ushiftRight]
  by_cases h8 : i < 8
  · have h1 : 8 * k + i < 64 := by omega
    simp [h1, hi, show ¬ 64 ≤ i by omega]
  · have h255 : (255#64).getLsbD i = false := by
      have : ∀ i : Fin 64, 8 ≤ (i : Nat) → (255#64).getLsbD (i : Nat) = false := by decide +kernel
      exact this ⟨i, hi⟩ (Nat.not_lt.mp h8)
    rw [h255, Bool.and_false, Bool.and_false]
/-- the arguments of type that serve -/
def goodTy (c : Int64) (n : Int) : Prop := 1 ≤ n ∧ n ≤ 8 ∧ ∀ k : Nat, (k : Int) < n → isSg (chr c k)
theorem isSign_c (m : MM) (x : Int) : ∃ v, f_X11_isSign m x = some v ∧ (v ≠ 0 ↔ isSg x) ∧ (v = 0 ∨ v = 1) := by
  unfold f_X11_isSign f_X11_isLetter isSg
  by_cases h1 : x < 97
  · rw [if_pos h1]
    rw [Option.bind_some, if_neg (fun q => q rfl)]
    by_cases h2 : x = 32
    · exact ⟨1, by rw [if_pos h2], by omega, by omega⟩
    · rw [if_neg h2]
      by_cases h3 : x = 47
      · exact ⟨1, by rw [if_neg (fun q => q h3)], by omega, by omega⟩
      · exact ⟨0, by rw [if_pos h3], by omega, by omega⟩
  · rw [if_neg h1]
    by_cases h4 : 122 < x
    · rw [if_pos h4]
      rw [Option.bind_some, if_neg (fun q => q rfl), if_neg (by omega), if_pos (by omega)]
      exact ⟨0, rfl, by omega, by omega⟩
    · rw [if_neg h4]
      rw [Option.bind_some, if_pos (by decide)]
      exact ⟨1, rfl, by omega, by omega⟩
def TyC (mc : MM) (c : Int64) (n : Int) (T : Nat) : RV × MM → Prop := fun q => (¬ goodTy c n ∧ q = (.inr 1, bX mc)) ∨ (goodTy c n ∧ 40 < T + n ∧ q = (.inr 2, bX mc)) ∨
  (goodTy c n ∧ T + n ≤ 40 ∧ q.1 = .inl (some (aI (T + n))) ∧ gN q.2 10 0 5 = T + n ∧ (∀ k : Nat, k < T → gN q.2 50 0 k = gN mc 50 0 k) ∧ ∀ k : Nat, (k : Int) < n → gN q.2 50 0 (T + k) = chr c k)
theorem type_c {mc : MM} {c : Int64} {n : Int} {T : Nat} (h : SC mc) (hT : gN mc 10 0 5 = T) (hT40 : T ≤ 40) : Ev (f_X11_type mc 0 c n) (TyC mc c n T) := by
  have bad : ¬ (1 ≤ n ∧ n ≤ 8) → Ev (j_X11_type_0_15 mc 0 c n) (TyC mc c n T) := by
    intro hb
    unfold j_X11_type_0_15 j_X11_type_0_16
    refine ev_bVx (rqA0 mc) (ev_some (Or.inl ⟨fun q => hb ⟨q.1, q.2.1⟩, rfl⟩))
  unfold f_X11_type
  refine ev_if (fun h1 => bad (by omega)) fun h1 => ev_if (fun h2 => bad (by omega)) fun h2 => ?_
  unfold j_X11_type_0_16
  refine ev_bVv (rqA mc (by decide)) ?_
  refine ev_lp (Sum.elim (fun r => ¬ goodTy c n ∧ r = (.inr 1, bX mc)) fun z => goodTy c n ∧ z = mc) (fun s => ∃ k : Nat, s = ((k : Int), mc) ∧ k ≤ n ∧ ∀ j : Nat, j < k → isSg (chr c j)) (fun s => 8 - s.1.toNat) ⟨0, rfl, by omega, fun j hj => absurd hj (by omega)⟩ ?_ ?_
  · rintro _ ⟨k, rfl, hk, hg⟩
    unfold b_X11_type_22
    refine ev_if (fun hc => ev_exit ⟨⟨by omega, by omega, fun j hj => hg j (by omega)⟩, rfl⟩) fun hc => ?_
    simp only at hc ⊢
    refine ev_bind (ev_of (letterAt_any (by omega)) (Φ := fun v => v = chr c k) rfl) ?_
    rintro v rfl
    obtain ⟨u, hu, hu1, hu2⟩ := isSign_c mc (chr c k)
    refine ev_bind (ev_of hu (Φ := fun v => v = u) rfl) ?_
    intro v hv
    rw [hv]
    by_cases hs : u = 0
    · rw [hs] at hu1 ⊢
      refine ev_bVx (rqA0 mc) (ev_exit ⟨fun q => ?_, rfl⟩)
      exact absurd (hu1.mpr (q.2.2 k (by omega))) (fun z => z rfl)
    · refine ev_bVv (rqA mc hs) (ev_ck (by omega) (ev_back ⟨k + 1, rfl, by omega, fun j hj => ?_⟩ (by simp only; omega)))
      by_cases q : j = k
      · rw [q]; exact hu1.mp hs
      · exact hg j (by omega)
  · rintro (r | z) hx
    · exact ev_some (Or.inl hx)
    · obtain ⟨hg, rfl⟩ := hx
      show Ev (j_X11_type_0_46 z 0 c n) _
      unfold j_X11_type_0_46
      refine ev_nk h.r0 ?_
      rw [hT]
      refine ev_ck (by omega) (ev_if (fun hc => ?_) fun hc => ?_)
      · unfold j_X11_type_0_65
        exact ev_bVx (rqS0 z) (ev_some (Or.inr (Or.inl ⟨hg, hc, rfl⟩)))
      · unfold j_X11_type_0_65
        refine ev_bVv (rqS z (by decide)) ?_
        refine ev_lp (fun m' : MM => gN m' 10 0 5 = T + n ∧ gR m' 11 0 0 = some (10, 0) ∧ (∀ k : Nat, k < T → gN m' 50 0 k = gN z 50 0 k) ∧ ∀ k : Nat, (k : Int) < n → gN m' 50 0 (T + k) = chr c k)
          (fun s => ∃ k : Nat, s.1 = k ∧ k ≤ n ∧ gN s.2 10 0 5 = T + k ∧ SC s.2 ∧ (∀ j : Nat, j < T → gN s.2 50 0 j = gN z 50 0 j) ∧ ∀ j : Nat, j < k → gN s.2 50 0 (T + j) = chr c j) (fun s => 8 - s.1.toNat) ⟨0, rfl, by omega, by simpa using hT, h, fun _ _ => rfl, fun j hj => absurd hj (by omega)⟩ ?_ ?_
        · rintro ⟨a, m⟩ ⟨k, ha, hk, hl, hS, hp, hq⟩
          simp only at ha hl hS hp hq
          subst ha
          unfold b_X11_type_71
          refine ev_if (fun hc => ev_exit ⟨by rw [hl]; omega, hS.r0, hp, fun j hj => hq j (by omega)⟩) fun hc => ?_
          simp only at hc ⊢
          refine ev_nk hS.r0 (ev_bind (ev_of (letterAt_any (by omega)) (Φ := fun v => v = chr c k) rfl) ?_)
          rintro v rfl
          refine ev_cV (Ψ := fun m' => m' = sN (sN m 50 0 (T + k) (chr c k)) 10 0 5 (T + k + 1)) ?_ ?_
          · obtain ⟨x, h1, h2⟩ : Ev (f_X10_add m 0 (chr c k)) (fun q => q = (.inl none, sN (sN m 50 0 (T + k) (chr c k)) 10 0 5 (T + k + 1))) := by
              unfold f_X10_add
              refine ev_nk hS.w0 (ev_iff (by rw [lenI_of hS.z50, hl]; omega) (ev_nk hS.w0 (ev_stN hS.z50 (by rw [hl]; omega) ?_)))
              rw [hl, show ((T : Int) + (k : Int)).toNat = T + k by omega]
              rw [show gN (sN m 50 0 (T + k) (chr c k)) 10 0 5 = T + k by rw [gN_sN, if_neg (fun q => absurd q.1 (by decide)), hl]]
              exact ev_ck (by omega) (ev_lt (ev_some rfl))
            exact ⟨_, h1.trans (congrArg some h2), rfl⟩
          · rintro _ rfl
            refine ev_ck (by omega) (ev_back ⟨k + 1, by simp, by omega, ?_, ?_, ?_, ?_⟩ (by simp only; omega))
            · rw [gN_sN, if_pos ⟨rfl, rfl, rfl⟩]; omega
            · exact hS.mv (fun _ _ _ _ => rfl) (fun _ _ _ q => q)
            · intro j hj
              show gN (sN (sN m 50 0 (T + k) (chr c k)) 10 0 5 (T + k + 1)) 50 0 j = _
              rw [gN_sN, if_neg (fun q => absurd q.1 (by decide)), gN_sN, if_neg (by omega)]
              exact hp j hj
            · intro j hj
              show gN (sN (sN m 50 0 (T + k) (chr c k)) 10 0 5 (T + k + 1)) 50 0 (T + j) = _
              rw [gN_sN, if_neg (fun q => absurd q.1 (by decide)), gN_sN]
              by_cases q : j = k
              · rw [q, if_pos ⟨rfl, rfl, rfl⟩]
              · rw [if_neg (by omega)]; exact hq j (by omega)
        · rintro m' ⟨g1, g2, g3, g4⟩
          unfold j_X11_type_0_96
          refine ev_nk g2 (ev_some (Or.inr (Or.inr ⟨hg, by omega, by rw [g1], g1, g3, g4⟩)))
def TyM (mm : MM) (c : Int64) (n : Int) (T : Nat) : RV × MM → Prop := fun q => ∃ b, q.1 = .inl (some (aI b)) ∧ ((¬ goodTy c n ∧ q.2 = sN mm 12 0 0 1) ∨ (goodTy c n ∧ 40 < T + n ∧ q.2 = sN mm 12 0 0 2) ∨
  (goodTy c n ∧ T + n ≤ 40 ∧ b = T + n ∧ gN q.2 12 0 0 = 0 ∧ gN q.2 12 0 1 = T + n ∧ (∀ k : Nat, k < T → gN q.2 59 0 k = gN mm 59 0 k) ∧ ∀ k : Nat, (k : Int) < n → gN q.2 59 0 (T + k) = chr c k))
theorem type_m {mm : MM} {c : Int64} {n : Int} {T : Nat} (h : SM mm) (hT : gN mm 12 0 1 = T) (hT40 : T ≤ 40) : Ev (f_X12_type mm 0 c n) (TyM mm c n T) := by
  unfold f_X12_type
  refine ev_bind (ev_of (isIn_m mm n 1 8) (Φ := fun v => v = if 1 ≤ n ∧ n ≤ 8 then 1 else 0) rfl) ?_
  rintro v rfl
  refine ev_lp (fun z => (z = 1 ∧ goodTy c n) ∨ (z = 0 ∧ ¬ goodTy c n)) (fun s => ∃ k : Nat, s.2 = k ∧ ((s.1 = 1 ∧ 1 ≤ n ∧ n ≤ 8 ∧ k ≤ n ∧ ∀ j : Nat, j < k → isSg (chr c j)) ∨ (s.1 = 0 ∧ ¬ goodTy c n))) (fun s => 9 - s.2.toNat) ⟨0, rfl, ?_⟩ ?_ ?_
  · by_cases hn : 1 ≤ n ∧ n ≤ 8
    · exact Or.inl ⟨by simp [hn], hn.1, hn.2, by omega, fun j hj => absurd hj (by omega)⟩
    · exact Or.inr ⟨by simp [hn], fun q => hn ⟨q.1, q.2.1⟩⟩
  · rintro ⟨a, b⟩ ⟨k, hb, hs⟩
    simp only at hb hs
    subst hb
    unfold b_X12_type_12
    rcases hs with ⟨rfl, g1, g2, g3, g4⟩ | ⟨rfl, g⟩
    · refine ev_if (fun hc => ev_exit (Or.inl ⟨rfl, g1, g2, fun j hj => g4 j (by omega)⟩)) fun hc => ev_iff (show ¬ (1 : Int) = 0 by decide) ?_
      simp only at hc ⊢
      refine ev_ck (by omega) (ev_let ?_)
      rw [chr_m (by omega)]
      refine ev_bind (ev_of (isIn_m mm (chr c k) 97 122) (Φ := fun v => v = if 97 ≤ chr c k ∧ chr c k ≤ 122 then 1 else 0) rfl) ?_
      rintro v rfl
      have good : isSg (chr c k) → ∀ j : Nat, j < k + 1 → isSg (chr c j) := fun hg j hj => by
        by_cases q : j = k
        · rw [q]; exact hg
        · exact g4 j (by omega)
      by_cases h1 : 97 ≤ chr c k ∧ chr c k ≤ 122
      · rw [if_pos h1]
        exact ev_ift (by decide) (ev_ck (by omega) (ev_back ⟨k + 1, by simp, Or.inl ⟨rfl, g1, g2, by omega, good (Or.inl h1)⟩⟩ (by simp only; omega)))
      · rw [if_neg h1]
        refine ev_iff (by decide) (ev_if (fun h2 => (ev_ck (by omega) (ev_back ⟨k + 1, by simp, Or.inl ⟨rfl, g1, g2, by omega, good (Or.inr (Or.inl h2))⟩⟩ (by simp only; omega)))) fun h2 => ev_if (fun h3 => ?_) fun h3 => (ev_ck (by omega) (ev_back ⟨k + 1, by simp, Or.inl ⟨rfl, g1, g2, by omega, good (Or.inr (Or.inr (Classical.not_not.mp h3)))⟩⟩ (by simp only; omega))))
        refine ev_ck (by omega) (ev_back ⟨k + 1, by simp, Or.inr ⟨rfl, fun q => ?_⟩⟩ (by simp only; omega))
        · rcases q.2.2 k (by omega) with z | z | z
          · exact h1 z
          · exact h2 z
          · exact h3 z
    · exact ev_if (fun hc => ev_exit (Or.inr ⟨rfl, g⟩)) fun hc => ev_ift (show (0 : Int) = 0 from rfl) (ev_exit (Or.inr ⟨rfl, g⟩))
  · rintro z (⟨rfl, hg⟩ | ⟨rfl, hg⟩)
    · unfold j_X12_type_0_76
      have hg1 := hg.1
      have hg2 := hg.2.1
      refine ev_ift (by decide) ?_
      rw [hT]
      refine ev_ck (by omega) (ev_if (fun hc => ?_) fun hc => ?_)
      · unfold j_X12_type_0_102
        refine ev_bIv (holds_m mm 0) (ev_ift (by decide) ?_)
        refine ev_lp (fun m' : MM => gN m' 12 0 0 = 0 ∧ gN m' 12 0 1 = T + n ∧ (∀ k : Nat, k < T → gN m' 59 0 k = gN mm 59 0 k) ∧ ∀ k : Nat, (k : Int) < n → gN m' 59 0 (T + k) = chr c k)
          (fun s => ∃ k : Nat, s.1 = k ∧ k ≤ n ∧ gN s.2 12 0 0 = 0 ∧ gN s.2 12 0 1 = T + k ∧ SM s.2 ∧ (∀ j : Nat, j < T → gN s.2 59 0 j = gN mm 59 0 j) ∧ ∀ j : Nat, j < k → gN s.2 59 0 (T + j) = chr c j) (fun s => 8 - s.1.toNat) ⟨0, rfl, by omega, ?_, ?_, ?_, ?_, fun j hj => absurd hj (by omega)⟩ ?_ ?_
        · show gN (sN mm 12 0 0 0) 12 0 0 = 0
          rw [gN_sN, if_pos ⟨rfl, rfl, rfl⟩]
        · show gN (sN mm 12 0 0 0) 12 0 1 = _
          rw [gN_sN, if_neg (fun q => absurd q.2.2 (by decide)), hT]
          simp
        · exact h.mv (fun _ => rfl) (fun _ _ _ q => q)
        · intro j hj
          show gN (sN mm 12 0 0 0) 59 0 j = _
          rw [gN_sN, if_neg (fun q => absurd q.1 (by decide))]
        · rintro ⟨a, m⟩ ⟨k, ha, hk, h0, hl, hS, hp, hq⟩
          simp only at ha h0 hl hS hp hq
          subst ha
          unfold b_X12_type_113
          refine ev_if (fun hc => ev_exit ⟨h0, by rw [hl]; omega, hp, fun j hj => hq j (by omega)⟩) fun hc => ?_
          simp only at hc ⊢
          refine ev_nk hS.r2 (ev_ck (by omega) (ev_stN hS.z59 (by rw [hl]; omega) ?_))
          rw [hl, show ((T : Int) + (k : Int)).toNat = T + k by omega, chr_m (by omega)]
          rw [show gN (sN m 59 0 (T + k) (chr c k)) 12 0 1 = T + k by rw [gN_sN, if_neg (fun q => absurd q.1 (by decide)), hl]]
          refine ev_ck (by omega) (ev_lt (ev_ck (by omega) (ev_back ⟨k + 1, by simp, by omega, ?_, ?_, ?_, ?_, ?_⟩ (by simp only; omega))))
          · show gN (sN (sN m 59 0 (T + k) (chr c k)) 12 0 1 _) 12 0 0 = 0
            rw [gN_sN, if_neg (fun q => absurd q.2.2 (by decide)), gN_sN, if_neg (fun q => absurd q.1 (by decide)), h0]
          · show gN (sN (sN m 59 0 (T + k) (chr c k)) 12 0 1 _) 12 0 1 = _
            rw [gN_sN, if_pos ⟨rfl, rfl, rfl⟩]; omega
          · exact hS.mv (fun _ => rfl) (fun _ _ _ q => q)
          · intro j hj
            show gN (sN (sN m 59 0 (T + k) (chr c k)) 12 0 1 _) 59 0 j = _
            rw [gN_sN, if_neg (fun q => absurd q.1 (by decide)), gN_sN, if_neg (by omega)]
            exact hp j hj
          · intro j hj
            show gN (sN (sN m 59 0 (T + k) (chr c k)) 12 0 1 _) 59 0 (T + j) = _
            rw [gN_sN, if_neg (fun q => absurd q.1 (by decide)), gN_sN]
            by_cases q : j = k
            · rw [q, if_pos ⟨rfl, rfl, rfl⟩]
            · rw [if_neg (by omega)]; exact hq j (by omega)
        · rintro m' ⟨g0, g1, g3, g4⟩
          unfold j_X12_type_0_156
          exact ev_some ⟨_, rfl, Or.inr (Or.inr ⟨hg, by omega, g1, g0, g1, g3, g4⟩)⟩
      · unfold j_X12_type_0_102
        exact ev_bIv (holds_m mm 2) (ev_iff (by decide) (ev_some ⟨_, rfl, Or.inr (Or.inl ⟨hg, by omega, rfl⟩)⟩))
    · unfold j_X12_type_0_76
      refine ev_iff (by decide) ?_
      unfold j_X12_type_0_102
      exact ev_bIv (holds_m mm 1) (ev_iff (by decide) (ev_some ⟨_, rfl, Or.inl ⟨hg, rfl⟩⟩))
theorem RT.keep {mc mm mc' mm' : MM} (h : RT mc mm) (a : gN mc' 10 0 5 = gN mc 10 0 5) (b : gN mm' 12 0 1 = gN mm 12 0 1) (c : ∀ k, gN mc' 50 0 k = gN mc 50 0 k) (d : ∀ k, gN mm' 59 0 k = gN mm 59 0 k) : RT mc' mm' := by
  obtain ⟨h1, h2, h3, h4⟩ := h
  exact ⟨by rw [a, b]; exact h1, by rw [b]; exact h2, by rw [b]; exact h3, fun k hk => by rw [c, d]; rw [b] at hk; exact h4 k hk⟩
theorem call_type {mc mm : MM} {c : Int64} {n : Int} (hC : SC mc) (hM : SM mm) (hT : RT mc mm) : ∃ r mc' b mm', f_X11_type mc 0 c n = some (r, mc') ∧ f_X12_type mm 0 c n = some (.inl (some (aI b)), mm') ∧ Ans [1, 2] r (gN mm' 12 0 0) b ∧ RT mc' mm' := by
  have hT' := hT
  obtain ⟨h1, h2, h3, h4⟩ := hT
  obtain ⟨T, hTm⟩ : ∃ T : Nat, gN mm 12 0 1 = T := ⟨(gN mm 12 0 1).toNat, by omega⟩
  rw [hTm] at h1 h2 h3 h4
  obtain ⟨⟨r, mc'⟩, e1, g1⟩ := type_c (c := c) (n := n) hC h1 (by omega)
  obtain ⟨⟨r2, mm'⟩, e2, b, hb, g2⟩ := type_m (c := c) (n := n) hM hTm (by omega)
  simp only at hb
  subst hb
  refine ⟨r, mc', b, mm', e1, e2, ?_⟩
  simp only [TyC] at g1
  simp only at g2
  rcases g1 with ⟨a1, a2⟩ | ⟨a1, a2, a3⟩ | ⟨a1, a2, a3, a4, a5, a6⟩ <;> rcases g2 with ⟨b1, b2⟩ | ⟨b1, b2, b3⟩ | ⟨b1, b2, b3, b4, b5, b6, b7⟩
  · cases a2; subst b2
    exact ⟨Or.inr ⟨1, 0, rfl, rfl, by rw [gN_sN, if_pos ⟨rfl, rfl, rfl⟩]; rfl⟩, hT'.keep rfl (by rw [gN_sN, if_neg (fun q => absurd q.2.2 (by decide))]) (fun _ => rfl) (fun k => by rw [gN_sN, if_neg (fun q => absurd q.1 (by decide))])⟩
  · exact absurd b1 a1
  · exact absurd b1 a1
  · exact absurd a1 b1
  · cases a3; subst b3
    exact ⟨Or.inr ⟨2, 1, rfl, rfl, by rw [gN_sN, if_pos ⟨rfl, rfl, rfl⟩]; rfl⟩, hT'.keep rfl (by rw [gN_sN, if_neg (fun q => absurd q.2.2 (by decide))]) (fun _ => rfl) (fun k => by rw [gN_sN, if_neg (fun q => absurd q.1 (by decide))])⟩
  · omega
  · exact absurd a1 b1
  · omega
  · refine ⟨Or.inl ⟨by rw [a3, b3], b4⟩, by rw [a4, b5], by rw [b5]; have := a1.1; omega, by rw [b5]; exact a2, fun k hk => ?_⟩
    rw [b5] at hk
    by_cases q : k < T
    · rw [a5 k q, b6 k q]
      exact h4 k (by omega)
    · obtain ⟨j, rfl⟩ : ∃ j, k = T + j := ⟨k - T, by omega⟩
      rw [a6 j (by omega), b7 j (by omega)]
      exact ⟨rfl, a1.2.2 j (by omega)⟩
theorem call_wipe {mc mm : MM} (hC : SC mc) (hM : SM mm) (hT : RT mc mm) : ∃ v mc' mm', f_X11_wipe mc 0 = some (.inl (some (aI v)), mc') ∧ f_X12_wipe mm 0 = some (.inl (some (aI v)), mm') ∧ RT mc' mm' := by
  refine ⟨gN mc 10 0 5, sN mc 10 0 5 0, sN (sN mm 12 0 0 0) 12 0 1 0, ?_, ?_, ?_⟩
  · apply ev_eq
    unfold f_X11_wipe
    exact ev_nk hC.r0 (ev_nk hC.r0 (ev_lt (ev_some rfl)))
  · show some ((.inl (some (aI (gN (sN mm 12 0 0 0) 12 0 1))), sN (sN mm 12 0 0 0) 12 0 1 0) : RV × MM) = _
    rw [gN_sN, if_neg (fun q => absurd q.2.2 (by decide)), ← hT.1]
  · refine ⟨?_, ?_, ?_, fun k hk => ?_⟩ <;> rw [gN_sN, if_pos ⟨rfl, rfl, rfl⟩] at *
    · rfl
    · omega
    · omega
    · omega
/-- two loops whose bodies agree -/
theorem lpb_same {S X : Type} {b c : S → Option (S ⊕ X)} (I : S → Prop) (μ : S → Nat) (Φ : X → Prop) (h : ∀ s, I s → ∃ z, b s = some z ∧ c s = some z ∧ (∀ s', z = .inl s' → I s' ∧ μ s' < μ s) ∧ ∀ x, z = .inr x → Φ x) : ∀ s, I s → ∃ x, lpb b s = some x ∧ lpb c s = some x ∧ Φ x := by
  intro s hs
  obtain ⟨x, y, h1, h2, rfl, h3⟩ := lpb_rel (b := b) (c := c) (fun s t => s = t ∧ I s) (fun x y => x = y ∧ Φ x) μ (fun s t hj => by
    obtain ⟨rfl, hi⟩ := hj
    obtain ⟨z, h1, h2, h3, h4⟩ := h s hi
    cases z with
    | inl s' => exact Or.inl ⟨s', s', h1, h2, ⟨rfl, (h3 s' rfl).1⟩, (h3 s' rfl).2⟩
    | inr x => exact Or.inr ⟨x, x, h1, h2, rfl, h4 x rfl⟩) s s ⟨rfl, hs⟩
  exact ⟨x, h1, h2, h3⟩
theorem isLetter_c (m : MM) (x : Int) : f_X11_isLetter m x = some (if 97 ≤ x ∧ x ≤ 122 then 1 else 0) := by
  unfold f_X11_isLetter
  by_cases h1 : x < 97
  · rw [if_pos h1, if_neg (by omega)]
  · rw [if_neg h1]
    by_cases h2 : 122 < x
    · rw [if_pos h2, if_neg (by omega)]
    · rw [if_neg h2, if_pos (by omega)]
theorem ldN_of {X : Type} {m : MM} {K i n : Nat} {j : Int} {f : Int → Option X} (hz : gZ m K i = some n) (h : 0 ≤ j ∧ j < n) : ldN m K i j f = f (gN m K i j.toNat) := by unfold ldN; rw [lenI_of hz, if_pos h]
theorem ldL_of {X : Type} {m : MM} {K i n : Nat} {j : Int} {f : Int64 → Option X} (hz : gZ m K i = some n) (h : 0 ≤ j ∧ j < n) : ldL m K i j f = f (gL m K i j.toNat) := by unfold ldL; rw [lenI_of hz, if_pos h]
theorem ldR_of {X : Type} {m : MM} {K i n : Nat} {j : Int} {f : Option (Nat × Nat) → Option X} (hz : gZ m K i = some n) (h : 0 ≤ j ∧ j < n) : ldR m K i j f = f (gR m K i j.toNat) := by unfold ldR; rw [lenI_of hz, if_pos h]
theorem stN_of {X : Type} {m : MM} {K i n : Nat} {j v : Int} {f : MM → Option X} (hz : gZ m K i = some n) (h : 0 ≤ j ∧ j < n) : stN m K i j v f = f (sN m K i j.toNat v) := by unfold stN; rw [lenI_of hz, if_pos h]
theorem nk_of {X : Type} {K i : Nat} {r : Option (Nat × Nat)} {f : Nat → Option X} (h : r = some (K, i)) : nk K r f = f i := by
  subst h
  exact if_pos rfl
/-- the tape's fault is the same on both sides -/
theorem fault_same {mc mm : MM} (hC : SC mc) (hM : SM mm) (hT : RT mc mm) : ∃ v, f_X10_faultPlace mc 0 = some v ∧ f_X12_tapeFault mm 0 = some v ∧ -1 ≤ v ∧ v ≤ 40 := by
  obtain ⟨h1, h2, h3, h4⟩ := hT
  obtain ⟨T, hTm⟩ : ∃ T : Nat, gN mm 12 0 1 = T := ⟨(gN mm 12 0 1).toNat, by omega⟩
  rw [hTm] at h1 h2 h3 h4
  obtain ⟨x, e1, e2, hx⟩ := lpb_same (b := fun s : Int × Int => b_X10_faultPlace_4 mc 0 s.1 s.2) (c := fun s => b_X12_tapeFault_4 mm 0 s.1 s.2) (fun s => ∃ r k : Nat, s = ((r : Int), (k : Int)) ∧ r ≤ 8 ∧ k ≤ T) (fun s => T - s.2.toNat) (fun x => (∃ k : Int, x = .inl k ∧ 0 ≤ k ∧ k ≤ T) ∨ ∃ r : Int, x = .inr r) (by
    rintro _ ⟨r, k, rfl, hr, hk⟩
    show ∃ z, b_X10_faultPlace_4 mc 0 (r : Int) (k : Int) = some z ∧ b_X12_tapeFault_4 mm 0 (r : Int) (k : Int) = some z ∧ _
    unfold b_X10_faultPlace_4 b_X12_tapeFault_4
    rw [h1, hTm]
    by_cases hc : (T : Int) ≤ k
    · rw [if_pos hc, if_pos hc]
      exact ⟨_, rfl, rfl, fun s' q => (by cases q), fun x q => (by cases q; exact Or.inr ⟨_, rfl⟩)⟩
    · have hc2 : k < T := by omega
      obtain ⟨g1, g2⟩ := h4 k (by omega)
      rw [if_neg hc, if_neg hc, nk_of hC.w0, ldN_of hC.z50 (by omega), nk_of hM.r2, ldN_of hM.z59 (by omega), isLetter_c, isIn_m, Option.bind_some, Option.bind_some]
      rw [show ((k : Int)).toNat = k by omega, g1]
      unfold j_X10_faultPlace_4_41 j_X12_tapeFault_4_45
      have ck1 : ∀ {X : Type} (o : Option X), ck ((k : Int) + 1) o = o := fun o => ck_of ⟨by omega, by omega⟩
      have ck2 : ∀ {X : Type} (o : Option X), ck ((r : Int) + 1) o = o := fun o => ck_of ⟨by omega, by omega⟩
      have bk : ∀ r' : Nat, r' ≤ 8 → ∀ s', (Sum.inl ((r' : Int), (k : Int) + 1) : (Int × Int) ⊕ (Int ⊕ Int)) = .inl s' → (∃ r k : Nat, s' = ((r : Int), (k : Int)) ∧ r ≤ 8 ∧ k ≤ T) ∧ T - s'.2.toNat < T - ((k : Int)).toNat := by
        intro r' hr' s' q
        cases q
        exact ⟨⟨r', k + 1, by simp, hr', by omega⟩, by simp only; omega⟩
      have ex : ∀ x : Int ⊕ Int, (Sum.inr (Sum.inl (k : Int)) : (Int × Int) ⊕ (Int ⊕ Int)) = .inr x → (∃ k : Int, x = .inl k ∧ 0 ≤ k ∧ k ≤ T) ∨ ∃ r : Int, x = .inr r := by
        intro x q
        cases q
        exact Or.inl ⟨k, rfl, by omega, by omega⟩
      by_cases hl : 97 ≤ gN mm 59 0 k ∧ gN mm 59 0 k ≤ 122
      · simp only [if_pos hl, ck1, ck2]
        by_cases h8 : (r : Int) = 8
        · refine ⟨.inr (.inl (k : Int)), by simp [h8], by simp [h8], fun s' q => (by cases q), ex⟩
        · refine ⟨.inl (((r + 1 : Nat) : Int), (k : Int) + 1), by simp [h8], by simp [h8], bk (r + 1) (by omega), fun x q => (by cases q)⟩
      · simp only [if_neg hl, ck1, ck2]
        by_cases h0 : (r : Int) = 0
        · refine ⟨.inr (.inl (k : Int)), by simp [h0], by simp [h0], fun s' q => (by cases q), ex⟩
        · have h0' : ¬ r = 0 := fun q => h0 (by omega)
          refine ⟨.inl (((0 : Nat) : Int), (k : Int) + 1), by simp [h0'], by simp [h0'], bk 0 (by omega), fun x q => (by cases q)⟩) (0, 0) ⟨0, 0, rfl, by omega, by omega⟩
  unfold f_X10_faultPlace f_X12_tapeFault
  rw [e1, e2, Option.bind_some, Option.bind_some]
  rcases hx with ⟨k, rfl, hk1, hk2⟩ | ⟨r, rfl⟩
  · exact ⟨k, rfl, rfl, by omega, by omega⟩
  · show ∃ v, j_X10_faultPlace_0_59 mc 0 r = some v ∧ j_X12_tapeFault_0_63 mm 0 r = some v ∧ _
    unfold j_X10_faultPlace_0_59 j_X12_tapeFault_0_63
    rw [h1, hTm]
    by_cases h0 : r = 0
    · exact ⟨T, by simp [h0], by simp [h0], by omega, by omega⟩
    · exact ⟨-1, by simp [h0], by simp [h0], by omega, by omega⟩
theorem call_fault {mc mm : MM} (hC : SC mc) (hM : SM mm) (hT : RT mc mm) : ∃ v mm', f_X11_fault mc 0 = some v ∧ f_X12_fault mm 0 = some (.inl (some (aI v)), mm') ∧ RT mc mm' := by
  have hM1 : SM (sN mm 12 0 0 0) := hM.mv (fun _ => rfl) (fun _ _ _ q => q)
  have hT1 : RT mc (sN mm 12 0 0 0) := hT.keep rfl (by rw [gN_sN, if_neg (fun q => absurd q.2.2 (by decide))]) (fun _ => rfl) (fun k => by rw [gN_sN, if_neg (fun q => absurd q.1 (by decide))])
  obtain ⟨v, e1, e2, -⟩ := fault_same hC hM1 hT1
  refine ⟨v, sN mm 12 0 0 0, ?_, ?_, hT1⟩
  · unfold f_X11_fault
    rw [nk_of hC.r0, e1]
    rfl
  · show (f_X12_tapeFault (sN mm 12 0 0 0) 0).bind _ = _
    rw [e2]
    rfl
