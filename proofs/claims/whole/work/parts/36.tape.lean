/-! THE TAPE: type, wipe, fault. -/
/-- answers agree: a value on both sides, or an exception and its place -/
def Ans (xs : List Nat) (r : RV) (t b : Int) : Prop := (r = .inl (some (aI b)) ∧ t = 0) ∨ ∃ e k : Nat, r = .inr e ∧ xs[k]? = some e ∧ t = ((k + 1 : Nat) : Int)
def isSg (x : Int) : Prop := (97 ≤ x ∧ x ≤ 122) ∨ x = 32 ∨ x = 47
/-- the tapes agree -/
def RT (mc mm : MM) : Prop := gN mc 10 0 5 = gN mm 12 0 1 ∧ 0 ≤ gN mm 12 0 1 ∧ gN mm 12 0 1 ≤ 40 ∧ ∀ k : Nat, (k : Int) < gN mm 12 0 1 → gN mc 50 0 k = gN mm 59 0 k ∧ isSg (gN mm 59 0 k)
theorem isIn_m (m : MM) (x lo hi : Int) : f_X12_isIn m x lo hi = some (if lo ≤ x ∧ x ≤ hi then 1 else 0) := by
  unfold f_X12_isIn
  by_cases h1 : x < lo
  · rw [if_pos h1, if_neg (by omega)]
  · rw [if_neg h1]
    by_cases h2 : hi < x
    · rw [if_pos h2, if_neg (by omega)]
    · rw [if_neg h2, if_pos (by omega)]
theorem holds_m (m : MM) (v : Int) : f_X12_holds m 0 v = some (.inl (some (aI (if v = 0 then 1 else 0))), sN m 12 0 0 v) := by
  unfold f_X12_holds
  show (if ¬ v = 0 then _ else _) = _
  by_cases h : v = 0
  · rw [if_neg (fun q => q h), if_pos h]
  · rw [if_pos h, if_neg h]
theorem rqA (m : MM) {v : Int} (h : v ≠ 0) : f_X11_requireArgument m v = some (.inl none, m) := if_pos h
theorem rqA0 (m : MM) : f_X11_requireArgument m 0 = some (.inr 1, bX m) := if_neg (fun q => q rfl)
theorem rqI (m : MM) {v : Int} (h : v ≠ 0) : f_X11_requireIndex m v = some (.inl none, m) := if_pos h
theorem rqI0 (m : MM) : f_X11_requireIndex m 0 = some (.inr 0, bX m) := if_neg (fun q => q rfl)
theorem rqS (m : MM) {v : Int} (h : v ≠ 0) : f_X11_requireState m v = some (.inl none, m) := if_pos h
theorem rqS0 (m : MM) : f_X11_requireState m 0 = some (.inr 2, bX m) := if_neg (fun q => q rfl)
def chr (c : Int64) (k : Nat) : Int := l2i (lushr c ((8 * k : Nat) : Int) &&& 255)
theorem letterAt_any {m : MM} {c : Int64} {k : Nat} (hk : k < 8) : f_X11_letterAt m c (k : Int) = some (chr c k) := by
  unfold f_X11_letterAt
  rw [ck_of ⟨by omega, by omega⟩]
  unfold chr
  rw [show ((8 * k : Nat) : Int) = 8 * (k : Int) by omega]
theorem chr_m {c : Int64} {k : Nat} (hk : k < 8) : l2i (lshr c (8 * (k : Int)) &&& 255) = chr c k := by
  unfold chr
  rw [show 8 * (k : Int) = ((8 * k : Nat) : Int) by omega]
  congr 1
  unfold lshr lushr
  rw [sh_u _ (by omega), sh_l _ (by omega)]
  apply Int64.toBitVec_inj.mp
  show (c.toBitVec.sshiftRight' ((Int64.ofNat (8 * k)).toBitVec.smod 64)) &&& 255#64 = (c.toBitVec >>> ((UInt64.ofNat (8 * k)).toBitVec % 64)) &&& 255#64
  have e1 : ((Int64.ofNat (8 * k)).toBitVec.smod 64).toNat = 8 * k := by
    have : ∀ s : Fin 64, ((Int64.ofNat (s : Nat)).toBitVec.smod 64).toNat = (s : Nat) := by decide +kernel
    exact this ⟨8 * k, by omega⟩
  have e2 : ((UInt64.ofNat (8 * k)).toBitVec % 64).toNat = 8 * k := by
    rw [BitVec.toNat_umod]
    show (BitVec.ofNat 64 (8 * k)).toNat % 64 = 8 * k
    rw [BitVec.toNat_ofNat]
    omega
  rw [BitVec.sshiftRight', e1, BitVec.ushiftRight_eq', e2]
  apply BitVec.eq_of_getLsbD_eq
  intro i hi
  rw [BitVec.getLsbD_and, BitVec.getLsbD_and, BitVec.getLsbD_sshiftRight, BitVec.getLsbD_ushiftRight]
  by_cases h8 : i < 8
  · have h1 : 8 * k + i < 64 := by omega
    simp [h1, hi, show ¬ 64 ≤ i by omega]
  · have h255 : (255#64).getLsbD i = false := by
      have : ∀ i : Fin 64, 8 ≤ (i : Nat) → (255#64).getLsbD (i : Nat) = false := by decide +kernel
      exact this ⟨i, hi⟩ (Nat.not_lt.mp h8)
    rw [h255, Bool.and_false, Bool.and_false]
/-- the arguments of type that serve -/
def goodTy (c : Int64) (n : Int) : Prop := 1 ≤ n ∧ n ≤ 8 ∧ ∀ k : Nat, (k : Int) < n → isSg (chr c k)
theorem isSign_c (m : MM) (x : Int) : ∃ v, f_X11_isSign m x = some v ∧ (v ≠ 0 ↔ isSg x) ∧ (v = 0 ∨ v = 1) := by
  unfold f_X11_isSign f_X11_isLetter isSg
  by_cases h1 : x < 97
  · rw [if_pos h1]
    rw [Option.bind_some, if_neg (fun q => q rfl)]
    by_cases h2 : x = 32
    · exact ⟨1, by rw [if_pos h2], by omega, by omega⟩
    · rw [if_neg h2]
      by_cases h3 : x = 47
      · exact ⟨1, by rw [if_neg (fun q => q h3)], by omega, by omega⟩
      · exact ⟨0, by rw [if_pos h3], by omega, by omega⟩
  · rw [if_neg h1]
    by_cases h4 : 122 < x
    · rw [if_pos h4]
      rw [Option.bind_some, if_neg (fun q => q rfl), if_neg (by omega), if_pos (by omega)]
      exact ⟨0, rfl, by omega, by omega⟩
    · rw [if_neg h4]
      rw [Option.bind_some, if_pos (by decide)]
      exact ⟨1, rfl, by omega, by omega⟩
def TyC (mc : MM) (c : Int64) (n : Int) (T : Nat) : RV × MM → Prop := fun q => (¬ goodTy c n ∧ q = (.inr 1, bX mc)) ∨ (goodTy c n ∧ 40 < T + n ∧ q = (.inr 2, bX mc)) ∨
  (goodTy c n ∧ T + n ≤ 40 ∧ q.1 = .inl (some (aI (T + n))) ∧ gN q.2 10 0 5 = T + n ∧ (∀ k : Nat, k < T → gN q.2 50 0 k = gN mc 50 0 k) ∧ ∀ k : Nat, (k : Int) < n → gN q.2 50 0 (T + k) = chr c k)
theorem type_c {mc : MM} {c : Int64} {n : Int} {T : Nat} (h : SC mc) (hT : gN mc 10 0 5 = T) (hT40 : T ≤ 40) : Ev (f_X11_type mc 0 c n) (TyC mc c n T) := by
  have bad : ¬ (1 ≤ n ∧ n ≤ 8) → Ev (j_X11_type_0_15 mc 0 c n) (TyC mc c n T) := by
    intro hb
    unfold j_X11_type_0_15 j_X11_type_0_16
    refine ev_bVx (rqA0 mc) (ev_some (Or.inl ⟨fun q => hb ⟨q.1, q.2.1⟩, rfl⟩))
  unfold f_X11_type
  refine ev_if (fun h1 => bad (by omega)) fun h1 => ev_if (fun h2 => bad (by omega)) fun h2 => ?_
  unfold j_X11_type_0_16
  refine ev_bVv (rqA mc (by decide)) ?_
  refine ev_lp (Sum.elim (fun r => ¬ goodTy c n ∧ r = (.inr 1, bX mc)) fun z => goodTy c n ∧ z = mc) (fun s => ∃ k : Nat, s = ((k : Int), mc) ∧ k ≤ n ∧ ∀ j : Nat, j < k → isSg (chr c j)) (fun s => 8 - s.1.toNat) ⟨0, rfl, by omega, fun j hj => absurd hj (by omega)⟩ ?_ ?_
  · rintro _ ⟨k, rfl, hk, hg⟩
    unfold b_X11_type_22
    refine ev_if (fun hc => ev_exit ⟨⟨by omega, by omega, fun j hj => hg j (by omega)⟩, rfl⟩) fun hc => ?_
    simp only at hc ⊢
    refine ev_bind (ev_of (letterAt_any (by omega)) (Φ := fun v => v = chr c k) rfl) ?_
    rintro v rfl
    obtain ⟨u, hu, hu1, hu2⟩ := isSign_c mc (chr c k)
    refine ev_bind (ev_of hu (Φ := fun v => v = u) rfl) ?_
    intro v hv
    rw [hv]
    by_cases hs : u = 0
    · rw [hs] at hu1 ⊢
      refine ev_bVx (rqA0 mc) (ev_exit ⟨fun q => ?_, rfl⟩)
      exact absurd (hu1.mpr (q.2.2 k (by omega))) (fun z => z rfl)
    · refine ev_bVv (rqA mc hs) (ev_ck (by omega) (ev_back ⟨k + 1, rfl, by omega, fun j hj => ?_⟩ (by simp only; omega)))
      by_cases q : j = k
      · rw [q]; exact hu1.mp hs
      · exact hg j (by omega)
  · rintro (r | z) hx
    · exact ev_some (Or.inl hx)
    · obtain ⟨hg, rfl⟩ := hx
      show Ev (j_X11_type_0_46 z 0 c n) _
      unfold j_X11_type_0_46
      refine ev_nk h.r0 ?_
      rw [hT]
      refine ev_ck (by omega) (ev_if (fun hc => ?_) fun hc => ?_)
      · unfold j_X11_type_0_65
        exact ev_bVx (rqS0 z) (ev_some (Or.inr (Or.inl ⟨hg, hc, rfl⟩)))
      · unfold j_X11_type_0_65
        refine ev_bVv (rqS z (by decide)) ?_
        refine ev_lp (fun m' : MM => gN m' 10 0 5 = T + n ∧ gR m' 11 0 0 = some (10, 0) ∧ (∀ k : Nat, k < T → gN m' 50 0 k = gN z 50 0 k) ∧ ∀ k : Nat, (k : Int) < n → gN m' 50 0 (T + k) = chr c k)
          (fun s => ∃ k : Nat, s.1 = k ∧ k ≤ n ∧ gN s.2 10 0 5 = T + k ∧ SC s.2 ∧ (∀ j : Nat, j < T → gN s.2 50 0 j = gN z 50 0 j) ∧ ∀ j : Nat, j < k → gN s.2 50 0 (T + j) = chr c j) (fun s => 8 - s.1.toNat) ⟨0, rfl, by omega, by simpa using hT, h, fun _ _ => rfl, fun j hj => absurd hj (by omega)⟩ ?_ ?_
        · rintro ⟨a, m⟩ ⟨k, ha, hk, hl, hS, hp, hq⟩
          simp only at ha hl hS hp hq
          subst ha
          unfold b_X11_type_71
          refine ev_if (fun hc => ev_exit ⟨by rw [hl]; omega, hS.r0, hp, fun j hj => hq j (by omega)⟩) fun hc => ?_
          simp only at hc ⊢
          refine ev_nk hS.r0 (ev_bind (ev_of (letterAt_any (by omega)) (Φ := fun v => v = chr c k) rfl) ?_)
          rintro v rfl
          refine ev_cV (Ψ := fun m' => m' = sN (sN m 50 0 (T + k) (chr c k)) 10 0 5 (T + k + 1)) ?_ ?_
          · obtain ⟨x, h1, h2⟩ : Ev (f_X10_add m 0 (chr c k)) (fun q => q = (.inl none, sN (sN m 50 0 (T + k) (chr c k)) 10 0 5 (T + k + 1))) := by
              unfold f_X10_add
              refine ev_nk hS.w0 (ev_iff (by rw [lenI_of hS.z50, hl]; omega) (ev_nk hS.w0 (ev_stN hS.z50 (by rw [hl]; omega) ?_)))
              rw [hl, show ((T : Int) + (k : Int)).toNat = T + k by omega]
              rw [show gN (sN m 50 0 (T + k) (chr c k)) 10 0 5 = T + k by rw [gN_sN, if_neg (fun q => absurd q.1 (by decide)), hl]]
              exact ev_ck (by omega) (ev_lt (ev_some rfl))
            exact ⟨_, h1.trans (congrArg some h2), rfl⟩
          · rintro _ rfl
            refine ev_ck (by omega) (ev_back ⟨k + 1, by simp, by omega, ?_, ?_, ?_, ?_⟩ (by simp only; omega))
            · rw [gN_sN, if_pos ⟨rfl, rfl, rfl⟩]; omega
            · exact hS.mv (fun _ _ _ _ => rfl) (fun _ _ _ q => q)
            · intro j hj
              show gN (sN (sN m 50 0 (T + k) (chr c k)) 10 0 5 (T + k + 1)) 50 0 j = _
              rw [gN_sN, if_neg (fun q => absurd q.1 (by decide)), gN_sN, if_neg (by omega)]
              exact hp j hj
            · intro j hj
              show gN (sN (sN m 50 0 (T + k) (chr c k)) 10 0 5 (T + k + 1)) 50 0 (T + j) = _
              rw [gN_sN, if_neg (fun q => absurd q.1 (by decide)), gN_sN]
              by_cases q : j = k
              · rw [q, if_pos ⟨rfl, rfl, rfl⟩]
              · rw [if_neg (by omega)]; exact hq j (by omega)
        · rintro m' ⟨g1, g2, g3, g4⟩
          unfold j_X11_type_0_96
          refine ev_nk g2 (ev_some (Or.inr (Or.inr ⟨hg, by omega, by rw [g1], g1, g3, g4⟩)))
