/-! BOOK: all of it. -/
section BOOK
variable {N : Nat} {mc mm : MM} {b F n M Ln E : Nat}
set_option maxHeartbeats 4000000 in
theorem init_bs {mA mB mD mF mG mH : MM} (gDG : GF (fun _ _ _ => False) (fun K i k => shWR b K i k ∨ (K = 0 ∧ i = b ∧ 7 ≤ k ∧ k ≤ 9) ∨ (K = 17 ∧ i = b) ∨ (K = 56 ∧ i = 0 ∧ k = b)) (fun K i => ((15 ≤ K ∧ K ≤ 17) ∧ i = b) ∨ (K = 18 ∧ 24 * b ≤ i ∧ i < 24 * b + 24) ∨ (K = 8 ∧ 4 * b ≤ i ∧ i < 4 * b + 4)) mD mH) (gBG : GF (fsWN b) (fun K i k => fsWR b K i k ∨ shWR b K i k ∨ (K = 0 ∧ i = b ∧ 6 ≤ k ∧ k ≤ 9) ∨ (K = 17 ∧ i = b) ∨ (K = 56 ∧ i = 0 ∧ k = b)) (fun K i => fsWZ b K i ∨ ((14 ≤ K ∧ K ≤ 17) ∧ i = b) ∨ (K = 18 ∧ 24 * b ≤ i ∧ i < 24 * b + 24) ∨ (K = 8 ∧ 4 * b ≤ i ∧ i < 4 * b + 4)) mB mH) (gAG : GF (fun K i k => psWN b K i k ∨ fsWN b K i k) (fun K i k => psWR b K i k ∨ fsWR b K i k ∨ shWR b K i k ∨ (K = 0 ∧ i = b ∧ 6 ≤ k ∧ k ≤ 9) ∨ (K = 17 ∧ i = b) ∨ (K = 56 ∧ i = 0 ∧ k = b)) (fun K i => psWZ b K i ∨ fsWZ b K i ∨ ((14 ≤ K ∧ K ≤ 17) ∧ i = b) ∨ (K = 18 ∧ 24 * b ≤ i ∧ i < 24 * b + 24) ∨ (K = 8 ∧ 4 * b ≤ i ∧ i < 4 * b + 4)) mA mH) (gFG : GF (fun _ _ _ => False) (fun K i k => (K = 0 ∧ i = b ∧ 8 ≤ k ∧ k ≤ 9) ∨ (K = 17 ∧ i = b) ∨ (K = 56 ∧ i = 0 ∧ k = b)) (fun K i => ((K = 16 ∨ K = 17) ∧ i = b) ∨ (K = 18 ∧ 24 * b ≤ i ∧ i < 24 * b + 24)) mF mH) (gG56 : ∀ K i k, K ≠ 56 → gR mH K i k = gR mG K i k) (zG56 : ∀ K i, gZ mH K i = gZ mG K i) (h56 : gR mH 56 0 b = some (0, b))
    (hA0 : gN mA 0 b 0 = F ∧ gN mA 0 b 1 = M ∧ gN mA 0 b 2 = Ln ∧ gN mA 0 b 3 = E) (hA4 : gR mA 0 b 4 = some (9, b)) (t2 : gR mA 9 b 0 = some (45, b) ∧ gR mA 9 b 1 = some (46, b) ∧ gR mA 9 b 2 = some (47, b) ∧ gR mA 9 b 3 = some (48, b) ∧ gR mA 9 b 4 = some (49, b)) (hA45 : ∀ K, 45 ≤ K → K ≤ 49 → gZ mA K b = some 60)
    (rF5 : gR mF 0 b 5 = some (13, b)) (zF13 : gZ mF 13 b = some (2 * (F * n))) (hD6 : gR mD 0 b 6 = some (14, b)) (zD14 : gZ mD 14 b = some (2 * n)) (hF7 : gR mF 0 b 7 = some (15, b)) (zF15 : gZ mF 15 b = some n)
    (hG : gR mG 0 b 8 = some (16, b) ∧ gR mG 0 b 9 = some (17, b) ∧ gZ mG 16 b = some (2 * (F * n)) ∧ gZ mG 17 b = some E ∧ (∀ c, c < E → gR mG 17 b c = some (18, 24 * b + c)) ∧ ∀ c, c < E → gZ mG 18 (24 * b + c) = some (F * n))
    (pB : ∀ p, p < 2 * (F * n) → gR mB 13 b p = some (4, 16 * b + p)) (fD : ∀ f, f < 2 * n → gR mD 14 b f = some (2, 8 * b + f)) (sF : ∀ h, h < n → gR mF 8 (4 * b + h) 0 = some (2, 8 * b + 2 * h) ∧ gR mF 8 (4 * b + h) 1 = some (2, 8 * b + (2 * h + 1)) ∧ gR mF 15 b h = some (8, 4 * b + h))
    (pG : ∀ p, p < 2 * (F * n) → PgN mH (16 * b + p) M Ln E) (fG : ∀ f, f < 2 * n → FoN mH b F E f) : BS mH b F n M Ln E := by
  have a0 : ∀ k, k ≤ 3 → gN mH 0 b k = gN mA 0 b k := fun k hk => gAG.1 0 b k (fun q => by
    rcases q with q | q
    · exact absurd q.1 (by decide)
    · exact absurd q.1 (by decide))
  have rA : ∀ K k, K = 9 ∨ (K = 0 ∧ k = 4) → gR mH K b k = gR mA K b k := fun K k hk => gAG.2.1 K b k (fun q => by
    rcases q with q | q | q | q | q | q
    · unfold psWR at q; omega
    · unfold fsWR at q; omega
    · unfold shWR at q; omega
    · omega
    · omega
    · omega)
  have a45 : ∀ K, 45 ≤ K → K ≤ 49 → gZ mH K b = some 60 := fun K h1 h2 => by
    rw [gAG.2.2.1 K b (fun q => by
      rcases q with q | q | q | q | q
      · unfold psWZ at q; omega
      · unfold fsWZ at q; omega
      · omega
      · omega
      · omega)]
    exact hA45 K h1 h2
  have r13 : ∀ p, gR mH 13 b p = gR mB 13 b p := fun p => gBG.2.1 13 b p (fun q => by
    rcases q with q | q | q | q | q
    · unfold fsWR at q; omega
    · unfold shWR at q; omega
    · omega
    · omega
    · omega)
  have rD : ∀ K k, K = 14 ∨ (K = 0 ∧ k = 6) → gR mH K b k = gR mD K b k := fun K k hk => gDG.2.1 K b k (fun q => by
    rcases q with q | q | q | q
    · unfold shWR at q; omega
    · omega
    · omega
    · omega)
  have rF : ∀ K i k, K = 8 ∨ K = 15 ∨ (K = 0 ∧ k ≤ 7) → gR mH K i k = gR mF K i k := fun K i k hk => gFG.2.1 K i k (by omega)
  have zF : ∀ K, K = 13 ∨ K = 15 → gZ mH K b = gZ mF K b := fun K hk => gFG.2.2.1 K b (by omega)
  have zD : gZ mH 14 b = gZ mD 14 b := gDG.2.2.1 14 b (by omega)
  exact ⟨h56, by rw [a0 0 (by decide)]; exact hA0.1, by rw [a0 1 (by decide)]; exact hA0.2.1, by rw [a0 2 (by decide)]; exact hA0.2.2.1, by rw [a0 3 (by decide)]; exact hA0.2.2.2,
    by rw [rA 0 4 (by omega)]; exact hA4, by rw [rF 0 b 5 (by omega)]; exact rF5, by rw [rD 0 6 (by omega)]; exact hD6, by rw [rF 0 b 7 (by omega)]; exact hF7, by rw [gG56 0 b 8 (by decide)]; exact hG.1, by rw [gG56 0 b 9 (by decide)]; exact hG.2.1,
    by rw [zF 13 (by omega)]; exact zF13, by rw [zD]; exact zD14, by rw [zF 15 (by omega)]; exact zF15, by rw [zG56]; exact hG.2.2.1, by rw [zG56]; exact hG.2.2.2.1,
    fun p hp => by rw [r13]; exact pB p hp, fun f hf => by rw [rD 14 f (by omega)]; exact fD f hf, fun h hh => by rw [rF 15 b h (by omega)]; exact (sF h hh).2.2, fun c hc => by rw [gG56 17 b c (by decide)]; exact hG.2.2.2.2.1 c hc, fun c hc => by rw [zG56]; exact hG.2.2.2.2.2 c hc,
    by rw [rA 9 0 (by omega)]; exact t2.1, by rw [rA 9 1 (by omega)]; exact t2.2.1, by rw [rA 9 2 (by omega)]; exact t2.2.2.1, by rw [rA 9 3 (by omega)]; exact t2.2.2.2.1, by rw [rA 9 4 (by omega)]; exact t2.2.2.2.2, a45 45 (by decide) (by decide), a45 46 (by decide) (by decide), a45 47 (by decide) (by decide), a45 48 (by decide) (by decide), a45 49 (by decide) (by decide),
    fun p hp => (pG p hp).n0, fun p hp => (pG p hp).p1, fun p hp => (pG p hp).p2, fun p hp => (pG p hp).p3, fun p hp => (pG p hp).p4, fun p hp => (pG p hp).p5, fun p hp => (pG p hp).p6, fun p hp => (pG p hp).p7, fun p hp => (pG p hp).p8, fun p hp => (pG p hp).z27, fun p hp => (pG p hp).z28, fun p hp => (pG p hp).z29, fun p hp => (pG p hp).z30, fun p hp => (pG p hp).z31, fun p hp => (pG p hp).z32, fun p hp => (pG p hp).z33, fun p hp => (pG p hp).q0, fun p hp => (pG p hp).q1, fun p hp => (pG p hp).q2, fun p hp => (pG p hp).q3, fun p hp => (pG p hp).z34, fun p hp => (pG p hp).z35, fun p hp => (pG p hp).z36, fun p hp => (pG p hp).z37, fun p c hp hc => (pG p hp).e37 c hc, fun p c hp hc => (pG p hp).z38 c hc,
    fun f hf => (fG f hf).r0, fun f hf => (fG f hf).n1, fun f hf => (fG f hf).r2, fun f hf => (fG f hf).r3, fun f hf => (fG f hf).z19, fun f hf => (fG f hf).z26, fun f hf => (fG f hf).z25, fun f j hf hj => (fG f hf).e19 j hj, fun h hh => by rw [rF 8 (4 * b + h) 0 (by omega)]; exact (sF h hh).1, fun h hh => by rw [rF 8 (4 * b + h) 1 (by omega)]; exact (sF h hh).2.1⟩
theorem bsz_one {K : Nat} : bsz K = 1 ↔ ¬ (K = 2 ∨ K = 19 ∨ K = 25 ∨ K = 26) ∧ ¬ (K = 4 ∨ K = 5 ∨ (27 ≤ K ∧ K ≤ 37)) ∧ K ≠ 8 ∧ K ≠ 18 ∧ K ≠ 38 := by
  unfold bsz
  split
  · omega
  · split
    · omega
    · split
      · omega
      · split
        · omega
        · split <;> omega
/-- the counters -/
theorem init_cn {m mA mB mC mD mE mF mG : MM} (hFn : F * n ≤ 8) (hn4 : n ≤ 4) (hE : E ≤ 24) (cA : ∀ K, gC mA K = if K = 9 ∨ K = 13 ∨ (45 ≤ K ∧ K ≤ 49) then b + 1 else gC m K) (cB1 : CnP mB (16 * b + 2 * (F * n))) (cB4 : gC mB 4 = 16 * b + 2 * (F * n)) (cB38 : gC mB 38 ≤ 24 * (16 * b + 2 * (F * n))) (cB : ∀ K, K ≠ 4 → K ≠ 5 → ¬ (27 ≤ K ∧ K ≤ 38) → gC mB K = gC mA K)
    (cC : ∀ K, gC mC K = if K = 14 then b + 1 else gC mB K) (cD1 : gC mD 2 = 8 * b + 2 * n ∧ gC mD 19 = 8 * b + 2 * n ∧ gC mD 25 = 8 * b + 2 * n ∧ gC mD 26 = 8 * b + 2 * n) (cD : ∀ K, K ≠ 2 → K ≠ 19 → K ≠ 25 → K ≠ 26 → gC mD K = gC mC K)
    (cE : ∀ K, gC mE K = if K = 15 then b + 1 else gC mD K) (cF1 : gC mF 8 = 4 * b + n) (cF : ∀ K, K ≠ 8 → gC mF K = gC mE K) (cG : ∀ K, gC mG K = if K = 17 then b + 1 else if K = 18 then 24 * b + E else if K = 16 then b + 1 else gC mF K) :
    (∀ K, isBK K → K ≠ 0 → gC mG K ≤ bsz K * (b + 1) ∧ (bsz K = 1 → gC mG K = b + 1)) ∧ ∀ K, ¬ isBK K ∨ K = 0 → gC mG K = gC m K := by
  have p1 : ∀ K, K ≠ 16 → K ≠ 17 → K ≠ 18 → K ≠ 8 → K ≠ 15 → gC mG K = gC mD K := fun K h1 h2 h3 h4 h5 => by rw [cG, if_neg h2, if_neg h3, if_neg h1, cF K h4, cE, if_neg h5]
  have p2 : ∀ K, K ≠ 16 → K ≠ 17 → K ≠ 18 → K ≠ 8 → K ≠ 15 → K ≠ 2 → K ≠ 19 → K ≠ 25 → K ≠ 26 → K ≠ 14 → gC mG K = gC mB K := fun K h1 h2 h3 h4 h5 h6 h7 h8 h9 h10 => by rw [p1 K h1 h2 h3 h4 h5, cD K h6 h7 h8 h9, cC, if_neg h10]
  refine ⟨fun K hK h0 => ?_, fun K hK => ?_⟩
  · by_cases h1 : bsz K = 1
    · have h2 := bsz_one.mp h1
      have key : gC mG K = b + 1 := by
        by_cases q16 : K = 16
        · rw [cG, if_neg (by omega), if_neg (by omega), if_pos q16]
        · by_cases q17 : K = 17
          · rw [cG, if_pos q17]
          · by_cases q15 : K = 15
            · rw [cG, if_neg (by omega), if_neg (by omega), if_neg (by omega), cF K (by omega), cE, if_pos q15]
            · by_cases q14 : K = 14
              · rw [p1 K (by omega) (by omega) (by omega) (by omega) (by omega), cD K (by omega) (by omega) (by omega) (by omega), cC, if_pos q14]
              · rw [p2 K (by omega) (by omega) (by omega) (by omega) (by omega) (by omega) (by omega) (by omega) (by omega) (by omega), cB K (by omega) (by omega) (by omega), cA, if_pos (by unfold isBK at hK; omega)]
      exact ⟨by rw [h1, key]; omega, fun _ => key⟩
    · refine ⟨?_, fun q => absurd q h1⟩
      by_cases a1 : K = 2 ∨ K = 19 ∨ K = 25 ∨ K = 26
      · rw [show bsz K = 8 from by unfold bsz; rw [if_pos a1], p1 K (by omega) (by omega) (by omega) (by omega) (by omega)]
        rcases a1 with q | q | q | q <;> subst q <;> omega
      · by_cases a2 : K = 4 ∨ K = 5 ∨ (27 ≤ K ∧ K ≤ 37)
        · rw [show bsz K = 16 from by unfold bsz; rw [if_neg a1, if_pos a2], p2 K (by omega) (by omega) (by omega) (by omega) (by omega) (by omega) (by omega) (by omega) (by omega) (by omega)]
          rcases a2 with q | q | q
          · subst q; omega
          · subst q; have := cB1.1; omega
          · have := cB1.2 K q.1 q.2; omega
        · by_cases a3 : K = 8
          · rw [a3]
            show gC mG 8 ≤ 4 * (b + 1)
            rw [cG, if_neg (by decide), if_neg (by decide), if_neg (by decide)]; omega
          · by_cases a4 : K = 18
            · rw [a4]
              show gC mG 18 ≤ 24 * (b + 1)
              rw [cG, if_neg (by decide), if_pos rfl]; omega
            · have a5 : K = 38 := by
                have := mt bsz_one.mpr h1
                omega
              rw [a5]
              show gC mG 38 ≤ 384 * (b + 1)
              rw [p2 38 (by decide) (by decide) (by decide) (by decide) (by decide) (by decide) (by decide) (by decide) (by decide) (by decide)]
              omega
  · have hK' : K ≠ 2 ∧ K ≠ 4 ∧ K ≠ 5 ∧ K ≠ 8 ∧ K ≠ 9 ∧ ¬ (13 ≤ K ∧ K ≤ 19) ∧ ¬ (25 ≤ K ∧ K ≤ 38) ∧ ¬ (45 ≤ K ∧ K ≤ 49) := by
      unfold isBK at hK
      omega
    rw [p2 K (by omega) (by omega) (by omega) (by omega) (by omega) (by omega) (by omega) (by omega) (by omega) (by omega), cB K (by omega) (by omega) (by omega), cA, if_neg (by omega)]
set_option maxHeartbeats 4000000 in
theorem init_c {m : MM} (hF : F = 2 ∨ F = 4 ∨ F = 8) (hn : 1 ≤ n ∧ F * n ≤ 8) (hM : 10 ≤ M ∧ M ≤ 24) (hL : 1 ≤ Ln ∧ Ln ≤ 6) (hE : 2 ≤ E ∧ E ≤ 24) (hcnt : ∀ K, isBK K → K ≠ 0 → gC m K = bsz K * b) :
    ∃ s, f_X0_init m b (F : Int) (n : Int) (M : Int) (Ln : Int) (E : Int) = some (.inl none, s) ∧ BS (sR s 56 0 b (some (0, b))) b F n M Ln E ∧ (∀ p, p < 2 * (F * n) → gN (sR s 56 0 b (some (0, b))) 4 (16 * b + p) 9 = -1) ∧ (∀ f, f < 2 * n → FoN (sR s 56 0 b (some (0, b))) b F E f) ∧ GF (bkWN b) (fun K i k => bkWR b K i k ∨ (K = 56 ∧ i = 0 ∧ k = b)) (bkWZ b) m (sR s 56 0 b (some (0, b))) ∧ (∀ K, isBK K → K ≠ 0 → gC s K ≤ bsz K * (b + 1) ∧ (bsz K = 1 → gC s K = b + 1)) ∧ ∀ K, ¬ isBK K ∨ K = 0 → gC s K = gC m K := by
  have hn4 : n ≤ 4 := by rcases hF with z | z | z <;> subst z <;> omega
  have k1 : ∀ K, isBK K → K ≠ 0 → bsz K = 1 → gC m K = b := fun K h1 h2 h3 => by rw [hcnt K h1 h2, h3, Nat.one_mul]
  obtain ⟨mA, eA, gA0, hA0, hA5, hA4, hA13, t2, hA45, cA⟩ := init_hd (m := m) (b := b) (F := F) (n := n) (M := M) (Ln := Ln) (E := E) hn (k1 9 (by unfold isBK; omega) (by decide) rfl) (k1 13 (by unfold isBK; omega) (by decide) rfl) (fun K h1 h2 => k1 K (by unfold isBK; omega) (by omega) (bsz_one.mpr (by omega)))
  have cAK : ∀ K, ¬ (K = 9 ∨ K = 13 ∨ (45 ≤ K ∧ K ≤ 49)) → isBK K → K ≠ 0 → gC mA K = bsz K * b := fun K h1 h2 h3 => by rw [cA, if_neg h1, hcnt K h2 h3]
  have dPg : ∀ K, 27 ≤ K → K ≤ 37 → gC mA K = 16 * b := fun K h1 h2 => by rw [cAK K (by omega) (by unfold isBK; omega) (by omega), show bsz K = 16 from by unfold bsz; rw [if_neg (by omega), if_pos (by omega)]]
  obtain ⟨mB, e1, pB, gB, cB1, cB4, cB38, cB, rB5, zB13⟩ := pages_c (m0 := mA) (F := F) (n := n) (b := b) hL.2 hM.2 hE.2 hn.2 (F : Int) (n : Int) _ 0 mA rfl (by omega) ⟨fun p' h => absurd h (by omega), GF.rf, ⟨cAK 5 (by decide) (by unfold isBK; omega) (by decide), dPg⟩, cAK 4 (by decide) (by unfold isBK; omega) (by decide), by rw [cAK 38 (by decide) (by unfold isBK; omega) (by decide)]; show 384 * b ≤ _; omega, fun _ _ _ _ => rfl, hA5, hA13⟩
  have e1' : lpb (fun s : Int × MM => b_X0_init_52 b (F : Int) (n : Int) (M : Int) (Ln : Int) (E : Int) s.1 s.2) (0, mA) = some mB := e1
  have cBK : ∀ K, K ≠ 4 → K ≠ 5 → ¬ (27 ≤ K ∧ K ≤ 38) → ¬ (K = 9 ∨ K = 13 ∨ (45 ≤ K ∧ K ≤ 49)) → isBK K → K ≠ 0 → gC mB K = bsz K * b := fun K a1 a2 a3 h1 h2 h3 => by rw [cB K a1 a2 a3, cAK K h1 h2 h3]
  obtain ⟨mC, eC, gC0, hC6, hC14, cC⟩ := j87_c (mB := mB) (b := b) hn4 (by rw [cBK 14 (by decide) (by decide) (by decide) (by decide) (by unfold isBK; omega) (by decide)]; exact Nat.one_mul b) (F : Int) (E : Int)
  have cCK : ∀ K, K ≠ 14 → K ≠ 4 → K ≠ 5 → ¬ (27 ≤ K ∧ K ≤ 38) → ¬ (K = 9 ∨ K = 13 ∨ (45 ≤ K ∧ K ≤ 49)) → isBK K → K ≠ 0 → gC mC K = bsz K * b := fun K a0 a1 a2 a3 h1 h2 h3 => by rw [cC, if_neg a0, cBK K a1 a2 a3 h1 h2 h3]
  obtain ⟨mD, e2, fD, gD, cD1, cD⟩ := formes_c (m0 := mC) (b := b) (F := F) (n := n) (E := E) hF hn.2 hE.2 (by rw [gC0.2.1 0 b 5 (by omega)]; exact rB5) hC6 (by rw [gC0.2.2.1 13 b (by omega)]; exact zB13) hC14 (fun p hp => by rw [gC0.2.1 13 b p (by omega)]; exact (pB p hp).2) _ 0 mC rfl (by omega) ⟨fun f' h => absurd h (by omega), GF.rf, ⟨cCK 2 (by decide) (by decide) (by decide) (by decide) (by decide) (by unfold isBK; omega) (by decide), cCK 19 (by decide) (by decide) (by decide) (by decide) (by decide) (by unfold isBK; omega) (by decide), cCK 25 (by decide) (by decide) (by decide) (by decide) (by decide) (by unfold isBK; omega) (by decide), cCK 26 (by decide) (by decide) (by decide) (by decide) (by decide) (by unfold isBK; omega) (by decide)⟩, fun _ _ _ _ _ => rfl⟩
  have e2' : lpb (fun s : Int × MM => b_X0_init_100 b (F : Int) (n : Int) (E : Int) s.1 s.2) (0, mC) = some mD := e2
  have cDK : ∀ K, K ≠ 2 → K ≠ 19 → K ≠ 25 → K ≠ 26 → K ≠ 14 → K ≠ 4 → K ≠ 5 → ¬ (27 ≤ K ∧ K ≤ 38) → ¬ (K = 9 ∨ K = 13 ∨ (45 ≤ K ∧ K ≤ 49)) → isBK K → K ≠ 0 → gC mD K = bsz K * b := fun K b1 b2 b3 b4 a0 a1 a2 a3 h1 h2 h3 => by rw [cD K b1 b2 b3 b4, cCK K a0 a1 a2 a3 h1 h2 h3]
  obtain ⟨mE, eE, gE0, hE7, hE15, cE⟩ := j142_c (mD := mD) (b := b) hn4 (by rw [cDK 15 (by decide) (by decide) (by decide) (by decide) (by decide) (by decide) (by decide) (by decide) (by decide) (by unfold isBK; omega) (by decide)]; exact Nat.one_mul b) (F : Int) (E : Int)
  have zD14 : gZ mD 14 b = some (2 * n) := by rw [gD.2.2.1 14 b (by unfold fsWZ; omega)]; exact hC14
  have hD6 : gR mD 0 b 6 = some (14, b) := by rw [gD.2.1 0 b 6 (by unfold fsWR; omega)]; exact hC6
  obtain ⟨mF, e3, sF, gF, cF1, cF⟩ := sheets_c (m0 := mE) (b := b) (n := n) hn4 (by rw [gE0.2.1 0 b 6 (by omega)]; exact hD6) hE7 (by rw [gE0.2.2.1 14 b (by omega)]; exact zD14) hE15 (fun f hf => by rw [gE0.2.1 14 b f (by omega)]; exact (fD f hf).2) (F : Int) (E : Int) _ 0 mE rfl (by omega) ⟨fun h' h => absurd h (by omega), GF.rf, by rw [cE, if_neg (by decide), cDK 8 (by decide) (by decide) (by decide) (by decide) (by decide) (by decide) (by decide) (by decide) (by decide) (by unfold isBK; omega) (by decide)]; rfl, fun _ _ => rfl⟩
  have e3' : lpb (fun s : Int × MM => b_X0_init_153 b (F : Int) (n : Int) (E : Int) s.1 s.2) (0, mE) = some mF := e3
  have cFK : ∀ K, K = 16 ∨ K = 17 ∨ K = 18 → gC mF K = bsz K * b := fun K hk => by rw [cF K (by omega), cE, if_neg (by omega), cDK K (by omega) (by omega) (by omega) (by omega) (by omega) (by omega) (by omega) (by omega) (by omega) (by unfold isBK; omega) (by omega)]
  have rF5 : gR mF 0 b 5 = some (13, b) := by rw [gF.2.1 0 b 5 (by unfold shWR; omega), gE0.2.1 0 b 5 (by omega), gD.2.1 0 b 5 (by unfold fsWR; omega), gC0.2.1 0 b 5 (by omega)]; exact rB5
  have zF13 : gZ mF 13 b = some (2 * (F * n)) := by rw [gF.2.2.1 13 b (by omega), gE0.2.2.1 13 b (by omega), gD.2.2.1 13 b (by unfold fsWZ; omega), gC0.2.2.1 13 b (by omega)]; exact zB13
  have hF7 : gR mF 0 b 7 = some (15, b) := by rw [gF.2.1 0 b 7 (by unfold shWR; omega)]; exact hE7
  have zF15 : gZ mF 15 b = some n := by rw [gF.2.2.1 15 b (by omega)]; exact hE15
  obtain ⟨mG, eG, gG0, hG, cG⟩ := j199_c (mF := mF) (b := b) (F := F) (n := n) hE.2 hn.2 rF5 zF13 (by rw [cFK 16 (by omega)]; exact Nat.one_mul b) (by rw [cFK 17 (by omega)]; exact Nat.one_mul b) (by rw [cFK 18 (by omega)]; rfl)
  have g56 : GF (fun _ _ _ => False) (fun K i k => K = 56 ∧ i = 0 ∧ k = b) (fun _ _ => False) mG (sR mG 56 0 b (some (0, b))) := GF.rf.sR ⟨rfl, rfl, rfl⟩
  have h56 : gR (sR mG 56 0 b (some (0, b))) 56 0 b = some (0, b) := by rw [gR_sR, if_pos ⟨rfl, rfl, rfl⟩]
  have z56 : ∀ K i, gZ (sR mG 56 0 b (some (0, b))) K i = gZ mG K i := fun _ _ => rfl
  refine ⟨mG, ?_, ?_⟩
  · rw [eA, e1', Option.bind_some, eC, e2', Option.bind_some, eE, e3', Option.bind_some, eG]
  · have hcn := init_cn hn.2 hn4 hE.2 cA cB1 cB4 cB38 cB cC cD1 cD cE cF1 cF cG
    generalize sR mG 56 0 b (some (0, b)) = mH at *
    have gDG := init_DG gE0 gF gG0 g56
    have gBG := init_BG gC0 gD gDG
    have gAG := init_AG gB gBG
    have gFG := init_FG gG0 g56
    have pG : ∀ p, p < 2 * (F * n) → PgN mH (16 * b + p) M Ln E := fun p hp => (pB p hp).1.gf gBG (fun k q => by unfold fsWN at q; omega) (fun k q => by
      rcases q with q | q | q | q | q
      · unfold fsWR at q; omega
      · unfold shWR at q; omega
      · omega
      · omega
      · omega) (fun k q => by
      rcases q with q | q | q | q | q
      · unfold fsWR at q; omega
      · unfold shWR at q; omega
      · omega
      · omega
      · omega) (fun k q => by
      rcases q with q | q | q | q | q
      · unfold fsWR at q; omega
      · unfold shWR at q; omega
      · omega
      · omega
      · omega) (fun K h1 h2 q => by
      rcases q with q | q | q | q
      · unfold fsWZ at q; omega
      · omega
      · omega
      · omega) (fun c hc q => by
      rcases q with q | q | q | q
      · unfold fsWZ at q; omega
      · omega
      · omega
      · omega) hE.2
    have fG : ∀ f, f < 2 * n → FoN mH b F E f := fun f hf => (fD f hf).1.gf gDG (fun _ q => q) (fun k q => by
      rcases q with q | q | q | q
      · unfold shWR at q; omega
      · omega
      · omega
      · omega) (fun k q => by
      rcases q with q | q | q | q
      · unfold shWR at q; omega
      · omega
      · omega
      · omega) (fun K h1 q => by omega)
    exact ⟨init_bs gDG gBG gAG gFG (fun K i k h => g56.2.1 K i k (fun q => h q.1)) z56 h56 hA0 hA4 t2 hA45 rF5 zF13 hD6 zD14 hF7 zF15 hG (fun p hp => (pB p hp).2) (fun f hf => (fD f hf).2) sF pG fG, fun p hp => (pG p hp).n9, fG, init_gf gA0 gAG, hcn.1, hcn.2⟩
end BOOK
