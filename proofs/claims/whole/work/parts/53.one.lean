/-! ONE BOOK, and what lies beside the books. -/
theorem RR.one {N N' : Nat} {mc mm mc' mm' : MM} {b0 : Nat} (h : RR N mc mm) (hz : ∀ K i, gZ mc' K i = gZ mc K i) (hC : ∀ K, gC mc' K = gC mc K)
    (hb0 : (b0 : Int) < gN mm 12 0 19) (e19 : gN mm' 12 0 19 = gN mm 12 0 19)
    (h1 : SC mc') (h2 : SM mm') (h3 : RT mc' mm') (h4 : RSp mc' mm') (h5 : RC mc' mm') (h6 : RH ((2000 * N' : Nat) : Int) mc' mm') (h7 : RMi mc' mm') (h8 : RPr mc' mm') (h9 : RNb mc' mm')
    (cg : ∀ K i s, K = 53 ∨ K = 54 ∨ K = 56 → eq3 mc mc' K i s)
    (cb : ∀ K i s, isBK K → ¬ CBk b0 K i → eq3 mc mc' K i s)
    (mg : ∀ K i s, (K = 12 ∧ s = 3) ∨ K = 60 ∨ K = 61 ∨ (73 ≤ K ∧ K ≤ 77) → eq3 mm mm' K i s)
    (mb : ∀ K s, 78 ≤ K → K ≤ 126 → K < 105 ∨ 107 < K → K < 121 ∨ 125 < K → ¬ MBk b0 K s → eq3 mm mm' K 0 s)
    (hN : ∀ b p f, b ≠ b0 → b < 3 → p < 16 → f < 8 → gN mm 90 0 (16 * b + p) ≤ 150 → gN mc 2 (8 * b + f) 7 ≤ 24 → RPn mc mm (16 * b + p) (8 * b + f) → RPn mc' mm' (16 * b + p) (8 * b + f))
    (h69 : gN mm 12 0 69 ≤ gN mm' 12 0 69) (h63 : ∀ x, gN mm 63 0 x ≤ gN mm' 63 0 x)
    (hB : ∃ F n M Ln E, RBk mc' mm' b0 F n M Ln E) (hPf : RPf mm' N') (hPc : RPc mm') : RR N' mc' mm' := by
  refine ⟨h1, h2, h3, h4, h5, h6, h7, h8, h9, ?_, hPf, hPc, h.Fr.keep e19 hC hz (fun K i s hK hi => cb K i s hK (fun q => CBk_out q hb0 hi)) (fun K i hK hi => ?_)⟩
  · intro b hb
    rw [e19] at hb
    by_cases hbb : b = b0
    · subst hbb
      exact hB
    · obtain ⟨F, n, M, Ln, E, hB0⟩ := h.Bk b hb
      have c1 : ∀ K i s, CBk b K i → eq3 mc mc' K i s := fun K i s hk => cb K i s hk.bk (hk.dj hbb)
      have m1 : ∀ K i s, i = 0 ∧ MBk b K s → eq3 mm mm' K i s := fun K i s hk => by
        obtain ⟨rfl, hk⟩ := hk
        have hx := hk.bk
        refine mb K s hx.1 hx.2 ?_ ?_ (hk.dj hbb)
        · rcases hk with ⟨q, -⟩ | ⟨q, -⟩ | ⟨q, -⟩ | ⟨q, -⟩ | ⟨q, -⟩ | ⟨q, -⟩ | ⟨q, -⟩ | ⟨q, -⟩ | ⟨q, -⟩ | ⟨q, -⟩ <;> omega
        · rcases hk with ⟨q, -⟩ | ⟨q, -⟩ | ⟨q, -⟩ | ⟨q, -⟩ | ⟨q, -⟩ | ⟨q, -⟩ | ⟨q, -⟩ | ⟨q, -⟩ | ⟨q, -⟩ | ⟨q, -⟩ <;> omega
      refine ⟨F, n, M, Ln, E, hB0.keep2 (fun K i k hk => by rw [hz]; exact hk) (fun K h1 h2 => (mg K 0 b (by omega)).1) (fun K i s hk => ?_) (fun K i s hk => ?_) (fun K i s hk => ?_) (fun p hp K i s hk => c1 K i s (hk.ck hp)) (fun p hp K i s hk => m1 K i s (hk.mk hp)) (fun p hp K i s hk => c1 K i s (hk.ck hp)) (fun p hp K i s hk => m1 K i s (hk.mk hp)) (fun p hp K i s hk => c1 K i s (hk.ck hp)) (fun p hp K i s hk => m1 K i s (hk.mk hp)) (fun p f hp hf => hN b p f hbb hB0.hP.hb hp hf) (fun p hp K i s hk => c1 K i s (hk.ck hp)) (fun p hp K i s hk => m1 K i s (hk.mk hp)) (fun p hp K i s hk => c1 K i s (hk.ck hp)) (fun p hp K i s hk => m1 K i s (hk.mk hp)) (fun K i s hk => c1 K i s hk.ck) (fun K i s hk => m1 K i s hk.mk) (fun K i s hk => m1 K i s hk.mk) h69 h63⟩
      · rcases hk.ck with q | q
        · exact cg K i s (by omega)
        · exact c1 K i s q
      · rcases hk.ck with q | q
        · exact cg K i s (by omega)
        · exact c1 K i s q
      · rcases hk.mk with q | q | q
        · exact mg K i s (by omega)
        · exact mg K i s (by omega)
        · exact m1 K i s q
  · have hK' := hK
    unfold isMK at hK'
    exact (mb K i (by omega) (by omega) (by omega) (by omega) (fun q => MBk_out hK q hb0 hi)).1
/-- prints of other books: corrections are not among what differs -/
theorem RPn.other {mc mm mc' mm' : MM} {b0 b p f : Nat} (hbb : b ≠ b0) (hp : p < 16) (hf : f < 8) (cb : ∀ K i s, isBK K → ¬ CBk b0 K i → eq3 mc mc' K i s) (mb : ∀ K s, 78 ≤ K → K ≤ 126 → K < 105 ∨ 107 < K → K < 121 ∨ 125 < K → ¬ MBk b0 K s → eq3 mm mm' K 0 s) (mc52 : ∀ K i s, (K = 12 ∧ s = 52) ∨ (105 ≤ K ∧ K ≤ 107) → eq3 mm mm' K i s)
    (h90 : gN mm 90 0 (16 * b + p) ≤ 150) (h7 : gN mc 2 (8 * b + f) 7 ≤ 24) (h : RPn mc mm (16 * b + p) (8 * b + f)) : RPn mc' mm' (16 * b + p) (8 * b + f) := by
  refine h.keep h90 h7 (fun K i s hk => ?_) (fun K i s hk => ?_)
  · have hx := hk.ck hp hf
    exact cb K i s hx.bk (hx.dj hbb)
  · rcases hk.mk hp hf with q | q | ⟨rfl, q⟩
    · exact mc52 K i s (by omega)
    · exact mc52 K i s (by omega)
    · have hx := q.bk
      refine mb K s hx.1 hx.2 ?_ ?_ (q.dj hbb)
      · rcases q with ⟨q, -⟩ | ⟨q, -⟩ | ⟨q, -⟩ | ⟨q, -⟩ | ⟨q, -⟩ | ⟨q, -⟩ | ⟨q, -⟩ | ⟨q, -⟩ | ⟨q, -⟩ | ⟨q, -⟩ <;> omega
      · rcases q with ⟨q, -⟩ | ⟨q, -⟩ | ⟨q, -⟩ | ⟨q, -⟩ | ⟨q, -⟩ | ⟨q, -⟩ | ⟨q, -⟩ | ⟨q, -⟩ | ⟨q, -⟩ | ⟨q, -⟩ <;> omega
