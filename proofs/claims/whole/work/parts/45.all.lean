/-! THE WHOLE RELATION. -/
/-- cells of a kind that a book has -/
def bsz (K : Nat) : Nat := if K = 2 ∨ K = 19 ∨ K = 25 ∨ K = 26 then 8 else if K = 4 ∨ K = 5 ∨ (27 ≤ K ∧ K ≤ 37) then 16 else if K = 8 then 4 else if K = 18 then 24 else if K = 38 then 384 else 1
def isBK (K : Nat) : Prop := K = 0 ∨ K = 2 ∨ K = 4 ∨ K = 5 ∨ K = 8 ∨ K = 9 ∨ (13 ≤ K ∧ K ≤ 19) ∨ (25 ≤ K ∧ K ≤ 38) ∨ (45 ≤ K ∧ K ≤ 49)
def msz (K : Nat) : Nat := if K ≤ 80 then 1 else if K ≤ 90 then 16 else if K ≤ 116 then 8 else 4
def isMK (K : Nat) : Prop := (78 ≤ K ∧ K ≤ 80) ∨ K = 83 ∨ (85 ≤ K ∧ K ≤ 90) ∨ K = 108 ∨ K = 110 ∨ K = 117 ∨ K = 120
/-- what lies behind the books is as it was made -/
def RFr (mc mm : MM) : Prop := (∀ K, isBK K → (gC mc K : Int) ≤ bsz K * gN mm 12 0 19 ∧ (bsz K = 1 → (gC mc K : Int) = gN mm 12 0 19)) ∧
  (∀ K i : Nat, isBK K → bsz K * gN mm 12 0 19 ≤ i → gZ mc K i = none ∧ ∀ s, gN mc K i s = 0 ∧ gL mc K i s = 0 ∧ gR mc K i s = none) ∧
  (∀ K i : Nat, isMK K → msz K * gN mm 12 0 19 ≤ i → gN mm K 0 i = 0)
theorem RFr.n {mc mm : MM} (h : RFr mc mm) : ∀ K, isBK K → (gC mc K : Int) ≤ bsz K * gN mm 12 0 19 ∧ (bsz K = 1 → (gC mc K : Int) = gN mm 12 0 19) := h.1
theorem RFr.z {mc mm : MM} (h : RFr mc mm) : ∀ K i : Nat, isBK K → bsz K * gN mm 12 0 19 ≤ i → gZ mc K i = none ∧ ∀ s, gN mc K i s = 0 ∧ gL mc K i s = 0 ∧ gR mc K i s = none := h.2.1
theorem RFr.m {mc mm : MM} (h : RFr mc mm) : ∀ K i : Nat, isMK K → msz K * gN mm 12 0 19 ≤ i → gN mm K 0 i = 0 := h.2.2
def RR (N : Nat) (mc mm : MM) : Prop := (SC mc) ∧
  (SM mm) ∧
  (RT mc mm) ∧
  (RSp mc mm) ∧
  (RC mc mm) ∧
  (RH ((2000 * N : Nat) : Int) mc mm) ∧
  (RMi mc mm) ∧
  (RPr mc mm) ∧
  (RNb mc mm) ∧
  (∀ b : Nat, (b : Int) < gN mm 12 0 19 → ∃ F n M Ln E, RBk mc mm b F n M Ln E) ∧
  (RPf mm N) ∧
  (RPc mm) ∧
  (RFr mc mm)
theorem RR.C {N : Nat} {mc mm : MM} (h : RR N mc mm) : SC mc := h.1
theorem RR.M {N : Nat} {mc mm : MM} (h : RR N mc mm) : SM mm := h.2.1
theorem RR.T {N : Nat} {mc mm : MM} (h : RR N mc mm) : RT mc mm := h.2.2.1
theorem RR.Sp {N : Nat} {mc mm : MM} (h : RR N mc mm) : RSp mc mm := h.2.2.2.1
theorem RR.Ca {N : Nat} {mc mm : MM} (h : RR N mc mm) : RC mc mm := h.2.2.2.2.1
theorem RR.H {N : Nat} {mc mm : MM} (h : RR N mc mm) : RH ((2000 * N : Nat) : Int) mc mm := h.2.2.2.2.2.1
theorem RR.Mi {N : Nat} {mc mm : MM} (h : RR N mc mm) : RMi mc mm := h.2.2.2.2.2.2.1
theorem RR.Pr {N : Nat} {mc mm : MM} (h : RR N mc mm) : RPr mc mm := h.2.2.2.2.2.2.2.1
theorem RR.Nb {N : Nat} {mc mm : MM} (h : RR N mc mm) : RNb mc mm := h.2.2.2.2.2.2.2.2.1
theorem RR.Bk {N : Nat} {mc mm : MM} (h : RR N mc mm) : ∀ b : Nat, (b : Int) < gN mm 12 0 19 → ∃ F n M Ln E, RBk mc mm b F n M Ln E := h.2.2.2.2.2.2.2.2.2.1
theorem RR.Pf {N : Nat} {mc mm : MM} (h : RR N mc mm) : RPf mm N := h.2.2.2.2.2.2.2.2.2.2.1
theorem RR.Pc {N : Nat} {mc mm : MM} (h : RR N mc mm) : RPc mm := h.2.2.2.2.2.2.2.2.2.2.2.1
theorem RR.Fr {N : Nat} {mc mm : MM} (h : RR N mc mm) : RFr mc mm := h.2.2.2.2.2.2.2.2.2.2.2.2
-- what stays of the parts made earlier
theorem RMi.keep {mc mm mc' mm' : MM} (h : RMi mc mm) (hc : ∀ K i s, (K = 11 ∧ i = 0 ∧ 9 ≤ s) ∨ (K = 58 ∧ i = 0) → eq3 mc mc' K i s) (hm : ∀ K i s, (K = 12 ∧ i = 0 ∧ (s = 74 ∨ s = 69)) ∨ (K = 125 ∧ i = 0) → eq3 mm mm' K i s) : RMi mc' mm' := by
  have a1 := (hc 11 0 9 (by omega)).1
  have a2 := (hc 11 0 10 (by omega)).1
  have a3 : ∀ k, gN mc' 58 0 k = gN mc 58 0 k := fun k => (hc 58 0 k (by omega)).1
  have b1 := (hm 12 0 74 (by omega)).1
  have b2 := (hm 12 0 69 (by omega)).1
  have b3 : ∀ k, gN mm' 125 0 k = gN mm 125 0 k := fun k => (hm 125 0 k (by omega)).1
  unfold RMi at h ⊢
  simp only [a1, a2, a3, b1, b2, b3]
  exact h
theorem RPr.keep {mc mm mc' mm' : MM} (h : RPr mc mm) (hc : ∀ i s, i < 3 → eq3 mc mc' 6 i s) (hm : ∀ K s, 121 ≤ K → K ≤ 124 → eq3 mm mm' K 0 s) : RPr mc' mm' := fun p hp => by
  rw [(hc p 1 hp).1, (hc p 2 hp).1, (hc p 3 hp).1, (hc p 0 hp).2.2, (hm 121 p (by omega) (by omega)).1, (hm 122 p (by omega) (by omega)).1, (hm 123 p (by omega) (by omega)).1, (hm 124 p (by omega) (by omega)).1]
  exact h p hp
theorem RH.keep {B B' : Int} {mc mm mc' mm' : MM} (h : RH B mc mm) (hB : B ≤ B') (hc : ∀ K i s, (K = 11 ∧ i = 0 ∧ s = 7) ∨ K = 3 ∨ (K = 55 ∧ i = 0) → eq3 mc mc' K i s) (hC : gC mc' 3 = gC mc 3) (hm : ∀ K i s, (K = 12 ∧ i = 0 ∧ s = 12) ∨ (67 ≤ K ∧ K ≤ 72 ∧ i = 0) → eq3 mm mm' K i s) : RH B' mc' mm' := by
  have a7 := (hc 11 0 7 (by omega)).1
  have a3 : ∀ i s, gN mc' 3 i s = gN mc 3 i s := fun i s => (hc 3 i s (by omega)).1
  have a55 : ∀ s, gR mc' 55 0 s = gR mc 55 0 s := fun s => (hc 55 0 s (by omega)).2.2
  have b12 := (hm 12 0 12 (by omega)).1
  have bK : ∀ K s, 67 ≤ K → K ≤ 72 → gN mm' K 0 s = gN mm K 0 s := fun K s h1 h2 => (hm K 0 s (by omega)).1
  have b67 := fun s => bK 67 s (by omega) (by omega)
  have b68 := fun s => bK 68 s (by omega) (by omega)
  have b69 := fun s => bK 69 s (by omega) (by omega)
  have b70 := fun s => bK 70 s (by omega) (by omega)
  have b71 := fun s => bK 71 s (by omega) (by omega)
  have b72 := fun s => bK 72 s (by omega) (by omega)
  unfold RH at h ⊢
  simp only [a7, a3, a55, b12, b67, b68, b69, b70, b71, b72, hC]
  obtain ⟨h1, h2, h3, h4, h5, h6⟩ := h
  exact ⟨h1, h2, h3, h4, h5, fun k => by have := h6 k; omega⟩
theorem RPf.keep {mm mm' : MM} {N N' : Nat} (h : RPf mm N) (hN : N ≤ N') (hm : ∀ K i s, (122 ≤ K ∧ K ≤ 125 ∧ i = 0) ∨ (K = 12 ∧ i = 0 ∧ (s = 19 ∨ s = 52 ∨ s = 69)) ∨ ((K = 74 ∨ K = 108) ∧ i = 0) → eq3 mm mm' K i s) : RPf mm' N' := by
  have bK : ∀ K s, 122 ≤ K → K ≤ 125 → gN mm' K 0 s = gN mm K 0 s := fun K s h1 h2 => (hm K 0 s (by omega)).1
  have b122 := fun s => bK 122 s (by omega) (by omega)
  have b123 := fun s => bK 123 s (by omega) (by omega)
  have b124 := fun s => bK 124 s (by omega) (by omega)
  have b125 := fun s => bK 125 s (by omega) (by omega)
  have b19 := (hm 12 0 19 (by omega)).1
  have b52 := (hm 12 0 52 (by omega)).1
  have b69 := (hm 12 0 69 (by omega)).1
  have b74 : ∀ s, gN mm' 74 0 s = gN mm 74 0 s := fun s => (hm 74 0 s (by omega)).1
  have b108 : ∀ s, gN mm' 108 0 s = gN mm 108 0 s := fun s => (hm 108 0 s (by omega)).1
  unfold RPf at h ⊢
  simp only [b122, b123, b124, b125, b19, b52, b69, b74, b108]
  obtain ⟨h1, h2, h3, h4, h5, h6⟩ := h
  exact ⟨h1, h2, h3, h4, fun k hk => by have := h5 k hk; omega, by omega⟩
theorem RPc.keep {mm mm' : MM} (h : RPc mm) (hm : ∀ K i s, (64 ≤ K ∧ K ≤ 66 ∧ i = 0) ∨ (K = 12 ∧ i = 0 ∧ s = 6) ∨ ((K = 90 ∨ K = 100) ∧ i = 0) → eq3 mm mm' K i s) : RPc mm' := by
  have bK : ∀ K s, 64 ≤ K → K ≤ 66 → gN mm' K 0 s = gN mm K 0 s := fun K s h1 h2 => (hm K 0 s (by omega)).1
  have b64 := fun s => bK 64 s (by omega) (by omega)
  have b65 := fun s => bK 65 s (by omega) (by omega)
  have b66 := fun s => bK 66 s (by omega) (by omega)
  have b6 := (hm 12 0 6 (by omega)).1
  have b90 : ∀ s, gN mm' 90 0 s = gN mm 90 0 s := fun s => (hm 90 0 s (by omega)).1
  have b100 : ∀ s, gN mm' 100 0 s = gN mm 100 0 s := fun s => (hm 100 0 s (by omega)).1
  unfold RPc at h ⊢
  simp only [b64, b65, b66, b6, b90, b100]
  exact h
theorem RFr.keep {mc mm mc' mm' : MM} (h : RFr mc mm) (h19 : gN mm' 12 0 19 = gN mm 12 0 19) (hC : ∀ K, gC mc' K = gC mc K) (hz : ∀ K i, gZ mc' K i = gZ mc K i) (hc : ∀ K i s : Nat, isBK K → bsz K * gN mm 12 0 19 ≤ i → eq3 mc mc' K i s) (hm : ∀ K i : Nat, isMK K → msz K * gN mm 12 0 19 ≤ i → gN mm' K 0 i = gN mm K 0 i) : RFr mc' mm' := by
  refine ⟨fun K hK => by rw [hC, h19]; exact h.n K hK, fun K i hK hi => ?_, fun K i hK hi => ?_⟩
  · rw [h19] at hi
    rw [hz]
    refine ⟨(h.z K i hK hi).1, fun s => ?_⟩
    obtain ⟨a, b, c⟩ := hc K i s hK hi
    rw [a, b, c]
    exact (h.z K i hK hi).2 s
  · rw [h19] at hi
    rw [hm K i hK hi]; exact h.m K i hK hi
/-- the parts of a book, each by its cells -/
theorem RBk.keep2 {mc mm mc' mm' : MM} {b F n M Ln E : Nat} (h : RBk mc mm b F n M Ln E)
    (hz : ∀ K i k, gZ mc K i = some k → gZ mc' K i = some k)
    (h73 : ∀ K, 73 ≤ K → K ≤ 77 → gN mm' K 0 b = gN mm K 0 b)
    (hS : ∀ K i s, CBS b K i s → eq3 mc mc' K i s)
    (hT : ∀ K i s, CTx b K i s → eq3 mc mc' K i s) (hT' : ∀ K i s, MTx b K i s → eq3 mm mm' K i s)
    (hG : ∀ p, p < 16 → ∀ K i s, CPg b (16 * b + p) K i s → eq3 mc mc' K i s) (hG' : ∀ p, p < 16 → ∀ K i s, MPg b (16 * b + p) K i s → eq3 mm mm' K i s)
    (hL : ∀ p, p < 16 → ∀ K i s, CPl (16 * b + p) K i s → eq3 mc mc' K i s) (hL' : ∀ p, p < 16 → ∀ K i s, MPl (16 * b + p) K i s → eq3 mm mm' K i s)
    (hF : ∀ f, f < 8 → ∀ K i s, CFo (8 * b + f) K i s → eq3 mc mc' K i s) (hF' : ∀ f, f < 8 → ∀ K i s, MFo (8 * b + f) K i s → eq3 mm mm' K i s)
    (hN : ∀ p f, p < 16 → f < 8 → gN mm 90 0 (16 * b + p) ≤ 150 → gN mc 2 (8 * b + f) 7 ≤ 24 → RPn mc mm (16 * b + p) (8 * b + f) → RPn mc' mm' (16 * b + p) (8 * b + f))
    (hE : ∀ f, f < 8 → ∀ K i s, CSe b f K i s → eq3 mc mc' K i s) (hE' : ∀ f, f < 8 → ∀ K i s, MSe b f K i s → eq3 mm mm' K i s)
    (hH : ∀ s, s < 4 → ∀ K i s', CSh b s K i s' → eq3 mc mc' K i s') (hH' : ∀ s, s < 4 → ∀ K i s', MSh b s K i s' → eq3 mm mm' K i s')
    (hV : ∀ K i s, CLv b K i s → eq3 mc mc' K i s) (hV' : ∀ K i s, MLv b K i s → eq3 mm mm' K i s)
    (hO' : ∀ K i s, MPo b K i s → eq3 mm mm' K i s)
    (h69 : gN mm 12 0 69 ≤ gN mm' 12 0 69) (h63 : ∀ x, gN mm 63 0 x ≤ gN mm' 63 0 x) : RBk mc' mm' b F n M Ln E := by
  have hP := h.hP
  have q1 := hP.hn
  have q2 := hP.hL
  have q3 := hP.hE
  have q4 := hP.ml
  have h90 : ∀ p, p < 2 * (F * n) → gN mm 90 0 (16 * b + p) ≤ 150 := fun p hp => by
    have := (h.pg p hp).pn
    omega
  refine ⟨hP.keep h73, h.hS.keep hP hS hz, h.tx.keep hT hT', fun p hp => (h.pg p hp).keep (by omega) (hG p (by omega)) (hG' p (by omega)), fun p hp => (h.po p hp).keep (by omega) (fun K i s hk => hT K i s (by unfold CPo at hk; unfold CTx; omega)) hO', fun p hp => (h.pl p hp).keep (h90 p hp) (hL p (by omega)) (hL' p (by omega)), fun f hf => (h.ff f hf).keep (by omega) (hF f (by omega)) (hF' f (by omega)) h69, fun p hp => ?_, fun f hf => (h.se f hf).keep (by omega) h90 (hE f (by omega)) (hE' f (by omega)) h63, fun s hs => (h.sh s hs).keep (by omega) (hH s (by omega)) (hH' s (by omega)), h.lv.keep (by omega) (by omega) (by omega) hV hV'⟩
  have hf := fo_lt hP.hF hp
  exact hN p _ (by omega) (by omega) (h90 p hp) (by have := (h.ff _ hf).ns; omega) (h.pn p hp)
/-- scratch cells: no part of the relation speaks of them -/
def scC (K s : Nat) : Prop := (39 ≤ K ∧ K ≤ 44) ∨ K = 51 ∨ K = 52 ∨ K = 131
def scM (K s : Nat) : Prop := (K = 12 ∧ (s = 0 ∨ s = 79)) ∨ (127 ≤ K ∧ K ≤ 131)
theorem RBk.keep {mc mm mc' mm' : MM} {b F n M Ln E : Nat} (h : RBk mc mm b F n M Ln E)
    (hz : ∀ K i k, gZ mc K i = some k → gZ mc' K i = some k)
    (h73 : ∀ K, 73 ≤ K → K ≤ 77 → gN mm' K 0 b = gN mm K 0 b)
    (hS : ∀ K i s, CBS b K i s → eq3 mc mc' K i s)
    (hT : ∀ K i s, CTx b K i s → eq3 mc mc' K i s) (hT' : ∀ K i s, MTx b K i s → eq3 mm mm' K i s)
    (hG : ∀ p, p < 16 → ∀ K i s, CPg b (16 * b + p) K i s → eq3 mc mc' K i s) (hG' : ∀ p, p < 16 → ∀ K i s, MPg b (16 * b + p) K i s → eq3 mm mm' K i s)
    (hL : ∀ p, p < 16 → ∀ K i s, CPl (16 * b + p) K i s → eq3 mc mc' K i s) (hL' : ∀ p, p < 16 → ∀ K i s, MPl (16 * b + p) K i s → eq3 mm mm' K i s)
    (hF : ∀ f, f < 8 → ∀ K i s, CFo (8 * b + f) K i s → eq3 mc mc' K i s) (hF' : ∀ f, f < 8 → ∀ K i s, MFo (8 * b + f) K i s → eq3 mm mm' K i s)
    (hN : ∀ p f, p < 16 → f < 8 → ∀ K i s, CPn (16 * b + p) (8 * b + f) K i s → eq3 mc mc' K i s) (hN' : ∀ p f, p < 16 → f < 8 → ∀ K i s, MPn (16 * b + p) (8 * b + f) K i s → eq3 mm mm' K i s)
    (hE : ∀ f, f < 8 → ∀ K i s, CSe b f K i s → eq3 mc mc' K i s) (hE' : ∀ f, f < 8 → ∀ K i s, MSe b f K i s → eq3 mm mm' K i s)
    (hH : ∀ s, s < 4 → ∀ K i s', CSh b s K i s' → eq3 mc mc' K i s') (hH' : ∀ s, s < 4 → ∀ K i s', MSh b s K i s' → eq3 mm mm' K i s')
    (hV : ∀ K i s, CLv b K i s → eq3 mc mc' K i s) (hV' : ∀ K i s, MLv b K i s → eq3 mm mm' K i s)
    (hO' : ∀ K i s, MPo b K i s → eq3 mm mm' K i s)
    (h69 : gN mm 12 0 69 ≤ gN mm' 12 0 69) (h63 : ∀ x, gN mm 63 0 x ≤ gN mm' 63 0 x) : RBk mc' mm' b F n M Ln E :=
  h.keep2 hz h73 hS hT hT' hG hG' hL hL' hF hF' (fun p f h1 h2 h3 h4 hx => hx.keep h3 h4 (hN p f h1 h2) (hN' p f h1 h2)) hE hE' hH hH' hV hV' hO' h69 h63
theorem RBk.scr {mc mm mc' mm' : MM} {b F n M Ln E : Nat} (hB : RBk mc mm b F n M Ln E) (hz : ∀ K i, gZ mc' K i = gZ mc K i) (c1 : ∀ K i s, K < 39 ∨ (45 ≤ K ∧ K < 51) ∨ (53 ≤ K ∧ K < 59) → eq3 mc mc' K i s) (m1 : ∀ K i s, (59 ≤ K ∧ K < 127) ∨ (K = 12 ∧ 1 ≤ s ∧ s < 79) → eq3 mm mm' K i s) : RBk mc' mm' b F n M Ln E :=
  hB.keep (fun K i k hk => by rw [hz]; exact hk) (fun K h1 h2 => (m1 K 0 b (by omega)).1) (fun K i s hk => c1 K i s (by unfold CBS at hk; omega)) (fun K i s hk => c1 K i s (by unfold CTx at hk; omega)) (fun K i s hk => m1 K i s (by unfold MTx at hk; omega)) (fun p _ K i s hk => c1 K i s (by unfold CPg at hk; omega)) (fun p _ K i s hk => m1 K i s (by unfold MPg at hk; omega)) (fun p _ K i s hk => c1 K i s (by unfold CPl at hk; omega)) (fun p _ K i s hk => m1 K i s (by unfold MPl at hk; omega)) (fun p _ K i s hk => c1 K i s (by unfold CFo at hk; omega)) (fun p _ K i s hk => m1 K i s (by unfold MFo at hk; omega)) (fun p f _ _ K i s hk => c1 K i s (by unfold CPn at hk; omega)) (fun p f _ _ K i s hk => m1 K i s (by unfold MPn at hk; omega)) (fun p _ K i s hk => c1 K i s (by unfold CSe at hk; omega)) (fun p _ K i s hk => m1 K i s (by unfold MSe at hk; omega)) (fun p _ K i s hk => c1 K i s (by unfold CSh at hk; omega)) (fun p _ K i s hk => m1 K i s (by unfold MSh at hk; omega)) (fun K i s hk => c1 K i s (by unfold CLv at hk; omega)) (fun K i s hk => m1 K i s (by unfold MLv at hk; omega)) (fun K i s hk => m1 K i s (by unfold MPo at hk; omega)) (by rw [(m1 12 0 69 (by omega)).1]; exact Int.le_refl _) (fun x => by rw [(m1 63 0 x (by omega)).1]; exact Int.le_refl _)
theorem RR.scr {N N' : Nat} {mc mm mc' mm' : MM} (h : RR N mc mm) (hN : N ≤ N') (hz : ∀ K i, gZ mc' K i = gZ mc K i) (hz' : ∀ K i k, gZ mm K i = some k → gZ mm' K i = some k) (hC : ∀ K, gC mc' K = gC mc K) (hc : ∀ K i s, K < 59 → ¬ scC K s → eq3 mc mc' K i s) (hm : ∀ K i s, (K = 12 ∨ (59 ≤ K ∧ K < 131)) → ¬ scM K s → eq3 mm mm' K i s) : RR N' mc' mm' := by
  have c1 : ∀ K i s, K < 39 ∨ (45 ≤ K ∧ K < 51) ∨ (53 ≤ K ∧ K < 59) → eq3 mc mc' K i s := fun K i s hk => hc K i s (by omega) (by unfold scC; omega)
  have m1 : ∀ K i s, (59 ≤ K ∧ K < 127) ∨ (K = 12 ∧ 1 ≤ s ∧ s < 79) → eq3 mm mm' K i s := fun K i s hk => hm K i s (by omega) (by unfold scM; omega)
  refine ⟨h.C.mv2 (fun K i s hk => (c1 K i s (by omega)).2.2) (fun K i k hk => by rw [hz]; exact hk), h.M.mv2 (fun s hs => (hm 12 0 s (by omega) (by unfold scM; omega)).2.2) (fun K i k hk => hz' K i k hk), h.T.keep (c1 10 0 5 (by omega)).1 (m1 12 0 1 (by omega)).1 (fun k => (c1 50 0 k (by omega)).1) (fun k => (m1 59 0 k (by omega)).1), h.Sp.keep (fun K i s hk => c1 K i s (by omega)) (fun K i s hk => m1 K i s (by omega)),
    h.Ca.keep (c1 1 0 5 (by omega)).1 (m1 12 0 6 (by omega)).1 (fun K h1 h2 k => (c1 K 0 k (by omega)).1) (fun K h1 h2 k => (m1 K 0 k (by omega)).1), h.H.keep (by omega) (fun K i s hk => c1 K i s (by omega)) (hC 3) (fun K i s hk => m1 K i s (by omega)), h.Mi.keep (fun K i s hk => c1 K i s (by omega)) (fun K i s hk => m1 K i s (by omega)), h.Pr.keep (fun i s _ => c1 6 i s (by omega)) (fun K s h1 h2 => m1 K 0 s (by omega)), h.Nb.keep (c1 11 0 8 (by omega)).1 (m1 12 0 19 (by omega)).1 (fun s => (c1 56 0 s (by omega)).2.2), ?_, h.Pf.keep hN (fun K i s hk => m1 K i s (by omega)), h.Pc.keep (fun K i s hk => m1 K i s (by omega)), h.Fr.keep (m1 12 0 19 (by omega)).1 hC hz (fun K i s hK _ => c1 K i s (by unfold isBK at hK; omega)) (fun K i hK _ => (m1 K 0 i (by unfold isMK at hK; omega)).1)⟩
  · intro b hb
    rw [(m1 12 0 19 (by omega)).1] at hb
    obtain ⟨F, n, M, Ln, E, hB⟩ := h.Bk b hb
    exact ⟨F, n, M, Ln, E, hB.scr hz c1 m1⟩
