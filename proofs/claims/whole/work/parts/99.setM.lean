/-! SET: what setting a page leaves. -/
section SET
variable {N : Nat} {mc mm : MM} {b F n M Ln E : Nat}
/-- an unset page has no part left and isn't cramped -/
def UI (mm : MM) : Prop := ∀ q : Nat, gN mm 83 0 q = 0 → gN mm 86 0 q = 0 ∧ gN mm 87 0 q = 0
theorem glF_none {mm : MM} {k its : Nat} : ∀ n, (∀ j, j < n → gN mm 105 0 j ≠ k) → glF mm k its n = gN mm 102 0 k
  | 0, _ => rfl
  | n + 1, h => by
    rw [glF, if_neg (fun z => h n (by omega) z.1)]
    exact glF_none n fun j hj => h j (by omega)
/-- where a page's part begins and ends -/
def PtR (mc mm : MM) (b p L2 Fr To : Nat) : Prop := (gN mm 78 0 b = 0 ∧ ((p = 0 ∧ Fr = 0) ∨ (p ≠ 0 ∧ gN mm 83 0 (16 * b + (p - 1)) = 1 ∧ gN mm 85 0 (16 * b + (p - 1)) = Fr))) ∨ (gN mm 78 0 b ≠ 0 ∧ gN mc 16 b p = Fr ∧ (p + 1 < 2 * L2 → gN mc 16 b (p + 1) = To))
def SD (mc mm mc' mm' : MM) (N b p d F L2 M Ln Fr To L W K : Nat) (j cr : Int) (T C : Nat → Nat) : Prop := (gN mc' 4 (16 * b + p) 9 = d) ∧
  (gN mc' 4 (16 * b + p) 10 = W) ∧
  (gN mc' 4 (16 * b + p) 11 = L) ∧
  (gN mc' 4 (16 * b + p) 12 = j) ∧
  (gN mc' 4 (16 * b + p) 13 = gN mm' 87 0 (16 * b + p)) ∧
  (gN mc' 4 (16 * b + p) 14 = cr) ∧
  (gN mc' 5 (16 * b + p) 4 = K) ∧
  (gN mm' 83 0 (16 * b + p) = 1) ∧
  (gN mm' 84 0 (16 * b + p) = d) ∧
  (gN mm' 85 0 (16 * b + p) = j) ∧
  (gN mm' 86 0 (16 * b + p) = cr) ∧
  (gN mm' 88 0 (16 * b + p) = L) ∧
  (gN mm' 89 0 (16 * b + p) = W) ∧
  (gN mm' 90 0 (16 * b + p) = K) ∧
  (L ≤ Ln ∧ K ≤ M * Ln ∧ (cr = 0 ∨ cr = 1)) ∧
  ((Fr : Int) + W ≤ j ∧ j ≤ To) ∧
  ((L = 0 → W = 0) ∧ (0 < L → T 0 = 0)) ∧
  (∀ k, k < L → 1 ≤ C k ∧ T k + C k ≤ W ∧ T k + C k = if k + 1 < L then T (k + 1) else W) ∧
  (∀ k, k < L → gN mc' 31 (16 * b + p) k = T k ∧ gN mm' 91 0 (6 * (16 * b + p) + k) = T k ∧ gN mm' 92 0 (6 * (16 * b + p) + k) = C k ∧ gN mc' 33 (16 * b + p) k = gN mm' 94 0 (6 * (16 * b + p) + k) ∧ (gN mm' 94 0 (6 * (16 * b + p) + k) = 0 ∨ gN mm' 94 0 (6 * (16 * b + p) + k) = 1) ∧ gN mc' 32 (16 * b + p) k = gN mm' 93 0 (6 * (16 * b + p) + k) ∧ 0 ≤ gN mm' 93 0 (6 * (16 * b + p) + k)) ∧
  (∀ k, k < W → WdR mc mc' mm' b (16 * b + p) Fr To k) ∧
  (∀ k i, k < L → T k ≤ i → i + 1 < T k + C k → gN mm' 97 0 (60 * (16 * b + p) + (i + 1)) = gN mc' 29 (16 * b + p) i ∧ 1 ≤ gN mc' 29 (16 * b + p) i ∧ gN mc' 29 (16 * b + p) i ≤ 3) ∧
  (∀ k, k < L → gN mm' 97 0 (60 * (16 * b + p) + T k) = 0) ∧
  (∀ k, k < W → gN mc' 30 (16 * b + p) k = gN mm' 98 0 (60 * (16 * b + p) + k) ∧ 0 ≤ gN mm' 98 0 (60 * (16 * b + p) + k) ∧ gN mm' 98 0 (60 * (16 * b + p) + k) ≤ K) ∧
  (gN mc' 30 (16 * b + p) W = K) ∧
  (RPl mc' mm' (16 * b + p)) ∧
  (∀ k, k < K → 0 ≤ gN mm' 102 0 (150 * (16 * b + p) + k) ∧ gN mm' 102 0 (150 * (16 * b + p) + k) ≤ 28 ∧ gN mc' 38 (24 * (16 * b + p)) k = if gN mm' 102 0 (150 * (16 * b + p) + k) = 28 then -1 else gN mm' 102 0 (150 * (16 * b + p) + k)) ∧
  (RC mc' mm') ∧
  (RPc mm') ∧
  (gN mc' 3 d 3 = gN mm' 70 0 d ∧ 0 ≤ gN mm' 70 0 d ∧ gN mm' 70 0 d ≤ ((2000 * (N + 1) : Nat) : Int)) ∧
  (gN mc' 3 d 4 = gN mm' 71 0 d ∧ 0 ≤ gN mm' 71 0 d ∧ gN mm' 71 0 d ≤ ((2000 * (N + 1) : Nat) : Int)) ∧
  (PtR mc mm b p L2 Fr To)
theorem SD.c9 {mc mm mc' mm' : MM} {N b p d F L2 M Ln Fr To L W K : Nat} {j cr : Int} {T C : Nat → Nat} (h : SD mc mm mc' mm' N b p d F L2 M Ln Fr To L W K j cr T C) : gN mc' 4 (16 * b + p) 9 = d := h.1
theorem SD.c10 {mc mm mc' mm' : MM} {N b p d F L2 M Ln Fr To L W K : Nat} {j cr : Int} {T C : Nat → Nat} (h : SD mc mm mc' mm' N b p d F L2 M Ln Fr To L W K j cr T C) : gN mc' 4 (16 * b + p) 10 = W := h.2.1
theorem SD.c11 {mc mm mc' mm' : MM} {N b p d F L2 M Ln Fr To L W K : Nat} {j cr : Int} {T C : Nat → Nat} (h : SD mc mm mc' mm' N b p d F L2 M Ln Fr To L W K j cr T C) : gN mc' 4 (16 * b + p) 11 = L := h.2.2.1
theorem SD.c12 {mc mm mc' mm' : MM} {N b p d F L2 M Ln Fr To L W K : Nat} {j cr : Int} {T C : Nat → Nat} (h : SD mc mm mc' mm' N b p d F L2 M Ln Fr To L W K j cr T C) : gN mc' 4 (16 * b + p) 12 = j := h.2.2.2.1
theorem SD.c13 {mc mm mc' mm' : MM} {N b p d F L2 M Ln Fr To L W K : Nat} {j cr : Int} {T C : Nat → Nat} (h : SD mc mm mc' mm' N b p d F L2 M Ln Fr To L W K j cr T C) : gN mc' 4 (16 * b + p) 13 = gN mm' 87 0 (16 * b + p) := h.2.2.2.2.1
theorem SD.c14 {mc mm mc' mm' : MM} {N b p d F L2 M Ln Fr To L W K : Nat} {j cr : Int} {T C : Nat → Nat} (h : SD mc mm mc' mm' N b p d F L2 M Ln Fr To L W K j cr T C) : gN mc' 4 (16 * b + p) 14 = cr := h.2.2.2.2.2.1
theorem SD.c5 {mc mm mc' mm' : MM} {N b p d F L2 M Ln Fr To L W K : Nat} {j cr : Int} {T C : Nat → Nat} (h : SD mc mm mc' mm' N b p d F L2 M Ln Fr To L W K j cr T C) : gN mc' 5 (16 * b + p) 4 = K := h.2.2.2.2.2.2.1
theorem SD.m83 {mc mm mc' mm' : MM} {N b p d F L2 M Ln Fr To L W K : Nat} {j cr : Int} {T C : Nat → Nat} (h : SD mc mm mc' mm' N b p d F L2 M Ln Fr To L W K j cr T C) : gN mm' 83 0 (16 * b + p) = 1 := h.2.2.2.2.2.2.2.1
theorem SD.m84 {mc mm mc' mm' : MM} {N b p d F L2 M Ln Fr To L W K : Nat} {j cr : Int} {T C : Nat → Nat} (h : SD mc mm mc' mm' N b p d F L2 M Ln Fr To L W K j cr T C) : gN mm' 84 0 (16 * b + p) = d := h.2.2.2.2.2.2.2.2.1
theorem SD.m85 {mc mm mc' mm' : MM} {N b p d F L2 M Ln Fr To L W K : Nat} {j cr : Int} {T C : Nat → Nat} (h : SD mc mm mc' mm' N b p d F L2 M Ln Fr To L W K j cr T C) : gN mm' 85 0 (16 * b + p) = j := h.2.2.2.2.2.2.2.2.2.1
theorem SD.m86 {mc mm mc' mm' : MM} {N b p d F L2 M Ln Fr To L W K : Nat} {j cr : Int} {T C : Nat → Nat} (h : SD mc mm mc' mm' N b p d F L2 M Ln Fr To L W K j cr T C) : gN mm' 86 0 (16 * b + p) = cr := h.2.2.2.2.2.2.2.2.2.2.1
theorem SD.m88 {mc mm mc' mm' : MM} {N b p d F L2 M Ln Fr To L W K : Nat} {j cr : Int} {T C : Nat → Nat} (h : SD mc mm mc' mm' N b p d F L2 M Ln Fr To L W K j cr T C) : gN mm' 88 0 (16 * b + p) = L := h.2.2.2.2.2.2.2.2.2.2.2.1
theorem SD.m89 {mc mm mc' mm' : MM} {N b p d F L2 M Ln Fr To L W K : Nat} {j cr : Int} {T C : Nat → Nat} (h : SD mc mm mc' mm' N b p d F L2 M Ln Fr To L W K j cr T C) : gN mm' 89 0 (16 * b + p) = W := h.2.2.2.2.2.2.2.2.2.2.2.2.1
theorem SD.m90 {mc mm mc' mm' : MM} {N b p d F L2 M Ln Fr To L W K : Nat} {j cr : Int} {T C : Nat → Nat} (h : SD mc mm mc' mm' N b p d F L2 M Ln Fr To L W K j cr T C) : gN mm' 90 0 (16 * b + p) = K := h.2.2.2.2.2.2.2.2.2.2.2.2.2.1
theorem SD.lb {mc mm mc' mm' : MM} {N b p d F L2 M Ln Fr To L W K : Nat} {j cr : Int} {T C : Nat → Nat} (h : SD mc mm mc' mm' N b p d F L2 M Ln Fr To L W K j cr T C) : L ≤ Ln ∧ K ≤ M * Ln ∧ (cr = 0 ∨ cr = 1) := h.2.2.2.2.2.2.2.2.2.2.2.2.2.2.1
theorem SD.jb {mc mm mc' mm' : MM} {N b p d F L2 M Ln Fr To L W K : Nat} {j cr : Int} {T C : Nat → Nat} (h : SD mc mm mc' mm' N b p d F L2 M Ln Fr To L W K j cr T C) : (Fr : Int) + W ≤ j ∧ j ≤ To := h.2.2.2.2.2.2.2.2.2.2.2.2.2.2.2.1
theorem SD.l0 {mc mm mc' mm' : MM} {N b p d F L2 M Ln Fr To L W K : Nat} {j cr : Int} {T C : Nat → Nat} (h : SD mc mm mc' mm' N b p d F L2 M Ln Fr To L W K j cr T C) : (L = 0 → W = 0) ∧ (0 < L → T 0 = 0) := h.2.2.2.2.2.2.2.2.2.2.2.2.2.2.2.2.1
theorem SD.ch {mc mm mc' mm' : MM} {N b p d F L2 M Ln Fr To L W K : Nat} {j cr : Int} {T C : Nat → Nat} (h : SD mc mm mc' mm' N b p d F L2 M Ln Fr To L W K j cr T C) : ∀ k, k < L → 1 ≤ C k ∧ T k + C k ≤ W ∧ T k + C k = if k + 1 < L then T (k + 1) else W := h.2.2.2.2.2.2.2.2.2.2.2.2.2.2.2.2.2.1
theorem SD.ln {mc mm mc' mm' : MM} {N b p d F L2 M Ln Fr To L W K : Nat} {j cr : Int} {T C : Nat → Nat} (h : SD mc mm mc' mm' N b p d F L2 M Ln Fr To L W K j cr T C) : ∀ k, k < L → gN mc' 31 (16 * b + p) k = T k ∧ gN mm' 91 0 (6 * (16 * b + p) + k) = T k ∧ gN mm' 92 0 (6 * (16 * b + p) + k) = C k ∧ gN mc' 33 (16 * b + p) k = gN mm' 94 0 (6 * (16 * b + p) + k) ∧ (gN mm' 94 0 (6 * (16 * b + p) + k) = 0 ∨ gN mm' 94 0 (6 * (16 * b + p) + k) = 1) ∧ gN mc' 32 (16 * b + p) k = gN mm' 93 0 (6 * (16 * b + p) + k) ∧ 0 ≤ gN mm' 93 0 (6 * (16 * b + p) + k) := h.2.2.2.2.2.2.2.2.2.2.2.2.2.2.2.2.2.2.1
theorem SD.wd {mc mm mc' mm' : MM} {N b p d F L2 M Ln Fr To L W K : Nat} {j cr : Int} {T C : Nat → Nat} (h : SD mc mm mc' mm' N b p d F L2 M Ln Fr To L W K j cr T C) : ∀ k, k < W → WdR mc mc' mm' b (16 * b + p) Fr To k := h.2.2.2.2.2.2.2.2.2.2.2.2.2.2.2.2.2.2.2.1
theorem SD.fl {mc mm mc' mm' : MM} {N b p d F L2 M Ln Fr To L W K : Nat} {j cr : Int} {T C : Nat → Nat} (h : SD mc mm mc' mm' N b p d F L2 M Ln Fr To L W K j cr T C) : ∀ k i, k < L → T k ≤ i → i + 1 < T k + C k → gN mm' 97 0 (60 * (16 * b + p) + (i + 1)) = gN mc' 29 (16 * b + p) i ∧ 1 ≤ gN mc' 29 (16 * b + p) i ∧ gN mc' 29 (16 * b + p) i ≤ 3 := h.2.2.2.2.2.2.2.2.2.2.2.2.2.2.2.2.2.2.2.2.1
theorem SD.ze {mc mm mc' mm' : MM} {N b p d F L2 M Ln Fr To L W K : Nat} {j cr : Int} {T C : Nat → Nat} (h : SD mc mm mc' mm' N b p d F L2 M Ln Fr To L W K j cr T C) : ∀ k, k < L → gN mm' 97 0 (60 * (16 * b + p) + T k) = 0 := h.2.2.2.2.2.2.2.2.2.2.2.2.2.2.2.2.2.2.2.2.2.1
theorem SD.f1 {mc mm mc' mm' : MM} {N b p d F L2 M Ln Fr To L W K : Nat} {j cr : Int} {T C : Nat → Nat} (h : SD mc mm mc' mm' N b p d F L2 M Ln Fr To L W K j cr T C) : ∀ k, k < W → gN mc' 30 (16 * b + p) k = gN mm' 98 0 (60 * (16 * b + p) + k) ∧ 0 ≤ gN mm' 98 0 (60 * (16 * b + p) + k) ∧ gN mm' 98 0 (60 * (16 * b + p) + k) ≤ K := h.2.2.2.2.2.2.2.2.2.2.2.2.2.2.2.2.2.2.2.2.2.2.1
theorem SD.f2 {mc mm mc' mm' : MM} {N b p d F L2 M Ln Fr To L W K : Nat} {j cr : Int} {T C : Nat → Nat} (h : SD mc mm mc' mm' N b p d F L2 M Ln Fr To L W K j cr T C) : gN mc' 30 (16 * b + p) W = K := h.2.2.2.2.2.2.2.2.2.2.2.2.2.2.2.2.2.2.2.2.2.2.2.1
theorem SD.pl {mc mm mc' mm' : MM} {N b p d F L2 M Ln Fr To L W K : Nat} {j cr : Int} {T C : Nat → Nat} (h : SD mc mm mc' mm' N b p d F L2 M Ln Fr To L W K j cr T C) : RPl mc' mm' (16 * b + p) := h.2.2.2.2.2.2.2.2.2.2.2.2.2.2.2.2.2.2.2.2.2.2.2.2.1
theorem SD.g {mc mm mc' mm' : MM} {N b p d F L2 M Ln Fr To L W K : Nat} {j cr : Int} {T C : Nat → Nat} (h : SD mc mm mc' mm' N b p d F L2 M Ln Fr To L W K j cr T C) : ∀ k, k < K → 0 ≤ gN mm' 102 0 (150 * (16 * b + p) + k) ∧ gN mm' 102 0 (150 * (16 * b + p) + k) ≤ 28 ∧ gN mc' 38 (24 * (16 * b + p)) k = if gN mm' 102 0 (150 * (16 * b + p) + k) = 28 then -1 else gN mm' 102 0 (150 * (16 * b + p) + k) := h.2.2.2.2.2.2.2.2.2.2.2.2.2.2.2.2.2.2.2.2.2.2.2.2.2.1
theorem SD.rc {mc mm mc' mm' : MM} {N b p d F L2 M Ln Fr To L W K : Nat} {j cr : Int} {T C : Nat → Nat} (h : SD mc mm mc' mm' N b p d F L2 M Ln Fr To L W K j cr T C) : RC mc' mm' := h.2.2.2.2.2.2.2.2.2.2.2.2.2.2.2.2.2.2.2.2.2.2.2.2.2.2.1
theorem SD.pc {mc mm mc' mm' : MM} {N b p d F L2 M Ln Fr To L W K : Nat} {j cr : Int} {T C : Nat → Nat} (h : SD mc mm mc' mm' N b p d F L2 M Ln Fr To L W K j cr T C) : RPc mm' := h.2.2.2.2.2.2.2.2.2.2.2.2.2.2.2.2.2.2.2.2.2.2.2.2.2.2.2.1
theorem SD.h3 {mc mm mc' mm' : MM} {N b p d F L2 M Ln Fr To L W K : Nat} {j cr : Int} {T C : Nat → Nat} (h : SD mc mm mc' mm' N b p d F L2 M Ln Fr To L W K j cr T C) : gN mc' 3 d 3 = gN mm' 70 0 d ∧ 0 ≤ gN mm' 70 0 d ∧ gN mm' 70 0 d ≤ ((2000 * (N + 1) : Nat) : Int) := h.2.2.2.2.2.2.2.2.2.2.2.2.2.2.2.2.2.2.2.2.2.2.2.2.2.2.2.2.1
theorem SD.h4 {mc mm mc' mm' : MM} {N b p d F L2 M Ln Fr To L W K : Nat} {j cr : Int} {T C : Nat → Nat} (h : SD mc mm mc' mm' N b p d F L2 M Ln Fr To L W K j cr T C) : gN mc' 3 d 4 = gN mm' 71 0 d ∧ 0 ≤ gN mm' 71 0 d ∧ gN mm' 71 0 d ≤ ((2000 * (N + 1) : Nat) : Int) := h.2.2.2.2.2.2.2.2.2.2.2.2.2.2.2.2.2.2.2.2.2.2.2.2.2.2.2.2.2.1
theorem SD.pt {mc mm mc' mm' : MM} {N b p d F L2 M Ln Fr To L W K : Nat} {j cr : Int} {T C : Nat → Nat} (h : SD mc mm mc' mm' N b p d F L2 M Ln Fr To L W K j cr T C) : PtR mc mm b p L2 Fr To := h.2.2.2.2.2.2.2.2.2.2.2.2.2.2.2.2.2.2.2.2.2.2.2.2.2.2.2.2.2.2
def SCw (q d K i s : Nat) : Prop := (K = 4 ∧ i = q ∧ 9 ≤ s) ∨ (27 ≤ K ∧ K ≤ 33 ∧ i = q) ∨ (K = 3 ∧ i = d ∧ (s = 3 ∨ s = 4)) ∨ K = 22 ∨ K = 24 ∨ (34 ≤ K ∧ K ≤ 36 ∧ i = q) ∨ (K = 38 ∧ i = 24 * q) ∨ (K = 5 ∧ i = q ∧ s = 4)
def SMw (q d K i s : Nat) : Prop := (K = 12 ∧ s = 0) ∨ (83 ≤ K ∧ K ≤ 90 ∧ i = 0 ∧ s = q) ∨ (91 ≤ K ∧ K ≤ 94 ∧ i = 0 ∧ 6 * q ≤ s ∧ s < 6 * q + 6) ∨ (95 ≤ K ∧ K ≤ 98 ∧ i = 0 ∧ 60 * q ≤ s ∧ s < 60 * q + 60) ∨ ((K = 70 ∨ K = 71) ∧ i = 0 ∧ s = d) ∨ K = 64 ∨ K = 66 ∨ (99 ≤ K ∧ K ≤ 102 ∧ i = 0 ∧ 150 * q ≤ s ∧ s < 150 * q + 150)
theorem SCw.of1 {q d K i k : Nat} (z : ScW q d K i k) : SCw q d K i k := by
  rcases z with z | z | z
  · exact Or.inl z
  · exact Or.inr (Or.inl z)
  · exact Or.inr (Or.inr (Or.inl ⟨z.1, z.2.1, Or.inl z.2.2⟩))
theorem SCw.of2 {q d K i k : Nat} (z : PwC1 q K i k) : SCw q d K i k := by
  rcases z with (z | z | z | z | z) | z
  · exact Or.inr (Or.inr (Or.inr (Or.inl z)))
  · exact Or.inr (Or.inr (Or.inr (Or.inr (Or.inl z))))
  · exact Or.inr (Or.inr (Or.inr (Or.inr (Or.inr (Or.inl ⟨z.1.1, z.1.2, z.2⟩)))))
  · exact Or.inr (Or.inr (Or.inr (Or.inr (Or.inr (Or.inr (Or.inl z))))))
  · exact Or.inr (Or.inr (Or.inr (Or.inr (Or.inr (Or.inr (Or.inr z))))))
  · exact Or.inr (Or.inl ⟨by omega, by omega, z.2⟩)
theorem SMw.of1 {q d K i k : Nat} (z : SmW q d K i k) : SMw q d K i k := by
  rcases z with z | z | z | z | z
  · omega
  · exact Or.inr (Or.inl z)
  · exact Or.inr (Or.inr (Or.inl z))
  · exact Or.inr (Or.inr (Or.inr (Or.inl ⟨z.1, by omega, z.2.2⟩)))
  · exact Or.inr (Or.inr (Or.inr (Or.inr (Or.inl ⟨Or.inl z.1, z.2⟩))))
theorem SMw.of2 {q d K i k : Nat} (z : PwM1 q d K i k) : SMw q d K i k := by
  rcases z with (z | z | z | z | z) | z
  · exact Or.inr (Or.inr (Or.inr (Or.inr (Or.inr (Or.inl z)))))
  · exact Or.inr (Or.inr (Or.inr (Or.inr (Or.inr (Or.inr (Or.inl z))))))
  · exact Or.inr (Or.inl ⟨by omega, by omega, z.2⟩)
  · exact Or.inr (Or.inr (Or.inr (Or.inr (Or.inr (Or.inr (Or.inr z))))))
  · exact Or.inr (Or.inr (Or.inr (Or.inr (Or.inl ⟨Or.inr z.1, z.2⟩))))
  · exact Or.inr (Or.inr (Or.inr (Or.inl ⟨by omega, by omega, z.2⟩)))
/-- the page as it was set -/
theorem SD.pg {mc' mm' : MM} {p d Fr To L W K : Nat} {j cr : Int} {T C : Nat → Nat} (h : SD mc mm mc' mm' N b p d F (F * n) M Ln Fr To L W K j cr T C) (hLn : Ln ≤ 6) (hTo : (To : Int) ≤ gN mm' 80 0 b) (hcnt : gN mm' 80 0 b ≤ 60) (h46 : ∀ K i, 46 ≤ K → K ≤ 48 → gL mc' K b i = gL mc K b i ∧ gN mc' K b i = gN mc K b i) : RPg mc' mm' b (16 * b + p) M Ln := by
  have hlb := h.lb
  have hjb := h.jb
  have hl0 := h.l0
  refine ⟨Or.inr ⟨h.m83, by rw [h.c9, h.m84], by rw [h.m84]; omega⟩, fun z => absurd z (by rw [h.m83]; decide), by rw [h.c10, h.m89]; omega, by rw [h.c11, h.m88]; omega, by rw [h.c12, h.m85]; omega, h.c13, by rw [h.c14, h.m86]; exact ⟨rfl, hlb.2.2⟩, by rw [h.c5, h.m90]; omega, fun l hl => ?_, fun l hl => ?_, ⟨fun z => ?_, fun z => ?_⟩, fun k hk => ?_, fun k hk => ?_, fun k hk => ?_, fun l k hl h1 h2 => ?_, fun k hk => ?_, fun _ => ?_⟩
  · rw [h.m88] at hl
    obtain ⟨a1, a2, a3, a4, a5, a6, a7⟩ := h.ln l (by omega)
    exact ⟨by rw [a1, a2], a6, a7, a4, a5⟩
  · rw [h.m88] at hl
    obtain ⟨a1, a2, a3, a4, a5, a6, a7⟩ := h.ln l (by omega)
    obtain ⟨b1, b2, b3⟩ := h.ch l (by omega)
    rw [a2, a3, h.m89, h.m88]
    refine ⟨by omega, by omega, by omega, fun z => ?_, fun z => ?_⟩
    · rw [if_neg (by omega)] at b3
      omega
    · rw [if_pos (by omega)] at b3
      obtain ⟨c1, c2, -⟩ := h.ln (l + 1) (by omega)
      rw [c2]
      omega
  · rw [h.m88] at z
    obtain ⟨a1, a2, -⟩ := h.ln 0 (by omega)
    rw [a2, hl0.2 (by omega)]
    rfl
  · rw [h.m88] at z
    rw [h.m89, hl0.1 (by omega)]
    rfl
  · rw [h.m89] at hk
    obtain ⟨wd, e1, e2, e3, e4, e5⟩ := h.wd k (by omega)
    rw [e1, e2]
    omega
  · rw [h.m89] at hk
    obtain ⟨wd, e1, e2, e3, e4, e5⟩ := h.wd k (by omega)
    rw [e2, tnc, (h46 48 wd (by omega) (by omega)).2]
    exact e4
  · rw [h.m89] at hk
    obtain ⟨wd, e1, e2, e3, e4, e5⟩ := h.wd k (by omega)
    rw [e2, tnc, (h46 46 wd (by omega) (by omega)).1, (h46 47 wd (by omega) (by omega)).1]
    exact e5
  · rw [h.m88] at hl
    obtain ⟨a1, a2, a3, -⟩ := h.ln l (by omega)
    rw [a2] at h1 h2 ⊢
    rw [a3] at h2
    by_cases z : T l = k
    · refine Or.inl ⟨by omega, ?_⟩
      rw [← z]
      exact h.ze l (by omega)
    · obtain ⟨c1, c2, c3⟩ := h.fl l (k - 1) (by omega) (by omega) (by omega)
      rw [show k - 1 + 1 = k by omega] at c1
      exact Or.inr ⟨by omega, c1, by omega, by omega⟩
  · rw [h.m89] at hk
    rw [h.m90]
    exact h.f1 k (by omega)
  · rw [h.m89, tnc, h.f2, h.m90]
set_option maxHeartbeats 4000000 in
theorem set_fin (h : RR N mc mm) (hU : UI mm) (hB : RBk mc mm b F n M Ln E) (hb : (b : Int) < gN mm 12 0 19) {p d : Nat} (hp : p < 2 * (F * n)) (hd : (d : Int) < gN mm 12 0 12) (hun : gN mm 83 0 (16 * b + p) = 0) {mc' mm' : MM} {Fr To L W K : Nat} {j cr : Int} {T C : Nat → Nat} (hTo : (To : Int) ≤ gN mm 80 0 b)
    (hc : FrC (SCw (16 * b + p) d) mc mc') (hm : FrC (SMw (16 * b + p) d) mm mm') (hD : SD mc mm mc' mm' N b p d F (F * n) M Ln Fr To L W K j cr T C) : RR (N + 1) mc' mm' ∧ UI mm' := by
  have hP := hB.hP
  have q0 := hP.hb
  have q1 := hP.hn
  have q2 := hP.hL
  have q3 := hP.hE
  have q4 := hP.ml
  have hcnt := hB.tx.cnt
  have cc : ∀ K i s', ¬ (K = 4 ∧ i = 16 * b + p ∧ 9 ≤ s') ∧ ¬ (27 ≤ K ∧ K ≤ 33 ∧ i = 16 * b + p) ∧ ¬ (K = 3 ∧ i = d ∧ (s' = 3 ∨ s' = 4)) ∧ ¬ (K = 22 ∨ K = 24) ∧ ¬ (34 ≤ K ∧ K ≤ 36 ∧ i = 16 * b + p) ∧ ¬ (K = 38 ∧ i = 24 * (16 * b + p)) ∧ ¬ (K = 5 ∧ i = 16 * b + p ∧ s' = 4) → eq3 mc mc' K i s' := fun K i s' hk => hc.1 K i s' (by unfold SCw; omega)
  have cm : ∀ K i s', ¬ (K = 12 ∧ s' = 0) ∧ ¬ (83 ≤ K ∧ K ≤ 90 ∧ i = 0 ∧ s' = 16 * b + p) ∧ ¬ (91 ≤ K ∧ K ≤ 94 ∧ i = 0 ∧ 6 * (16 * b + p) ≤ s' ∧ s' < 6 * (16 * b + p) + 6) ∧ ¬ (95 ≤ K ∧ K ≤ 98 ∧ i = 0 ∧ 60 * (16 * b + p) ≤ s' ∧ s' < 60 * (16 * b + p) + 60) ∧ ¬ ((K = 70 ∨ K = 71) ∧ i = 0 ∧ s' = d) ∧ ¬ (K = 64 ∨ K = 66) ∧ ¬ (99 ≤ K ∧ K ≤ 102 ∧ i = 0 ∧ 150 * (16 * b + p) ≤ s' ∧ s' < 150 * (16 * b + p) + 150) → eq3 mm mm' K i s' := fun K i s' hk => hm.1 K i s' (by unfold SMw; omega)
  have hzc : ∀ K i, gZ mc' K i = gZ mc K i := hc.2.1
  have hCC : ∀ K, gC mc' K = gC mc K := hc.2.2
  have hzm : ∀ K i k, gZ mm K i = some k → gZ mm' K i = some k := fun K i k hk => by rw [hm.2.1]; exact hk
  have hpgn := hD.pg q2.2 (show (To : Int) ≤ gN mm' 80 0 b by rw [(cm 80 0 b (by omega)).1]; exact hTo) (by rw [(cm 80 0 b (by omega)).1]; exact hcnt.2.2) (fun K i h1 h2 => ⟨(cc K b i (by omega)).2.1, (cc K b i (by omega)).1⟩)
  have hfl := fo_lt hP.hF hp
  have hpn := hB.pn p hp
  -- the forme isn't locked
  have h108 : gN mm 108 0 (8 * b + fo F p) = 0 := by
    have z1 := (hB.ff _ hfl).how
    have z2 := hpn.st
    by_cases z : gN mm 108 0 (8 * b + fo F p) = 0
    · exact z
    · have := z2 (by omega)
      omega
  have h7 : gN mc 2 (8 * b + fo F p) 7 = 1 := by
    rcases (hB.ff _ hfl).ns with z | z
    · exact z.2
    · omega
  have hno : ∀ i k : Nat, (i : Int) < gN mm 12 0 52 → k < 150 → gN mm 105 0 i ≠ ((150 * (16 * b + p) + k : Nat) : Int) := fun i k hi hk z => by
    have := (hpn.c i k hi hk z).1
    omega
  have hU' : UI mm' := fun q hq => by
    by_cases z : q = 16 * b + p
    · rw [z, hD.m83] at hq; omega
    · rw [(cm 83 0 q (by omega)).1] at hq
      rw [(cm 86 0 q (by omega)).1, (cm 87 0 q (by omega)).1]
      exact hU q hq
  have cb : ∀ K i s', isBK K → ¬ CBk b K i → eq3 mc mc' K i s' := fun K i s' hK hn => cc K i s' ⟨fun q => hn (CBk.c (by omega) (by omega)), fun q => hn (CBk.c (by omega) (by omega)), fun q => by unfold isBK at hK; omega, fun q => by unfold isBK at hK; omega, fun q => hn (CBk.c (by omega) (by omega)), fun q => hn (CBk.f (by omega) (by omega)), fun q => hn (CBk.c (by omega) (by omega))⟩
  have mb : ∀ K s', 78 ≤ K → K ≤ 126 → K < 105 ∨ 107 < K → K < 121 ∨ 125 < K → ¬ MBk b K s' → eq3 mm mm' K 0 s' := fun K s' h1 h2 h3 h4 hn => cm K 0 s' ⟨by omega, fun q => hn (MBk.c (by omega) (by omega)), fun q => hn (MBk.d (by omega) (by omega)), fun q => hn (MBk.e (by omega) (by omega)), by omega, by omega, fun q => hn (MBk.f (by omega) (by omega))⟩
  have kH : RH ((2000 * (N + 1) : Nat) : Int) mc' mm' := by
    obtain ⟨z1, z2, z3, z4, z5, z6⟩ := h.H
    have y12 := (cm 12 0 12 (by omega)).1
    refine ⟨by rw [(cc 11 0 7 (by omega)).1, y12]; exact z1, by rw [hCC, y12]; exact z2, fun i hi => by rw [(cc 55 0 i (by omega)).2.2]; exact z3 i (by rw [← y12]; exact hi), fun i hi => by rw [(cc 55 0 i (by omega)).2.2]; exact z4 i (by rw [← y12]; exact hi), fun i hi => ?_, fun i => ?_⟩
    · rw [y12] at hi
      rw [(cc 3 i 0 (by omega)).1, (cc 3 i 1 (by omega)).1, (cc 3 i 2 (by omega)).1, (cm 67 0 i (by omega)).1, (cm 68 0 i (by omega)).1, (cm 69 0 i (by omega)).1]
      exact z5 i hi
    · have z7 := z6 i
      rw [(cc 3 i 5 (by omega)).1, (cm 72 0 i (by omega)).1]
      by_cases z : i = d
      · subst z
        refine ⟨hD.h3, hD.h4, by omega⟩
      · rw [(cc 3 i 3 (by omega)).1, (cc 3 i 4 (by omega)).1, (cm 70 0 i (by omega)).1, (cm 71 0 i (by omega)).1]
        omega
  refine ⟨?_, hU'⟩
  have c78 := (cm 78 0 b (by omega)).1
  have c16 : ∀ k, gN mc' 16 b k = gN mc 16 b k := fun k => (cc 16 b k (by omega)).1
  refine h.one (b0 := b) hzc hCC hb (cm 12 0 19 (by omega)).1 (h.C.mv2 (fun K i s hk => (cc K i s (by omega)).2.2) (fun K i k hk => by rw [hzc]; exact hk)) (h.M.mv2 (fun s hs => (cm 12 0 s (by omega)).2.2) hzm) (h.T.keep (cc 10 0 5 (by omega)).1 (cm 12 0 1 (by omega)).1 (fun k => (cc 50 0 k (by omega)).1) (fun k => (cm 59 0 k (by omega)).1)) (h.Sp.keep (fun K i s hk => cc K i s (by omega)) (fun K i s hk => cm K i s (by omega)))
    hD.rc kH (h.Mi.keep (fun K i s hk => cc K i s (by omega)) (fun K i s hk => cm K i s (by omega))) (h.Pr.keep (fun i s _ => cc 6 i s (by omega)) (fun K s h1 h2 => cm K 0 s (by omega))) (h.Nb.keep (cc 11 0 8 (by omega)).1 (cm 12 0 19 (by omega)).1 (fun s => (cc 56 0 s (by omega)).2.2))
    (fun K i s hk => cc K i s (by omega)) cb (fun K i s hk => cm K i s (by omega)) mb (fun b' p f hbb hb3 hp hf h90 h7 hx => hx.other hbb hp hf cb mb (fun K i s hk => cm K i s (by omega)) h90 h7) (by rw [(cm 12 0 69 (by omega)).1]; exact Int.le_refl _) (fun x => by rw [(cm 63 0 x (by omega)).1]; exact Int.le_refl _) ⟨F, n, M, Ln, E, hP.keep (fun K h1 h2 => (cm K 0 b (by omega)).1), hB.hS.keep hP (fun K i s hk => cc K i s (by unfold CBS at hk; omega)) (fun K i k hk => by rw [hzc]; exact hk), hB.tx.keep (fun K i s hk => cc K i s (by unfold CTx at hk; omega)) (fun K i s hk => cm K i s (by unfold MTx at hk; omega)), fun p' hp' => ?_, fun p' hp' => ?_, fun p' hp' => ?_, fun f hf => (hB.ff f hf).keep (by omega) (fun K i s hk => cc K i s (by unfold CFo at hk; omega)) (fun K i s hk => cm K i s (by unfold MFo at hk; omega)) (by rw [(cm 12 0 69 (by omega)).1]; exact Int.le_refl _), fun p' hp' => ?_, fun f' hf' => ?_, fun s hs => (hB.sh s hs).keep (by omega) (fun K i s' hk => cc K i s' (by unfold CSh at hk; omega)) (fun K i s' hk => cm K i s' (by unfold MSh at hk; omega)), hB.lv.keep (by omega) (by omega) (by omega) (fun K i s hk => cc K i s (by unfold CLv at hk; omega)) (fun K i s hk => cm K i s (by unfold MLv at hk; omega))⟩ (h.Pf.keep (Nat.le_succ N) (fun K i s' hk => cm K i s' (by omega))) hD.pc
  · by_cases q : p' = p
    · rw [q]; exact hpgn
    · exact (hB.pg p' hp').keep (by omega) (fun K i s hk => cc K i s (by unfold CPg at hk; omega)) (fun K i s hk => cm K i s (by unfold MPg at hk; omega))
  · have hx := hB.po p' hp'
    by_cases q : p' = p
    · subst q
      have hjb := hD.jb
      have hpt := hD.pt
      unfold PtR at hpt
      refine ⟨fun _ z1 z2 => ?_, fun _ z1 z2 => ?_, fun _ z1 => ?_, fun _ z1 z2 => ?_⟩
      · rw [hD.m89, hD.m85]; omega
      · rw [c78] at z1
        have y : gN mm 83 0 (16 * b + (p' - 1)) = 1 ∧ gN mm 85 0 (16 * b + (p' - 1)) = Fr := by
          rcases hpt with ⟨-, ⟨w1, -⟩ | ⟨-, w1, w2⟩⟩ | ⟨w1, -⟩
          · exact absurd w1 z2
          · exact ⟨w1, w2⟩
          · exact absurd z1 w1
        rw [(cm 83 0 (16 * b + (p' - 1)) (by omega)).1, (cm 85 0 (16 * b + (p' - 1)) (by omega)).1, hD.m89, hD.m85, y.2]
        exact ⟨y.1, by omega⟩
      · rw [c78] at z1
        have y : gN mc 16 b p' = Fr := by
          rcases hpt with ⟨w1, -⟩ | ⟨-, w1, -⟩
          · exact absurd w1 z1
          · exact w1
        rw [hD.m89, hD.m85, c16, y]
        omega
      · rw [c78] at z1
        have y : gN mc 16 b (p' + 1) = To := by
          rcases hpt with ⟨w1, -⟩ | ⟨-, -, w1⟩
          · exact absurd w1 z1
          · exact w1 z2
        rw [hD.m85, c16, y]
        omega
    · have e83 := (cm 83 0 (16 * b + p') (by omega)).1
      have e85 := (cm 85 0 (16 * b + p') (by omega)).1
      have e89 := (cm 89 0 (16 * b + p') (by omega)).1
      refine ⟨fun z0 z1 z2 => ?_, fun z0 z1 z2 => ?_, fun z0 z1 => ?_, fun z0 z1 z2 => ?_⟩
      · rw [e83] at z0
        rw [c78] at z1
        rw [e85, e89]
        exact hx.a z0 z1 z2
      · rw [e83] at z0
        rw [c78] at z1
        have w := hx.b z0 z1 z2
        have w2 : p' - 1 ≠ p := fun y => by rw [y, hun] at w; omega
        rw [e85, e89, (cm 83 0 (16 * b + (p' - 1)) (by omega)).1, (cm 85 0 (16 * b + (p' - 1)) (by omega)).1]
        exact w
      · rw [e83] at z0
        rw [c78] at z1
        rw [e85, e89, c16]
        exact hx.c z0 z1
      · rw [e83] at z0
        rw [c78] at z1
        rw [e85, c16]
        exact hx.d z0 z1 z2
  · by_cases q : p' = p
    · rw [q]; exact hD.pl
    · exact (hB.pl p' hp').keep (by have := (hB.pg p' hp').pn; omega) (fun K i s hk => cc K i s (by unfold CPl at hk; omega)) (fun K i s hk => cm K i s (by unfold MPl at hk; omega))
  · by_cases q : p' = p
    · subst q
      have y108 := (cm 108 0 (8 * b + fo F p') (by omega)).1
      have y52 := (cm 12 0 52 (by omega)).1
      have y7 := (cc 2 (8 * b + fo F p') 7 (by omega)).1
      have hlb := hD.lb
      have h52 := h.Pf.c
      refine ⟨fun _ => hD.m83, fun k s hk hs => ?_, fun i k hi hk he => ?_⟩
      · rw [hD.m90] at hk
        rw [y7, h7] at hs
        obtain rfl : s = 0 := by omega
        rw [y52, glF_none _ (fun i hi => by
          rw [(cm 105 0 i (by omega)).1]
          exact hno i k (by omega) (by omega))]
        exact hD.g k (by omega)
      · rw [y52] at hi
        rw [(cm 105 0 i (by omega)).1] at he
        exact absurd he (hno i k hi hk)
    · exact (hB.pn p' hp').keep (by have := (hB.pg p' hp').pn; omega) (by have := (hB.ff _ (fo_lt hP.hF hp')).ns; omega) (fun K i s hk => cc K i s (by unfold CPn at hk; omega)) (fun K i s hk => cm K i s (by unfold MPn at hk; omega))
  · have hx := hB.se f' hf'
    have a25 : ∀ x, gN mc' 25 (8 * b + f') x = gN mc 25 (8 * b + f') x := fun x => (cc 25 (8 * b + f') x (by omega)).1
    have b108 := (cm 108 0 (8 * b + f') (by omega)).1
    have b103 : ∀ x, gN mm' 103 0 x = gN mm 103 0 x := fun x => (cm 103 0 x (by omega)).1
    have b104 : ∀ x, gN mm' 104 0 x = gN mm 104 0 x := fun x => (cm 104 0 x (by omega)).1
    have b90 : ∀ p', p' ≠ p → gN mm' 90 0 (16 * b + p') = gN mm 90 0 (16 * b + p') := fun p' z => (cm 90 0 (16 * b + p') (by omega)).1
    have hne : 3 ≤ gN mm 108 0 (8 * b + f') → ∀ p', fo F p' = f' → p' ≠ p := fun z p' y w => by
      rw [w] at y
      rw [y] at h108
      omega
    refine ⟨fun z => by rw [b108] at z; simp only [a25]; exact hx.a z, fun z p' hp' hfo k hk => ?_, fun z x hx' => ?_, fun x => by rw [a25, (cm 63 0 x (by omega)).1]; exact hx.b x⟩
    · rw [b108] at z
      rw [b90 p' (hne z p' hfo)] at hk
      simp only [a25, b103, b104]
      exact hx.s z p' hp' hfo k hk
    · rw [b108] at z
      rw [a25]
      refine hx.z z x fun p' hp' hfo k hk => ?_
      have := hx' p' hp' hfo k (by rw [b90 p' (hne z p' hfo)]; exact hk)
      rw [b103] at this
      exact this
end SET
