/-! BOOKS. Pages and formes; what lies fast. -/
def fo (F p : Nat) : Nat := 2 * (p / (2 * F)) + (if (p % (2 * F) + 1) % 4 < 2 then 0 else 1)
def pif (F p : Nat) : Nat := p % (2 * F) / 2
def fpg (F f j : Nat) : Nat := f / 2 * (2 * F) + 2 * j + (f + j) % 2
theorem fo_lt {F n p : Nat} (hF : F = 2 ∨ F = 4 ∨ F = 8) (hp : p < 2 * (F * n)) : fo F p < 2 * n := by
  rcases hF with rfl | rfl | rfl <;> unfold fo <;> split <;> omega
theorem pif_lt {F p : Nat} (hF : F = 2 ∨ F = 4 ∨ F = 8) : pif F p < F := by
  rcases hF with rfl | rfl | rfl <;> unfold pif <;> omega
theorem fpg_fo {F p : Nat} (hF : F = 2 ∨ F = 4 ∨ F = 8) : fpg F (fo F p) (pif F p) = p := by
  rcases hF with rfl | rfl | rfl <;> unfold fpg fo pif <;> split <;> omega
theorem fo_fpg {F f j : Nat} (hF : F = 2 ∨ F = 4 ∨ F = 8) (hf : f < 8) (hj : j < F) : fo F (fpg F f j) = f := by
  have k2 : ∀ (f : Fin 8) (j : Fin 2), fo 2 (fpg 2 f j) = f := by decide
  have k4 : ∀ (f : Fin 8) (j : Fin 4), fo 4 (fpg 4 f j) = f := by decide
  have k8 : ∀ (f : Fin 8) (j : Fin 8), fo 8 (fpg 8 f j) = f := by decide
  rcases hF with rfl | rfl | rfl
  · exact k2 ⟨f, hf⟩ ⟨j, hj⟩
  · exact k4 ⟨f, hf⟩ ⟨j, hj⟩
  · exact k8 ⟨f, hf⟩ ⟨j, hj⟩
theorem pif_fpg {F f j : Nat} (hF : F = 2 ∨ F = 4 ∨ F = 8) (hj : j < F) : pif F (fpg F f j) = j := by
  rcases hF with rfl | rfl | rfl <;> unfold fpg pif <;> omega
theorem fpg_lt {F n f j : Nat} (hF : F = 2 ∨ F = 4 ∨ F = 8) (hf : f < 2 * n) (hj : j < F) : fpg F f j < 2 * (F * n) := by
  rcases hF with rfl | rfl | rfl <;> unfold fpg <;> omega
/-- a book's measures -/
def BP (mm : MM) (b F n M Ln E : Nat) : Prop := (gN mm 73 0 b = F) ∧
  (gN mm 74 0 b = n) ∧
  (gN mm 75 0 b = M) ∧
  (gN mm 76 0 b = Ln) ∧
  (gN mm 77 0 b = E) ∧
  (F = 2 ∨ F = 4 ∨ F = 8) ∧
  (1 ≤ n ∧ n ≤ 4 ∧ 1 ≤ F * n ∧ F * n ≤ 8) ∧
  (10 ≤ M ∧ M ≤ 24) ∧
  (1 ≤ Ln ∧ Ln ≤ 6) ∧
  (2 ≤ E ∧ E ≤ 24) ∧
  (b < 3) ∧
  (10 ≤ M * Ln ∧ M * Ln ≤ 144)
theorem BP.f {mm : MM} {b F n M Ln E : Nat} (h : BP mm b F n M Ln E) : gN mm 73 0 b = F := h.1
theorem BP.n {mm : MM} {b F n M Ln E : Nat} (h : BP mm b F n M Ln E) : gN mm 74 0 b = n := h.2.1
theorem BP.m {mm : MM} {b F n M Ln E : Nat} (h : BP mm b F n M Ln E) : gN mm 75 0 b = M := h.2.2.1
theorem BP.l {mm : MM} {b F n M Ln E : Nat} (h : BP mm b F n M Ln E) : gN mm 76 0 b = Ln := h.2.2.2.1
theorem BP.e {mm : MM} {b F n M Ln E : Nat} (h : BP mm b F n M Ln E) : gN mm 77 0 b = E := h.2.2.2.2.1
theorem BP.hF {mm : MM} {b F n M Ln E : Nat} (h : BP mm b F n M Ln E) : F = 2 ∨ F = 4 ∨ F = 8 := h.2.2.2.2.2.1
theorem BP.hn {mm : MM} {b F n M Ln E : Nat} (h : BP mm b F n M Ln E) : 1 ≤ n ∧ n ≤ 4 ∧ 1 ≤ F * n ∧ F * n ≤ 8 := h.2.2.2.2.2.2.1
theorem BP.hM {mm : MM} {b F n M Ln E : Nat} (h : BP mm b F n M Ln E) : 10 ≤ M ∧ M ≤ 24 := h.2.2.2.2.2.2.2.1
theorem BP.hL {mm : MM} {b F n M Ln E : Nat} (h : BP mm b F n M Ln E) : 1 ≤ Ln ∧ Ln ≤ 6 := h.2.2.2.2.2.2.2.2.1
theorem BP.hE {mm : MM} {b F n M Ln E : Nat} (h : BP mm b F n M Ln E) : 2 ≤ E ∧ E ≤ 24 := h.2.2.2.2.2.2.2.2.2.1
theorem BP.hb {mm : MM} {b F n M Ln E : Nat} (h : BP mm b F n M Ln E) : b < 3 := h.2.2.2.2.2.2.2.2.2.2.1
theorem BP.ml {mm : MM} {b F n M Ln E : Nat} (h : BP mm b F n M Ln E) : 10 ≤ M * Ln ∧ M * Ln ≤ 144 := h.2.2.2.2.2.2.2.2.2.2.2
/-- the class's cells of a book that lie fast -/
def BS (mc : MM) (b F n M Ln E : Nat) : Prop := (gR mc 56 0 b = some (0, b)) ∧
  (gN mc 0 b 0 = F) ∧
  (gN mc 0 b 1 = M) ∧
  (gN mc 0 b 2 = Ln) ∧
  (gN mc 0 b 3 = E) ∧
  (gR mc 0 b 4 = some (9, b)) ∧
  (gR mc 0 b 5 = some (13, b)) ∧
  (gR mc 0 b 6 = some (14, b)) ∧
  (gR mc 0 b 7 = some (15, b)) ∧
  (gR mc 0 b 8 = some (16, b)) ∧
  (gR mc 0 b 9 = some (17, b)) ∧
  (gZ mc 13 b = some (2 * (F * n))) ∧
  (gZ mc 14 b = some (2 * n)) ∧
  (gZ mc 15 b = some n) ∧
  (gZ mc 16 b = some (2 * (F * n))) ∧
  (gZ mc 17 b = some E) ∧
  (∀ p, p < 2 * (F * n) → gR mc 13 b p = some (4, 16 * b + p)) ∧
  (∀ f, f < 2 * n → gR mc 14 b f = some (2, 8 * b + f)) ∧
  (∀ s, s < n → gR mc 15 b s = some (8, 4 * b + s)) ∧
  (∀ c, c < E → gR mc 17 b c = some (18, 24 * b + c)) ∧
  (∀ c, c < E → gZ mc 18 (24 * b + c) = some (F * n)) ∧
  (gR mc 9 b 0 = some (45, b)) ∧
  (gR mc 9 b 1 = some (46, b)) ∧
  (gR mc 9 b 2 = some (47, b)) ∧
  (gR mc 9 b 3 = some (48, b)) ∧
  (gR mc 9 b 4 = some (49, b)) ∧
  (gZ mc 45 b = some 60) ∧
  (gZ mc 46 b = some 60) ∧
  (gZ mc 47 b = some 60) ∧
  (gZ mc 48 b = some 60) ∧
  (gZ mc 49 b = some 60) ∧
  (∀ p, p < 2 * (F * n) → gN mc 4 (16 * b + p) 0 = M) ∧
  (∀ p, p < 2 * (F * n) → gR mc 4 (16 * b + p) 1 = some (27, 16 * b + p)) ∧
  (∀ p, p < 2 * (F * n) → gR mc 4 (16 * b + p) 2 = some (28, 16 * b + p)) ∧
  (∀ p, p < 2 * (F * n) → gR mc 4 (16 * b + p) 3 = some (29, 16 * b + p)) ∧
  (∀ p, p < 2 * (F * n) → gR mc 4 (16 * b + p) 4 = some (30, 16 * b + p)) ∧
  (∀ p, p < 2 * (F * n) → gR mc 4 (16 * b + p) 5 = some (31, 16 * b + p)) ∧
  (∀ p, p < 2 * (F * n) → gR mc 4 (16 * b + p) 6 = some (32, 16 * b + p)) ∧
  (∀ p, p < 2 * (F * n) → gR mc 4 (16 * b + p) 7 = some (33, 16 * b + p)) ∧
  (∀ p, p < 2 * (F * n) → gR mc 4 (16 * b + p) 8 = some (5, 16 * b + p)) ∧
  (∀ p, p < 2 * (F * n) → gZ mc 27 (16 * b + p) = some 61) ∧
  (∀ p, p < 2 * (F * n) → gZ mc 28 (16 * b + p) = some 61) ∧
  (∀ p, p < 2 * (F * n) → gZ mc 29 (16 * b + p) = some 61) ∧
  (∀ p, p < 2 * (F * n) → gZ mc 30 (16 * b + p) = some 61) ∧
  (∀ p, p < 2 * (F * n) → gZ mc 31 (16 * b + p) = some Ln) ∧
  (∀ p, p < 2 * (F * n) → gZ mc 32 (16 * b + p) = some Ln) ∧
  (∀ p, p < 2 * (F * n) → gZ mc 33 (16 * b + p) = some Ln) ∧
  (∀ p, p < 2 * (F * n) → gR mc 5 (16 * b + p) 0 = some (34, 16 * b + p)) ∧
  (∀ p, p < 2 * (F * n) → gR mc 5 (16 * b + p) 1 = some (35, 16 * b + p)) ∧
  (∀ p, p < 2 * (F * n) → gR mc 5 (16 * b + p) 2 = some (36, 16 * b + p)) ∧
  (∀ p, p < 2 * (F * n) → gR mc 5 (16 * b + p) 3 = some (37, 16 * b + p)) ∧
  (∀ p, p < 2 * (F * n) → gZ mc 34 (16 * b + p) = some (M * Ln)) ∧
  (∀ p, p < 2 * (F * n) → gZ mc 35 (16 * b + p) = some (M * Ln)) ∧
  (∀ p, p < 2 * (F * n) → gZ mc 36 (16 * b + p) = some (M * Ln)) ∧
  (∀ p, p < 2 * (F * n) → gZ mc 37 (16 * b + p) = some E) ∧
  (∀ p s, p < 2 * (F * n) → s < E → gR mc 37 (16 * b + p) s = some (38, 24 * (16 * b + p) + s)) ∧
  (∀ p s, p < 2 * (F * n) → s < E → gZ mc 38 (24 * (16 * b + p) + s) = some (M * Ln)) ∧
  (∀ f, f < 2 * n → gR mc 2 (8 * b + f) 0 = some (19, 8 * b + f)) ∧
  (∀ f, f < 2 * n → gN mc 2 (8 * b + f) 1 = E) ∧
  (∀ f, f < 2 * n → gR mc 2 (8 * b + f) 2 = some (26, 8 * b + f)) ∧
  (∀ f, f < 2 * n → gR mc 2 (8 * b + f) 3 = some (25, 8 * b + f)) ∧
  (∀ f, f < 2 * n → gZ mc 19 (8 * b + f) = some F) ∧
  (∀ f, f < 2 * n → gZ mc 26 (8 * b + f) = some E) ∧
  (∀ f, f < 2 * n → gZ mc 25 (8 * b + f) = some 400) ∧
  (∀ f j, f < 2 * n → j < F → gR mc 19 (8 * b + f) j = some (4, 16 * b + fpg F f j)) ∧
  (∀ s, s < n → gR mc 8 (4 * b + s) 0 = some (2, 8 * b + 2 * s)) ∧
  (∀ s, s < n → gR mc 8 (4 * b + s) 1 = some (2, 8 * b + (2 * s + 1)))
theorem BS.s {mc : MM} {b F n M Ln E : Nat} (h : BS mc b F n M Ln E) : gR mc 56 0 b = some (0, b) := h.1
theorem BS.f0 {mc : MM} {b F n M Ln E : Nat} (h : BS mc b F n M Ln E) : gN mc 0 b 0 = F := h.2.1
theorem BS.f1 {mc : MM} {b F n M Ln E : Nat} (h : BS mc b F n M Ln E) : gN mc 0 b 1 = M := h.2.2.1
theorem BS.f2 {mc : MM} {b F n M Ln E : Nat} (h : BS mc b F n M Ln E) : gN mc 0 b 2 = Ln := h.2.2.2.1
theorem BS.f3 {mc : MM} {b F n M Ln E : Nat} (h : BS mc b F n M Ln E) : gN mc 0 b 3 = E := h.2.2.2.2.1
theorem BS.r4 {mc : MM} {b F n M Ln E : Nat} (h : BS mc b F n M Ln E) : gR mc 0 b 4 = some (9, b) := h.2.2.2.2.2.1
theorem BS.r5 {mc : MM} {b F n M Ln E : Nat} (h : BS mc b F n M Ln E) : gR mc 0 b 5 = some (13, b) := h.2.2.2.2.2.2.1
theorem BS.r6 {mc : MM} {b F n M Ln E : Nat} (h : BS mc b F n M Ln E) : gR mc 0 b 6 = some (14, b) := h.2.2.2.2.2.2.2.1
theorem BS.r7 {mc : MM} {b F n M Ln E : Nat} (h : BS mc b F n M Ln E) : gR mc 0 b 7 = some (15, b) := h.2.2.2.2.2.2.2.2.1
theorem BS.r8 {mc : MM} {b F n M Ln E : Nat} (h : BS mc b F n M Ln E) : gR mc 0 b 8 = some (16, b) := h.2.2.2.2.2.2.2.2.2.1
theorem BS.r9 {mc : MM} {b F n M Ln E : Nat} (h : BS mc b F n M Ln E) : gR mc 0 b 9 = some (17, b) := h.2.2.2.2.2.2.2.2.2.2.1
theorem BS.z13 {mc : MM} {b F n M Ln E : Nat} (h : BS mc b F n M Ln E) : gZ mc 13 b = some (2 * (F * n)) := h.2.2.2.2.2.2.2.2.2.2.2.1
theorem BS.z14 {mc : MM} {b F n M Ln E : Nat} (h : BS mc b F n M Ln E) : gZ mc 14 b = some (2 * n) := h.2.2.2.2.2.2.2.2.2.2.2.2.1
theorem BS.z15 {mc : MM} {b F n M Ln E : Nat} (h : BS mc b F n M Ln E) : gZ mc 15 b = some n := h.2.2.2.2.2.2.2.2.2.2.2.2.2.1
theorem BS.z16 {mc : MM} {b F n M Ln E : Nat} (h : BS mc b F n M Ln E) : gZ mc 16 b = some (2 * (F * n)) := h.2.2.2.2.2.2.2.2.2.2.2.2.2.2.1
theorem BS.z17 {mc : MM} {b F n M Ln E : Nat} (h : BS mc b F n M Ln E) : gZ mc 17 b = some E := h.2.2.2.2.2.2.2.2.2.2.2.2.2.2.2.1
theorem BS.e13 {mc : MM} {b F n M Ln E : Nat} (h : BS mc b F n M Ln E) : ∀ p, p < 2 * (F * n) → gR mc 13 b p = some (4, 16 * b + p) := h.2.2.2.2.2.2.2.2.2.2.2.2.2.2.2.2.1
theorem BS.e14 {mc : MM} {b F n M Ln E : Nat} (h : BS mc b F n M Ln E) : ∀ f, f < 2 * n → gR mc 14 b f = some (2, 8 * b + f) := h.2.2.2.2.2.2.2.2.2.2.2.2.2.2.2.2.2.1
theorem BS.e15 {mc : MM} {b F n M Ln E : Nat} (h : BS mc b F n M Ln E) : ∀ s, s < n → gR mc 15 b s = some (8, 4 * b + s) := h.2.2.2.2.2.2.2.2.2.2.2.2.2.2.2.2.2.2.1
theorem BS.e17 {mc : MM} {b F n M Ln E : Nat} (h : BS mc b F n M Ln E) : ∀ c, c < E → gR mc 17 b c = some (18, 24 * b + c) := h.2.2.2.2.2.2.2.2.2.2.2.2.2.2.2.2.2.2.2.1
theorem BS.z18 {mc : MM} {b F n M Ln E : Nat} (h : BS mc b F n M Ln E) : ∀ c, c < E → gZ mc 18 (24 * b + c) = some (F * n) := h.2.2.2.2.2.2.2.2.2.2.2.2.2.2.2.2.2.2.2.2.1
theorem BS.t0 {mc : MM} {b F n M Ln E : Nat} (h : BS mc b F n M Ln E) : gR mc 9 b 0 = some (45, b) := h.2.2.2.2.2.2.2.2.2.2.2.2.2.2.2.2.2.2.2.2.2.1
theorem BS.t1 {mc : MM} {b F n M Ln E : Nat} (h : BS mc b F n M Ln E) : gR mc 9 b 1 = some (46, b) := h.2.2.2.2.2.2.2.2.2.2.2.2.2.2.2.2.2.2.2.2.2.2.1
theorem BS.t2 {mc : MM} {b F n M Ln E : Nat} (h : BS mc b F n M Ln E) : gR mc 9 b 2 = some (47, b) := h.2.2.2.2.2.2.2.2.2.2.2.2.2.2.2.2.2.2.2.2.2.2.2.1
theorem BS.t3 {mc : MM} {b F n M Ln E : Nat} (h : BS mc b F n M Ln E) : gR mc 9 b 3 = some (48, b) := h.2.2.2.2.2.2.2.2.2.2.2.2.2.2.2.2.2.2.2.2.2.2.2.2.1
theorem BS.t4 {mc : MM} {b F n M Ln E : Nat} (h : BS mc b F n M Ln E) : gR mc 9 b 4 = some (49, b) := h.2.2.2.2.2.2.2.2.2.2.2.2.2.2.2.2.2.2.2.2.2.2.2.2.2.1
theorem BS.z45 {mc : MM} {b F n M Ln E : Nat} (h : BS mc b F n M Ln E) : gZ mc 45 b = some 60 := h.2.2.2.2.2.2.2.2.2.2.2.2.2.2.2.2.2.2.2.2.2.2.2.2.2.2.1
theorem BS.z46 {mc : MM} {b F n M Ln E : Nat} (h : BS mc b F n M Ln E) : gZ mc 46 b = some 60 := h.2.2.2.2.2.2.2.2.2.2.2.2.2.2.2.2.2.2.2.2.2.2.2.2.2.2.2.1
theorem BS.z47 {mc : MM} {b F n M Ln E : Nat} (h : BS mc b F n M Ln E) : gZ mc 47 b = some 60 := h.2.2.2.2.2.2.2.2.2.2.2.2.2.2.2.2.2.2.2.2.2.2.2.2.2.2.2.2.1
theorem BS.z48 {mc : MM} {b F n M Ln E : Nat} (h : BS mc b F n M Ln E) : gZ mc 48 b = some 60 := h.2.2.2.2.2.2.2.2.2.2.2.2.2.2.2.2.2.2.2.2.2.2.2.2.2.2.2.2.2.1
theorem BS.z49 {mc : MM} {b F n M Ln E : Nat} (h : BS mc b F n M Ln E) : gZ mc 49 b = some 60 := h.2.2.2.2.2.2.2.2.2.2.2.2.2.2.2.2.2.2.2.2.2.2.2.2.2.2.2.2.2.2.1
theorem BS.p0 {mc : MM} {b F n M Ln E : Nat} (h : BS mc b F n M Ln E) : ∀ p, p < 2 * (F * n) → gN mc 4 (16 * b + p) 0 = M := h.2.2.2.2.2.2.2.2.2.2.2.2.2.2.2.2.2.2.2.2.2.2.2.2.2.2.2.2.2.2.2.1
theorem BS.p1 {mc : MM} {b F n M Ln E : Nat} (h : BS mc b F n M Ln E) : ∀ p, p < 2 * (F * n) → gR mc 4 (16 * b + p) 1 = some (27, 16 * b + p) := h.2.2.2.2.2.2.2.2.2.2.2.2.2.2.2.2.2.2.2.2.2.2.2.2.2.2.2.2.2.2.2.2.1
theorem BS.p2 {mc : MM} {b F n M Ln E : Nat} (h : BS mc b F n M Ln E) : ∀ p, p < 2 * (F * n) → gR mc 4 (16 * b + p) 2 = some (28, 16 * b + p) := h.2.2.2.2.2.2.2.2.2.2.2.2.2.2.2.2.2.2.2.2.2.2.2.2.2.2.2.2.2.2.2.2.2.1
theorem BS.p3 {mc : MM} {b F n M Ln E : Nat} (h : BS mc b F n M Ln E) : ∀ p, p < 2 * (F * n) → gR mc 4 (16 * b + p) 3 = some (29, 16 * b + p) := h.2.2.2.2.2.2.2.2.2.2.2.2.2.2.2.2.2.2.2.2.2.2.2.2.2.2.2.2.2.2.2.2.2.2.1
theorem BS.p4 {mc : MM} {b F n M Ln E : Nat} (h : BS mc b F n M Ln E) : ∀ p, p < 2 * (F * n) → gR mc 4 (16 * b + p) 4 = some (30, 16 * b + p) := h.2.2.2.2.2.2.2.2.2.2.2.2.2.2.2.2.2.2.2.2.2.2.2.2.2.2.2.2.2.2.2.2.2.2.2.1
theorem BS.p5 {mc : MM} {b F n M Ln E : Nat} (h : BS mc b F n M Ln E) : ∀ p, p < 2 * (F * n) → gR mc 4 (16 * b + p) 5 = some (31, 16 * b + p) := h.2.2.2.2.2.2.2.2.2.2.2.2.2.2.2.2.2.2.2.2.2.2.2.2.2.2.2.2.2.2.2.2.2.2.2.2.1
theorem BS.p6 {mc : MM} {b F n M Ln E : Nat} (h : BS mc b F n M Ln E) : ∀ p, p < 2 * (F * n) → gR mc 4 (16 * b + p) 6 = some (32, 16 * b + p) := h.2.2.2.2.2.2.2.2.2.2.2.2.2.2.2.2.2.2.2.2.2.2.2.2.2.2.2.2.2.2.2.2.2.2.2.2.2.1
theorem BS.p7 {mc : MM} {b F n M Ln E : Nat} (h : BS mc b F n M Ln E) : ∀ p, p < 2 * (F * n) → gR mc 4 (16 * b + p) 7 = some (33, 16 * b + p) := h.2.2.2.2.2.2.2.2.2.2.2.2.2.2.2.2.2.2.2.2.2.2.2.2.2.2.2.2.2.2.2.2.2.2.2.2.2.2.1
theorem BS.p8 {mc : MM} {b F n M Ln E : Nat} (h : BS mc b F n M Ln E) : ∀ p, p < 2 * (F * n) → gR mc 4 (16 * b + p) 8 = some (5, 16 * b + p) := h.2.2.2.2.2.2.2.2.2.2.2.2.2.2.2.2.2.2.2.2.2.2.2.2.2.2.2.2.2.2.2.2.2.2.2.2.2.2.2.1
theorem BS.z27 {mc : MM} {b F n M Ln E : Nat} (h : BS mc b F n M Ln E) : ∀ p, p < 2 * (F * n) → gZ mc 27 (16 * b + p) = some 61 := h.2.2.2.2.2.2.2.2.2.2.2.2.2.2.2.2.2.2.2.2.2.2.2.2.2.2.2.2.2.2.2.2.2.2.2.2.2.2.2.2.1
theorem BS.z28 {mc : MM} {b F n M Ln E : Nat} (h : BS mc b F n M Ln E) : ∀ p, p < 2 * (F * n) → gZ mc 28 (16 * b + p) = some 61 := h.2.2.2.2.2.2.2.2.2.2.2.2.2.2.2.2.2.2.2.2.2.2.2.2.2.2.2.2.2.2.2.2.2.2.2.2.2.2.2.2.2.1
theorem BS.z29 {mc : MM} {b F n M Ln E : Nat} (h : BS mc b F n M Ln E) : ∀ p, p < 2 * (F * n) → gZ mc 29 (16 * b + p) = some 61 := h.2.2.2.2.2.2.2.2.2.2.2.2.2.2.2.2.2.2.2.2.2.2.2.2.2.2.2.2.2.2.2.2.2.2.2.2.2.2.2.2.2.2.1
theorem BS.z30 {mc : MM} {b F n M Ln E : Nat} (h : BS mc b F n M Ln E) : ∀ p, p < 2 * (F * n) → gZ mc 30 (16 * b + p) = some 61 := h.2.2.2.2.2.2.2.2.2.2.2.2.2.2.2.2.2.2.2.2.2.2.2.2.2.2.2.2.2.2.2.2.2.2.2.2.2.2.2.2.2.2.2.1
theorem BS.z31 {mc : MM} {b F n M Ln E : Nat} (h : BS mc b F n M Ln E) : ∀ p, p < 2 * (F * n) → gZ mc 31 (16 * b + p) = some Ln := h.2.2.2.2.2.2.2.2.2.2.2.2.2.2.2.2.2.2.2.2.2.2.2.2.2.2.2.2.2.2.2.2.2.2.2.2.2.2.2.2.2.2.2.2.1
theorem BS.z32 {mc : MM} {b F n M Ln E : Nat} (h : BS mc b F n M Ln E) : ∀ p, p < 2 * (F * n) → gZ mc 32 (16 * b + p) = some Ln := h.2.2.2.2.2.2.2.2.2.2.2.2.2.2.2.2.2.2.2.2.2.2.2.2.2.2.2.2.2.2.2.2.2.2.2.2.2.2.2.2.2.2.2.2.2.1
theorem BS.z33 {mc : MM} {b F n M Ln E : Nat} (h : BS mc b F n M Ln E) : ∀ p, p < 2 * (F * n) → gZ mc 33 (16 * b + p) = some Ln := h.2.2.2.2.2.2.2.2.2.2.2.2.2.2.2.2.2.2.2.2.2.2.2.2.2.2.2.2.2.2.2.2.2.2.2.2.2.2.2.2.2.2.2.2.2.2.1
theorem BS.q0 {mc : MM} {b F n M Ln E : Nat} (h : BS mc b F n M Ln E) : ∀ p, p < 2 * (F * n) → gR mc 5 (16 * b + p) 0 = some (34, 16 * b + p) := h.2.2.2.2.2.2.2.2.2.2.2.2.2.2.2.2.2.2.2.2.2.2.2.2.2.2.2.2.2.2.2.2.2.2.2.2.2.2.2.2.2.2.2.2.2.2.2.1
theorem BS.q1 {mc : MM} {b F n M Ln E : Nat} (h : BS mc b F n M Ln E) : ∀ p, p < 2 * (F * n) → gR mc 5 (16 * b + p) 1 = some (35, 16 * b + p) := h.2.2.2.2.2.2.2.2.2.2.2.2.2.2.2.2.2.2.2.2.2.2.2.2.2.2.2.2.2.2.2.2.2.2.2.2.2.2.2.2.2.2.2.2.2.2.2.2.1
theorem BS.q2 {mc : MM} {b F n M Ln E : Nat} (h : BS mc b F n M Ln E) : ∀ p, p < 2 * (F * n) → gR mc 5 (16 * b + p) 2 = some (36, 16 * b + p) := h.2.2.2.2.2.2.2.2.2.2.2.2.2.2.2.2.2.2.2.2.2.2.2.2.2.2.2.2.2.2.2.2.2.2.2.2.2.2.2.2.2.2.2.2.2.2.2.2.2.1
theorem BS.q3 {mc : MM} {b F n M Ln E : Nat} (h : BS mc b F n M Ln E) : ∀ p, p < 2 * (F * n) → gR mc 5 (16 * b + p) 3 = some (37, 16 * b + p) := h.2.2.2.2.2.2.2.2.2.2.2.2.2.2.2.2.2.2.2.2.2.2.2.2.2.2.2.2.2.2.2.2.2.2.2.2.2.2.2.2.2.2.2.2.2.2.2.2.2.2.1
theorem BS.z34 {mc : MM} {b F n M Ln E : Nat} (h : BS mc b F n M Ln E) : ∀ p, p < 2 * (F * n) → gZ mc 34 (16 * b + p) = some (M * Ln) := h.2.2.2.2.2.2.2.2.2.2.2.2.2.2.2.2.2.2.2.2.2.2.2.2.2.2.2.2.2.2.2.2.2.2.2.2.2.2.2.2.2.2.2.2.2.2.2.2.2.2.2.1
theorem BS.z35 {mc : MM} {b F n M Ln E : Nat} (h : BS mc b F n M Ln E) : ∀ p, p < 2 * (F * n) → gZ mc 35 (16 * b + p) = some (M * Ln) := h.2.2.2.2.2.2.2.2.2.2.2.2.2.2.2.2.2.2.2.2.2.2.2.2.2.2.2.2.2.2.2.2.2.2.2.2.2.2.2.2.2.2.2.2.2.2.2.2.2.2.2.2.1
theorem BS.z36 {mc : MM} {b F n M Ln E : Nat} (h : BS mc b F n M Ln E) : ∀ p, p < 2 * (F * n) → gZ mc 36 (16 * b + p) = some (M * Ln) := h.2.2.2.2.2.2.2.2.2.2.2.2.2.2.2.2.2.2.2.2.2.2.2.2.2.2.2.2.2.2.2.2.2.2.2.2.2.2.2.2.2.2.2.2.2.2.2.2.2.2.2.2.2.1
theorem BS.z37 {mc : MM} {b F n M Ln E : Nat} (h : BS mc b F n M Ln E) : ∀ p, p < 2 * (F * n) → gZ mc 37 (16 * b + p) = some E := h.2.2.2.2.2.2.2.2.2.2.2.2.2.2.2.2.2.2.2.2.2.2.2.2.2.2.2.2.2.2.2.2.2.2.2.2.2.2.2.2.2.2.2.2.2.2.2.2.2.2.2.2.2.2.1
theorem BS.e37 {mc : MM} {b F n M Ln E : Nat} (h : BS mc b F n M Ln E) : ∀ p s, p < 2 * (F * n) → s < E → gR mc 37 (16 * b + p) s = some (38, 24 * (16 * b + p) + s) := h.2.2.2.2.2.2.2.2.2.2.2.2.2.2.2.2.2.2.2.2.2.2.2.2.2.2.2.2.2.2.2.2.2.2.2.2.2.2.2.2.2.2.2.2.2.2.2.2.2.2.2.2.2.2.2.1
theorem BS.z38 {mc : MM} {b F n M Ln E : Nat} (h : BS mc b F n M Ln E) : ∀ p s, p < 2 * (F * n) → s < E → gZ mc 38 (24 * (16 * b + p) + s) = some (M * Ln) := h.2.2.2.2.2.2.2.2.2.2.2.2.2.2.2.2.2.2.2.2.2.2.2.2.2.2.2.2.2.2.2.2.2.2.2.2.2.2.2.2.2.2.2.2.2.2.2.2.2.2.2.2.2.2.2.2.1
theorem BS.o0 {mc : MM} {b F n M Ln E : Nat} (h : BS mc b F n M Ln E) : ∀ f, f < 2 * n → gR mc 2 (8 * b + f) 0 = some (19, 8 * b + f) := h.2.2.2.2.2.2.2.2.2.2.2.2.2.2.2.2.2.2.2.2.2.2.2.2.2.2.2.2.2.2.2.2.2.2.2.2.2.2.2.2.2.2.2.2.2.2.2.2.2.2.2.2.2.2.2.2.2.1
theorem BS.o1 {mc : MM} {b F n M Ln E : Nat} (h : BS mc b F n M Ln E) : ∀ f, f < 2 * n → gN mc 2 (8 * b + f) 1 = E := h.2.2.2.2.2.2.2.2.2.2.2.2.2.2.2.2.2.2.2.2.2.2.2.2.2.2.2.2.2.2.2.2.2.2.2.2.2.2.2.2.2.2.2.2.2.2.2.2.2.2.2.2.2.2.2.2.2.2.1
theorem BS.o2 {mc : MM} {b F n M Ln E : Nat} (h : BS mc b F n M Ln E) : ∀ f, f < 2 * n → gR mc 2 (8 * b + f) 2 = some (26, 8 * b + f) := h.2.2.2.2.2.2.2.2.2.2.2.2.2.2.2.2.2.2.2.2.2.2.2.2.2.2.2.2.2.2.2.2.2.2.2.2.2.2.2.2.2.2.2.2.2.2.2.2.2.2.2.2.2.2.2.2.2.2.2.1
theorem BS.o3 {mc : MM} {b F n M Ln E : Nat} (h : BS mc b F n M Ln E) : ∀ f, f < 2 * n → gR mc 2 (8 * b + f) 3 = some (25, 8 * b + f) := h.2.2.2.2.2.2.2.2.2.2.2.2.2.2.2.2.2.2.2.2.2.2.2.2.2.2.2.2.2.2.2.2.2.2.2.2.2.2.2.2.2.2.2.2.2.2.2.2.2.2.2.2.2.2.2.2.2.2.2.2.1
theorem BS.z19 {mc : MM} {b F n M Ln E : Nat} (h : BS mc b F n M Ln E) : ∀ f, f < 2 * n → gZ mc 19 (8 * b + f) = some F := h.2.2.2.2.2.2.2.2.2.2.2.2.2.2.2.2.2.2.2.2.2.2.2.2.2.2.2.2.2.2.2.2.2.2.2.2.2.2.2.2.2.2.2.2.2.2.2.2.2.2.2.2.2.2.2.2.2.2.2.2.2.1
theorem BS.z26 {mc : MM} {b F n M Ln E : Nat} (h : BS mc b F n M Ln E) : ∀ f, f < 2 * n → gZ mc 26 (8 * b + f) = some E := h.2.2.2.2.2.2.2.2.2.2.2.2.2.2.2.2.2.2.2.2.2.2.2.2.2.2.2.2.2.2.2.2.2.2.2.2.2.2.2.2.2.2.2.2.2.2.2.2.2.2.2.2.2.2.2.2.2.2.2.2.2.2.1
theorem BS.z25 {mc : MM} {b F n M Ln E : Nat} (h : BS mc b F n M Ln E) : ∀ f, f < 2 * n → gZ mc 25 (8 * b + f) = some 400 := h.2.2.2.2.2.2.2.2.2.2.2.2.2.2.2.2.2.2.2.2.2.2.2.2.2.2.2.2.2.2.2.2.2.2.2.2.2.2.2.2.2.2.2.2.2.2.2.2.2.2.2.2.2.2.2.2.2.2.2.2.2.2.2.1
theorem BS.e19 {mc : MM} {b F n M Ln E : Nat} (h : BS mc b F n M Ln E) : ∀ f j, f < 2 * n → j < F → gR mc 19 (8 * b + f) j = some (4, 16 * b + fpg F f j) := h.2.2.2.2.2.2.2.2.2.2.2.2.2.2.2.2.2.2.2.2.2.2.2.2.2.2.2.2.2.2.2.2.2.2.2.2.2.2.2.2.2.2.2.2.2.2.2.2.2.2.2.2.2.2.2.2.2.2.2.2.2.2.2.2.1
theorem BS.h0 {mc : MM} {b F n M Ln E : Nat} (h : BS mc b F n M Ln E) : ∀ s, s < n → gR mc 8 (4 * b + s) 0 = some (2, 8 * b + 2 * s) := h.2.2.2.2.2.2.2.2.2.2.2.2.2.2.2.2.2.2.2.2.2.2.2.2.2.2.2.2.2.2.2.2.2.2.2.2.2.2.2.2.2.2.2.2.2.2.2.2.2.2.2.2.2.2.2.2.2.2.2.2.2.2.2.2.2.1
theorem BS.h1 {mc : MM} {b F n M Ln E : Nat} (h : BS mc b F n M Ln E) : ∀ s, s < n → gR mc 8 (4 * b + s) 1 = some (2, 8 * b + (2 * s + 1)) := h.2.2.2.2.2.2.2.2.2.2.2.2.2.2.2.2.2.2.2.2.2.2.2.2.2.2.2.2.2.2.2.2.2.2.2.2.2.2.2.2.2.2.2.2.2.2.2.2.2.2.2.2.2.2.2.2.2.2.2.2.2.2.2.2.2.2
/-- a word's length, from the model's packing -/
def LW (w : Int64) (n : Nat) : Prop := ∃ l, okW l ∧ w = Int64.ofNat (mwN l) ∧ l.length = n
theorem LW.one {w : Int64} {n k : Nat} (h : LW w n) (h' : LW w k) : n = k := by
  obtain ⟨l, a, b, rfl⟩ := h
  obtain ⟨l', a', b', rfl⟩ := h'
  have := a.m
  have := a'.m
  rw [mwN_inj l l' a.2 a'.2 (ofNat_inj (by omega) (by omega) (b.symm.trans b'))]
noncomputable def mln (w : Int64) : Nat := Classical.epsilon (LW w)
theorem LW.mln {w : Int64} {n : Nat} (h : LW w n) : mln w = n := (Classical.epsilon_spec (p := LW w) ⟨n, h⟩).one h
theorem WW.lw {c w : Int64} (h : WW c w) : LW w (mln w) ∧ mln w ≤ 8 := by
  obtain ⟨l, a, b, c⟩ := h
  have h1 : LW w l.length := ⟨l, a, c, rfl⟩
  rw [h1.mln]
  exact ⟨h1, a.1⟩
theorem WW.len_c {m : MM} {c w : Int64} (h : WW c w) : f_X11_letters m c = some (mln w : Int) := by
  obtain ⟨l, a, rfl, rfl⟩ := h
  rw [letters_c a, LW.mln ⟨l, a, rfl, rfl⟩]
theorem WW.len_m {m : MM} {c w : Int64} (h : WW c w) : f_X12_letters m w = some (mln w : Int) := by
  obtain ⟨l, a, rfl, rfl⟩ := h
  rw [letters_m a, LW.mln ⟨l, a, rfl, rfl⟩]
/-- units of the first words -/
noncomputable def usN (w : Nat → Int64) : Nat → Nat
  | 0 => 0
  | k + 1 => usN w k + (mln (w k) + 1)
/-- the first word ahead of which there are lim units or more -/
def CFR (us : Nat → Nat) (n lim k : Nat) : Prop := k ≤ n ∧ (k = n ∨ lim ≤ us k) ∧ ∀ j, j < k → us j < lim
theorem CFR.one {us : Nat → Nat} {n lim k k' : Nat} (h : CFR us n lim k) (h' : CFR us n lim k') : k = k' := by
  obtain ⟨a, b, c⟩ := h
  obtain ⟨a', b', c'⟩ := h'
  rcases Nat.lt_trichotomy k k' with q | q | q
  · have := c' k q
    omega
  · exact q
  · have := c k' q
    omega
theorem CFR.mono {us : Nat → Nat} {n lim lim' k k' : Nat} (h : CFR us n lim k) (h' : CFR us n lim' k') (hl : lim ≤ lim') : k ≤ k' := by
  obtain ⟨a, b, c⟩ := h
  obtain ⟨a', b', c'⟩ := h'
  rcases Nat.lt_or_ge k' k with q | q
  · have := c k' q
    omega
  · exact q
def hold (M Ln : Nat) (pc : Int) : Nat := max 1 (M * Ln * pc.toNat / 100)
def RSp (mc mm : MM) : Prop := (gN mc 10 0 6 = gN mm 12 0 3) ∧
  (0 ≤ gN mm 12 0 3 ∧ gN mm 12 0 3 ≤ 6) ∧
  (∀ s : Nat, (s : Int) < gN mm 12 0 3 → WW (gL mc 53 0 s) (gL mm 60 0 s) ∧ WW (gL mc 54 0 s) (gL mm 61 0 s)) ∧
  (∀ s : Nat, (s : Int) < gN mm 12 0 3 → mln (gL mm 60 0 s) + 1 ≤ mln (gL mm 61 0 s) ∧ mln (gL mm 61 0 s) ≤ mln (gL mm 60 0 s) + 3) ∧
  (∀ s t : Nat, (s : Int) < gN mm 12 0 3 → (t : Int) < gN mm 12 0 3 → s ≠ t → gL mm 60 0 s ≠ gL mm 60 0 t ∧ gL mm 61 0 s ≠ gL mm 61 0 t ∧ gL mm 60 0 s ≠ gL mm 61 0 t)
theorem RSp.c {mc mm : MM} (h : RSp mc mm) : gN mc 10 0 6 = gN mm 12 0 3 := h.1
theorem RSp.b {mc mm : MM} (h : RSp mc mm) : 0 ≤ gN mm 12 0 3 ∧ gN mm 12 0 3 ≤ 6 := h.2.1
theorem RSp.w {mc mm : MM} (h : RSp mc mm) : ∀ s : Nat, (s : Int) < gN mm 12 0 3 → WW (gL mc 53 0 s) (gL mm 60 0 s) ∧ WW (gL mc 54 0 s) (gL mm 61 0 s) := h.2.2.1
theorem RSp.l {mc mm : MM} (h : RSp mc mm) : ∀ s : Nat, (s : Int) < gN mm 12 0 3 → mln (gL mm 60 0 s) + 1 ≤ mln (gL mm 61 0 s) ∧ mln (gL mm 61 0 s) ≤ mln (gL mm 60 0 s) + 3 := h.2.2.2.1
theorem RSp.d {mc mm : MM} (h : RSp mc mm) : ∀ s t : Nat, (s : Int) < gN mm 12 0 3 → (t : Int) < gN mm 12 0 3 → s ≠ t → gL mm 60 0 s ≠ gL mm 60 0 t ∧ gL mm 61 0 s ≠ gL mm 61 0 t ∧ gL mm 60 0 s ≠ gL mm 61 0 t := h.2.2.2.2
def RNb (mc mm : MM) : Prop := (gN mc 11 0 8 = gN mm 12 0 19) ∧
  (0 ≤ gN mm 12 0 19 ∧ gN mm 12 0 19 ≤ 3) ∧
  (∀ b : Nat, (b : Int) < gN mm 12 0 19 → gR mc 56 0 b = some (0, b)) ∧
  (∀ b : Nat, gN mm 12 0 19 ≤ b → gR mc 56 0 b = none)
theorem RNb.c {mc mm : MM} (h : RNb mc mm) : gN mc 11 0 8 = gN mm 12 0 19 := h.1
theorem RNb.r {mc mm : MM} (h : RNb mc mm) : 0 ≤ gN mm 12 0 19 ∧ gN mm 12 0 19 ≤ 3 := h.2.1
theorem RNb.s {mc mm : MM} (h : RNb mc mm) : ∀ b : Nat, (b : Int) < gN mm 12 0 19 → gR mc 56 0 b = some (0, b) := h.2.2.1
theorem RNb.z {mc mm : MM} (h : RNb mc mm) : ∀ b : Nat, gN mm 12 0 19 ≤ b → gR mc 56 0 b = none := h.2.2.2
/-- the copy of a book -/
def RTx (mc mm : MM) (b L M Ln : Nat) : Prop := (gN mc 9 b 5 = gN mm 80 0 b ∧ 0 ≤ gN mm 80 0 b ∧ gN mm 80 0 b ≤ 60) ∧
  (∀ k : Nat, (k : Int) < gN mm 80 0 b → WW (gL mc 45 b k) (gL mm 81 0 (60 * b + k))) ∧
  (∀ k : Nat, (k : Int) < gN mm 80 0 b → gN mc 49 b k = gN mm 82 0 (60 * b + k) ∧ (gN mm 82 0 (60 * b + k) = 0 ∨ gN mm 82 0 (60 * b + k) = 1)) ∧
  (∀ k : Nat, (k : Int) < gN mm 80 0 b → SpR (gN mm 12 0 3).toNat (gL mm 60 0) (gL mm 61 0) (gL mm 81 0 (60 * b + k)) (gN mc 48 b k)) ∧
  (∀ k : Nat, (k : Int) < gN mm 80 0 b → (gN mc 48 b k = -1 ∧ gL mc 46 b k = gL mc 45 b k ∧ gL mc 47 b k = gL mc 45 b k) ∨ ∃ s : Nat, gN mc 48 b k = s ∧ (s : Int) < gN mm 12 0 3 ∧ gL mc 46 b k = gL mc 53 0 s ∧ gL mc 47 b k = gL mc 54 0 s) ∧
  (gN mm 78 0 b = 0 ∨ (50 ≤ gN mm 78 0 b ∧ gN mm 78 0 b ≤ 150 ∧ 0 < gN mm 80 0 b)) ∧
  (gN mc 0 b 10 = if gN mm 78 0 b = 0 then 0 else 1) ∧
  (gN mm 78 0 b ≠ 0 → ∀ p, p < 2 * L → ∃ k : Nat, gN mc 16 b p = k ∧ CFR (usN fun k => gL mm 81 0 (60 * b + k)) (gN mm 80 0 b).toNat (p * hold M Ln (gN mm 78 0 b)) k)
theorem RTx.cnt {mc mm : MM} {b L M Ln : Nat} (h : RTx mc mm b L M Ln) : gN mc 9 b 5 = gN mm 80 0 b ∧ 0 ≤ gN mm 80 0 b ∧ gN mm 80 0 b ≤ 60 := h.1
theorem RTx.told {mc mm : MM} {b L M Ln : Nat} (h : RTx mc mm b L M Ln) : ∀ k : Nat, (k : Int) < gN mm 80 0 b → WW (gL mc 45 b k) (gL mm 81 0 (60 * b + k)) := h.2.1
theorem RTx.ends {mc mm : MM} {b L M Ln : Nat} (h : RTx mc mm b L M Ln) : ∀ k : Nat, (k : Int) < gN mm 80 0 b → gN mc 49 b k = gN mm 82 0 (60 * b + k) ∧ (gN mm 82 0 (60 * b + k) = 0 ∨ gN mm 82 0 (60 * b + k) = 1) := h.2.2.1
theorem RTx.sp {mc mm : MM} {b L M Ln : Nat} (h : RTx mc mm b L M Ln) : ∀ k : Nat, (k : Int) < gN mm 80 0 b → SpR (gN mm 12 0 3).toNat (gL mm 60 0) (gL mm 61 0) (gL mm 81 0 (60 * b + k)) (gN mc 48 b k) := h.2.2.2.1
theorem RTx.fm {mc mm : MM} {b L M Ln : Nat} (h : RTx mc mm b L M Ln) : ∀ k : Nat, (k : Int) < gN mm 80 0 b → (gN mc 48 b k = -1 ∧ gL mc 46 b k = gL mc 45 b k ∧ gL mc 47 b k = gL mc 45 b k) ∨ ∃ s : Nat, gN mc 48 b k = s ∧ (s : Int) < gN mm 12 0 3 ∧ gL mc 46 b k = gL mc 53 0 s ∧ gL mc 47 b k = gL mc 54 0 s := h.2.2.2.2.1
theorem RTx.pc {mc mm : MM} {b L M Ln : Nat} (h : RTx mc mm b L M Ln) : gN mm 78 0 b = 0 ∨ (50 ≤ gN mm 78 0 b ∧ gN mm 78 0 b ≤ 150 ∧ 0 < gN mm 80 0 b) := h.2.2.2.2.2.1
theorem RTx.co {mc mm : MM} {b L M Ln : Nat} (h : RTx mc mm b L M Ln) : gN mc 0 b 10 = if gN mm 78 0 b = 0 then 0 else 1 := h.2.2.2.2.2.2.1
theorem RTx.pb {mc mm : MM} {b L M Ln : Nat} (h : RTx mc mm b L M Ln) : gN mm 78 0 b ≠ 0 → ∀ p, p < 2 * L → ∃ k : Nat, gN mc 16 b p = k ∧ CFR (usN fun k => gL mm 81 0 (60 * b + k)) (gN mm 80 0 b).toNat (p * hold M Ln (gN mm 78 0 b)) k := h.2.2.2.2.2.2.2
/-- a page, number q through all books -/
def RPg (mc mm : MM) (b q M Ln : Nat) : Prop := ((gN mm 83 0 q = 0 ∧ gN mc 4 q 9 = -1) ∨ (gN mm 83 0 q = 1 ∧ gN mc 4 q 9 = gN mm 84 0 q ∧ 0 ≤ gN mm 84 0 q)) ∧
  (gN mm 83 0 q = 0 → gN mm 88 0 q = 0 ∧ gN mm 89 0 q = 0 ∧ gN mm 90 0 q = 0) ∧
  (gN mc 4 q 10 = gN mm 89 0 q ∧ 0 ≤ gN mm 89 0 q ∧ gN mm 89 0 q ≤ 60) ∧
  (gN mc 4 q 11 = gN mm 88 0 q ∧ 0 ≤ gN mm 88 0 q ∧ gN mm 88 0 q ≤ Ln) ∧
  (gN mc 4 q 12 = gN mm 85 0 q ∧ 0 ≤ gN mm 85 0 q ∧ gN mm 85 0 q ≤ gN mm 80 0 b) ∧
  (gN mc 4 q 13 = gN mm 87 0 q) ∧
  (gN mc 4 q 14 = gN mm 86 0 q ∧ (gN mm 86 0 q = 0 ∨ gN mm 86 0 q = 1)) ∧
  (gN mc 5 q 4 = gN mm 90 0 q ∧ 0 ≤ gN mm 90 0 q ∧ gN mm 90 0 q ≤ (M * Ln : Nat)) ∧
  (∀ l : Nat, (l : Int) < gN mm 88 0 q → gN mc 31 q l = gN mm 91 0 (6 * q + l) ∧ gN mc 32 q l = gN mm 93 0 (6 * q + l) ∧ 0 ≤ gN mm 93 0 (6 * q + l) ∧ gN mc 33 q l = gN mm 94 0 (6 * q + l) ∧ (gN mm 94 0 (6 * q + l) = 0 ∨ gN mm 94 0 (6 * q + l) = 1)) ∧
  (∀ l : Nat, (l : Int) < gN mm 88 0 q → 0 ≤ gN mm 91 0 (6 * q + l) ∧ 1 ≤ gN mm 92 0 (6 * q + l) ∧ gN mm 91 0 (6 * q + l) + gN mm 92 0 (6 * q + l) ≤ gN mm 89 0 q ∧ ((l : Int) + 1 = gN mm 88 0 q → gN mm 91 0 (6 * q + l) + gN mm 92 0 (6 * q + l) = gN mm 89 0 q) ∧ ((l : Int) + 1 < gN mm 88 0 q → gN mm 91 0 (6 * q + (l + 1)) = gN mm 91 0 (6 * q + l) + gN mm 92 0 (6 * q + l))) ∧
  ((0 < gN mm 88 0 q → gN mm 91 0 (6 * q + 0) = 0) ∧ (gN mm 88 0 q = 0 → gN mm 89 0 q = 0)) ∧
  (∀ k : Nat, (k : Int) < gN mm 89 0 q → gN mc 27 q k = gN mm 95 0 (60 * q + k) ∧ 0 ≤ gN mm 95 0 (60 * q + k) ∧ gN mm 95 0 (60 * q + k) < gN mm 80 0 b) ∧
  (∀ k : Nat, (k : Int) < gN mm 89 0 q → gN mc 28 q k = 0 ∨ (gN mc 28 q k = 1 ∧ gN mc 48 b (gN mm 95 0 (60 * q + k)).toNat ≠ -1)) ∧
  (∀ k : Nat, (k : Int) < gN mm 89 0 q → WW (if gN mc 28 q k = 0 then gL mc 46 b (gN mm 95 0 (60 * q + k)).toNat else gL mc 47 b (gN mm 95 0 (60 * q + k)).toNat) (gL mm 96 0 (60 * q + k))) ∧
  (∀ l k : Nat, (l : Int) < gN mm 88 0 q → gN mm 91 0 (6 * q + l) ≤ k → (k : Int) < gN mm 91 0 (6 * q + l) + gN mm 92 0 (6 * q + l) → (gN mm 91 0 (6 * q + l) = k ∧ gN mm 97 0 (60 * q + k) = 0) ∨ (gN mm 91 0 (6 * q + l) < k ∧ gN mm 97 0 (60 * q + k) = gN mc 29 q (k - 1) ∧ 1 ≤ gN mm 97 0 (60 * q + k) ∧ gN mm 97 0 (60 * q + k) ≤ 3)) ∧
  (∀ k : Nat, (k : Int) < gN mm 89 0 q → gN mc 30 q k = gN mm 98 0 (60 * q + k) ∧ 0 ≤ gN mm 98 0 (60 * q + k) ∧ gN mm 98 0 (60 * q + k) ≤ gN mm 90 0 q) ∧
  (gN mm 83 0 q = 1 → gN mc 30 q (gN mm 89 0 q).toNat = gN mm 90 0 q)
theorem RPg.st {mc mm : MM} {b q M Ln : Nat} (h : RPg mc mm b q M Ln) : (gN mm 83 0 q = 0 ∧ gN mc 4 q 9 = -1) ∨ (gN mm 83 0 q = 1 ∧ gN mc 4 q 9 = gN mm 84 0 q ∧ 0 ≤ gN mm 84 0 q) := h.1
theorem RPg.un {mc mm : MM} {b q M Ln : Nat} (h : RPg mc mm b q M Ln) : gN mm 83 0 q = 0 → gN mm 88 0 q = 0 ∧ gN mm 89 0 q = 0 ∧ gN mm 90 0 q = 0 := h.2.1
theorem RPg.wn {mc mm : MM} {b q M Ln : Nat} (h : RPg mc mm b q M Ln) : gN mc 4 q 10 = gN mm 89 0 q ∧ 0 ≤ gN mm 89 0 q ∧ gN mm 89 0 q ≤ 60 := h.2.2.1
theorem RPg.ln {mc mm : MM} {b q M Ln : Nat} (h : RPg mc mm b q M Ln) : gN mc 4 q 11 = gN mm 88 0 q ∧ 0 ≤ gN mm 88 0 q ∧ gN mm 88 0 q ≤ Ln := h.2.2.2.1
theorem RPg.th {mc mm : MM} {b q M Ln : Nat} (h : RPg mc mm b q M Ln) : gN mc 4 q 12 = gN mm 85 0 q ∧ 0 ≤ gN mm 85 0 q ∧ gN mm 85 0 q ≤ gN mm 80 0 b := h.2.2.2.2.1
theorem RPg.lo {mc mm : MM} {b q M Ln : Nat} (h : RPg mc mm b q M Ln) : gN mc 4 q 13 = gN mm 87 0 q := h.2.2.2.2.2.1
theorem RPg.cr {mc mm : MM} {b q M Ln : Nat} (h : RPg mc mm b q M Ln) : gN mc 4 q 14 = gN mm 86 0 q ∧ (gN mm 86 0 q = 0 ∨ gN mm 86 0 q = 1) := h.2.2.2.2.2.2.1
theorem RPg.pn {mc mm : MM} {b q M Ln : Nat} (h : RPg mc mm b q M Ln) : gN mc 5 q 4 = gN mm 90 0 q ∧ 0 ≤ gN mm 90 0 q ∧ gN mm 90 0 q ≤ (M * Ln : Nat) := h.2.2.2.2.2.2.2.1
theorem RPg.l1 {mc mm : MM} {b q M Ln : Nat} (h : RPg mc mm b q M Ln) : ∀ l : Nat, (l : Int) < gN mm 88 0 q → gN mc 31 q l = gN mm 91 0 (6 * q + l) ∧ gN mc 32 q l = gN mm 93 0 (6 * q + l) ∧ 0 ≤ gN mm 93 0 (6 * q + l) ∧ gN mc 33 q l = gN mm 94 0 (6 * q + l) ∧ (gN mm 94 0 (6 * q + l) = 0 ∨ gN mm 94 0 (6 * q + l) = 1) := h.2.2.2.2.2.2.2.2.1
theorem RPg.l2 {mc mm : MM} {b q M Ln : Nat} (h : RPg mc mm b q M Ln) : ∀ l : Nat, (l : Int) < gN mm 88 0 q → 0 ≤ gN mm 91 0 (6 * q + l) ∧ 1 ≤ gN mm 92 0 (6 * q + l) ∧ gN mm 91 0 (6 * q + l) + gN mm 92 0 (6 * q + l) ≤ gN mm 89 0 q ∧ ((l : Int) + 1 = gN mm 88 0 q → gN mm 91 0 (6 * q + l) + gN mm 92 0 (6 * q + l) = gN mm 89 0 q) ∧ ((l : Int) + 1 < gN mm 88 0 q → gN mm 91 0 (6 * q + (l + 1)) = gN mm 91 0 (6 * q + l) + gN mm 92 0 (6 * q + l)) := h.2.2.2.2.2.2.2.2.2.1
theorem RPg.l0 {mc mm : MM} {b q M Ln : Nat} (h : RPg mc mm b q M Ln) : (0 < gN mm 88 0 q → gN mm 91 0 (6 * q + 0) = 0) ∧ (gN mm 88 0 q = 0 → gN mm 89 0 q = 0) := h.2.2.2.2.2.2.2.2.2.2.1
theorem RPg.w1 {mc mm : MM} {b q M Ln : Nat} (h : RPg mc mm b q M Ln) : ∀ k : Nat, (k : Int) < gN mm 89 0 q → gN mc 27 q k = gN mm 95 0 (60 * q + k) ∧ 0 ≤ gN mm 95 0 (60 * q + k) ∧ gN mm 95 0 (60 * q + k) < gN mm 80 0 b := h.2.2.2.2.2.2.2.2.2.2.2.1
theorem RPg.w2 {mc mm : MM} {b q M Ln : Nat} (h : RPg mc mm b q M Ln) : ∀ k : Nat, (k : Int) < gN mm 89 0 q → gN mc 28 q k = 0 ∨ (gN mc 28 q k = 1 ∧ gN mc 48 b (gN mm 95 0 (60 * q + k)).toNat ≠ -1) := h.2.2.2.2.2.2.2.2.2.2.2.2.1
theorem RPg.w3 {mc mm : MM} {b q M Ln : Nat} (h : RPg mc mm b q M Ln) : ∀ k : Nat, (k : Int) < gN mm 89 0 q → WW (if gN mc 28 q k = 0 then gL mc 46 b (gN mm 95 0 (60 * q + k)).toNat else gL mc 47 b (gN mm 95 0 (60 * q + k)).toNat) (gL mm 96 0 (60 * q + k)) := h.2.2.2.2.2.2.2.2.2.2.2.2.2.1
theorem RPg.bl {mc mm : MM} {b q M Ln : Nat} (h : RPg mc mm b q M Ln) : ∀ l k : Nat, (l : Int) < gN mm 88 0 q → gN mm 91 0 (6 * q + l) ≤ k → (k : Int) < gN mm 91 0 (6 * q + l) + gN mm 92 0 (6 * q + l) → (gN mm 91 0 (6 * q + l) = k ∧ gN mm 97 0 (60 * q + k) = 0) ∨ (gN mm 91 0 (6 * q + l) < k ∧ gN mm 97 0 (60 * q + k) = gN mc 29 q (k - 1) ∧ 1 ≤ gN mm 97 0 (60 * q + k) ∧ gN mm 97 0 (60 * q + k) ≤ 3) := h.2.2.2.2.2.2.2.2.2.2.2.2.2.2.1
theorem RPg.f1 {mc mm : MM} {b q M Ln : Nat} (h : RPg mc mm b q M Ln) : ∀ k : Nat, (k : Int) < gN mm 89 0 q → gN mc 30 q k = gN mm 98 0 (60 * q + k) ∧ 0 ≤ gN mm 98 0 (60 * q + k) ∧ gN mm 98 0 (60 * q + k) ≤ gN mm 90 0 q := h.2.2.2.2.2.2.2.2.2.2.2.2.2.2.2.1
theorem RPg.f2 {mc mm : MM} {b q M Ln : Nat} (h : RPg mc mm b q M Ln) : gN mm 83 0 q = 1 → gN mc 30 q (gN mm 89 0 q).toNat = gN mm 90 0 q := h.2.2.2.2.2.2.2.2.2.2.2.2.2.2.2.2
/-- the words of a page are its part's -/
def RPo (mc mm : MM) (b p L : Nat) : Prop := (gN mm 83 0 (16 * b + p) = 1 → gN mm 78 0 b = 0 → p = 0 → gN mm 89 0 (16 * b + p) ≤ gN mm 85 0 (16 * b + p)) ∧
  (gN mm 83 0 (16 * b + p) = 1 → gN mm 78 0 b = 0 → p ≠ 0 → gN mm 83 0 (16 * b + (p - 1)) = 1 ∧ gN mm 89 0 (16 * b + p) ≤ gN mm 85 0 (16 * b + p) - gN mm 85 0 (16 * b + (p - 1))) ∧
  (gN mm 83 0 (16 * b + p) = 1 → gN mm 78 0 b ≠ 0 → gN mm 89 0 (16 * b + p) ≤ gN mm 85 0 (16 * b + p) - gN mc 16 b p) ∧
  (gN mm 83 0 (16 * b + p) = 1 → gN mm 78 0 b ≠ 0 → p + 1 < 2 * L → gN mm 85 0 (16 * b + p) ≤ gN mc 16 b (p + 1))
theorem RPo.a {mc mm : MM} {b p L : Nat} (h : RPo mc mm b p L) : gN mm 83 0 (16 * b + p) = 1 → gN mm 78 0 b = 0 → p = 0 → gN mm 89 0 (16 * b + p) ≤ gN mm 85 0 (16 * b + p) := h.1
theorem RPo.b {mc mm : MM} {b p L : Nat} (h : RPo mc mm b p L) : gN mm 83 0 (16 * b + p) = 1 → gN mm 78 0 b = 0 → p ≠ 0 → gN mm 83 0 (16 * b + (p - 1)) = 1 ∧ gN mm 89 0 (16 * b + p) ≤ gN mm 85 0 (16 * b + p) - gN mm 85 0 (16 * b + (p - 1)) := h.2.1
theorem RPo.c {mc mm : MM} {b p L : Nat} (h : RPo mc mm b p L) : gN mm 83 0 (16 * b + p) = 1 → gN mm 78 0 b ≠ 0 → gN mm 89 0 (16 * b + p) ≤ gN mm 85 0 (16 * b + p) - gN mc 16 b p := h.2.2.1
theorem RPo.d {mc mm : MM} {b p L : Nat} (h : RPo mc mm b p L) : gN mm 83 0 (16 * b + p) = 1 → gN mm 78 0 b ≠ 0 → p + 1 < 2 * L → gN mm 85 0 (16 * b + p) ≤ gN mc 16 b (p + 1) := h.2.2.2
/-- the places of a page -/
def RPl (mc mm : MM) (q : Nat) : Prop := (∀ k : Nat, (k : Int) < gN mm 90 0 q → gN mc 34 q k = gN mm 99 0 (150 * q + k) ∧ 0 ≤ gN mm 99 0 (150 * q + k) ∧ gN mm 99 0 (150 * q + k) < 28) ∧
  (∀ k : Nat, (k : Int) < gN mm 90 0 q → gN mc 35 q k = gN mm 100 0 (150 * q + k) ∧ -1 ≤ gN mm 100 0 (150 * q + k) ∧ gN mm 100 0 (150 * q + k) < 400) ∧
  (∀ k : Nat, (k : Int) < gN mm 90 0 q → gN mc 36 q k = gN mm 101 0 (150 * q + k) ∧ (gN mm 101 0 (150 * q + k) = 0 ∨ gN mm 101 0 (150 * q + k) = 1) ∧ (gN mm 100 0 (150 * q + k) = -1 → gN mm 101 0 (150 * q + k) = 0))
theorem RPl.w {mc mm : MM} {q : Nat} (h : RPl mc mm q) : ∀ k : Nat, (k : Int) < gN mm 90 0 q → gN mc 34 q k = gN mm 99 0 (150 * q + k) ∧ 0 ≤ gN mm 99 0 (150 * q + k) ∧ gN mm 99 0 (150 * q + k) < 28 := h.1
theorem RPl.p {mc mm : MM} {q : Nat} (h : RPl mc mm q) : ∀ k : Nat, (k : Int) < gN mm 90 0 q → gN mc 35 q k = gN mm 100 0 (150 * q + k) ∧ -1 ≤ gN mm 100 0 (150 * q + k) ∧ gN mm 100 0 (150 * q + k) < 400 := h.2.1
theorem RPl.t {mc mm : MM} {q : Nat} (h : RPl mc mm q) : ∀ k : Nat, (k : Int) < gN mm 90 0 q → gN mc 36 q k = gN mm 101 0 (150 * q + k) ∧ (gN mm 101 0 (150 * q + k) = 0 ∨ gN mm 101 0 (150 * q + k) = 1) ∧ (gN mm 100 0 (150 * q + k) = -1 → gN mm 101 0 (150 * q + k) = 0) := h.2.2
/-- a forme, number w through all books -/
def RFo (mc mm : MM) (w E : Nat) : Prop := (gN mc 2 w 4 = gN mm 108 0 w ∧ 0 ≤ gN mm 108 0 w ∧ gN mm 108 0 w ≤ 4) ∧
  ((gN mm 108 0 w = 0 ∧ gN mc 2 w 5 = -1) ∨ (1 ≤ gN mm 108 0 w ∧ gN mc 2 w 5 = gN mm 109 0 w ∧ 0 ≤ gN mm 109 0 w ∧ gN mm 109 0 w ≤ 5)) ∧
  (gN mc 2 w 6 = gN mm 110 0 w ∧ 0 ≤ gN mm 110 0 w ∧ gN mm 110 0 w ≤ E ∧ (gN mm 108 0 w ≤ 1 → gN mm 110 0 w = 0) ∧ (gN mm 108 0 w ≤ 2 → gN mm 110 0 w < E)) ∧
  ((gN mm 108 0 w = 0 ∧ gN mc 2 w 7 = 1) ∨ (1 ≤ gN mm 108 0 w ∧ gN mc 2 w 7 = gN mm 111 0 w ∧ 1 ≤ gN mm 111 0 w ∧ gN mm 111 0 w ≤ E)) ∧
  (gN mc 26 w 0 = 0) ∧
  (1 ≤ gN mm 108 0 w → ∀ s : Nat, (s : Int) < gN mm 111 0 w → gN mc 26 w s = gN mm 112 0 (26 * w + s) ∧ (s : Int) ≤ gN mm 112 0 (26 * w + s) ∧ gN mm 112 0 (26 * w + s) ≤ gN mm 110 0 w) ∧
  (2 ≤ gN mm 108 0 w → gN mc 2 w 8 = gN mm 113 0 w ∧ 0 ≤ gN mm 113 0 w ∧ gN mm 113 0 w ≤ gN mm 12 0 69) ∧
  ((gN mm 108 0 w < 3 ∧ gN mc 2 w 9 = -1) ∨ (3 ≤ gN mm 108 0 w ∧ gN mc 2 w 9 = gN mm 114 0 w ∧ gN mm 113 0 w ≤ gN mm 114 0 w ∧ gN mm 114 0 w ≤ gN mm 12 0 69 ∧ gN mm 114 0 w % 70 < 60)) ∧
  ((gN mm 108 0 w < 2 → gN mc 2 w 10 = 0) ∧ (gN mm 108 0 w = 2 → gN mc 2 w 10 = gN mm 115 0 w ∧ (gN mm 115 0 w = 0 ∨ gN mm 115 0 w = 1)))
theorem RFo.how {mc mm : MM} {w E : Nat} (h : RFo mc mm w E) : gN mc 2 w 4 = gN mm 108 0 w ∧ 0 ≤ gN mm 108 0 w ∧ gN mm 108 0 w ≤ 4 := h.1
theorem RFo.sk {mc mm : MM} {w E : Nat} (h : RFo mc mm w E) : (gN mm 108 0 w = 0 ∧ gN mc 2 w 5 = -1) ∨ (1 ≤ gN mm 108 0 w ∧ gN mc 2 w 5 = gN mm 109 0 w ∧ 0 ≤ gN mm 109 0 w ∧ gN mm 109 0 w ≤ 5) := h.2.1
theorem RFo.pr {mc mm : MM} {w E : Nat} (h : RFo mc mm w E) : gN mc 2 w 6 = gN mm 110 0 w ∧ 0 ≤ gN mm 110 0 w ∧ gN mm 110 0 w ≤ E ∧ (gN mm 108 0 w ≤ 1 → gN mm 110 0 w = 0) ∧ (gN mm 108 0 w ≤ 2 → gN mm 110 0 w < E) := h.2.2.1
theorem RFo.ns {mc mm : MM} {w E : Nat} (h : RFo mc mm w E) : (gN mm 108 0 w = 0 ∧ gN mc 2 w 7 = 1) ∨ (1 ≤ gN mm 108 0 w ∧ gN mc 2 w 7 = gN mm 111 0 w ∧ 1 ≤ gN mm 111 0 w ∧ gN mm 111 0 w ≤ E) := h.2.2.2.1
theorem RFo.s0 {mc mm : MM} {w E : Nat} (h : RFo mc mm w E) : gN mc 26 w 0 = 0 := h.2.2.2.2.1
theorem RFo.sb {mc mm : MM} {w E : Nat} (h : RFo mc mm w E) : 1 ≤ gN mm 108 0 w → ∀ s : Nat, (s : Int) < gN mm 111 0 w → gN mc 26 w s = gN mm 112 0 (26 * w + s) ∧ (s : Int) ≤ gN mm 112 0 (26 * w + s) ∧ gN mm 112 0 (26 * w + s) ≤ gN mm 110 0 w := h.2.2.2.2.2.1
theorem RFo.oh {mc mm : MM} {w E : Nat} (h : RFo mc mm w E) : 2 ≤ gN mm 108 0 w → gN mc 2 w 8 = gN mm 113 0 w ∧ 0 ≤ gN mm 113 0 w ∧ gN mm 113 0 w ≤ gN mm 12 0 69 := h.2.2.2.2.2.2.1
theorem RFo.dh {mc mm : MM} {w E : Nat} (h : RFo mc mm w E) : (gN mm 108 0 w < 3 ∧ gN mc 2 w 9 = -1) ∨ (3 ≤ gN mm 108 0 w ∧ gN mc 2 w 9 = gN mm 114 0 w ∧ gN mm 113 0 w ≤ gN mm 114 0 w ∧ gN mm 114 0 w ≤ gN mm 12 0 69 ∧ gN mm 114 0 w % 70 < 60) := h.2.2.2.2.2.2.2.1
theorem RFo.rd {mc mm : MM} {w E : Nat} (h : RFo mc mm w E) : (gN mm 108 0 w < 2 → gN mc 2 w 10 = 0) ∧ (gN mm 108 0 w = 2 → gN mc 2 w 10 = gN mm 115 0 w ∧ (gN mm 115 0 w = 0 ∨ gN mm 115 0 w = 1)) := h.2.2.2.2.2.2.2.2
/-- what a place prints in a state, from the row of corrections -/
def glF (mm : MM) (k its : Nat) : Nat → Int
  | 0 => gN mm 102 0 k
  | n + 1 => if gN mm 105 0 n = k ∧ gN mm 106 0 n ≤ its then gN mm 107 0 n else glF mm k its n
/-- a page q of a forme w: prints -/
def RPn (mc mm : MM) (q w : Nat) : Prop := (1 ≤ gN mm 108 0 w → gN mm 83 0 q = 1) ∧
  (∀ k s : Nat, (k : Int) < gN mm 90 0 q → (s : Int) < gN mc 2 w 7 → 0 ≤ glF mm (150 * q + k) s (gN mm 12 0 52).toNat ∧ glF mm (150 * q + k) s (gN mm 12 0 52).toNat ≤ 28 ∧ gN mc 38 (24 * q + s) k = if glF mm (150 * q + k) s (gN mm 12 0 52).toNat = 28 then -1 else glF mm (150 * q + k) s (gN mm 12 0 52).toNat) ∧
  (∀ n k : Nat, (n : Int) < gN mm 12 0 52 → k < 150 → gN mm 105 0 n = ((150 * q + k : Nat) : Int) → 1 ≤ gN mm 108 0 w ∧ 0 ≤ gN mm 106 0 n ∧ gN mm 106 0 n < gN mc 2 w 7)
theorem RPn.st {mc mm : MM} {q w : Nat} (h : RPn mc mm q w) : 1 ≤ gN mm 108 0 w → gN mm 83 0 q = 1 := h.1
theorem RPn.g {mc mm : MM} {q w : Nat} (h : RPn mc mm q w) : ∀ k s : Nat, (k : Int) < gN mm 90 0 q → (s : Int) < gN mc 2 w 7 → 0 ≤ glF mm (150 * q + k) s (gN mm 12 0 52).toNat ∧ glF mm (150 * q + k) s (gN mm 12 0 52).toNat ≤ 28 ∧ gN mc 38 (24 * q + s) k = if glF mm (150 * q + k) s (gN mm 12 0 52).toNat = 28 then -1 else glF mm (150 * q + k) s (gN mm 12 0 52).toNat := h.2.1
theorem RPn.c {mc mm : MM} {q w : Nat} (h : RPn mc mm q w) : ∀ n k : Nat, (n : Int) < gN mm 12 0 52 → k < 150 → gN mm 105 0 n = ((150 * q + k : Nat) : Int) → 1 ≤ gN mm 108 0 w ∧ 0 ≤ gN mm 106 0 n ∧ gN mm 106 0 n < gN mc 2 w 7 := h.2.2
/-- how pieces are seen in a forme -/
def RSe (mc mm : MM) (b F L f : Nat) : Prop := (gN mm 108 0 (8 * b + f) < 3 → ∀ x, gN mc 25 (8 * b + f) x = 0) ∧
  (3 ≤ gN mm 108 0 (8 * b + f) → ∀ p, p < 2 * L → fo F p = f → ∀ k : Nat, (k : Int) < gN mm 90 0 (16 * b + p) → gN mm 103 0 (150 * (16 * b + p) + k) = -1 ∨ ∃ x : Nat, x < 400 ∧ gN mm 103 0 (150 * (16 * b + p) + k) = x ∧ gN mm 104 0 (150 * (16 * b + p) + k) = gN mc 25 (8 * b + f) x) ∧
  (3 ≤ gN mm 108 0 (8 * b + f) → ∀ x : Nat, (∀ p, p < 2 * L → fo F p = f → ∀ k : Nat, (k : Int) < gN mm 90 0 (16 * b + p) → gN mm 103 0 (150 * (16 * b + p) + k) ≠ x) → gN mc 25 (8 * b + f) x = 0) ∧
  (∀ x, 0 ≤ gN mc 25 (8 * b + f) x ∧ gN mc 25 (8 * b + f) x ≤ gN mm 63 0 x)
theorem RSe.a {mc mm : MM} {b F L f : Nat} (h : RSe mc mm b F L f) : gN mm 108 0 (8 * b + f) < 3 → ∀ x, gN mc 25 (8 * b + f) x = 0 := h.1
theorem RSe.s {mc mm : MM} {b F L f : Nat} (h : RSe mc mm b F L f) : 3 ≤ gN mm 108 0 (8 * b + f) → ∀ p, p < 2 * L → fo F p = f → ∀ k : Nat, (k : Int) < gN mm 90 0 (16 * b + p) → gN mm 103 0 (150 * (16 * b + p) + k) = -1 ∨ ∃ x : Nat, x < 400 ∧ gN mm 103 0 (150 * (16 * b + p) + k) = x ∧ gN mm 104 0 (150 * (16 * b + p) + k) = gN mc 25 (8 * b + f) x := h.2.1
theorem RSe.z {mc mm : MM} {b F L f : Nat} (h : RSe mc mm b F L f) : 3 ≤ gN mm 108 0 (8 * b + f) → ∀ x : Nat, (∀ p, p < 2 * L → fo F p = f → ∀ k : Nat, (k : Int) < gN mm 90 0 (16 * b + p) → gN mm 103 0 (150 * (16 * b + p) + k) ≠ x) → gN mc 25 (8 * b + f) x = 0 := h.2.2.1
theorem RSe.b {mc mm : MM} {b F L f : Nat} (h : RSe mc mm b F L f) : ∀ x, 0 ≤ gN mc 25 (8 * b + f) x ∧ gN mc 25 (8 * b + f) x ≤ gN mm 63 0 x := h.2.2.2
/-- a sheet and its heap -/
def RSh (mc mm : MM) (b s E : Nat) : Prop := (gN mc 8 (4 * b + s) 5 = gN mm 120 0 (4 * b + s) ∧ 0 ≤ gN mm 120 0 (4 * b + s) ∧ gN mm 120 0 (4 * b + s) < E) ∧
  ((gN mm 117 0 (4 * b + s) = 0 ∧ gR mc 8 (4 * b + s) 2 = none ∧ gN mm 108 0 (8 * b + 2 * s) ≤ 1 ∧ gN mm 108 0 (8 * b + (2 * s + 1)) ≤ 1) ∨ (gN mm 117 0 (4 * b + s) = 1 ∧ (gN mc 8 (4 * b + s) 3 = gN mm 118 0 (4 * b + s) ∧ 0 ≤ gN mm 118 0 (4 * b + s) ∧ gN mm 118 0 (4 * b + s) ≤ 3) ∧ (gN mc 8 (4 * b + s) 4 = gN mm 119 0 (4 * b + s) ∧ 0 ≤ gN mm 119 0 (4 * b + s) ∧ gN mm 119 0 (4 * b + s) ≤ 100000) ∧ ∃ d e : Nat, d + e = 1 ∧ gR mc 8 (4 * b + s) 2 = some (2, 8 * b + (2 * s + d)) ∧ 2 ≤ gN mm 108 0 (8 * b + (2 * s + d)) ∧ gN mm 116 0 (8 * b + (2 * s + d)) = 1 ∧ (2 ≤ gN mm 108 0 (8 * b + (2 * s + e)) → gN mm 116 0 (8 * b + (2 * s + e)) = 0)))
theorem RSh.t {mc mm : MM} {b s E : Nat} (h : RSh mc mm b s E) : gN mc 8 (4 * b + s) 5 = gN mm 120 0 (4 * b + s) ∧ 0 ≤ gN mm 120 0 (4 * b + s) ∧ gN mm 120 0 (4 * b + s) < E := h.1
theorem RSh.k {mc mm : MM} {b s E : Nat} (h : RSh mc mm b s E) : (gN mm 117 0 (4 * b + s) = 0 ∧ gR mc 8 (4 * b + s) 2 = none ∧ gN mm 108 0 (8 * b + 2 * s) ≤ 1 ∧ gN mm 108 0 (8 * b + (2 * s + 1)) ≤ 1) ∨ (gN mm 117 0 (4 * b + s) = 1 ∧ (gN mc 8 (4 * b + s) 3 = gN mm 118 0 (4 * b + s) ∧ 0 ≤ gN mm 118 0 (4 * b + s) ∧ gN mm 118 0 (4 * b + s) ≤ 3) ∧ (gN mc 8 (4 * b + s) 4 = gN mm 119 0 (4 * b + s) ∧ 0 ≤ gN mm 119 0 (4 * b + s) ∧ gN mm 119 0 (4 * b + s) ≤ 100000) ∧ ∃ d e : Nat, d + e = 1 ∧ gR mc 8 (4 * b + s) 2 = some (2, 8 * b + (2 * s + d)) ∧ 2 ≤ gN mm 108 0 (8 * b + (2 * s + d)) ∧ gN mm 116 0 (8 * b + (2 * s + d)) = 1 ∧ (2 ≤ gN mm 108 0 (8 * b + (2 * s + e)) → gN mm 116 0 (8 * b + (2 * s + e)) = 0)) := h.2
/-- the leaves of a book -/
def RLv (mc mm : MM) (b n L E : Nat) : Prop := (gN mc 0 b 11 = gN mm 79 0 b ∧ (gN mm 79 0 b = 0 ∨ gN mm 79 0 b = 1)) ∧
  (gN mm 79 0 b = 1 → ∀ c l, c < E → l < L → gN mc 18 (24 * b + c) l = gN mm 126 0 (8 * (24 * b + c) + l) ∧ -1 ≤ gN mm 126 0 (8 * (24 * b + c) + l) ∧ gN mm 126 0 (8 * (24 * b + c) + l) < E) ∧
  (gN mm 79 0 b = 1 → ∀ f, f < 2 * n → 3 ≤ gN mm 108 0 (8 * b + f)) ∧
  (∀ f, 2 * n ≤ f → f < 8 → gN mm 108 0 (8 * b + f) = 0)
theorem RLv.bd {mc mm : MM} {b n L E : Nat} (h : RLv mc mm b n L E) : gN mc 0 b 11 = gN mm 79 0 b ∧ (gN mm 79 0 b = 0 ∨ gN mm 79 0 b = 1) := h.1
theorem RLv.l {mc mm : MM} {b n L E : Nat} (h : RLv mc mm b n L E) : gN mm 79 0 b = 1 → ∀ c l, c < E → l < L → gN mc 18 (24 * b + c) l = gN mm 126 0 (8 * (24 * b + c) + l) ∧ -1 ≤ gN mm 126 0 (8 * (24 * b + c) + l) ∧ gN mm 126 0 (8 * (24 * b + c) + l) < E := h.2.1
theorem RLv.d {mc mm : MM} {b n L E : Nat} (h : RLv mc mm b n L E) : gN mm 79 0 b = 1 → ∀ f, f < 2 * n → 3 ≤ gN mm 108 0 (8 * b + f) := h.2.2.1
theorem RLv.u {mc mm : MM} {b n L E : Nat} (h : RLv mc mm b n L E) : ∀ f, 2 * n ≤ f → f < 8 → gN mm 108 0 (8 * b + f) = 0 := h.2.2.2
/-- a book -/
def RBk (mc mm : MM) (b F n M Ln E : Nat) : Prop := (BP mm b F n M Ln E) ∧
  (BS mc b F n M Ln E) ∧
  (RTx mc mm b (F * n) M Ln) ∧
  (∀ p, p < 2 * (F * n) → RPg mc mm b (16 * b + p) M Ln) ∧
  (∀ p, p < 2 * (F * n) → RPo mc mm b p (F * n)) ∧
  (∀ p, p < 2 * (F * n) → RPl mc mm (16 * b + p)) ∧
  (∀ f, f < 2 * n → RFo mc mm (8 * b + f) E) ∧
  (∀ p, p < 2 * (F * n) → RPn mc mm (16 * b + p) (8 * b + fo F p)) ∧
  (∀ f, f < 2 * n → RSe mc mm b F (F * n) f) ∧
  (∀ s, s < n → RSh mc mm b s E) ∧
  (RLv mc mm b n (F * n) E)
theorem RBk.hP {mc mm : MM} {b F n M Ln E : Nat} (h : RBk mc mm b F n M Ln E) : BP mm b F n M Ln E := h.1
theorem RBk.hS {mc mm : MM} {b F n M Ln E : Nat} (h : RBk mc mm b F n M Ln E) : BS mc b F n M Ln E := h.2.1
theorem RBk.tx {mc mm : MM} {b F n M Ln E : Nat} (h : RBk mc mm b F n M Ln E) : RTx mc mm b (F * n) M Ln := h.2.2.1
theorem RBk.pg {mc mm : MM} {b F n M Ln E : Nat} (h : RBk mc mm b F n M Ln E) : ∀ p, p < 2 * (F * n) → RPg mc mm b (16 * b + p) M Ln := h.2.2.2.1
theorem RBk.po {mc mm : MM} {b F n M Ln E : Nat} (h : RBk mc mm b F n M Ln E) : ∀ p, p < 2 * (F * n) → RPo mc mm b p (F * n) := h.2.2.2.2.1
theorem RBk.pl {mc mm : MM} {b F n M Ln E : Nat} (h : RBk mc mm b F n M Ln E) : ∀ p, p < 2 * (F * n) → RPl mc mm (16 * b + p) := h.2.2.2.2.2.1
theorem RBk.ff {mc mm : MM} {b F n M Ln E : Nat} (h : RBk mc mm b F n M Ln E) : ∀ f, f < 2 * n → RFo mc mm (8 * b + f) E := h.2.2.2.2.2.2.1
theorem RBk.pn {mc mm : MM} {b F n M Ln E : Nat} (h : RBk mc mm b F n M Ln E) : ∀ p, p < 2 * (F * n) → RPn mc mm (16 * b + p) (8 * b + fo F p) := h.2.2.2.2.2.2.2.1
theorem RBk.se {mc mm : MM} {b F n M Ln E : Nat} (h : RBk mc mm b F n M Ln E) : ∀ f, f < 2 * n → RSe mc mm b F (F * n) f := h.2.2.2.2.2.2.2.2.1
theorem RBk.sh {mc mm : MM} {b F n M Ln E : Nat} (h : RBk mc mm b F n M Ln E) : ∀ s, s < n → RSh mc mm b s E := h.2.2.2.2.2.2.2.2.2.1
theorem RBk.lv {mc mm : MM} {b F n M Ln E : Nat} (h : RBk mc mm b F n M Ln E) : RLv mc mm b n (F * n) E := h.2.2.2.2.2.2.2.2.2.2
/-- presses and the formes on them; what is counted -/
def RPf (mm : MM) (N : Nat) : Prop := (∀ p, p < 3 → gN mm 122 0 p = -1 ∨ ∃ b f n : Nat, (b : Int) < gN mm 12 0 19 ∧ gN mm 74 0 b = n ∧ f < 2 * n ∧ gN mm 122 0 p = ((8 * b + f : Nat) : Int) ∧ gN mm 108 0 (8 * b + f) = 2) ∧
  (∀ p p', p < 3 → p' < 3 → gN mm 122 0 p ≠ -1 → gN mm 122 0 p = gN mm 122 0 p' → p = p') ∧
  (∀ p, p < 3 → 0 ≤ gN mm 123 0 p ∧ gN mm 123 0 p ≤ 2 * gN mm 12 0 69) ∧
  (∀ p, p < 3 → 0 ≤ gN mm 124 0 p ∧ gN mm 124 0 p ≤ gN mm 12 0 69) ∧
  (∀ k, k < 4 → 0 ≤ gN mm 125 0 k ∧ gN mm 125 0 k ≤ 24 * N) ∧
  (0 ≤ gN mm 12 0 52 ∧ gN mm 12 0 52 ≤ N)
theorem RPf.f {mm : MM} {N : Nat} (h : RPf mm N) : ∀ p, p < 3 → gN mm 122 0 p = -1 ∨ ∃ b f n : Nat, (b : Int) < gN mm 12 0 19 ∧ gN mm 74 0 b = n ∧ f < 2 * n ∧ gN mm 122 0 p = ((8 * b + f : Nat) : Int) ∧ gN mm 108 0 (8 * b + f) = 2 := h.1
theorem RPf.u {mm : MM} {N : Nat} (h : RPf mm N) : ∀ p p', p < 3 → p' < 3 → gN mm 122 0 p ≠ -1 → gN mm 122 0 p = gN mm 122 0 p' → p = p' := h.2.1
theorem RPf.s {mm : MM} {N : Nat} (h : RPf mm N) : ∀ p, p < 3 → 0 ≤ gN mm 123 0 p ∧ gN mm 123 0 p ≤ 2 * gN mm 12 0 69 := h.2.2.1
theorem RPf.h {mm : MM} {N : Nat} (h : RPf mm N) : ∀ p, p < 3 → 0 ≤ gN mm 124 0 p ∧ gN mm 124 0 p ≤ gN mm 12 0 69 := h.2.2.2.1
theorem RPf.t {mm : MM} {N : Nat} (h : RPf mm N) : ∀ k, k < 4 → 0 ≤ gN mm 125 0 k ∧ gN mm 125 0 k ≤ 24 * N := h.2.2.2.2.1
theorem RPf.c {mm : MM} {N : Nat} (h : RPf mm N) : 0 ≤ gN mm 12 0 52 ∧ gN mm 12 0 52 ≤ N := h.2.2.2.2.2
/-- pieces: each in one place -/
def RPc (mm : MM) : Prop := (∀ b x : Nat, b < 28 → gN mm 66 0 b = x → gN mm 64 0 x = b) ∧
  (∀ x y : Nat, (x : Int) < gN mm 12 0 6 → gN mm 64 0 x < 28 → gN mm 65 0 x = y → gN mm 64 0 y = gN mm 64 0 x) ∧
  (∀ x x' y : Nat, (x : Int) < gN mm 12 0 6 → (x' : Int) < gN mm 12 0 6 → gN mm 64 0 x < 28 → gN mm 64 0 x' < 28 → gN mm 65 0 x = y → gN mm 65 0 x' = y → x = x') ∧
  (∀ b x y : Nat, b < 28 → gN mm 66 0 b = y → (x : Int) < gN mm 12 0 6 → gN mm 64 0 x < 28 → gN mm 65 0 x ≠ y) ∧
  (∀ x : Nat, (x : Int) < gN mm 12 0 6 → 0 ≤ gN mm 64 0 x) ∧
  (∀ q k x : Nat, q < 48 → k < 150 → (k : Int) < gN mm 90 0 q → gN mm 100 0 (150 * q + k) = x → (x : Int) < gN mm 12 0 6 ∧ 28 ≤ gN mm 64 0 x) ∧
  (∀ q k q' k' x : Nat, q < 48 → k < 150 → q' < 48 → k' < 150 → (k : Int) < gN mm 90 0 q → (k' : Int) < gN mm 90 0 q' → gN mm 100 0 (150 * q + k) = x → gN mm 100 0 (150 * q' + k') = x → q = q' ∧ k = k')
theorem RPc.t {mm : MM} (h : RPc mm) : ∀ b x : Nat, b < 28 → gN mm 66 0 b = x → gN mm 64 0 x = b := h.1
theorem RPc.u {mm : MM} (h : RPc mm) : ∀ x y : Nat, (x : Int) < gN mm 12 0 6 → gN mm 64 0 x < 28 → gN mm 65 0 x = y → gN mm 64 0 y = gN mm 64 0 x := h.2.1
theorem RPc.j {mm : MM} (h : RPc mm) : ∀ x x' y : Nat, (x : Int) < gN mm 12 0 6 → (x' : Int) < gN mm 12 0 6 → gN mm 64 0 x < 28 → gN mm 64 0 x' < 28 → gN mm 65 0 x = y → gN mm 65 0 x' = y → x = x' := h.2.2.1
theorem RPc.h {mm : MM} (h : RPc mm) : ∀ b x y : Nat, b < 28 → gN mm 66 0 b = y → (x : Int) < gN mm 12 0 6 → gN mm 64 0 x < 28 → gN mm 65 0 x ≠ y := h.2.2.2.1
theorem RPc.w {mm : MM} (h : RPc mm) : ∀ x : Nat, (x : Int) < gN mm 12 0 6 → 0 ≤ gN mm 64 0 x := h.2.2.2.2.1
theorem RPc.p {mm : MM} (h : RPc mm) : ∀ q k x : Nat, q < 48 → k < 150 → (k : Int) < gN mm 90 0 q → gN mm 100 0 (150 * q + k) = x → (x : Int) < gN mm 12 0 6 ∧ 28 ≤ gN mm 64 0 x := h.2.2.2.2.2.1
theorem RPc.i {mm : MM} (h : RPc mm) : ∀ q k q' k' x : Nat, q < 48 → k < 150 → q' < 48 → k' < 150 → (k : Int) < gN mm 90 0 q → (k' : Int) < gN mm 90 0 q' → gN mm 100 0 (150 * q + k) = x → gN mm 100 0 (150 * q' + k') = x → q = q' ∧ k = k' := h.2.2.2.2.2.2
