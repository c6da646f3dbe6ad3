/-! SET: a place is filled. -/
section SET
variable {F n M Ln E : Nat}
/-- the box that looks like this one, turned -/
def tb (l : Nat) : Int := if l = 1 then 16 else if l = 3 then 15 else if l = 13 then 20 else if l = 15 then 3 else if l = 16 then 1 else if l = 20 then 13 else -1
theorem tb_rng {l : Nat} : -1 ≤ tb l ∧ tb l < 28 := by unfold tb; repeat' split <;> omega
theorem turned_c {m : MM} {l : Nat} (hl : l < 28) : f_X1_turnedBox m (l : Int) = some (tb l) := by
  have : ∀ l : Fin 28, tsw ((l : Nat) : Int) 1 [some (16 : Int), some (-1), some 15, some (-1), some (-1), some (-1), some (-1), some (-1), some (-1), some (-1), some (-1), some (-1), some 20, some (-1), some 3, some 1, some (-1), some (-1), some (-1), some 13] (some (-1)) = some (tb l) := by decide +kernel
  exact this ⟨l, hl⟩
theorem turned_m {m : MM} {l : Nat} (hl : l < 28) : f_X12_turnedOf m (l : Int) = some (tb l) := by
  unfold f_X12_turnedOf
  rw [ck_of ⟨by omega, by omega⟩]
  have k : ∀ c : Int, c ≠ 0 → 0 ≤ c → c ≤ 1000 → j_X12_turnedOf_0_72 m c = some (c - 97) := fun c h1 h2 h3 => by
    unfold j_X12_turnedOf_0_72
    rw [if_pos h1, ck_of ⟨by omega, by omega⟩]
  have k0 : j_X12_turnedOf_0_72 m 0 = some (-1) := by
    unfold j_X12_turnedOf_0_72
    rw [if_neg (fun z => z rfl)]
  rw [k0, k 100 (by decide) (by decide) (by decide), k 112 (by decide) (by decide) (by decide), k 98 (by decide) (by decide) (by decide), k 113 (by decide) (by decide) (by decide), k 110 (by decide) (by decide) (by decide), k 117 (by decide) (by decide) (by decide)]
  unfold tb
  by_cases h1 : l = 1
  · subst h1; rfl
  by_cases h2 : l = 3
  · subst h2; rfl
  by_cases h3 : l = 13
  · subst h3; rfl
  by_cases h4 : l = 15
  · subst h4; rfl
  by_cases h5 : l = 16
  · subst h5; rfl
  by_cases h6 : l = 20
  · subst h6; rfl
  rw [if_pos (by omega), if_pos (by omega), if_pos (by omega), if_pos (by omega), if_pos (by omega), if_pos (by omega), if_neg h1, if_neg h2, if_neg h3, if_neg h4, if_neg h5, if_neg h6]
theorem take_c {m : MM} (hC : SC m) {d : Nat} (hd : d < 28) {x : Nat} (hx : gN m 24 0 d = x) (hx4 : x < 400) (ow : Int) : f_X1_take m 0 (d : Int) ow = some (.inl (some (aI (x : Int))), sN (sN m 24 0 d (gN m 23 0 x)) 22 0 x ow) := by
  unfold f_X1_take
  rw [nk_of hC.c4, ldN_of hC.z24 (by omega), tnc, hx, if_neg (show ¬ (x : Int) = -1 by omega), nk_of hC.c4, nk_of hC.c3, ldN_of hC.z23 (by omega), tnc, stN_of hC.z24 (by omega), tnc]
  have hC1 : SC (sN m 24 0 d (gN m 23 0 x)) := hC.mv2 (fun _ _ _ _ => rfl) (fun _ _ _ q => q)
  rw [nk_of hC1.c2, stN_of hC1.z22 (by omega), tnc]
theorem take_c0 {m : MM} (hC : SC m) {d : Nat} (hd : d < 28) (hx : gN m 24 0 d = -1) (ow : Int) : f_X1_take m 0 (d : Int) ow = some (.inl (some (aI (-1))), m) := by
  unfold f_X1_take
  rw [nk_of hC.c4, ldN_of hC.z24 (by omega), tnc, hx, if_pos rfl]
theorem take_m {m : MM} (hM : SM m) {d : Nat} (hd : d < 28) {x : Nat} (hx : gN m 66 0 d = x) (hx4 : x < 400) : f_X12_takes m 0 (d : Int) = some (.inl (some (aI (x : Int))), sN m 66 0 d (gN m 65 0 x)) := by
  unfold f_X12_takes
  rw [nk_of hM.r11, ldN_of hM.z66 (by omega), tnc, hx, nk_of hM.r11, nk_of hM.r10, ldN_of hM.z65 (by omega), tnc, stN_of hM.z66 (by omega), tnc]
/-- the class writes a place -/
theorem c80 {m mm : MM} {b p K : Nat} (hP : BP mm b F n M Ln E) (hS : BS m b F n M Ln E) (hC : SC m) (hp : p < 2 * (F * n)) (hn : gN m 5 (16 * b + p) 4 = K) (hK : K < M * Ln) {pc tu : Int} (hpc : pc = -1 ∨ ∃ x : Nat, x < 400 ∧ pc = x) (htu : tu = 0 ∨ tu = 1) (l l4 : Int) :
    ∃ so : Int, (pc = -1 → so = -1) ∧ (∀ x : Nat, pc = x → so = gN m 20 0 x) ∧ j_X5_fillNext_0_80 m (16 * b + p) l 0 l4 pc tu = some (.inl (some (aI (if pc = -1 then 0 else 1))), sN (sN (sN (sN (sN m 34 (16 * b + p) K l) 35 (16 * b + p) K pc) 36 (16 * b + p) K tu) 38 (24 * (16 * b + p) + 0) K (if tu = 1 ∧ so = l4 then l else so)) 5 (16 * b + p) 4 ((K : Int) + 1)) := by
  have q1 := hP.ml
  have q2 := hP.hE
  have hS1 : BS (sN m 34 (16 * b + p) K l) b F n M Ln E := hS.keep hP (fun K i s hk => eq3.sN (by unfold CBS at hk; omega)) (fun _ _ _ q => q)
  have hS2 : BS (sN (sN m 34 (16 * b + p) K l) 35 (16 * b + p) K pc) b F n M Ln E := hS1.keep hP (fun K i s hk => eq3.sN (by unfold CBS at hk; omega)) (fun _ _ _ q => q)
  have hS3 : BS (sN (sN (sN m 34 (16 * b + p) K l) 35 (16 * b + p) K pc) 36 (16 * b + p) K tu) b F n M Ln E := hS2.keep hP (fun K i s hk => eq3.sN (by unfold CBS at hk; omega)) (fun _ _ _ q => q)
  have hC3 : SC (sN (sN (sN m 34 (16 * b + p) K l) 35 (16 * b + p) K pc) 36 (16 * b + p) K tu) := hC.mv2 (fun _ _ _ _ => rfl) (fun _ _ _ q => q)
  have n1 : gN (sN m 34 (16 * b + p) K l) 5 (16 * b + p) 4 = K := by rw [gN_k (by decide), hn]
  have n2 : gN (sN (sN m 34 (16 * b + p) K l) 35 (16 * b + p) K pc) 5 (16 * b + p) 4 = K := by rw [gN_k (by decide), n1]
  have n3 : gN (sN (sN (sN m 34 (16 * b + p) K l) 35 (16 * b + p) K pc) 36 (16 * b + p) K tu) 5 (16 * b + p) 4 = K := by rw [gN_k (by decide), n2]
  have n20 : ∀ x, gN (sN (sN (sN m 34 (16 * b + p) K l) 35 (16 * b + p) K pc) 36 (16 * b + p) K tu) 20 0 x = gN m 20 0 x := fun x => by rw [gN_k (by decide), gN_k (by decide), gN_k (by decide)]
  have k159 : ∀ so : Int, j_X5_fillNext_0_159 (sN (sN (sN m 34 (16 * b + p) K l) 35 (16 * b + p) K pc) 36 (16 * b + p) K tu) (16 * b + p) pc (24 * (16 * b + p) + 0) (K : Int) so = some (.inl (some (aI (if pc = -1 then 0 else 1))), sN (sN (sN (sN (sN m 34 (16 * b + p) K l) 35 (16 * b + p) K pc) 36 (16 * b + p) K tu) 38 (24 * (16 * b + p) + 0) K so) 5 (16 * b + p) 4 ((K : Int) + 1)) := fun so => by
    unfold j_X5_fillNext_0_159
    have n4 : gN (sN (sN (sN (sN m 34 (16 * b + p) K l) 35 (16 * b + p) K pc) 36 (16 * b + p) K tu) 38 (24 * (16 * b + p) + 0) K so) 5 (16 * b + p) 4 = K := by rw [gN_k (by decide), n3]
    rw [stN_of (hS3.z38 p 0 hp (by omega)) (by omega), tnc, n4, ck_of ⟨by omega, by omega⟩, lt_eq]
    by_cases z : pc = -1
    · rw [if_pos z, if_pos z]
    · rw [if_neg z, if_neg z]
  have k129 : ∀ so : Int, j_X5_fillNext_0_129 (sN (sN (sN m 34 (16 * b + p) K l) 35 (16 * b + p) K pc) 36 (16 * b + p) K tu) (16 * b + p) l l4 pc tu so = some (.inl (some (aI (if pc = -1 then 0 else 1))), sN (sN (sN (sN (sN m 34 (16 * b + p) K l) 35 (16 * b + p) K pc) 36 (16 * b + p) K tu) 38 (24 * (16 * b + p) + 0) K (if tu = 1 ∧ so = l4 then l else so)) 5 (16 * b + p) 4 ((K : Int) + 1)) := fun so => by
    unfold j_X5_fillNext_0_129 j_X5_fillNext_0_157
    rw [nk_of (hS3.q3 p hp), ldR_of (hS3.z37 p hp) (by omega), show (0 : Int).toNat = 0 from rfl, hS3.e37 p 0 hp (by omega), nk_some, n3, k159, k159]
    rcases htu with z | z
    · rw [if_pos z, if_neg (show ¬ (tu = 1 ∧ so = l4) by omega)]
    · by_cases y : so = l4
      · rw [if_neg (show ¬ tu = 0 by omega), if_neg (fun x => x y), if_pos (show tu = 1 ∧ so = l4 from ⟨z, y⟩)]
      · rw [if_neg (show ¬ tu = 0 by omega), if_pos y, if_neg (show ¬ (tu = 1 ∧ so = l4) from fun x => y x.2)]
  have k80 : ∀ so : Int, (pc = -1 → so = -1) → (∀ x : Nat, pc = x → so = gN m 20 0 x) → j_X5_fillNext_0_80 m (16 * b + p) l 0 l4 pc tu = j_X5_fillNext_0_129 (sN (sN (sN m 34 (16 * b + p) K l) 35 (16 * b + p) K pc) 36 (16 * b + p) K tu) (16 * b + p) l l4 pc tu so := fun so h1 h2 => by
    unfold j_X5_fillNext_0_80
    rw [nk_of (hS.q0 p hp), hn, stN_of (hS.z34 p hp) (by omega), tnc, nk_of (hS1.q1 p hp), n1, stN_of (hS1.z35 p hp) (by omega), tnc, nk_of (hS2.q2 p hp), cb_of htu, n2, stN_of (hS2.z36 p hp) (by omega), tnc]
    rcases hpc with z | ⟨x, hx, z⟩
    · rw [if_neg (fun y => y z), h1 z]
    · rw [if_pos (show ¬ pc = -1 by omega), nk_of hC3.c0, ldN_of hC3.z20 (by omega), show pc.toNat = x by omega, n20, ← h2 x z]
  obtain ⟨so, h1, h2⟩ : ∃ so : Int, (pc = -1 → so = -1) ∧ (∀ x : Nat, pc = x → so = gN m 20 0 x) := by
    rcases hpc with z | ⟨x, hx, z⟩
    · exact ⟨-1, fun _ => rfl, fun x y => by omega⟩
    · exact ⟨gN m 20 0 x, fun y => by omega, fun y hy => by rw [show y = x by omega]⟩
  exact ⟨so, h1, h2, by rw [k80 so h1 h2, k129]⟩
/-- the model's print of a place; the piece becomes the page's -/
theorem m134 {t : MM} (hM : SM t) {b p d l : Nat} (hb : b < 3) (hp : p < 16) (hd : d < 4) (hl : l < 28) {K : Nat} (hK : K < 150) {pc tu : Int} (h1 : gN t 100 0 (150 * (16 * b + p) + K) = pc) (h2 : gN t 101 0 (150 * (16 * b + p) + K) = tu) (hpc : pc = -1 ∨ ∃ x : Nat, x < 400 ∧ pc = x) (h71 : 0 ≤ gN t 71 0 d ∧ gN t 71 0 d ≤ 100000000) :
    ∃ so : Int, (pc = -1 → so = 28) ∧ (∀ x : Nat, pc = x → so = if tu = 1 ∧ gN t 62 0 x = tb l then (l : Int) else gN t 62 0 x) ∧
      ((pc = -1 ∧ j_X12_fills_0_134 t 0 (b : Int) (p : Int) (d : Int) (l : Int) ((150 * (16 * b + p) + K : Nat) : Int) = some (.inl (some (aI 1)), sN t 102 0 (150 * (16 * b + p) + K) so)) ∨
       ∃ x : Nat, pc = x ∧ j_X12_fills_0_134 t 0 (b : Int) (p : Int) (d : Int) (l : Int) ((150 * (16 * b + p) + K : Nat) : Int) = some (.inl (some (aI 0)), sN (sN (sN t 102 0 (150 * (16 * b + p) + K) so) 64 0 x (100 + 100 * (b : Int) + (p : Int))) 71 0 d (gN t 71 0 d + 1))) := by
  have e : ∀ (so : Int), f_X12_printOf t 0 pc (l : Int) tu = some so → j_X12_fills_0_134 t 0 (b : Int) (p : Int) (d : Int) (l : Int) ((150 * (16 * b + p) + K : Nat) : Int) = if ¬ pc = -1 then (nk 64 (gR (sN t 102 0 (150 * (16 * b + p) + K) so) 12 0 9) fun i39 => ldN (sN t 102 0 (150 * (16 * b + p) + K) so) 100 0 ((150 * (16 * b + p) + K : Nat) : Int) fun v41 => ck ((100 + (100 * (b : Int))) + (p : Int)) <| stN (sN t 102 0 (150 * (16 * b + p) + K) so) 64 i39 v41 ((100 + (100 * (b : Int))) + (p : Int)) fun m42 => nk 71 (gR m42 12 0 17) fun i43 => ldN m42 71 i43 (d : Int) fun v44 => ck (v44 + 1) <| stN m42 71 i43 (d : Int) (v44 + 1) fun m45 => some (.inl (some (aI 0)), m45)) else some (.inl (some (aI 1)), sN t 102 0 (150 * (16 * b + p) + K) so) := fun so hso => by
    unfold j_X12_fills_0_134
    have hM1 : SM (sN t 102 0 (150 * (16 * b + p) + K) so) := hM.mv (fun _ => rfl) (fun _ _ _ q => q)
    have y1 : gN (sN t 102 0 (150 * (16 * b + p) + K) so) 100 0 (150 * (16 * b + p) + K) = pc := by rw [gN_k (by decide), h1]
    rw [nk_of hM.r49, nk_of hM.r47, ldN_of hM.z100 (by omega), tnc, h1, nk_of hM.r48, ldN_of hM.z101 (by omega), tnc, h2, hso, Option.bind_some, stN_of hM.z102 (by omega), tnc, nk_of hM1.r47, ldN_of hM1.z100 (by omega), tnc, y1]
    by_cases z : pc = -1
    · rw [if_neg (fun y => y z), if_neg (fun y => y z)]
    · rw [if_pos z, if_pos z, nk_of hM1.r9, nk_of hM1.r9, nk_of hM1.r47]
  rcases hpc with z | ⟨x, hx, z⟩
  · refine ⟨28, fun _ => rfl, fun x y => by omega, Or.inl ⟨z, ?_⟩⟩
    rw [e 28 (by unfold f_X12_printOf; rw [if_neg (fun y => y z)]), if_neg (fun y => y z)]
  · refine ⟨if tu = 1 ∧ gN t 62 0 x = tb l then (l : Int) else gN t 62 0 x, fun y => by omega, fun y hy => by rw [show y = x by omega], Or.inr ⟨x, z, ?_⟩⟩
    have k30 : j_X12_printOf_0_30 t 0 pc = some (gN t 62 0 x) := by
      unfold j_X12_printOf_0_30
      rw [nk_of hM.r7, z, ldN_of hM.z62 (by omega), tnc]
    have kp : f_X12_printOf t 0 pc (l : Int) tu = some (if tu = 1 ∧ gN t 62 0 x = tb l then (l : Int) else gN t 62 0 x) := by
      unfold f_X12_printOf
      rw [k30, if_pos (show ¬ pc = -1 by omega)]
      by_cases y : tu = 1
      · rw [if_neg (fun w => w y), nk_of hM.r7, z, ldN_of hM.z62 (by omega), tnc, turned_m hl, Option.bind_some]
        by_cases w : gN t 62 0 x = tb l
        · rw [if_neg (fun v => v w), if_pos ⟨y, w⟩]
        · rw [if_pos w, if_neg (fun v => w v.2)]
      · rw [if_pos y, if_neg (fun v => y v.1)]
    have hM1 : SM (sN t 102 0 (150 * (16 * b + p) + K) (if tu = 1 ∧ gN t 62 0 x = tb l then (l : Int) else gN t 62 0 x)) := hM.mv (fun _ => rfl) (fun _ _ _ q => q)
    rw [e _ kp]
    generalize (if tu = 1 ∧ gN t 62 0 x = tb l then (l : Int) else gN t 62 0 x) = so at hM1 ⊢
    have hM2 : SM (sN (sN t 102 0 (150 * (16 * b + p) + K) so) 64 0 x (100 + 100 * (b : Int) + (p : Int))) := hM1.mv (fun _ => rfl) (fun _ _ _ q => q)
    have y1 : gN (sN t 102 0 (150 * (16 * b + p) + K) so) 100 0 (150 * (16 * b + p) + K) = pc := by rw [gN_k (by decide), h1]
    have y2 : gN (sN (sN t 102 0 (150 * (16 * b + p) + K) so) 64 0 x (100 + 100 * (b : Int) + (p : Int))) 71 0 d = gN t 71 0 d := by rw [gN_k (by decide), gN_k (by decide)]
    rw [if_pos (show ¬ pc = -1 by omega), nk_of hM1.r9, ldN_of hM1.z100 (by omega), tnc, y1, z, ck_of ⟨by omega, by omega⟩, stN_of hM1.z64 (by omega), tnc, nk_of hM2.r17, ldN_of hM2.z71 (by omega), tnc, y2, ck_of ⟨by omega, by omega⟩, stN_of hM2.z71 (by omega), tnc]
end SET
