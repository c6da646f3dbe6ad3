/-! WHAT THE SMALL METHODS COME TO: books, pages, formes, copies, leaves. -/
theorem nk_some {X : Type} {K i : Nat} {f : Nat → Option X} : nk K (some (K, i)) f = f i := if_pos rfl
theorem ifp {X : Type} {c : Prop} [Decidable c] {a b : X} (h : c) : (if c then a else b) = a := if_pos h
theorem ifn {X : Type} {c : Prop} [Decidable c] {a b : X} (h : ¬ c) : (if c then a else b) = b := if_neg h
theorem lt_eq {X : Type} {m : MM} {f : MM → Option X} : lt' m f = f m := rfl
theorem lt0_eq {X : Type} {x : Int} {f : Int → Option X} : lt0 x f = f x := rfl
theorem tnc (a : Nat) : ((a : Nat) : Int).toNat = a := Int.toNat_natCast a
theorem tn1 (c a b : Nat) : (((c : Nat) : Int) * (a : Int) + (b : Int)).toNat = c * a + b := by
  rw [← Int.natCast_mul, ← Int.natCast_add, Int.toNat_natCast]
theorem tn16 (a b : Nat) : (16 * (a : Int) + (b : Int)).toNat = 16 * a + b := by omega
theorem tn8 (a b : Nat) : (8 * (a : Int) + (b : Int)).toNat = 8 * a + b := by omega
theorem tn4 (a b : Nat) : (4 * (a : Int) + (b : Int)).toNat = 4 * a + b := by omega
theorem tn6 (a b c : Nat) : (6 * (16 * (a : Int) + (b : Int)) + (c : Int)).toNat = 6 * (16 * a + b) + c := by omega
theorem tn60 (a b c : Nat) : (60 * (16 * (a : Int) + (b : Int)) + (c : Int)).toNat = 60 * (16 * a + b) + c := by omega
theorem tn150 (a b c : Nat) : (150 * (16 * (a : Int) + (b : Int)) + (c : Int)).toNat = 150 * (16 * a + b) + c := by omega
theorem tn824 (a b c : Nat) : (8 * (24 * (a : Int) + (b : Int)) + (c : Int)).toNat = 8 * (24 * a + b) + c := by omega
theorem tn60b (a b : Nat) : (60 * (a : Int) + (b : Int)).toNat = 60 * a + b := by omega
theorem RR.thr {N : Nat} {mc mm : MM} (h : RR N mc mm) (v : Int) : RR N mc (sN mm 12 0 0 v) :=
  h.scr (Nat.le_refl _) (fun _ _ => rfl) (fun _ _ _ q => q) (fun _ => rfl) (fun _ _ _ _ _ => eq3.rf) (fun K i s _ hs => eq3.sN (by unfold scM at hs; omega))
theorem RR.bX {N : Nat} {mc mm : MM} (h : RR N mc mm) : RR N (bX mc) mm :=
  h.scr (Nat.le_refl _) (fun _ _ => rfl) (fun _ _ _ q => q) (fun _ => rfl) (fun _ _ _ _ _ => eq3.rf) (fun _ _ _ _ _ => eq3.rf)
theorem BP.thr {mm : MM} {b F n M Ln E : Nat} (h : BP mm b F n M Ln E) (v : Int) : BP (sN mm 12 0 0 v) b F n M Ln E := h.keep fun K h1 h2 => by rw [gthr' _ _ (Or.inl (by omega))]
theorem RBk.thr {mc mm : MM} {b F n M Ln E : Nat} (h : RBk mc mm b F n M Ln E) (v : Int) : RBk mc (sN mm 12 0 0 v) b F n M Ln E :=
  h.scr (fun _ _ => rfl) (fun _ _ _ _ => eq3.rf) (fun K i s hs => eq3.sN (by omega))
section ACC
variable {N : Nat} {mc mm : MM} {b F n M Ln E : Nat}
theorem bookAt_ok (h : RNb mc mm) (hC : SC mc) (hb : (b : Int) < gN mm 12 0 19) : f_X11_bookAt mc 0 (b : Int) = some (.inl (some (aR (some (0, b)))), mc) := by
  have h3 := h.r
  unfold f_X11_bookAt j_X11_bookAt_0_23
  simp (disch := omega) only [hC.r3, nk_some, ifn, lenI_of hC.z56, ldR_of hC.z56, tnc, h.s b hb]
  rfl
theorem bookAt_bad (h : RNb mc mm) (hC : SC mc) {p : Int} (hb : ¬ (0 ≤ p ∧ p < gN mm 12 0 19)) : f_X11_bookAt mc 0 p = some (.inr 0, bX mc) := by
  have h3 := h.r
  unfold f_X11_bookAt j_X11_bookAt_0_22 j_X11_bookAt_0_23
  simp only [hC.r3, nk_some, lenI_of hC.z56]
  by_cases h1 : p < 0
  · rw [if_pos h1]; rfl
  · rw [if_neg h1]
    by_cases h2 : ((3 : Nat) : Int) ≤ p
    · rw [if_pos h2]; rfl
    · rw [if_neg h2, ldR_of hC.z56 (by omega), h.z p.toNat (by omega)]; rfl
theorem isBook_ok (h : RNb mc mm) (hb : (b : Int) < gN mm 12 0 19) : f_X12_isBook mm 0 (b : Int) = some 1 := by
  have h3 := h.r
  unfold f_X12_isBook
  rw [ck_of ⟨by omega, by omega⟩, isIn_m, Option.bind_some, if_pos (by omega)]; rfl
theorem isBook_bad (h : RNb mc mm) {p : Int} (hb : ¬ (0 ≤ p ∧ p < gN mm 12 0 19)) : f_X12_isBook mm 0 p = some 0 := by
  have h3 := h.r
  unfold f_X12_isBook
  rw [ck_of ⟨by omega, by omega⟩, isIn_m, Option.bind_some, if_neg (by omega)]; rfl
theorem hasPage_ok (hS : BS mc b F n M Ln E) {p : Nat} (hp : p < 2 * (F * n)) : f_X0_hasPage mc b (p : Int) = some 1 := by
  unfold f_X0_hasPage
  simp (disch := omega) only [hS.r5, nk_some, lenI_of hS.z13, ifn]
theorem hasPage_bad (hS : BS mc b F n M Ln E) {p : Int} (hp : ¬ (0 ≤ p ∧ p < (2 * (F * n) : Nat))) : f_X0_hasPage mc b p = some 0 := by
  unfold f_X0_hasPage
  simp only [hS.r5, nk_some, lenI_of hS.z13]
  exact ite2 (by omega)
theorem pageOf_ok (hS : BS mc b F n M Ln E) {p : Nat} (hp : p < 2 * (F * n)) : f_X11_pageOf mc b (p : Int) = some (.inl (some (aR (some (4, 16 * b + p)))), mc) := by
  unfold f_X11_pageOf
  rw [hasPage_ok hS hp, Option.bind_some, if_pos (by decide), nk_of hS.r5, ldR_of hS.z13 (by omega), tnc, hS.e13 p hp]
theorem pageOf_bad (hS : BS mc b F n M Ln E) {p : Int} (hp : ¬ (0 ≤ p ∧ p < (2 * (F * n) : Nat))) : f_X11_pageOf mc b p = some (.inr 0, bX mc) := by
  unfold f_X11_pageOf
  rw [hasPage_bad hS hp]; rfl
theorem hasForme_ok (hS : BS mc b F n M Ln E) {p : Nat} (hp : p < 2 * n) : f_X0_hasForme mc b (p : Int) = some 1 := by
  unfold f_X0_hasForme
  simp (disch := omega) only [hS.r6, nk_some, lenI_of hS.z14, ifn]
theorem hasForme_bad (hS : BS mc b F n M Ln E) {p : Int} (hp : ¬ (0 ≤ p ∧ p < (2 * n : Nat))) : f_X0_hasForme mc b p = some 0 := by
  unfold f_X0_hasForme
  simp only [hS.r6, nk_some, lenI_of hS.z14]
  exact ite2 (by omega)
theorem formeOf_ok (hS : BS mc b F n M Ln E) {p : Nat} (hp : p < 2 * n) : f_X11_formeOf mc b (p : Int) = some (.inl (some (aR (some (2, 8 * b + p)))), mc) := by
  unfold f_X11_formeOf
  rw [hasForme_ok hS hp, Option.bind_some, if_pos (by decide), nk_of hS.r6, ldR_of hS.z14 (by omega), tnc, hS.e14 p hp]
theorem formeOf_bad (hS : BS mc b F n M Ln E) {p : Int} (hp : ¬ (0 ≤ p ∧ p < (2 * n : Nat))) : f_X11_formeOf mc b p = some (.inr 0, bX mc) := by
  unfold f_X11_formeOf
  rw [hasForme_bad hS hp]; rfl
theorem hasCopy_ok (hS : BS mc b F n M Ln E) {p : Nat} (hp : p < E) : f_X0_hasCopy mc b (p : Int) = some 1 := by
  unfold f_X0_hasCopy
  rw [hS.f3, if_neg (by omega), if_neg (by omega)]
theorem hasCopy_bad (hS : BS mc b F n M Ln E) {p : Int} (hp : ¬ (0 ≤ p ∧ p < (E : Nat))) : f_X0_hasCopy mc b p = some 0 := by
  unfold f_X0_hasCopy
  rw [hS.f3]
  exact ite2 (by omega)
theorem mulc (a b : Nat) : ((a : Int) * (b : Int)) = ((a * b : Nat) : Int) := (Int.natCast_mul a b).symm
theorem hasLeaf_ok (hP : BP mm b F n M Ln E) (hS : BS mc b F n M Ln E) {p : Nat} (hp : p < F * n) : f_X0_hasLeaf mc b (p : Int) = some 1 := by
  have h1 := hP.hn
  unfold f_X0_hasLeaf
  rw [if_neg (by omega), nk_of hS.r7, lenI_of hS.z15, hS.f0, mulc, ck_of ⟨by omega, by omega⟩, if_neg (by omega)]
theorem hasLeaf_bad (hP : BP mm b F n M Ln E) (hS : BS mc b F n M Ln E) {p : Int} (hp : ¬ (0 ≤ p ∧ p < (F * n : Nat))) : f_X0_hasLeaf mc b p = some 0 := by
  have h1 := hP.hn
  unfold f_X0_hasLeaf
  rw [nk_of hS.r7, lenI_of hS.z15, hS.f0, mulc, ck_of ⟨by omega, by omega⟩]
  exact ite2 (by omega)
theorem pagesOf_m (hM : SM mm) (hP : BP mm b F n M Ln E) : f_X12_pagesOf mm 0 (b : Int) = some ((2 * (F * n) : Nat) : Int) := by
  have h1 := hP.hn
  have h2 := hP.hb
  have e : 2 * (F : Int) * (n : Int) = ((2 * (F * n) : Nat) : Int) := by rw [Int.mul_assoc, mulc]; omega
  unfold f_X12_pagesOf
  rw [nk_of hM.r20, ldN_of hM.z73 (by omega), nk_of hM.r21, ldN_of hM.z74 (by omega), tnc, hP.f, hP.n, e, ck_of ⟨by omega, by omega⟩]
theorem fo_eq (hF : F = 2 ∨ F = 4 ∨ F = 8) (p : Nat) : ((fo F p : Nat) : Int) = if 1 < ((p : Int) % (2 * (F : Int)) + 1) % 4 then 2 * ((p : Int) / (2 * (F : Int))) + 1 else 2 * ((p : Int) / (2 * (F : Int))) := by
  unfold fo
  rcases hF with rfl | rfl | rfl <;> split <;> split <;> omega
theorem formeOf_m (hM : SM mm) (hP : BP mm b F n M Ln E) {p : Nat} (hp : p < 16) : f_X12_formeOf mm 0 (b : Int) (p : Int) = some ((fo F p : Nat) : Int) := by
  have h2 := hP.hb
  unfold f_X12_formeOf
  rw [nk_of hM.r20, ldN_of hM.z73 (by omega), tnc, hP.f, fo_eq hP.hF]
  have hF := hP.hF
  rw [ck_of ⟨by omega, by omega⟩, dv_of ⟨by omega, by omega⟩]
  rcases hF with rfl | rfl | rfl
  all_goals
    simp (disch := omega) only [nk_of hM.r20, ldN_of hM.z73, tnc, hP.f, ck_of, dv_of, Int.add_zero]
    split <;> split <;> first | rfl | omega
theorem formeOf_c (hF : F = 2 ∨ F = 4 ∨ F = 8) {p : Nat} (hp : p < 16) : f_X0_formeOfPage mc (p : Int) (F : Int) = some ((fo F p : Nat) : Int) := by
  unfold f_X0_formeOfPage
  rw [fo_eq hF]
  rcases hF with rfl | rfl | rfl
  all_goals
    simp (disch := omega) only [ck_of, dv_of, Int.add_zero, Int.mul_comm _ 2]
    split <;> rfl
theorem formeNumber_c (hP : BP mm b F n M Ln E) (hS : BS mc b F n M Ln E) {p : Nat} (hp : p < 16) : f_X0_formeNumber mc b (p : Int) = some ((fo F p : Nat) : Int) := by
  unfold f_X0_formeNumber
  rw [hS.f0, formeOf_c hP.hF hp]; rfl
theorem isPage_b0 (h : RNb mc mm) {q p : Int} (hb : ¬ (0 ≤ q ∧ q < gN mm 12 0 19)) : f_X12_isPage mm 0 q p = some 0 := by
  unfold f_X12_isPage
  rw [isBook_bad h hb]; rfl
theorem isPage_ok (h : RNb mc mm) (hM : SM mm) (hP : BP mm b F n M Ln E) (hb : (b : Int) < gN mm 12 0 19) {p : Nat} (hp : p < 2 * (F * n)) : f_X12_isPage mm 0 (b : Int) (p : Int) = some 1 := by
  have h1 := hP.hn
  unfold f_X12_isPage
  rw [isBook_ok h hb, Option.bind_some, if_neg (by decide), pagesOf_m hM hP, Option.bind_some, ck_of ⟨by omega, by omega⟩, isIn_m, Option.bind_some, if_pos (show 0 ≤ (p : Int) ∧ _ by omega)]; rfl
theorem isPage_bad (h : RNb mc mm) (hM : SM mm) (hP : BP mm b F n M Ln E) (hb : (b : Int) < gN mm 12 0 19) {p : Int} (hp : ¬ (0 ≤ p ∧ p < (2 * (F * n) : Nat))) : f_X12_isPage mm 0 (b : Int) p = some 0 := by
  have h1 := hP.hn
  unfold f_X12_isPage
  rw [isBook_ok h hb, Option.bind_some, if_neg (by decide), pagesOf_m hM hP, Option.bind_some, ck_of ⟨by omega, by omega⟩, isIn_m, Option.bind_some, if_neg (show ¬ (0 ≤ p ∧ _) by omega)]; rfl
theorem isForme_b0 (h : RNb mc mm) {q p : Int} (hb : ¬ (0 ≤ q ∧ q < gN mm 12 0 19)) : f_X12_isForme mm 0 q p = some 0 := by
  unfold f_X12_isForme
  rw [isBook_bad h hb]; rfl
theorem isForme_ok (h : RNb mc mm) (hM : SM mm) (hP : BP mm b F n M Ln E) (hb : (b : Int) < gN mm 12 0 19) {p : Nat} (hp : p < 2 * n) : f_X12_isForme mm 0 (b : Int) (p : Int) = some 1 := by
  have h1 := hP.hn
  have h2 := hP.hb
  unfold f_X12_isForme
  rw [isBook_ok h hb, Option.bind_some, if_neg (by decide), nk_of hM.r21, ldN_of hM.z74 (by omega), tnc, hP.n, ck_of ⟨by omega, by omega⟩, isIn_m, Option.bind_some, if_pos (show 0 ≤ (p : Int) ∧ _ by omega)]; rfl
theorem isForme_bad (h : RNb mc mm) (hM : SM mm) (hP : BP mm b F n M Ln E) (hb : (b : Int) < gN mm 12 0 19) {p : Int} (hp : ¬ (0 ≤ p ∧ p < (2 * n : Nat))) : f_X12_isForme mm 0 (b : Int) p = some 0 := by
  have h1 := hP.hn
  have h2 := hP.hb
  unfold f_X12_isForme
  rw [isBook_ok h hb, Option.bind_some, if_neg (by decide), nk_of hM.r21, ldN_of hM.z74 (by omega), tnc, hP.n, ck_of ⟨by omega, by omega⟩, isIn_m, Option.bind_some, if_neg (show ¬ (0 ≤ p ∧ _) by omega)]; rfl
theorem isCopy_b0 (h : RNb mc mm) {q p : Int} (hb : ¬ (0 ≤ q ∧ q < gN mm 12 0 19)) : f_X12_isCopy mm 0 q p = some 0 := by
  unfold f_X12_isCopy
  rw [isBook_bad h hb]; rfl
theorem isCopy_ok (h : RNb mc mm) (hM : SM mm) (hP : BP mm b F n M Ln E) (hb : (b : Int) < gN mm 12 0 19) {p : Nat} (hp : p < E) : f_X12_isCopy mm 0 (b : Int) (p : Int) = some 1 := by
  have h1 := hP.hE
  have h2 := hP.hb
  unfold f_X12_isCopy
  rw [isBook_ok h hb, Option.bind_some, if_neg (by decide), nk_of hM.r24, ldN_of hM.z77 (by omega), tnc, hP.e, ck_of ⟨by omega, by omega⟩, isIn_m, Option.bind_some, if_pos (show 0 ≤ (p : Int) ∧ _ by omega)]; rfl
theorem isCopy_bad (h : RNb mc mm) (hM : SM mm) (hP : BP mm b F n M Ln E) (hb : (b : Int) < gN mm 12 0 19) {p : Int} (hp : ¬ (0 ≤ p ∧ p < (E : Nat))) : f_X12_isCopy mm 0 (b : Int) p = some 0 := by
  have h1 := hP.hE
  have h2 := hP.hb
  unfold f_X12_isCopy
  rw [isBook_ok h hb, Option.bind_some, if_neg (by decide), nk_of hM.r24, ldN_of hM.z77 (by omega), tnc, hP.e, ck_of ⟨by omega, by omega⟩, isIn_m, Option.bind_some, if_neg (show ¬ (0 ≤ p ∧ _) by omega)]; rfl
theorem isLeaf_b0 (h : RNb mc mm) {q p : Int} (hb : ¬ (0 ≤ q ∧ q < gN mm 12 0 19)) : f_X12_isLeaf mm 0 q p = some 0 := by
  unfold f_X12_isLeaf
  rw [isBook_bad h hb]; rfl
theorem isLeaf_ok (h : RNb mc mm) (hM : SM mm) (hP : BP mm b F n M Ln E) (hb : (b : Int) < gN mm 12 0 19) {p : Nat} (hp : p < F * n) : f_X12_isLeaf mm 0 (b : Int) (p : Int) = some 1 := by
  have h1 := hP.hn
  unfold f_X12_isLeaf
  rw [isBook_ok h hb, Option.bind_some, if_neg (by decide), pagesOf_m hM hP, Option.bind_some, dv_of ⟨by omega, by omega⟩, ck_of ⟨by omega, by omega⟩, isIn_m, Option.bind_some, if_pos (show 0 ≤ (p : Int) ∧ _ by omega)]; rfl
theorem isLeaf_bad (h : RNb mc mm) (hM : SM mm) (hP : BP mm b F n M Ln E) (hb : (b : Int) < gN mm 12 0 19) {p : Int} (hp : ¬ (0 ≤ p ∧ p < (F * n : Nat))) : f_X12_isLeaf mm 0 (b : Int) p = some 0 := by
  have h1 := hP.hn
  unfold f_X12_isLeaf
  rw [isBook_ok h hb, Option.bind_some, if_neg (by decide), pagesOf_m hM hP, Option.bind_some, dv_of ⟨by omega, by omega⟩, ck_of ⟨by omega, by omega⟩, isIn_m, Option.bind_some, if_neg (show ¬ (0 ≤ p ∧ _) by omega)]; rfl
theorem holds0 (m : MM) : f_X12_holds m 0 0 = some (.inl (some (aI 1)), sN m 12 0 0 0) := holds_m m 0
theorem holds1 (m : MM) {v : Int} (hv : v ≠ 0) : f_X12_holds m 0 v = some (.inl (some (aI 0)), sN m 12 0 0 v) := by rw [holds_m, if_neg hv]
end ACC
/-- a call that asks -/
def Qry (o1 o2 : MO) (xs : List Nat) (mc mm : MM) : Prop := ∃ r b t, (o1 = some (r, mc) ∨ o1 = some (r, bX mc)) ∧ o2 = some (.inl (some (aI b)), sN mm 12 0 0 t) ∧ Ans xs r t b
theorem Qry.bad {o1 o2 : MO} {xs : List Nat} {mc mm : MM} {e k : Nat} {b : Int} (h1 : o1 = some (.inr e, bX mc)) (h2 : o2 = some (.inl (some (aI b)), sN mm 12 0 0 ((k + 1 : Nat) : Int))) (hx : xs[k]? = some e) : Qry o1 o2 xs mc mm := ⟨_, _, _, Or.inr h1, h2, Or.inr ⟨e, k, rfl, hx, rfl⟩⟩
theorem Qry.ok {o1 o2 : MO} {xs : List Nat} {mc mm : MM} {v : Int} (h1 : o1 = some (.inl (some (aI v)), mc)) (h2 : o2 = some (.inl (some (aI v)), sN mm 12 0 0 0)) : Qry o1 o2 xs mc mm := ⟨_, _, _, Or.inl h1, h2, Or.inl ⟨rfl, rfl⟩⟩
