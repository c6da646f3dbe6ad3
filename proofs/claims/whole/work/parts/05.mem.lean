/-! THE ABSTRACT MEMORY: cells are (kind, number); numbers, longs and references apart; lengths; counters. -/
abbrev MV : Type := Int ⊕ (Int ⊕ (Int64 ⊕ (Option (Nat × Nat) ⊕ Value)))
abbrev aI (x : Int) : MV := Sum.inl x
abbrev aU (x : Int) : MV := Sum.inr (Sum.inl x)
abbrev aL (x : Int64) : MV := Sum.inr (Sum.inr (Sum.inl x))
abbrev aR (r : Option (Nat × Nat)) : MV := Sum.inr (Sum.inr (Sum.inr (Sum.inl r)))
abbrev aV (v : Value) : MV := Sum.inr (Sum.inr (Sum.inr (Sum.inr v)))
abbrev RV : Type := Option MV ⊕ Nat
abbrev MM : Type := (Nat → Nat → Nat → Int) × (Nat → Nat → Nat → Int64) × (Nat → Nat → Nat → Option (Nat × Nat)) × (Nat → Nat → Option Nat) × (Nat → Nat) × Nat × Nat
abbrev MO : Type := Option (RV × MM)
def gN (m : MM) (K i s : Nat) : Int := m.1 K i s
def gL (m : MM) (K i s : Nat) : Int64 := m.2.1 K i s
def gR (m : MM) (K i s : Nat) : Option (Nat × Nat) := m.2.2.1 K i s
def gZ (m : MM) (K i : Nat) : Option Nat := m.2.2.2.1 K i
def gC (m : MM) (K : Nat) : Nat := m.2.2.2.2.1 K
def gA (m : MM) : Nat := m.2.2.2.2.2.1
def gB (m : MM) : Nat := m.2.2.2.2.2.2
def sN (m : MM) (K i s : Nat) (v : Int) : MM := (fun a b c => if a = K ∧ b = i ∧ c = s then v else m.1 a b c, m.2)
def sL (m : MM) (K i s : Nat) (v : Int64) : MM := (m.1, fun a b c => if a = K ∧ b = i ∧ c = s then v else m.2.1 a b c, m.2.2)
def sR (m : MM) (K i s : Nat) (v : Option (Nat × Nat)) : MM := (m.1, m.2.1, fun a b c => if a = K ∧ b = i ∧ c = s then v else m.2.2.1 a b c, m.2.2.2)
/-- a new cell of kind K with n fields or elements -/
def nW (m : MM) (K n : Nat) : MM := (m.1, m.2.1, m.2.2.1, fun a b => if a = K ∧ b = gC m K then some n else gZ m a b, fun a => if a = K then gC m K + 1 else gC m a, gA m + 1, gB m + n)
/-- n new rows of k elements each, kind K2, and an array of them, kind K1 -/
def nM (m : MM) (K1 n K2 k : Nat) : MM := (m.1, m.2.1, fun a b c => if a = K1 ∧ b = gC m K1 ∧ c < n then some (K2, gC m K2 + c) else gR m a b c,
  fun a b => if a = K1 ∧ b = gC m K1 then some n else if a = K2 ∧ gC m K2 ≤ b ∧ b < gC m K2 + n then some k else gZ m a b,
  fun a => if a = K1 then gC m K1 + 1 else if a = K2 then gC m K2 + n else gC m a, gA m + (1 + n), gB m + (n + n * k))
/-- an exception is made -/
def bX (m : MM) : MM := (m.1, m.2.1, m.2.2.1, m.2.2.2.1, m.2.2.2.2.1, gA m + 1, gB m + 6)
/-- the counters go up -/
def bC (m : MM) (f : Nat → Nat) : MM := (m.1, m.2.1, m.2.2.1, m.2.2.2.1, fun a => max (gC m a) (f a), gA m, gB m)
def nrm (x : Int) : Prop := -2147483648 ≤ x ∧ x < 2147483648
def toV (ad : Nat → Nat → Nat) : MV → Value
  | .inl x => .int (Int32.ofInt x)
  | .inr (.inl x) => .int (Int32.ofInt x)
  | .inr (.inr (.inl x)) => .long x
  | .inr (.inr (.inr (.inl r))) => va_rf (r.map fun q => ad q.1 q.2)
  | .inr (.inr (.inr (.inr v))) => v
/-- the integer of a value that is one -/
def vi : MV → Option Int
  | .inl x => some x
  | .inr (.inl x) => some x
  | _ => none
def ct2 : MV → Bool
  | .inr (.inr (.inl _)) => true
  | _ => false
def okV (m : MM) : MV → Prop
  | .inl x => nrm x
  | .inr (.inr (.inr (.inl (some q)))) => gZ m q.1 q.2 ≠ none
  | .inr (.inr (.inr (.inr v))) => v.category = 1
  | _ => True
def okA (m : MM) (st : List MV) : Prop := ∀ v ∈ st, okV m v
def okL (m : MM) (L : List (Nat × MV)) : Prop := ∀ q ∈ L, okV m q.2
def fV (ad : Nat → Nat → Nat) (m : MM) (K i s : Nat) : FieldType → Value
  | .long => .long (gL m K i s)
  | .object _ => va_rf ((gR m K i s).map fun q => ad q.1 q.2)
  | .array _ => va_rf ((gR m K i s).map fun q => ad q.1 q.2)
  | _ => .int (Int32.ofInt (gN m K i s))
abbrev FX : Type := Launch × (Nat → ClassId) × (Nat → Nat → Nat) × (FieldType → ClassId) × Nat × Nat × Nat × (Nat → Int32)
def xl (fx : FX) : Launch := fx.1
def xC (fx : FX) : Nat → ClassId := fx.2.1
def xI (fx : FX) : Nat → Nat → Nat := fx.2.2.1
def xA (fx : FX) : FieldType → ClassId := fx.2.2.2.1
def xB (fx : FX) : Nat := fx.2.2.2.2.1
/-- the script: its address, its length, its ints -/
def xb (fx : FX) : Nat := fx.2.2.2.2.2.1
def xn (fx : FX) : Nat := fx.2.2.2.2.2.2.1
def xs (fx : FX) : Nat → Int32 := fx.2.2.2.2.2.2.2
def okC (fx : FX) (ad : Nat → Nat → Nat) (m : MM) (K i n : Nat) (H : Heap) : Prop :=
  n < 2147483648 ∧ (K < 13 → ∃ r : vw_C, vwCl[K]? = some r ∧ n = r.2.2 ∧ t_OB (ad K i) (xC fx K) r.2.2 (xI fx K) H (fun s => fV ad m K i s (FTy K s))) ∧
  (13 ≤ K → H[ad K i]? = some (arrV (xA fx (KT K)) n (fun s => fV ad m K i s (KT K))))
def OKM (m : MM) : Prop := (∀ K i, gC m K ≤ i → gZ m K i = none) ∧ (∀ K i s, nrm (gN m K i s)) ∧ (∀ K i s q, gR m K i s = some q → gZ m q.1 q.2 ≠ none) ∧ (∀ K i, gZ m K i = none → ∀ s, gN m K i s = 0 ∧ gL m K i s = 0 ∧ gR m K i s = none)
def Rep (fx : FX) (ad : Nat → Nat → Nat) (m : MM) (H : Heap) : Prop :=
  (∀ K i n, gZ m K i = some n → okC fx ad m K i n H ∧ xB fx ≤ ad K i) ∧
  (∀ K i K' i', gZ m K i ≠ none → gZ m K' i' ≠ none → ad K i = ad K' i' → K = K' ∧ i = i') ∧ OKM m
def Ext (m0 : MM) (ad0 : Nat → Nat → Nat) (m : MM) (ad : Nat → Nat → Nat) : Prop := ∀ K i n, gZ m0 K i = some n → gZ m K i = some n ∧ ad K i = ad0 K i
theorem Ext.rf {m : MM} {ad : Nat → Nat → Nat} : Ext m ad m ad := fun _ _ _ h => ⟨h, rfl⟩
theorem Ext.tr {m0 m1 m2 : MM} {a0 a1 a2 : Nat → Nat → Nat} (h : Ext m0 a0 m1 a1) (k : Ext m1 a1 m2 a2) : Ext m0 a0 m2 a2 := fun K i n q => by
  obtain ⟨h1, h2⟩ := h K i n q
  obtain ⟨k1, k2⟩ := k K i n h1
  exact ⟨k1, k2.trans h2⟩
-- what a write leaves
theorem gN_sN (m : MM) (K i s : Nat) (v : Int) (a b c : Nat) : gN (sN m K i s v) a b c = if a = K ∧ b = i ∧ c = s then v else gN m a b c := rfl
theorem gL_sN (m : MM) (K i s : Nat) (v : Int) (a b c : Nat) : gL (sN m K i s v) a b c = gL m a b c := rfl
theorem gR_sN (m : MM) (K i s : Nat) (v : Int) (a b c : Nat) : gR (sN m K i s v) a b c = gR m a b c := rfl
theorem gZ_sN (m : MM) (K i s : Nat) (v : Int) (a b : Nat) : gZ (sN m K i s v) a b = gZ m a b := rfl
theorem gC_sN (m : MM) (K i s : Nat) (v : Int) (a : Nat) : gC (sN m K i s v) a = gC m a := rfl
theorem gA_sN (m : MM) (K i s : Nat) (v : Int) : gA (sN m K i s v) = gA m := rfl
theorem gB_sN (m : MM) (K i s : Nat) (v : Int) : gB (sN m K i s v) = gB m := rfl
theorem gN_sL (m : MM) (K i s : Nat) (v : Int64) (a b c : Nat) : gN (sL m K i s v) a b c = gN m a b c := rfl
theorem gL_sL (m : MM) (K i s : Nat) (v : Int64) (a b c : Nat) : gL (sL m K i s v) a b c = if a = K ∧ b = i ∧ c = s then v else gL m a b c := rfl
theorem gR_sL (m : MM) (K i s : Nat) (v : Int64) (a b c : Nat) : gR (sL m K i s v) a b c = gR m a b c := rfl
theorem gZ_sL (m : MM) (K i s : Nat) (v : Int64) (a b : Nat) : gZ (sL m K i s v) a b = gZ m a b := rfl
theorem gC_sL (m : MM) (K i s : Nat) (v : Int64) (a : Nat) : gC (sL m K i s v) a = gC m a := rfl
theorem gA_sL (m : MM) (K i s : Nat) (v : Int64) : gA (sL m K i s v) = gA m := rfl
theorem gB_sL (m : MM) (K i s : Nat) (v : Int64) : gB (sL m K i s v) = gB m := rfl
theorem gN_sR (m : MM) (K i s : Nat) (v : Option (Nat × Nat)) (a b c : Nat) : gN (sR m K i s v) a b c = gN m a b c := rfl
theorem gL_sR (m : MM) (K i s : Nat) (v : Option (Nat × Nat)) (a b c : Nat) : gL (sR m K i s v) a b c = gL m a b c := rfl
theorem gR_sR (m : MM) (K i s : Nat) (v : Option (Nat × Nat)) (a b c : Nat) : gR (sR m K i s v) a b c = if a = K ∧ b = i ∧ c = s then v else gR m a b c := rfl
theorem gZ_sR (m : MM) (K i s : Nat) (v : Option (Nat × Nat)) (a b : Nat) : gZ (sR m K i s v) a b = gZ m a b := rfl
theorem gC_sR (m : MM) (K i s : Nat) (v : Option (Nat × Nat)) (a : Nat) : gC (sR m K i s v) a = gC m a := rfl
theorem gA_sR (m : MM) (K i s : Nat) (v : Option (Nat × Nat)) : gA (sR m K i s v) = gA m := rfl
theorem gB_sR (m : MM) (K i s : Nat) (v : Option (Nat × Nat)) : gB (sR m K i s v) = gB m := rfl
theorem gN_nW (m : MM) (K n a b c : Nat) : gN (nW m K n) a b c = gN m a b c := rfl
theorem gL_nW (m : MM) (K n a b c : Nat) : gL (nW m K n) a b c = gL m a b c := rfl
theorem gR_nW (m : MM) (K n a b c : Nat) : gR (nW m K n) a b c = gR m a b c := rfl
theorem gZ_nW (m : MM) (K n a b : Nat) : gZ (nW m K n) a b = if a = K ∧ b = gC m K then some n else gZ m a b := rfl
theorem gC_nW (m : MM) (K n a : Nat) : gC (nW m K n) a = if a = K then gC m K + 1 else gC m a := rfl
theorem gA_nW (m : MM) (K n : Nat) : gA (nW m K n) = gA m + 1 := rfl
theorem gB_nW (m : MM) (K n : Nat) : gB (nW m K n) = gB m + n := rfl
theorem gN_nM (m : MM) (K n K2 k a b c : Nat) : gN (nM m K n K2 k) a b c = gN m a b c := rfl
theorem gL_nM (m : MM) (K n K2 k a b c : Nat) : gL (nM m K n K2 k) a b c = gL m a b c := rfl
theorem gR_nM (m : MM) (K n K2 k a b c : Nat) : gR (nM m K n K2 k) a b c = if a = K ∧ b = gC m K ∧ c < n then some (K2, gC m K2 + c) else gR m a b c := rfl
theorem gZ_nM (m : MM) (K n K2 k a b : Nat) : gZ (nM m K n K2 k) a b = if a = K ∧ b = gC m K then some n else if a = K2 ∧ gC m K2 ≤ b ∧ b < gC m K2 + n then some k else gZ m a b := rfl
theorem gC_nM (m : MM) (K n K2 k a : Nat) : gC (nM m K n K2 k) a = if a = K then gC m K + 1 else if a = K2 then gC m K2 + n else gC m a := rfl
theorem gA_nM (m : MM) (K n K2 k : Nat) : gA (nM m K n K2 k) = gA m + (1 + n) := rfl
theorem gB_nM (m : MM) (K n K2 k : Nat) : gB (nM m K n K2 k) = gB m + (n + n * k) := rfl
theorem toV_cat (ad : Nat → Nat → Nat) {m : MM} {v : MV} (h : okV m v) : (toV ad v).category = if ct2 v then 2 else 1 := by
  rcases v with x | x | x | r | w
  · rfl
  · rfl
  · rfl
  · cases r <;> rfl
  · exact h
theorem toV_ext {m0 m : MM} {ad0 ad : Nat → Nat → Nat} (hE : Ext m0 ad0 m ad) {v : MV} (h : okV m0 v) : toV ad v = toV ad0 v := by
  rcases v with x | x | x | r | w
  · rfl
  · rfl
  · rfl
  · cases r with
    | none => rfl
    | some q =>
      have h' : gZ m0 q.1 q.2 ≠ none := h
      cases hz : gZ m0 q.1 q.2 with
      | none => exact absurd hz h'
      | some n => exact congrArg Value.ref (hE q.1 q.2 n hz).2
  · rfl
theorem okV_ext {m0 m : MM} {ad0 ad : Nat → Nat → Nat} (hE : Ext m0 ad0 m ad) {v : MV} (h : okV m0 v) : okV m v := by
  rcases v with x | x | x | r | w
  · exact h
  · trivial
  · trivial
  · cases r with
    | none => trivial
    | some q =>
      have h' : gZ m0 q.1 q.2 ≠ none := h
      show gZ m q.1 q.2 ≠ none
      cases hz : gZ m0 q.1 q.2 with
      | none => exact absurd hz h'
      | some n => rw [(hE q.1 q.2 n hz).1]; exact fun h => by cases h
  · exact h
theorem mapV_ext {m0 m : MM} {ad0 ad : Nat → Nat → Nat} (hE : Ext m0 ad0 m ad) {st : List MV} (h : okA m0 st) : st.map (toV ad) = st.map (toV ad0) := List.map_congr_left fun v hv => toV_ext hE (h v hv)
theorem mapL_ext {m0 m : MM} {ad0 ad : Nat → Nat → Nat} (hE : Ext m0 ad0 m ad) {L : List (Nat × MV)} (h : okL m0 L) : L.map (fun q => (q.1, toV ad q.2)) = L.map (fun q => (q.1, toV ad0 q.2)) := List.map_congr_left fun v hv => by rw [toV_ext hE (h v hv)]
theorem okA_ext {m0 m : MM} {ad0 ad : Nat → Nat → Nat} (hE : Ext m0 ad0 m ad) {st : List MV} (h : okA m0 st) : okA m st := fun v hv => okV_ext hE (h v hv)
theorem okL_ext {m0 m : MM} {ad0 ad : Nat → Nat → Nat} (hE : Ext m0 ad0 m ad) {L : List (Nat × MV)} (h : okL m0 L) : okL m L := fun q hq => okV_ext hE (h q hq)
theorem okA_cons {m : MM} {v : MV} {st : List MV} : okA m (v :: st) ↔ okV m v ∧ okA m st := List.forall_mem_cons
theorem okL_cons {m : MM} {q : Nat × MV} {L : List (Nat × MV)} : okL m (q :: L) ↔ okV m q.2 ∧ okL m L := List.forall_mem_cons
/-- a cell is written: the others stay -/
theorem Rep.upd {fx : FX} {ad : Nat → Nat → Nat} {m m' : MM} {H H' : Heap} {K i n : Nat} (h : Rep fx ad m H) (hZ : ∀ a b, gZ m' a b = gZ m a b) (hl : gZ m K i = some n)
    (hs : ∀ a b c, ¬ (a = K ∧ b = i) → gN m' a b c = gN m a b c ∧ gL m' a b c = gL m a b c ∧ gR m' a b c = gR m a b c) (hc : okC fx ad m' K i n H') (ho : ∀ q, q ≠ ad K i → H'[q]? = H[q]?) (hM : OKM m') : Rep fx ad m' H' := by
  obtain ⟨h1, h2, h3⟩ := h
  refine ⟨fun a b k hk => ?_, fun a b a' b' p q e => h2 a b a' b' (by rw [← hZ]; exact p) (by rw [← hZ]; exact q) e, hM⟩
  rw [hZ] at hk
  obtain ⟨g1, g2⟩ := h1 a b k hk
  refine ⟨?_, g2⟩
  by_cases e : a = K ∧ b = i
  · obtain ⟨rfl, rfl⟩ := e
    rw [hl] at hk
    cases hk
    exact hc
  · have hne : ad a b ≠ ad K i := fun q => e (h2 a b K i (by rw [hk]; exact fun h => by cases h) (by rw [hl]; exact fun h => by cases h) q)
    have hf : ∀ s ty, fV ad m' a b s ty = fV ad m a b s ty := by
      intro s ty
      obtain ⟨s1, s2, s3⟩ := hs a b s e
      cases ty <;> simp only [fV, s1, s2, s3]
    obtain ⟨c0, c1, c2⟩ := g1
    refine ⟨c0, fun hK => ?_, fun hK => ?_⟩
    · obtain ⟨r, q1, q2, q3⟩ := c1 hK
      exact ⟨r, q1, q2, (q3.to (fun s _ => (hf s _).symm)).kept (ho _ hne)⟩
    · rw [ho _ hne, c2 hK]
      congr 2
      funext s
      exact (hf s _).symm
/-- a new cell -/
theorem Rep.new {fx : FX} {ad ad' : Nat → Nat → Nat} {m : MM} {H H' : Heap} {K n : Nat} (h : Rep fx ad m H) (hb : xB fx ≤ H.size) (hlt : ∀ a b k, gZ m a b = some k → ad a b < H.size)
    (had : ad' = fun a b => if a = K ∧ b = gC m K then H.size else ad a b) (hc : okC fx ad' (nW m K n) K (gC m K) n H') (ho : ∀ q, q < H.size → H'[q]? = H[q]?) : Rep fx ad' (nW m K n) H' ∧ Ext m ad (nW m K n) ad' := by
  obtain ⟨h1, h2, o1, o2, o3, o4⟩ := h
  have hfr : gZ m K (gC m K) = none := o1 K _ (Nat.le_refl _)
  have hE : Ext m ad (nW m K n) ad' := by
    intro a b k hk
    have e : ¬ (a = K ∧ b = gC m K) := by rintro ⟨rfl, rfl⟩; rw [hfr] at hk; cases hk
    exact ⟨by rw [gZ_nW, if_neg e]; exact hk, by rw [had]; exact if_neg e⟩
  have hf : ∀ a b s ty, fV ad' (nW m K n) a b s ty = fV ad m a b s ty := by
    intro a b s ty
    have key : (gR (nW m K n) a b s).map (fun q => ad' q.1 q.2) = (gR m a b s).map (fun q => ad q.1 q.2) := by
      rw [gR_nW]
      cases hr : gR m a b s with
      | none => rfl
      | some q =>
        have hz := o3 a b s q hr
        cases hz9 : gZ m q.1 q.2 with
        | none => exact absurd hz9 hz
        | some k => exact congrArg some (hE _ _ _ hz9).2
    cases ty <;> simp only [fV, gN_nW, gL_nW, key]
  have hzn : ∀ a b, gZ (nW m K n) a b ≠ none → (a = K ∧ b = gC m K ∧ ad' a b = H.size) ∨ (gZ m a b ≠ none ∧ ad' a b = ad a b ∧ ad a b < H.size) := by
    intro a b hz
    by_cases e : a = K ∧ b = gC m K
    · exact Or.inl ⟨e.1, e.2, by rw [had]; exact if_pos e⟩
    · rw [gZ_nW, if_neg e] at hz
      cases hz9 : gZ m a b with
      | none => exact absurd hz9 hz
      | some k => exact Or.inr ⟨(fun h => by cases h), (by rw [had]; exact if_neg e), hlt a b k hz9⟩
  refine ⟨⟨fun a b k hk => ?_, fun a b a' b' p q e => ?_, fun a b hab => ?_, fun a b c => by rw [gN_nW]; exact o2 a b c, fun a b c q hq => ?_, fun a b hz c => ?_⟩, hE⟩
  · by_cases e : a = K ∧ b = gC m K
    · obtain ⟨rfl, rfl⟩ := e
      rw [gZ_nW, if_pos ⟨rfl, rfl⟩] at hk
      cases hk
      exact ⟨hc, by rw [had]; show xB fx ≤ if _ then _ else _; rw [if_pos ⟨rfl, rfl⟩]; exact hb⟩
    · rw [gZ_nW, if_neg e] at hk
      obtain ⟨⟨c0, c1, c2⟩, g2⟩ := h1 a b k hk
      have ha : ad' a b = ad a b := by rw [had]; exact if_neg e
      have hl := hlt a b k hk
      refine ⟨⟨c0, fun hK => ?_, fun hK => ?_⟩, by rw [ha]; exact g2⟩
      · obtain ⟨r, q1, q2, q3⟩ := c1 hK
        refine ⟨r, q1, q2, ?_⟩
        rw [ha]
        exact (q3.to (fun s _ => (hf a b s _).symm)).kept (ho _ hl)
      · rw [ha, ho _ hl, c2 hK]
        congr 2
        funext s
        exact (hf a b s _).symm
  · rcases hzn a b p with ⟨p1, p2, p3⟩ | ⟨p1, p2, p3⟩ <;> rcases hzn a' b' q with ⟨q1, q2, q3⟩ | ⟨q1, q2, q3⟩
    · exact ⟨p1.trans q1.symm, p2.trans q2.symm⟩
    · omega
    · omega
    · exact h2 a b a' b' p1 q1 (by rw [← p2, ← q2]; exact e)
  · rw [gC_nW] at hab
    rw [gZ_nW]
    by_cases e : a = K
    · subst e
      rw [if_pos rfl] at hab
      rw [if_neg (by omega)]
      exact o1 a b (by omega)
    · rw [if_neg e] at hab
      rw [if_neg (fun z => e z.1)]
      exact o1 a b hab
  · rw [gR_nW] at hq
    have hz := o3 a b c q hq
    cases hz9 : gZ m q.1 q.2 with
    | none => exact absurd hz9 hz
    | some k => rw [(hE _ _ _ hz9).1]; exact fun h => by cases h
  · rw [gN_nW, gL_nW, gR_nW]
    refine o4 a b ?_ c
    rw [gZ_nW] at hz
    by_cases e : a = K ∧ b = gC m K
    · rw [if_pos e] at hz; cases hz
    · rw [if_neg e] at hz; exact hz
theorem Rep.lt {fx : FX} {ad : Nat → Nat → Nat} {m : MM} {H : Heap} (h : Rep fx ad m H) (a b k : Nat) (hk : gZ m a b = some k) : ad a b < H.size := by
  obtain ⟨⟨c0, c1, c2⟩, -⟩ := h.1 a b k hk
  rcases Nat.lt_or_ge a 13 with q | q
  · obtain ⟨r, -, -, cell, hc, -⟩ := c1 q
    exact (Array.getElem?_eq_some_iff.mp hc).1
  · exact (Array.getElem?_eq_some_iff.mp (c2 q)).1
/-- what lies elsewhere may change -/
theorem Rep.kept {fx : FX} {ad : Nat → Nat → Nat} {m : MM} {H H' : Heap} (h : Rep fx ad m H) (ho : ∀ q, q < H.size → H'[q]? = H[q]?) : Rep fx ad m H' := by
  have hlt := h.lt
  obtain ⟨h1, h2, h3⟩ := h
  refine ⟨fun a b k hk => ?_, h2, h3⟩
  obtain ⟨⟨c0, c1, c2⟩, g2⟩ := h1 a b k hk
  refine ⟨⟨c0, fun hK => ?_, fun hK => ?_⟩, g2⟩
  · obtain ⟨r, q1, q2, q3⟩ := c1 hK
    exact ⟨r, q1, q2, q3.kept (ho _ (hlt a b k hk))⟩
  · rw [ho _ (hlt a b k hk)]
    exact c2 hK
/-- only the counters of cells made differ -/
theorem Rep.same {fx : FX} {ad : Nat → Nat → Nat} {m m' : MM} {H : Heap} (h : Rep fx ad m H) (e1 : m'.1 = m.1) (e2 : m'.2.1 = m.2.1) (e3 : m'.2.2.1 = m.2.2.1) (e4 : m'.2.2.2.1 = m.2.2.2.1) (e5 : ∀ K, gC m K ≤ gC m' K) : Rep fx ad m' H := by
  obtain ⟨n1, l1, r1, z1, c1, a1, b1⟩ := m
  obtain ⟨n2, l2, r2, z2, c2, a2, b2⟩ := m'
  cases e1; cases e2; cases e3; cases e4
  exact ⟨h.1, h.2.1, fun K i hi => h.2.2.1 K i (Nat.le_trans (e5 K) hi), h.2.2.2⟩
