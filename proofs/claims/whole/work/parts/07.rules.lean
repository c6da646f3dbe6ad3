/-! COMBINATORS of the programs, and a rule an instruction. -/
def ck {X : Type} (x : Int) (o : Option X) : Option X := if -2147483648 ≤ x ∧ x < 2147483648 then o else none
def cb {X : Type} (x : Int) (o : Option X) : Option X := if x = 0 ∨ x = 1 then o else none
def dv {X : Type} (x y : Int) (o : Option X) : Option X := if 0 ≤ x ∧ 0 < y then o else none
def lt' {X : Type} (m : MM) (f : MM → Option X) : Option X := f m
def lenI (m : MM) (K i : Nat) : Int := match gZ m K i with
  | some n => n
  | none => 0
def ldN {X : Type} (m : MM) (K i : Nat) (j : Int) (f : Int → Option X) : Option X := if 0 ≤ j ∧ j < lenI m K i then f (gN m K i j.toNat) else none
def ldL {X : Type} (m : MM) (K i : Nat) (j : Int) (f : Int64 → Option X) : Option X := if 0 ≤ j ∧ j < lenI m K i then f (gL m K i j.toNat) else none
def ldR {X : Type} (m : MM) (K i : Nat) (j : Int) (f : Option (Nat × Nat) → Option X) : Option X := if 0 ≤ j ∧ j < lenI m K i then f (gR m K i j.toNat) else none
def stN {X : Type} (m : MM) (K i : Nat) (j : Int) (v : Int) (f : MM → Option X) : Option X := if 0 ≤ j ∧ j < lenI m K i then f (sN m K i j.toNat v) else none
def stL {X : Type} (m : MM) (K i : Nat) (j : Int) (v : Int64) (f : MM → Option X) : Option X := if 0 ≤ j ∧ j < lenI m K i then f (sL m K i j.toNat v) else none
def stR {X : Type} (m : MM) (K i : Nat) (j : Int) (v : Option (Nat × Nat)) (f : MM → Option X) : Option X := if 0 ≤ j ∧ j < lenI m K i then f (sR m K i j.toNat v) else none
def nk {X : Type} (K : Nat) (r : Option (Nat × Nat)) (f : Nat → Option X) : Option X := match r with
  | some q => if q.1 = K then f q.2 else none
  | none => none
def newA {X : Type} (m : MM) (K : Nat) (x : Int) (f : MM → Option X) : Option X := if 0 ≤ x ∧ x ≤ 100000 then f (nW m K x.toNat) else none
def newM {X : Type} (m : MM) (K : Nat) (x : Int) (K2 : Nat) (y : Int) (f : MM → Option X) : Option X := if (0 ≤ x ∧ x ≤ 100000) ∧ 0 ≤ y ∧ y ≤ 100000 then f (nM m K x.toNat K2 y.toNat) else none
def iand (x y : Int) : Int := (Int32.ofInt x &&& Int32.ofInt y).toInt
def ior' (x y : Int) : Int := (Int32.ofInt x ||| Int32.ofInt y).toInt
def ixor' (x y : Int) : Int := (Int32.ofInt x ^^^ Int32.ofInt y).toInt
def ishl (x y : Int) : Int := (Int32.ofInt x <<< (Int32.ofInt y &&& 31)).toInt
def ishr (x y : Int) : Int := (Int32.ofInt x >>> (Int32.ofInt y &&& 31)).toInt
def i2l (x : Int) : Int64 := (Int32.ofInt x).toInt64
def l2i (x : Int64) : Int := x.toInt32.toInt
def lshl (x : Int64) (y : Int) : Int64 := x <<< ((Int32.ofInt y).toInt64 &&& 63)
def lshr (x : Int64) (y : Int) : Int64 := x >>> ((Int32.ofInt y).toInt64 &&& 63)
def lushr (x : Int64) (y : Int) : Int64 := (x.toUInt64 >>> ((Int32.ofInt y).toInt64.toUInt64 &&& Int64.toUInt64 63)).toInt64
def lcm' (x y : Int64) : Int := if x > y then 1 else if x = y then 0 else -1
theorem fb_bmod' {z : Int} (h1 : -2147483648 ≤ z) (h2 : z < 2147483648) : z.bmod (2 ^ 32) = z := by
  rw [Int.bmod_eq_of_le] <;> omega
theorem nrm_i32 (x : Int32) : nrm x.toInt := ⟨by have := Int32.le_toInt x; omega, by have := Int32.toInt_lt x; omega⟩
theorem of_i32 (x : Int32) : Int32.ofInt x.toInt = x := Int32.ofInt_toInt x
theorem ofT {x : Int} (h : nrm x) : (Int32.ofInt x).toInt = x := by rw [Int32.toInt_ofInt]; exact fb_bmod' h.1 h.2
theorem ofI_eq {x y : Int} (hx : nrm x) (hy : nrm y) : Int32.ofInt x = Int32.ofInt y ↔ x = y := ⟨fun h => by rw [← ofT hx, h, ofT hy], fun h => by rw [h]⟩
theorem ofI_lt {x y : Int} (hx : nrm x) (hy : nrm y) : Int32.ofInt x < Int32.ofInt y ↔ x < y := by rw [Int32.lt_iff_toInt_lt, ofT hx, ofT hy]
theorem ofI_le {x y : Int} (hx : nrm x) (hy : nrm y) : Int32.ofInt x ≤ Int32.ofInt y ↔ x ≤ y := by rw [Int32.le_iff_toInt_le, ofT hx, ofT hy]
theorem nrm0 : nrm 0 := by constructor <;> decide
theorem lcm_of (x y : Int64) : Int32.ofInt (lcm' x y) = lg_cmp x y := by
  unfold lcm' lg_cmp
  split
  · rfl
  · split <;> rfl
theorem nrm_lcm (x y : Int64) : nrm (lcm' x y) := by
  unfold lcm'
  split
  · constructor <;> decide
  · split <;> (constructor <;> decide)
theorem okS {m : MM} {v : MV} {st : List MV} (h : okA m (v :: st)) : okA m st := fun x hx => h x (List.mem_cons_of_mem _ hx)
theorem okH {m : MM} {v : MV} {st : List MV} (h : okA m (v :: st)) : okV m v := h v List.mem_cons_self
theorem okC' {m : MM} {v : MV} {st : List MV} (a : okV m v) (h : okA m st) : okA m (v :: st) := okA_cons.mpr ⟨a, h⟩
/-- without the second part of a two-slot value, and without what a store at k kills -/
def dl (k : Nat) : List (Nat × MV) → List (Nat × MV)
  | [] => []
  | q :: L => match Nat.beq q.1 k || (Nat.beq (q.1 + 1) k && ct2 q.2) with
    | true => dl k L
    | false => q :: dl k L
theorem dl_mem {k : Nat} {L : List (Nat × MV)} {q : Nat × MV} (h : q ∈ dl k L) : q ∈ L ∧ q.1 ≠ k ∧ ¬ (q.1 + 1 = k ∧ ct2 q.2 = true) := by
  induction L with
  | nil => cases h
  | cons a L ih =>
    unfold dl at h
    cases hb : (Nat.beq a.1 k || (Nat.beq (a.1 + 1) k && ct2 a.2)) with
    | true =>
      rw [hb] at h
      obtain ⟨h1, h2⟩ := ih h
      exact ⟨List.mem_cons_of_mem _ h1, h2⟩
    | false =>
      rw [hb] at h
      rcases List.mem_cons.mp h with rfl | h
      · rw [Bool.or_eq_false_iff, Bool.and_eq_false_iff] at hb
        refine ⟨List.mem_cons_self, fun e => ?_, fun e => ?_⟩
        · rw [e, Nat.beq_refl] at hb; cases hb.1
        · rcases hb.2 with z | z
          · rw [e.1, Nat.beq_refl] at z; cases z
          · rw [e.2] at z; cases z
      · obtain ⟨h1, h2⟩ := ih h
        exact ⟨List.mem_cons_of_mem _ h1, h2⟩
theorem dl_okL {m : MM} {k : Nat} {L : List (Nat × MV)} {v : MV} (hv : okV m v) (h : okL m L) : okL m ((k, v) :: dl k L) := okL_cons.mpr ⟨hv, fun q hq => h q (dl_mem hq).1⟩
/-- the kit's list of locals behind a store, cut to ours -/
theorem dl_has {m : MM} {ad : Nat → Nat → Nat} {ls : Array Slot} {n k : Nat} {L : List (Nat × MV)} {v : MV} (hL : okL m L)
    (h : lv_has ls n ((k, toV ad v) :: (L.map fun q => (q.1, toV ad q.2)).filter (fun q => !(q.1 == k) && !(q.1 + 1 == k && q.2.category == 2)))) : lv_has ls n (((k, v) :: dl k L).map fun q => (q.1, toV ad q.2)) := by
  refine ⟨h.1, h.2.1, fun q hq => h.2.2 q ?_⟩
  obtain ⟨x, hx, rfl⟩ := List.mem_map.mp hq
  rcases List.mem_cons.mp hx with rfl | hx
  · exact List.mem_cons_self
  · obtain ⟨h1, h2, h3⟩ := dl_mem hx
    refine List.mem_cons_of_mem _ (List.mem_filter.mpr ⟨List.mem_map.mpr ⟨x, h1, rfl⟩, ?_⟩)
    have hc := toV_cat ad (hL x h1)
    simp only [Bool.and_eq_true, Bool.not_eq_true', beq_eq_false_iff_ne, ne_eq, Bool.and_eq_false_iff]
    refine ⟨h2, ?_⟩
    by_cases e : x.1 + 1 = k
    · right
      cases hb : ct2 x.2 with
      | true => exact absurd ⟨e, hb⟩ h3
      | false => rw [hc, hb]; decide
    · exact Or.inl e
def dl2 (k : Nat) : List (Nat × MV) → List (Nat × MV)
  | [] => []
  | q :: L => match Nat.beq q.1 k || (Nat.beq q.1 (k + 1) || (Nat.beq (q.1 + 1) k && ct2 q.2)) with
    | true => dl2 k L
    | false => q :: dl2 k L
theorem dl2_mem {k : Nat} {L : List (Nat × MV)} {q : Nat × MV} (h : q ∈ dl2 k L) : q ∈ L ∧ q.1 ≠ k ∧ q.1 ≠ k + 1 ∧ ¬ (q.1 + 1 = k ∧ ct2 q.2 = true) := by
  induction L with
  | nil => cases h
  | cons a L ih =>
    unfold dl2 at h
    cases hb : (Nat.beq a.1 k || (Nat.beq a.1 (k + 1) || (Nat.beq (a.1 + 1) k && ct2 a.2))) with
    | true =>
      rw [hb] at h
      obtain ⟨h1, h2⟩ := ih h
      exact ⟨List.mem_cons_of_mem _ h1, h2⟩
    | false =>
      rw [hb] at h
      rcases List.mem_cons.mp h with rfl | h
      · rw [Bool.or_eq_false_iff, Bool.or_eq_false_iff, Bool.and_eq_false_iff] at hb
        refine ⟨List.mem_cons_self, fun e => ?_, fun e => ?_, fun e => ?_⟩
        · rw [e, Nat.beq_refl] at hb; cases hb.1
        · rw [e, Nat.beq_refl] at hb; cases hb.2.1
        · rcases hb.2.2 with z | z
          · rw [e.1, Nat.beq_refl] at z; cases z
          · rw [e.2] at z; cases z
      · obtain ⟨h1, h2⟩ := ih h
        exact ⟨List.mem_cons_of_mem _ h1, h2⟩
theorem dl2_has {m : MM} {ad : Nat → Nat → Nat} {ls : Array Slot} {n k : Nat} {L : List (Nat × MV)} {v : MV} (hL : okL m L)
    (h : lv_has ls n ((k, toV ad v) :: (L.map fun q => (q.1, toV ad q.2)).filter (fun q => !(q.1 == k) && (!(q.1 == k + 1) && !(q.1 + 1 == k && q.2.category == 2))))) : lv_has ls n (((k, v) :: dl2 k L).map fun q => (q.1, toV ad q.2)) := by
  refine ⟨h.1, h.2.1, fun q hq => h.2.2 q ?_⟩
  obtain ⟨x, hx, rfl⟩ := List.mem_map.mp hq
  rcases List.mem_cons.mp hx with rfl | hx
  · exact List.mem_cons_self
  · obtain ⟨h1, h2, h2', h3⟩ := dl2_mem hx
    refine List.mem_cons_of_mem _ (List.mem_filter.mpr ⟨List.mem_map.mpr ⟨x, h1, rfl⟩, ?_⟩)
    have hc := toV_cat ad (hL x h1)
    simp only [Bool.and_eq_true, Bool.not_eq_true', beq_eq_false_iff_ne, ne_eq, Bool.and_eq_false_iff]
    refine ⟨h2, h2', ?_⟩
    by_cases e : x.1 + 1 = k
    · right
      cases hb : ct2 x.2 with
      | true => exact absurd ⟨e, hb⟩ h3
      | false => rw [hc, hb]; decide
    · exact Or.inl e
theorem lm {L : List (Nat × MV)} {ad : Nat → Nat → Nat} {ls : Array Slot} {n k : Nat} {v : MV} (h : lv_has ls n (L.map fun q => (q.1, toV ad q.2))) (hm : (k, v) ∈ L) : ls[k]? = some (.val (toV ad v)) := h.2.2 _ (List.mem_map.mpr ⟨(k, v), hm, rfl⟩)
theorem vi_toV (ad : Nat → Nat → Nat) (w : MV) (z : Int) (h : vi w = some z) : toV ad w = .int (Int32.ofInt z) := by
  rcases w with x | x | x | r | w
  · cases h; rfl
  · cases h; rfl
  · cases h
  · cases h
  · cases h
section SR
variable {fx : FX} {me : ME} {pc pc' tgt : Nat} {L : List (Nat × MV)} {st : List MV} {m : MM} {o : MO}
theorem s_iconst {x : Int} (d : dk me pc (.iconst x) 1 pc') (hn : nrm x) (h : Sim fx me pc' L (aI x :: st) m o) : Sim fx me pc L (st) m o := by
  obtain ⟨d, rfl⟩ := d
  refine h.stk (fun _ h => okC' hn h) (fun p e R s mi args below meth c C ad H locs cells slots ls Q hR hS hL hst hl g1 g2 k => ?_)
  obtain ⟨hx, hb, -⟩ := C
  exact lv_iconst hx hb d rfl k
theorem s_bipush {x : Int} (d : dk me pc (.bipush x) 2 pc') (hn : nrm x) (hv : (Int8.ofInt x).toInt32 = Int32.ofInt x) (h : Sim fx me pc' L (aI x :: st) m o) : Sim fx me pc L (st) m o := by
  obtain ⟨d, rfl⟩ := d
  refine h.stk (fun _ h => okC' hn h) (fun p e R s mi args below meth c C ad H locs cells slots ls Q hR hS hL hst hl g1 g2 k => ?_)
  obtain ⟨hx, hb, -⟩ := C
  exact lv_bipush hx hb d hv k
theorem s_sipush {x : Int} (d : dk me pc (.sipush x) 3 pc') (hn : nrm x) (hv : (Int16.ofInt x).toInt32 = Int32.ofInt x) (h : Sim fx me pc' L (aI x :: st) m o) : Sim fx me pc L (st) m o := by
  obtain ⟨d, rfl⟩ := d
  refine h.stk (fun _ h => okC' hn h) (fun p e R s mi args below meth c C ad H locs cells slots ls Q hR hS hL hst hl g1 g2 k => ?_)
  obtain ⟨hx, hb, -⟩ := C
  exact lv_sipush hx hb d hv k
theorem s_lconst {n : Fin 2} {x : Int64} (d : dk me pc (.lconst n) 1 pc') (hv : Int64.ofNat (n : Nat) = x) (h : Sim fx me pc' L (aL x :: st) m o) : Sim fx me pc L (st) m o := by
  obtain ⟨d, rfl⟩ := d
  refine h.stk (fun _ h => okC' trivial h) (fun p e R s mi args below meth c C ad H locs cells slots ls Q hR hS hL hst hl g1 g2 k => ?_)
  obtain ⟨hx, hb, -⟩ := C
  exact lv_lconst hx hb d hv k
theorem s_null (d : dk me pc .aconst_null 1 pc') (h : Sim fx me pc' L (aR none :: st) m o) : Sim fx me pc L (st) m o := by
  obtain ⟨d, rfl⟩ := d
  refine h.stk (fun _ h => okC' trivial h) (fun p e R s mi args below meth c C ad H locs cells slots ls Q hR hS hL hst hl g1 g2 k => ?_)
  obtain ⟨hx, hb, -⟩ := C
  exact lv_null hx hb d k
theorem s_iload {j : Nat} {x : Int} (d : dk me pc (.iload j) 2 pc') (hm : (j, aI x) ∈ L) (h : Sim fx me pc' L (aI x :: st) m o) : Sim fx me pc L (st) m o := by
  obtain ⟨d, rfl⟩ := d
  refine h.stk (fun a h => okC' (a _ hm) h) (fun p e R s mi args below meth c C ad H locs cells slots ls Q hR hS hL hst hl g1 g2 k => ?_)
  obtain ⟨hx, hb, -⟩ := C
  exact lv_iload hx hb d (lm hl hm) k
theorem s_iload_n {j : Fin 4} {x : Int} (d : dk me pc (.iload_n j) 1 pc') (hm : ((j : Nat), aI x) ∈ L) (h : Sim fx me pc' L (aI x :: st) m o) : Sim fx me pc L (st) m o := by
  obtain ⟨d, rfl⟩ := d
  refine h.stk (fun a h => okC' (a _ hm) h) (fun p e R s mi args below meth c C ad H locs cells slots ls Q hR hS hL hst hl g1 g2 k => ?_)
  obtain ⟨hx, hb, -⟩ := C
  exact lv_iload_n hx hb d rfl (lm hl hm) k
theorem s_lload {j : Nat} {x : Int64} (d : dk me pc (.lload j) 2 pc') (hm : (j, aL x) ∈ L) (h : Sim fx me pc' L (aL x :: st) m o) : Sim fx me pc L (st) m o := by
  obtain ⟨d, rfl⟩ := d
  refine h.stk (fun a h => okC' (a _ hm) h) (fun p e R s mi args below meth c C ad H locs cells slots ls Q hR hS hL hst hl g1 g2 k => ?_)
  obtain ⟨hx, hb, -⟩ := C
  exact lv_lload hx hb d (lm hl hm) k
theorem s_lload_n {j : Fin 4} {x : Int64} (d : dk me pc (.lload_n j) 1 pc') (hm : ((j : Nat), aL x) ∈ L) (h : Sim fx me pc' L (aL x :: st) m o) : Sim fx me pc L (st) m o := by
  obtain ⟨d, rfl⟩ := d
  refine h.stk (fun a h => okC' (a _ hm) h) (fun p e R s mi args below meth c C ad H locs cells slots ls Q hR hS hL hst hl g1 g2 k => ?_)
  obtain ⟨hx, hb, -⟩ := C
  exact lv_lload_n hx hb d rfl (lm hl hm) k
theorem s_aload {j : Nat} {r : Option (Nat × Nat)} (d : dk me pc (.aload j) 2 pc') (hm : (j, aR r) ∈ L) (h : Sim fx me pc' L (aR r :: st) m o) : Sim fx me pc L (st) m o := by
  obtain ⟨d, rfl⟩ := d
  refine h.stk (fun a h => okC' (a _ hm) h) (fun p e R s mi args below meth c C ad H locs cells slots ls Q hR hS hL hst hl g1 g2 k => ?_)
  obtain ⟨hx, hb, -⟩ := C
  have hv := lm hl hm
  cases r with
  | none => exact lv_aloadN hx hb d hv k
  | some q => exact lv_aload hx hb d hv k
theorem s_aload_n {j : Fin 4} {r : Option (Nat × Nat)} (d : dk me pc (.aload_n j) 1 pc') (hm : ((j : Nat), aR r) ∈ L) (h : Sim fx me pc' L (aR r :: st) m o) : Sim fx me pc L (st) m o := by
  obtain ⟨d, rfl⟩ := d
  refine h.stk (fun a h => okC' (a _ hm) h) (fun p e R s mi args below meth c C ad H locs cells slots ls Q hR hS hL hst hl g1 g2 k => ?_)
  obtain ⟨hx, hb, -⟩ := C
  have hv := lm hl hm
  cases r with
  | none => exact lv_aload_nN hx hb d rfl hv k
  | some q => exact lv_aload_n hx hb d rfl hv k
theorem s_aloadV {j a : Nat} (d : dk me pc (.aload j) 2 pc') (hm : (j, aV (.ref a)) ∈ L) (h : Sim fx me pc' L (aV (.ref a) :: st) m o) : Sim fx me pc L (st) m o := by
  obtain ⟨d, rfl⟩ := d
  refine h.stk (fun a h => okC' (a _ hm) h) (fun p e R s mi args below meth c C ad H locs cells slots ls Q hR hS hL hst hl g1 g2 k => ?_)
  obtain ⟨hx, hb, -⟩ := C
  exact lv_aload hx hb d (lm hl hm) k
theorem s_aloadV_n {j : Fin 4} {a : Nat} (d : dk me pc (.aload_n j) 1 pc') (hm : ((j : Nat), aV (.ref a)) ∈ L) (h : Sim fx me pc' L (aV (.ref a) :: st) m o) : Sim fx me pc L (st) m o := by
  obtain ⟨d, rfl⟩ := d
  refine h.stk (fun a h => okC' (a _ hm) h) (fun p e R s mi args below meth c C ad H locs cells slots ls Q hR hS hL hst hl g1 g2 k => ?_)
  obtain ⟨hx, hb, -⟩ := C
  exact lv_aload_n hx hb d rfl (lm hl hm) k
theorem s_istore {j : Nat} {x : Int} {L' : List (Nat × MV)} (d : dk me pc (.istore j) 2 pc') (hk : (j : Nat) < eN me) (hl' : ((j : Nat), aI x) :: dl j L = L') (h : Sim fx me pc' L' st m o) : Sim fx me pc L (aI x :: st) m o := by
  obtain ⟨d, rfl⟩ := d
  subst hl'
  refine h.stp (fun a b => ⟨okL_cons.mpr ⟨okH b, fun q hq => a q (dl_mem hq).1⟩, okS b⟩) (fun p e R s mi args below meth c C ad H locs cells slots ls Q hR hS hL hst hl g1 g2 k => ?_)
  obtain ⟨hx, hb, -⟩ := C
  exact lv_istore hx hb d hl hk rfl fun ls2 h2 => k ls2 (dl_has (v := aI x) hL h2)
theorem s_istore_n {j : Fin 4} {x : Int} {L' : List (Nat × MV)} (d : dk me pc (.istore_n j) 1 pc') (hk : ((j : Nat) : Nat) < eN me) (hl' : (((j : Nat) : Nat), aI x) :: dl (j : Nat) L = L') (h : Sim fx me pc' L' st m o) : Sim fx me pc L (aI x :: st) m o := by
  obtain ⟨d, rfl⟩ := d
  subst hl'
  refine h.stp (fun a b => ⟨okL_cons.mpr ⟨okH b, fun q hq => a q (dl_mem hq).1⟩, okS b⟩) (fun p e R s mi args below meth c C ad H locs cells slots ls Q hR hS hL hst hl g1 g2 k => ?_)
  obtain ⟨hx, hb, -⟩ := C
  exact lv_istore_n hx hb d rfl hl hk rfl fun ls2 h2 => k ls2 (dl_has (v := aI x) hL h2)
theorem s_lstore {j : Nat} {x : Int64} {L' : List (Nat × MV)} (d : dk me pc (.lstore j) 2 pc') (hk : (j : Nat) + 1 < eN me) (hl' : ((j : Nat), aL x) :: dl2 j L = L') (h : Sim fx me pc' L' st m o) : Sim fx me pc L (aL x :: st) m o := by
  obtain ⟨d, rfl⟩ := d
  subst hl'
  refine h.stp (fun a b => ⟨okL_cons.mpr ⟨okH b, fun q hq => a q (dl2_mem hq).1⟩, okS b⟩) (fun p e R s mi args below meth c C ad H locs cells slots ls Q hR hS hL hst hl g1 g2 k => ?_)
  obtain ⟨hx, hb, -⟩ := C
  exact lv_lstore hx hb d hl hk rfl fun ls2 h2 => k ls2 (dl2_has (v := aL x) hL h2)
theorem s_lstore_n {j : Fin 4} {x : Int64} {L' : List (Nat × MV)} (d : dk me pc (.lstore_n j) 1 pc') (hk : ((j : Nat) : Nat) + 1 < eN me) (hl' : (((j : Nat) : Nat), aL x) :: dl2 (j : Nat) L = L') (h : Sim fx me pc' L' st m o) : Sim fx me pc L (aL x :: st) m o := by
  obtain ⟨d, rfl⟩ := d
  subst hl'
  refine h.stp (fun a b => ⟨okL_cons.mpr ⟨okH b, fun q hq => a q (dl2_mem hq).1⟩, okS b⟩) (fun p e R s mi args below meth c C ad H locs cells slots ls Q hR hS hL hst hl g1 g2 k => ?_)
  obtain ⟨hx, hb, -⟩ := C
  exact lv_lstore_n hx hb d rfl hl hk rfl fun ls2 h2 => k ls2 (dl2_has (v := aL x) hL h2)
theorem s_astore {j : Nat} {r : Option (Nat × Nat)} {L' : List (Nat × MV)} (d : dk me pc (.astore j) 2 pc') (hk : (j : Nat) < eN me) (hl' : ((j : Nat), aR r) :: dl j L = L') (h : Sim fx me pc' L' st m o) : Sim fx me pc L (aR r :: st) m o := by
  obtain ⟨d, rfl⟩ := d
  subst hl'
  refine h.stp (fun a b => ⟨okL_cons.mpr ⟨okH b, fun q hq => a q (dl_mem hq).1⟩, okS b⟩) (fun p e R s mi args below meth c C ad H locs cells slots ls Q hR hS hL hst hl g1 g2 k => ?_)
  obtain ⟨hx, hb, -⟩ := C
  cases r with
  | none => exact lv_astoreN hx hb d hl hk rfl fun ls2 h2 => k ls2 (dl_has (v := aR none) hL h2)
  | some q => exact lv_astore hx hb d hl hk rfl fun ls2 h2 => k ls2 (dl_has (v := aR (some q)) hL h2)
theorem s_astore_n {j : Fin 4} {r : Option (Nat × Nat)} {L' : List (Nat × MV)} (d : dk me pc (.astore_n j) 1 pc') (hk : ((j : Nat) : Nat) < eN me) (hl' : (((j : Nat) : Nat), aR r) :: dl (j : Nat) L = L') (h : Sim fx me pc' L' st m o) : Sim fx me pc L (aR r :: st) m o := by
  obtain ⟨d, rfl⟩ := d
  subst hl'
  refine h.stp (fun a b => ⟨okL_cons.mpr ⟨okH b, fun q hq => a q (dl_mem hq).1⟩, okS b⟩) (fun p e R s mi args below meth c C ad H locs cells slots ls Q hR hS hL hst hl g1 g2 k => ?_)
  obtain ⟨hx, hb, -⟩ := C
  cases r with
  | none => exact lv_astore_nN hx hb d rfl hl hk rfl fun ls2 h2 => k ls2 (dl_has (v := aR none) hL h2)
  | some q => exact lv_astore_n hx hb d rfl hl hk rfl fun ls2 h2 => k ls2 (dl_has (v := aR (some q)) hL h2)
theorem s_astoreV {j a : Nat} {L' : List (Nat × MV)} (d : dk me pc (.astore j) 2 pc') (hk : (j : Nat) < eN me) (hl' : ((j : Nat), aV (.ref a)) :: dl j L = L') (h : Sim fx me pc' L' st m o) : Sim fx me pc L (aV (.ref a) :: st) m o := by
  obtain ⟨d, rfl⟩ := d
  subst hl'
  refine h.stp (fun a b => ⟨okL_cons.mpr ⟨okH b, fun q hq => a q (dl_mem hq).1⟩, okS b⟩) (fun p e R s mi args below meth c C ad H locs cells slots ls Q hR hS hL hst hl g1 g2 k => ?_)
  obtain ⟨hx, hb, -⟩ := C
  exact lv_astore hx hb d hl hk rfl fun ls2 h2 => k ls2 (dl_has (v := aV (.ref a)) hL h2)
theorem s_astoreV_n {j : Fin 4} {a : Nat} {L' : List (Nat × MV)} (d : dk me pc (.astore_n j) 1 pc') (hk : ((j : Nat) : Nat) < eN me) (hl' : (((j : Nat) : Nat), aV (.ref a)) :: dl (j : Nat) L = L') (h : Sim fx me pc' L' st m o) : Sim fx me pc L (aV (.ref a) :: st) m o := by
  obtain ⟨d, rfl⟩ := d
  subst hl'
  refine h.stp (fun a b => ⟨okL_cons.mpr ⟨okH b, fun q hq => a q (dl_mem hq).1⟩, okS b⟩) (fun p e R s mi args below meth c C ad H locs cells slots ls Q hR hS hL hst hl g1 g2 k => ?_)
  obtain ⟨hx, hb, -⟩ := C
  exact lv_astore_n hx hb d rfl hl hk rfl fun ls2 h2 => k ls2 (dl_has (v := aV (.ref a)) hL h2)
theorem s_iinc {j : Nat} {x n : Int} {X : Type} {f : Option X} {kk : X → MO} {L' : List (Nat × MV)} (d : dk me pc (.iinc j n) 3 pc') (hm : (j, aI x) ∈ L) (hk : j < eN me) (hl' : (j, aI (x + n)) :: dl j L = L') (h : Sim fx me pc' L' st m (f.bind kk)) : Sim fx me pc L st m ((ck (x + n) f).bind kk) := by
  obtain ⟨d, rfl⟩ := d
  subst hl'
  unfold ck
  split
  next hc =>
    refine h.stp (fun a b => ⟨okL_cons.mpr ⟨hc, fun q hq => a q (dl_mem hq).1⟩, b⟩) (fun p e R s mi args below meth c C ad H locs cells slots ls Q hR hS hL hst hl g1 g2 k => ?_)
    obtain ⟨hx, hb, -⟩ := C
    obtain ⟨i, hi⟩ := List.getElem?_of_mem hm
    refine lv_iinc hx hb d hl (k := i) (x := Int32.ofInt x) (v := Int32.ofInt (x + n)) (by rw [List.getElem?_map, hi]; rfl) (Int32.ofInt_add x n).symm hk rfl fun ls2 h2 => k ls2 (dl_has (v := aI (x + n)) hL h2)
  next => exact Sim.none
theorem s_iadd {u v : MV} {x y : Int} (d : dk me pc .iadd 1 pc') (hu : vi u = some x) (hv : vi v = some y) (h : Sim fx me pc' L (aU (x + y) :: st) m o) : Sim fx me pc L (v :: u :: st) m o := by
  obtain ⟨d, rfl⟩ := d
  refine h.stk (fun _ h => okC' trivial (okS (okS h))) (fun p e R s mi args below meth c C ad H locs cells slots ls Q hR hS hL hst hl g1 g2 k => ?_)
  obtain ⟨hx, hb, -⟩ := C
  have eu : ∀ w z, vi w = some z → toV ad w = .int (Int32.ofInt z) := vi_toV ad
  rw [List.map_cons, List.map_cons, eu u x hu, eu v y hv]
  refine lv_iadd hx hb d ?_
  rw [← Int32.ofInt_add]
  exact k
theorem s_isub {u v : MV} {x y : Int} (d : dk me pc .isub 1 pc') (hu : vi u = some x) (hv : vi v = some y) (h : Sim fx me pc' L (aU (x - y) :: st) m o) : Sim fx me pc L (v :: u :: st) m o := by
  obtain ⟨d, rfl⟩ := d
  refine h.stk (fun _ h => okC' trivial (okS (okS h))) (fun p e R s mi args below meth c C ad H locs cells slots ls Q hR hS hL hst hl g1 g2 k => ?_)
  obtain ⟨hx, hb, -⟩ := C
  have eu : ∀ w z, vi w = some z → toV ad w = .int (Int32.ofInt z) := vi_toV ad
  rw [List.map_cons, List.map_cons, eu u x hu, eu v y hv]
  refine lv_isub hx hb d ?_
  rw [← Int32.ofInt_sub]
  exact k
theorem s_imul {u v : MV} {x y : Int} (d : dk me pc .imul 1 pc') (hu : vi u = some x) (hv : vi v = some y) (h : Sim fx me pc' L (aU (x * y) :: st) m o) : Sim fx me pc L (v :: u :: st) m o := by
  obtain ⟨d, rfl⟩ := d
  refine h.stk (fun _ h => okC' trivial (okS (okS h))) (fun p e R s mi args below meth c C ad H locs cells slots ls Q hR hS hL hst hl g1 g2 k => ?_)
  obtain ⟨hx, hb, -⟩ := C
  have eu : ∀ w z, vi w = some z → toV ad w = .int (Int32.ofInt z) := vi_toV ad
  rw [List.map_cons, List.map_cons, eu u x hu, eu v y hv]
  refine lv_imul hx hb d ?_
  rw [← Int32.ofInt_mul]
  exact k
theorem s_iand {x y : Int} (d : dk me pc .iand 1 pc') (h : Sim fx me pc' L (aI (iand x y) :: st) m o) : Sim fx me pc L (aI y :: aI x :: st) m o := by
  obtain ⟨d, rfl⟩ := d
  refine h.stk (fun _ h => okC' (nrm_i32 _) (okS (okS h))) (fun p e R s mi args below meth c C ad H locs cells slots ls Q hR hS hL hst hl g1 g2 k => ?_)
  obtain ⟨hx, hb, -⟩ := C
  refine lv_iand hx hb d ?_
  have k' := k
  rw [List.map_cons, show toV ad (aI (iand x y)) = .int (Int32.ofInt (iand x y)) from rfl, show Int32.ofInt (iand x y) = _ from of_i32 _] at k'
  exact k'
theorem s_ior {x y : Int} (d : dk me pc .ior 1 pc') (h : Sim fx me pc' L (aI (ior' x y) :: st) m o) : Sim fx me pc L (aI y :: aI x :: st) m o := by
  obtain ⟨d, rfl⟩ := d
  refine h.stk (fun _ h => okC' (nrm_i32 _) (okS (okS h))) (fun p e R s mi args below meth c C ad H locs cells slots ls Q hR hS hL hst hl g1 g2 k => ?_)
  obtain ⟨hx, hb, -⟩ := C
  refine lv_ior hx hb d ?_
  have k' := k
  rw [List.map_cons, show toV ad (aI (ior' x y)) = .int (Int32.ofInt (ior' x y)) from rfl, show Int32.ofInt (ior' x y) = _ from of_i32 _] at k'
  exact k'
theorem s_ixor {x y : Int} (d : dk me pc .ixor 1 pc') (h : Sim fx me pc' L (aI (ixor' x y) :: st) m o) : Sim fx me pc L (aI y :: aI x :: st) m o := by
  obtain ⟨d, rfl⟩ := d
  refine h.stk (fun _ h => okC' (nrm_i32 _) (okS (okS h))) (fun p e R s mi args below meth c C ad H locs cells slots ls Q hR hS hL hst hl g1 g2 k => ?_)
  obtain ⟨hx, hb, -⟩ := C
  refine lv_ixor hx hb d ?_
  have k' := k
  rw [List.map_cons, show toV ad (aI (ixor' x y)) = .int (Int32.ofInt (ixor' x y)) from rfl, show Int32.ofInt (ixor' x y) = _ from of_i32 _] at k'
  exact k'
theorem s_ishl {x y : Int} (d : dk me pc .ishl 1 pc') (h : Sim fx me pc' L (aI (ishl x y) :: st) m o) : Sim fx me pc L (aI y :: aI x :: st) m o := by
  obtain ⟨d, rfl⟩ := d
  refine h.stk (fun _ h => okC' (nrm_i32 _) (okS (okS h))) (fun p e R s mi args below meth c C ad H locs cells slots ls Q hR hS hL hst hl g1 g2 k => ?_)
  obtain ⟨hx, hb, -⟩ := C
  refine lv_ishl hx hb d ?_
  have k' := k
  rw [List.map_cons, show toV ad (aI (ishl x y)) = .int (Int32.ofInt (ishl x y)) from rfl, show Int32.ofInt (ishl x y) = _ from of_i32 _] at k'
  exact k'
theorem s_ishr {x y : Int} (d : dk me pc .ishr 1 pc') (h : Sim fx me pc' L (aI (ishr x y) :: st) m o) : Sim fx me pc L (aI y :: aI x :: st) m o := by
  obtain ⟨d, rfl⟩ := d
  refine h.stk (fun _ h => okC' (nrm_i32 _) (okS (okS h))) (fun p e R s mi args below meth c C ad H locs cells slots ls Q hR hS hL hst hl g1 g2 k => ?_)
  obtain ⟨hx, hb, -⟩ := C
  refine lv_ishr hx hb d ?_
  have k' := k
  rw [List.map_cons, show toV ad (aI (ishr x y)) = .int (Int32.ofInt (ishr x y)) from rfl, show Int32.ofInt (ishr x y) = _ from of_i32 _] at k'
  exact k'
theorem s_i2l {x : Int} (d : dk me pc .i2l 1 pc') (h : Sim fx me pc' L (aL (i2l x) :: st) m o) : Sim fx me pc L (aI x :: st) m o := by
  obtain ⟨d, rfl⟩ := d
  refine h.stk (fun _ h => okC' trivial (okS h)) (fun p e R s mi args below meth c C ad H locs cells slots ls Q hR hS hL hst hl g1 g2 k => ?_)
  obtain ⟨hx, hb, -⟩ := C
  exact lv_i2l hx hb d rfl k
theorem s_l2i {x : Int64} (d : dk me pc .l2i 1 pc') (h : Sim fx me pc' L (aI (l2i x) :: st) m o) : Sim fx me pc L (aL x :: st) m o := by
  obtain ⟨d, rfl⟩ := d
  refine h.stk (fun _ h => okC' (nrm_i32 _) (okS h)) (fun p e R s mi args below meth c C ad H locs cells slots ls Q hR hS hL hst hl g1 g2 k => ?_)
  obtain ⟨hx, hb, -⟩ := C
  refine lv_l2i hx hb d (of_i32 _).symm k
theorem s_land {x y : Int64} (d : dk me pc .land 1 pc') (h : Sim fx me pc' L (aL (x &&& y) :: st) m o) : Sim fx me pc L (aL y :: aL x :: st) m o := by
  obtain ⟨d, rfl⟩ := d
  refine h.stk (fun _ h => okC' trivial (okS (okS h))) (fun p e R s mi args below meth c C ad H locs cells slots ls Q hR hS hL hst hl g1 g2 k => ?_)
  obtain ⟨hx, hb, -⟩ := C
  exact lv_land hx hb d k
theorem s_lor {x y : Int64} (d : dk me pc .lor 1 pc') (h : Sim fx me pc' L (aL (x ||| y) :: st) m o) : Sim fx me pc L (aL y :: aL x :: st) m o := by
  obtain ⟨d, rfl⟩ := d
  refine h.stk (fun _ h => okC' trivial (okS (okS h))) (fun p e R s mi args below meth c C ad H locs cells slots ls Q hR hS hL hst hl g1 g2 k => ?_)
  obtain ⟨hx, hb, -⟩ := C
  exact lv_lor hx hb d k
theorem s_lshl {x : Int64} {y : Int} (d : dk me pc .lshl 1 pc') (h : Sim fx me pc' L (aL (lshl x y) :: st) m o) : Sim fx me pc L (aI y :: aL x :: st) m o := by
  obtain ⟨d, rfl⟩ := d
  refine h.stk (fun _ h => okC' trivial (okS (okS h))) (fun p e R s mi args below meth c C ad H locs cells slots ls Q hR hS hL hst hl g1 g2 k => ?_)
  obtain ⟨hx, hb, -⟩ := C
  exact lv_lshl hx hb d rfl k
theorem s_lshr {x : Int64} {y : Int} (d : dk me pc .lshr 1 pc') (h : Sim fx me pc' L (aL (lshr x y) :: st) m o) : Sim fx me pc L (aI y :: aL x :: st) m o := by
  obtain ⟨d, rfl⟩ := d
  refine h.stk (fun _ h => okC' trivial (okS (okS h))) (fun p e R s mi args below meth c C ad H locs cells slots ls Q hR hS hL hst hl g1 g2 k => ?_)
  obtain ⟨hx, hb, -⟩ := C
  exact lv_lshr hx hb d rfl k
theorem s_lushr {x : Int64} {y : Int} (d : dk me pc .lushr 1 pc') (h : Sim fx me pc' L (aL (lushr x y) :: st) m o) : Sim fx me pc L (aI y :: aL x :: st) m o := by
  obtain ⟨d, rfl⟩ := d
  refine h.stk (fun _ h => okC' trivial (okS (okS h))) (fun p e R s mi args below meth c C ad H locs cells slots ls Q hR hS hL hst hl g1 g2 k => ?_)
  obtain ⟨hx, hb, -⟩ := C
  exact lv_lushr hx hb d rfl k
theorem s_lcmp {x y : Int64} (d : dk me pc .lcmp 1 pc') (h : Sim fx me pc' L (aI (lcm' x y) :: st) m o) : Sim fx me pc L (aL y :: aL x :: st) m o := by
  obtain ⟨d, rfl⟩ := d
  refine h.stk (fun _ h => okC' (nrm_lcm _ _) (okS (okS h))) (fun p e R s mi args below meth c C ad H locs cells slots ls Q hR hS hL hst hl g1 g2 k => ?_)
  obtain ⟨hx, hb, -⟩ := C
  refine W.lcmp hx hb d ?_
  rw [← lcm_of]
  exact k
theorem s_dup {v : MV} (d : dk me pc .dup 1 pc') (hc : ct2 v = false) (h : Sim fx me pc' L (v :: v :: st) m o) : Sim fx me pc L (v :: st) m o := by
  obtain ⟨d, rfl⟩ := d
  refine h.stk (fun _ h => okC' (okH h) h) (fun p e R s mi args below meth c C ad H locs cells slots ls Q hR hS hL hst hl g1 g2 k => ?_)
  obtain ⟨hx, hb, -⟩ := C
  exact lv_dup hx hb d (by rw [toV_cat ad (okH hst), hc]; rfl) k
theorem s_dup2 {u v : MV} (d : dk me pc .dup2 1 pc') (hc : ct2 u = false) (hc2 : ct2 v = false) (h : Sim fx me pc' L (v :: u :: v :: u :: st) m o) : Sim fx me pc L (v :: u :: st) m o := by
  obtain ⟨d, rfl⟩ := d
  refine h.stk (fun _ h => okC' (okH h) (okC' (okH (okS h)) h)) (fun p e R s mi args below meth c C ad H locs cells slots ls Q hR hS hL hst hl g1 g2 k => ?_)
  obtain ⟨hx, hb, -⟩ := C
  exact lv_dup2_11 hx hb d (by rw [toV_cat ad (okH hst), hc2]; rfl) (by rw [toV_cat ad (okH (okS hst)), hc]; rfl) k
theorem s_goto {off : Int} (d : dk me pc (.goto off) 3 pc') (ht : (pc : Int) + off = (tgt : Int)) (h : Sim fx me tgt L st m o) : Sim fx me pc L st m o := by
  obtain ⟨d, rfl⟩ := d
  refine h.stk (fun _ h => h) (fun p e R s mi args below meth c C ad H locs cells slots ls Q hR hS hL hst hl g1 g2 k => ?_)
  obtain ⟨hx, hb, -⟩ := C
  exact lv_goto hx hb d ht k
theorem s_ck {x : Int} {X : Type} {f : Option X} {kk : X → MO} (h : Sim fx me pc L (aI x :: st) m (f.bind kk)) : Sim fx me pc L (aU x :: st) m ((ck x f).bind kk) := by
  unfold ck
  split
  next hc =>
    refine h.stk (fun _ b => fun v hv => ?_) fun p e R s mi args below meth c C ad H locs cells slots ls Q hR hS hL hst hl g1 g2 k => k
    by_cases e : v = aI x
    · rw [e]; exact hc
    · refine b v ?_
      simp only [List.mem_cons] at hv ⊢
      rcases hv with hv | hv <;> simp_all
  next => exact Sim.none
theorem s_ck1 {v0 : MV} {x : Int} {X : Type} {f : Option X} {kk : X → MO} (h : Sim fx me pc L (v0 :: aI x :: st) m (f.bind kk)) : Sim fx me pc L (v0 :: aU x :: st) m ((ck x f).bind kk) := by
  unfold ck
  split
  next hc =>
    refine h.stk (fun _ b => fun v hv => ?_) fun p e R s mi args below meth c C ad H locs cells slots ls Q hR hS hL hst hl g1 g2 k => k
    by_cases e : v = aI x
    · rw [e]; exact hc
    · refine b v ?_
      simp only [List.mem_cons] at hv ⊢
      rcases hv with hv | hv | hv <;> simp_all
  next => exact Sim.none
theorem s_ck2 {v0 v1 : MV} {x : Int} {X : Type} {f : Option X} {kk : X → MO} (h : Sim fx me pc L (v0 :: v1 :: aI x :: st) m (f.bind kk)) : Sim fx me pc L (v0 :: v1 :: aU x :: st) m ((ck x f).bind kk) := by
  unfold ck
  split
  next hc =>
    refine h.stk (fun _ b => fun v hv => ?_) fun p e R s mi args below meth c C ad H locs cells slots ls Q hR hS hL hst hl g1 g2 k => k
    by_cases e : v = aI x
    · rw [e]; exact hc
    · refine b v ?_
      simp only [List.mem_cons] at hv ⊢
      rcases hv with hv | hv | hv | hv <;> simp_all
  next => exact Sim.none
theorem s_ck3 {v0 v1 v2 : MV} {x : Int} {X : Type} {f : Option X} {kk : X → MO} (h : Sim fx me pc L (v0 :: v1 :: v2 :: aI x :: st) m (f.bind kk)) : Sim fx me pc L (v0 :: v1 :: v2 :: aU x :: st) m ((ck x f).bind kk) := by
  unfold ck
  split
  next hc =>
    refine h.stk (fun _ b => fun v hv => ?_) fun p e R s mi args below meth c C ad H locs cells slots ls Q hR hS hL hst hl g1 g2 k => k
    by_cases e : v = aI x
    · rw [e]; exact hc
    · refine b v ?_
      simp only [List.mem_cons] at hv ⊢
      rcases hv with hv | hv | hv | hv | hv <;> simp_all
  next => exact Sim.none
theorem s_ck4 {v0 v1 v2 v3 : MV} {x : Int} {X : Type} {f : Option X} {kk : X → MO} (h : Sim fx me pc L (v0 :: v1 :: v2 :: v3 :: aI x :: st) m (f.bind kk)) : Sim fx me pc L (v0 :: v1 :: v2 :: v3 :: aU x :: st) m ((ck x f).bind kk) := by
  unfold ck
  split
  next hc =>
    refine h.stk (fun _ b => fun v hv => ?_) fun p e R s mi args below meth c C ad H locs cells slots ls Q hR hS hL hst hl g1 g2 k => k
    by_cases e : v = aI x
    · rw [e]; exact hc
    · refine b v ?_
      simp only [List.mem_cons] at hv ⊢
      rcases hv with hv | hv | hv | hv | hv | hv <;> simp_all
  next => exact Sim.none
theorem s_ck5 {v0 v1 v2 v3 v4 : MV} {x : Int} {X : Type} {f : Option X} {kk : X → MO} (h : Sim fx me pc L (v0 :: v1 :: v2 :: v3 :: v4 :: aI x :: st) m (f.bind kk)) : Sim fx me pc L (v0 :: v1 :: v2 :: v3 :: v4 :: aU x :: st) m ((ck x f).bind kk) := by
  unfold ck
  split
  next hc =>
    refine h.stk (fun _ b => fun v hv => ?_) fun p e R s mi args below meth c C ad H locs cells slots ls Q hR hS hL hst hl g1 g2 k => k
    by_cases e : v = aI x
    · rw [e]; exact hc
    · refine b v ?_
      simp only [List.mem_cons] at hv ⊢
      rcases hv with hv | hv | hv | hv | hv | hv | hv <;> simp_all
  next => exact Sim.none
theorem s_if_eq {x : Int} {off : Int} {X : Type} {f g : Option X} {kk : X → MO} (d : dk me pc (.ifCond .eq off) 3 pc') (ht : (pc : Int) + off = (tgt : Int)) (h1 : Sim fx me tgt L st m (f.bind kk)) (h2 : Sim fx me pc' L st m (g.bind kk)) : Sim fx me pc L (aI x :: st) m ((if x = 0 then f else g).bind kk) := by
  obtain ⟨d, rfl⟩ := d
  split
  next hc =>
    refine h1.stk (fun _ h => okS h) (fun p e R s mi args below meth c C ad H locs cells slots ls Q hR hS hL hst hl g1 g2 k => ?_)
    obtain ⟨hx, hb, -⟩ := C
    have hn : nrm x := okH hst
    exact lv_if_eq hx hb d ht (fun _ => k) (fun q => absurd ((ofI_eq hn nrm0).mpr hc) q)
  next hc =>
    refine h2.stk (fun _ h => okS h) (fun p e R s mi args below meth c C ad H locs cells slots ls Q hR hS hL hst hl g1 g2 k => ?_)
    obtain ⟨hx, hb, -⟩ := C
    have hn : nrm x := okH hst
    exact lv_if_eq hx hb d ht (fun q => absurd ((ofI_eq hn nrm0).mp q) hc) (fun _ => k)
theorem s_if_ne {x : Int} {off : Int} {X : Type} {f g : Option X} {kk : X → MO} (d : dk me pc (.ifCond .ne off) 3 pc') (ht : (pc : Int) + off = (tgt : Int)) (h1 : Sim fx me tgt L st m (f.bind kk)) (h2 : Sim fx me pc' L st m (g.bind kk)) : Sim fx me pc L (aI x :: st) m ((if ¬ x = 0 then f else g).bind kk) := by
  obtain ⟨d, rfl⟩ := d
  split
  next hc =>
    refine h1.stk (fun _ h => okS h) (fun p e R s mi args below meth c C ad H locs cells slots ls Q hR hS hL hst hl g1 g2 k => ?_)
    obtain ⟨hx, hb, -⟩ := C
    have hn : nrm x := okH hst
    exact lv_if_ne hx hb d ht (fun _ => k) (fun q => absurd ((ofI_eq hn nrm0).mp q) hc)
  next hc =>
    refine h2.stk (fun _ h => okS h) (fun p e R s mi args below meth c C ad H locs cells slots ls Q hR hS hL hst hl g1 g2 k => ?_)
    obtain ⟨hx, hb, -⟩ := C
    have hn : nrm x := okH hst
    exact lv_if_ne hx hb d ht (fun q => absurd (Classical.not_not.mp hc) (fun z => q ((ofI_eq hn nrm0).mpr z))) (fun _ => k)
theorem s_if_lt {x : Int} {off : Int} {X : Type} {f g : Option X} {kk : X → MO} (d : dk me pc (.ifCond .lt off) 3 pc') (ht : (pc : Int) + off = (tgt : Int)) (h1 : Sim fx me tgt L st m (f.bind kk)) (h2 : Sim fx me pc' L st m (g.bind kk)) : Sim fx me pc L (aI x :: st) m ((if x < 0 then f else g).bind kk) := by
  obtain ⟨d, rfl⟩ := d
  split
  next hc =>
    refine h1.stk (fun _ h => okS h) (fun p e R s mi args below meth c C ad H locs cells slots ls Q hR hS hL hst hl g1 g2 k => ?_)
    obtain ⟨hx, hb, -⟩ := C
    have hn : nrm x := okH hst
    exact lv_if_lt hx hb d ht (fun _ => k) (fun q => absurd ((ofI_lt hn nrm0).mpr hc) q)
  next hc =>
    refine h2.stk (fun _ h => okS h) (fun p e R s mi args below meth c C ad H locs cells slots ls Q hR hS hL hst hl g1 g2 k => ?_)
    obtain ⟨hx, hb, -⟩ := C
    have hn : nrm x := okH hst
    exact lv_if_lt hx hb d ht (fun q => absurd ((ofI_lt hn nrm0).mp q) hc) (fun _ => k)
theorem s_if_ge {x : Int} {off : Int} {X : Type} {f g : Option X} {kk : X → MO} (d : dk me pc (.ifCond .ge off) 3 pc') (ht : (pc : Int) + off = (tgt : Int)) (h1 : Sim fx me tgt L st m (f.bind kk)) (h2 : Sim fx me pc' L st m (g.bind kk)) : Sim fx me pc L (aI x :: st) m ((if 0 ≤ x then f else g).bind kk) := by
  obtain ⟨d, rfl⟩ := d
  split
  next hc =>
    refine h1.stk (fun _ h => okS h) (fun p e R s mi args below meth c C ad H locs cells slots ls Q hR hS hL hst hl g1 g2 k => ?_)
    obtain ⟨hx, hb, -⟩ := C
    have hn : nrm x := okH hst
    exact lv_if_ge hx hb d ht (fun _ => k) (fun q => absurd ((ofI_le nrm0 hn).mpr hc) q)
  next hc =>
    refine h2.stk (fun _ h => okS h) (fun p e R s mi args below meth c C ad H locs cells slots ls Q hR hS hL hst hl g1 g2 k => ?_)
    obtain ⟨hx, hb, -⟩ := C
    have hn : nrm x := okH hst
    exact lv_if_ge hx hb d ht (fun q => absurd ((ofI_le nrm0 hn).mp q) hc) (fun _ => k)
theorem s_if_gt {x : Int} {off : Int} {X : Type} {f g : Option X} {kk : X → MO} (d : dk me pc (.ifCond .gt off) 3 pc') (ht : (pc : Int) + off = (tgt : Int)) (h1 : Sim fx me tgt L st m (f.bind kk)) (h2 : Sim fx me pc' L st m (g.bind kk)) : Sim fx me pc L (aI x :: st) m ((if 0 < x then f else g).bind kk) := by
  obtain ⟨d, rfl⟩ := d
  split
  next hc =>
    refine h1.stk (fun _ h => okS h) (fun p e R s mi args below meth c C ad H locs cells slots ls Q hR hS hL hst hl g1 g2 k => ?_)
    obtain ⟨hx, hb, -⟩ := C
    have hn : nrm x := okH hst
    exact lv_if_gt hx hb d ht (fun _ => k) (fun q => absurd ((ofI_lt nrm0 hn).mpr hc) q)
  next hc =>
    refine h2.stk (fun _ h => okS h) (fun p e R s mi args below meth c C ad H locs cells slots ls Q hR hS hL hst hl g1 g2 k => ?_)
    obtain ⟨hx, hb, -⟩ := C
    have hn : nrm x := okH hst
    exact lv_if_gt hx hb d ht (fun q => absurd ((ofI_lt nrm0 hn).mp q) hc) (fun _ => k)
theorem s_if_le {x : Int} {off : Int} {X : Type} {f g : Option X} {kk : X → MO} (d : dk me pc (.ifCond .le off) 3 pc') (ht : (pc : Int) + off = (tgt : Int)) (h1 : Sim fx me tgt L st m (f.bind kk)) (h2 : Sim fx me pc' L st m (g.bind kk)) : Sim fx me pc L (aI x :: st) m ((if x ≤ 0 then f else g).bind kk) := by
  obtain ⟨d, rfl⟩ := d
  split
  next hc =>
    refine h1.stk (fun _ h => okS h) (fun p e R s mi args below meth c C ad H locs cells slots ls Q hR hS hL hst hl g1 g2 k => ?_)
    obtain ⟨hx, hb, -⟩ := C
    have hn : nrm x := okH hst
    exact lv_if_le hx hb d ht (fun _ => k) (fun q => absurd ((ofI_le hn nrm0).mpr hc) q)
  next hc =>
    refine h2.stk (fun _ h => okS h) (fun p e R s mi args below meth c C ad H locs cells slots ls Q hR hS hL hst hl g1 g2 k => ?_)
    obtain ⟨hx, hb, -⟩ := C
    have hn : nrm x := okH hst
    exact lv_if_le hx hb d ht (fun q => absurd ((ofI_le hn nrm0).mp q) hc) (fun _ => k)
theorem s_icmp_eq {x y : Int} {off : Int} {X : Type} {f g : Option X} {kk : X → MO} (d : dk me pc (.if_icmp .eq off) 3 pc') (ht : (pc : Int) + off = (tgt : Int)) (h1 : Sim fx me tgt L st m (f.bind kk)) (h2 : Sim fx me pc' L st m (g.bind kk)) : Sim fx me pc L (aI y :: aI x :: st) m ((if x = y then f else g).bind kk) := by
  obtain ⟨d, rfl⟩ := d
  split
  next hc =>
    refine h1.stk (fun _ h => okS (okS h)) (fun p e R s mi args below meth c C ad H locs cells slots ls Q hR hS hL hst hl g1 g2 k => ?_)
    obtain ⟨hx, hb, -⟩ := C
    have hn2 : nrm y := okH hst
    have hn : nrm x := okH (okS hst)
    exact lv_icmp_eq hx hb d ht (fun _ => k) (fun q => absurd ((ofI_eq hn hn2).mpr hc) q)
  next hc =>
    refine h2.stk (fun _ h => okS (okS h)) (fun p e R s mi args below meth c C ad H locs cells slots ls Q hR hS hL hst hl g1 g2 k => ?_)
    obtain ⟨hx, hb, -⟩ := C
    have hn2 : nrm y := okH hst
    have hn : nrm x := okH (okS hst)
    exact lv_icmp_eq hx hb d ht (fun q => absurd ((ofI_eq hn hn2).mp q) hc) (fun _ => k)
theorem s_icmp_ne {x y : Int} {off : Int} {X : Type} {f g : Option X} {kk : X → MO} (d : dk me pc (.if_icmp .ne off) 3 pc') (ht : (pc : Int) + off = (tgt : Int)) (h1 : Sim fx me tgt L st m (f.bind kk)) (h2 : Sim fx me pc' L st m (g.bind kk)) : Sim fx me pc L (aI y :: aI x :: st) m ((if ¬ x = y then f else g).bind kk) := by
  obtain ⟨d, rfl⟩ := d
  split
  next hc =>
    refine h1.stk (fun _ h => okS (okS h)) (fun p e R s mi args below meth c C ad H locs cells slots ls Q hR hS hL hst hl g1 g2 k => ?_)
    obtain ⟨hx, hb, -⟩ := C
    have hn2 : nrm y := okH hst
    have hn : nrm x := okH (okS hst)
    exact lv_icmp_ne hx hb d ht (fun _ => k) (fun q => absurd ((ofI_eq hn hn2).mp q) hc)
  next hc =>
    refine h2.stk (fun _ h => okS (okS h)) (fun p e R s mi args below meth c C ad H locs cells slots ls Q hR hS hL hst hl g1 g2 k => ?_)
    obtain ⟨hx, hb, -⟩ := C
    have hn2 : nrm y := okH hst
    have hn : nrm x := okH (okS hst)
    exact lv_icmp_ne hx hb d ht (fun q => absurd (Classical.not_not.mp hc) (fun z => q ((ofI_eq hn hn2).mpr z))) (fun _ => k)
theorem s_icmp_lt {x y : Int} {off : Int} {X : Type} {f g : Option X} {kk : X → MO} (d : dk me pc (.if_icmp .lt off) 3 pc') (ht : (pc : Int) + off = (tgt : Int)) (h1 : Sim fx me tgt L st m (f.bind kk)) (h2 : Sim fx me pc' L st m (g.bind kk)) : Sim fx me pc L (aI y :: aI x :: st) m ((if x < y then f else g).bind kk) := by
  obtain ⟨d, rfl⟩ := d
  split
  next hc =>
    refine h1.stk (fun _ h => okS (okS h)) (fun p e R s mi args below meth c C ad H locs cells slots ls Q hR hS hL hst hl g1 g2 k => ?_)
    obtain ⟨hx, hb, -⟩ := C
    have hn2 : nrm y := okH hst
    have hn : nrm x := okH (okS hst)
    exact lv_icmp_lt hx hb d ht (fun _ => k) (fun q => absurd ((ofI_lt hn hn2).mpr hc) q)
  next hc =>
    refine h2.stk (fun _ h => okS (okS h)) (fun p e R s mi args below meth c C ad H locs cells slots ls Q hR hS hL hst hl g1 g2 k => ?_)
    obtain ⟨hx, hb, -⟩ := C
    have hn2 : nrm y := okH hst
    have hn : nrm x := okH (okS hst)
    exact lv_icmp_lt hx hb d ht (fun q => absurd ((ofI_lt hn hn2).mp q) hc) (fun _ => k)
theorem s_icmp_ge {x y : Int} {off : Int} {X : Type} {f g : Option X} {kk : X → MO} (d : dk me pc (.if_icmp .ge off) 3 pc') (ht : (pc : Int) + off = (tgt : Int)) (h1 : Sim fx me tgt L st m (f.bind kk)) (h2 : Sim fx me pc' L st m (g.bind kk)) : Sim fx me pc L (aI y :: aI x :: st) m ((if y ≤ x then f else g).bind kk) := by
  obtain ⟨d, rfl⟩ := d
  split
  next hc =>
    refine h1.stk (fun _ h => okS (okS h)) (fun p e R s mi args below meth c C ad H locs cells slots ls Q hR hS hL hst hl g1 g2 k => ?_)
    obtain ⟨hx, hb, -⟩ := C
    have hn2 : nrm y := okH hst
    have hn : nrm x := okH (okS hst)
    exact lv_icmp_ge hx hb d ht (fun _ => k) (fun q => absurd ((ofI_le hn2 hn).mpr hc) q)
  next hc =>
    refine h2.stk (fun _ h => okS (okS h)) (fun p e R s mi args below meth c C ad H locs cells slots ls Q hR hS hL hst hl g1 g2 k => ?_)
    obtain ⟨hx, hb, -⟩ := C
    have hn2 : nrm y := okH hst
    have hn : nrm x := okH (okS hst)
    exact lv_icmp_ge hx hb d ht (fun q => absurd ((ofI_le hn2 hn).mp q) hc) (fun _ => k)
theorem s_icmp_gt {x y : Int} {off : Int} {X : Type} {f g : Option X} {kk : X → MO} (d : dk me pc (.if_icmp .gt off) 3 pc') (ht : (pc : Int) + off = (tgt : Int)) (h1 : Sim fx me tgt L st m (f.bind kk)) (h2 : Sim fx me pc' L st m (g.bind kk)) : Sim fx me pc L (aI y :: aI x :: st) m ((if y < x then f else g).bind kk) := by
  obtain ⟨d, rfl⟩ := d
  split
  next hc =>
    refine h1.stk (fun _ h => okS (okS h)) (fun p e R s mi args below meth c C ad H locs cells slots ls Q hR hS hL hst hl g1 g2 k => ?_)
    obtain ⟨hx, hb, -⟩ := C
    have hn2 : nrm y := okH hst
    have hn : nrm x := okH (okS hst)
    exact lv_icmp_gt hx hb d ht (fun _ => k) (fun q => absurd ((ofI_lt hn2 hn).mpr hc) q)
  next hc =>
    refine h2.stk (fun _ h => okS (okS h)) (fun p e R s mi args below meth c C ad H locs cells slots ls Q hR hS hL hst hl g1 g2 k => ?_)
    obtain ⟨hx, hb, -⟩ := C
    have hn2 : nrm y := okH hst
    have hn : nrm x := okH (okS hst)
    exact lv_icmp_gt hx hb d ht (fun q => absurd ((ofI_lt hn2 hn).mp q) hc) (fun _ => k)
theorem s_icmp_le {x y : Int} {off : Int} {X : Type} {f g : Option X} {kk : X → MO} (d : dk me pc (.if_icmp .le off) 3 pc') (ht : (pc : Int) + off = (tgt : Int)) (h1 : Sim fx me tgt L st m (f.bind kk)) (h2 : Sim fx me pc' L st m (g.bind kk)) : Sim fx me pc L (aI y :: aI x :: st) m ((if x ≤ y then f else g).bind kk) := by
  obtain ⟨d, rfl⟩ := d
  split
  next hc =>
    refine h1.stk (fun _ h => okS (okS h)) (fun p e R s mi args below meth c C ad H locs cells slots ls Q hR hS hL hst hl g1 g2 k => ?_)
    obtain ⟨hx, hb, -⟩ := C
    have hn2 : nrm y := okH hst
    have hn : nrm x := okH (okS hst)
    exact lv_icmp_le hx hb d ht (fun _ => k) (fun q => absurd ((ofI_le hn hn2).mpr hc) q)
  next hc =>
    refine h2.stk (fun _ h => okS (okS h)) (fun p e R s mi args below meth c C ad H locs cells slots ls Q hR hS hL hst hl g1 g2 k => ?_)
    obtain ⟨hx, hb, -⟩ := C
    have hn2 : nrm y := okH hst
    have hn : nrm x := okH (okS hst)
    exact lv_icmp_le hx hb d ht (fun q => absurd ((ofI_le hn hn2).mp q) hc) (fun _ => k)
end SR
