/-! RULES for the printed walks; literals, places in lists. -/
def lt0 {X : Type} (x : Int) (f : Int → Option X) : Option X := f x
def lt1 {X : Type} (x : Int64) (f : Int64 → Option X) : Option X := f x
def xt : Nat → MM → Option (RV × MM) := fun e m => some (.inr e, m)
def xr {S T : Type} : Nat → MM → Option (S ⊕ ((RV × MM) ⊕ T)) := fun e m => some (.inr (.inl (.inr e, m)))
def xn_ {X : Type} : MM → Option X := fun _ => none
def xc {X : Type} (a b c : MM → Option X) : Nat → MM → Option X := fun e m => match e with
  | 0 => a m
  | 1 => b m
  | 2 => c m
  | _ => none
/-- room in the numbering, so that what belongs to a book has its place -/
def bump0 (b : Nat) : Nat → Nat := fun K => if K = 2 ∨ K = 19 ∨ K = 25 ∨ K = 26 then 8 * b else if K = 4 ∨ K = 5 ∨ (27 ≤ K ∧ K ≤ 33) ∨ (34 ≤ K ∧ K ≤ 37) then 16 * b else if K = 8 then 4 * b else if K = 18 then 24 * b else if K = 38 then 384 * b else 0
def bump1 (p : Nat) : Nat → Nat := fun K => if K = 38 then 24 * p else 0
section SGen
variable {fx : FX} {me me2 : ME} {pc pc' : Nat} {L : List (Nat × MV)} {st : List MV} {m : MM} {o : MO}
theorem s_let {x : Int} {X : Type} {f : Int → Option X} {kk : X → MO} (h : ∀ v, Sim fx me pc L (aI v :: st) m ((f v).bind kk)) : Sim fx me pc L (aI x :: st) m ((lt0 x f).bind kk) := h x
theorem s_letL {x : Int64} {X : Type} {f : Int64 → Option X} {kk : X → MO} (h : ∀ v, Sim fx me pc L (aL v :: st) m ((f v).bind kk)) : Sim fx me pc L (aL x :: st) m ((lt1 x f).bind kk) := h x
theorem cb_of {X : Type} {v : Int} {f : Option X} (hv : v = 0 ∨ v = 1) : cb v f = f := if_pos hv
theorem s_zretl {v : Int} (d : dk me pc .ireturn 1 pc') (hr : eR me = some .boolean) (hv : v = 0 ∨ v = 1) (ho : o = some (.inl (some (aI v)), m)) : Sim fx me pc L [aI v] m o := by
  have h := s_zret (fx := fx) (L := L) (f := o) (kk := fun z => some z) d hr (by rw [ho]; rfl)
  rw [cb_of hv] at h
  exact s_top h
theorem s_putBl {K i k idx : Nat} {fin : Bool} {v : Int} {X : Type} {f : MM → Option X} {kk : X → MO} (hcf : ∀ c, c < 13 → CF c) (d : dk me pc (.putfield idx) 3 pc') (hf : fl (eY me).cls idx K k 3 fin) (hfin : fin = true → eI me = true ∧ ∃ r, vwCl[K]? = some r ∧ r.1 = (eY me).cls) (hv : v = 0 ∨ v = 1)
    (h : ∀ m1, Sim fx me pc' L st m1 ((f m1).bind kk)) : Sim fx me pc L (aI v :: aR (some (K, i)) :: st) m ((lt' (sN m K i k v) f).bind kk) := by
  have h := s_putB (v := v) (i := i) (m := m) hcf d hf hfin h
  rw [cb_of hv] at h
  exact h
theorem s_stBl {K i : Nat} {u : MV} {j v : Int} {X : Type} {f : MM → Option X} {kk : X → MO} (d : dk me pc .bastore 1 pc') (hK : 13 ≤ K ∧ KT K = .boolean) (hu : vi u = some j) (hv : v = 0 ∨ v = 1) (h : ∀ m1, Sim fx me pc' L st m1 ((f m1).bind kk)) : Sim fx me pc L (aI v :: u :: aR (some (K, i)) :: st) m ((stN m K i j v f).bind kk) := by
  have h := s_stB (v := v) (i := i) (m := m) d hK hu h
  rw [cb_of hv] at h
  exact h
theorem ofI_div {x y : Int} (hx : nrm x) (hy : nrm y) (h0 : 0 ≤ x) (h1 : 0 < y) : Int32.ofInt x / Int32.ofInt y = Int32.ofInt (x / y) := by
  apply Int32.toInt_inj.mp
  have e1 := ofT hx
  have e2 := ofT hy
  have h3 : x / y ≤ x := Int.ediv_le_self y h0
  have h4 : 0 ≤ x / y := Int.ediv_nonneg h0 (by omega)
  rw [lg_idiv_nonneg (by rw [e1]; exact h0) (by rw [e2]; exact h1), e1, e2, ofT ⟨by omega, by have := hx.2; omega⟩]
theorem s_idiv {x y : Int} {X : Type} {f : Option X} {kk : X → MO} (d : dk me pc .idiv 1 pc') (h : Sim fx me pc' L (aI (x / y) :: st) m (f.bind kk)) : Sim fx me pc L (aI y :: aI x :: st) m ((dv x y f).bind kk) := by
  obtain ⟨d, rfl⟩ := d
  unfold dv
  split
  next hc =>
    refine h.stk (fun _ h => okC' ?_ (okS (okS h))) (fun p e R s mi args below meth c C ad H locs cells slots ls Q hR hS hL hst hl g1 g2 k => ?_)
    · have hx : nrm x := okH (okS h)
      have h3 : x / y ≤ x := Int.ediv_le_self y hc.1
      have h4 : 0 ≤ x / y := Int.ediv_nonneg hc.1 (by omega)
      exact ⟨by omega, by have := hx.2; omega⟩
    · obtain ⟨hx, hb, -⟩ := C
      have ny : nrm y := okH hst
      refine lv_idiv hx hb d (fun q => ?_) ?_
      · have := (ofI_eq ny nrm0).mp q
        omega
      · rw [ofI_div (okH (okS hst)) ny hc.1 hc.2]
        exact k
  next => exact Sim.none
theorem s_irem {x y : Int} {X : Type} {f : Option X} {kk : X → MO} (d : dk me pc .irem 1 pc') (h : Sim fx me pc' L (aI (x % y) :: st) m (f.bind kk)) : Sim fx me pc L (aI y :: aI x :: st) m ((dv x y f).bind kk) := by
  obtain ⟨d, rfl⟩ := d
  unfold dv
  split
  next hc =>
    refine h.stk (fun _ h => okC' ?_ (okS (okS h))) (fun p e R s mi args below meth c C ad H locs cells slots ls Q hR hS hL hst hl g1 g2 k => ?_)
    · have hy : nrm y := okH h
      have h3 := Int.emod_lt_of_pos x hc.2
      have h4 := Int.emod_nonneg x (show y ≠ 0 by omega)
      exact ⟨by omega, by have := hy.2; omega⟩
    · obtain ⟨hx, hb, -⟩ := C
      have ny : nrm y := okH hst
      refine lv_irem hx hb d (fun q => ?_) ?_
      · have := (ofI_eq ny nrm0).mp q
        omega
      · have e : Int32.ofInt x - Int32.ofInt x / Int32.ofInt y * Int32.ofInt y = Int32.ofInt (x % y) := by
          rw [ofI_div (okH (okS hst)) ny hc.1 hc.2, ← Int32.ofInt_mul, ← Int32.ofInt_sub, Int.emod_def, Int.mul_comm]
        rw [e]
        exact k
  next => exact Sim.none
theorem s_cIC {av st0 : List MV} {o2 : MO} {X : Type} {k : Int → MM → Option X} {a b c : MM → Option X} {kk : X → MO} (hrun : RunOK fx me me2 pc true av) (hM : MS fx me2 av m o2) (hsc : sc st ≤ 8) (hst0 : st0 = av.reverse ++ st) (hpc : pc' = pc + 3)
    (h0 : ∀ m2, (a m2).bind kk = none ∨ ∃ hpc, Takes me pc 0 hpc (eT me) ∧ ∀ q, Sim fx me hpc L [aV (.ref q)] m2 ((a m2).bind kk)) (h1 : ∀ m2, (b m2).bind kk = none ∨ ∃ hpc, Takes me pc 1 hpc (eT me) ∧ ∀ q, Sim fx me hpc L [aV (.ref q)] m2 ((b m2).bind kk)) (h2 : ∀ m2, (c m2).bind kk = none ∨ ∃ hpc, Takes me pc 2 hpc (eT me) ∧ ∀ q, Sim fx me hpc L [aV (.ref q)] m2 ((c m2).bind kk))
    (h : ∀ v m2, Sim fx me pc' L (aI v :: st) m2 ((k v m2).bind kk)) : Sim fx me pc L st0 m ((bI o2 k (xc a b c)).bind kk) := by
  subst hst0; subst hpc
  refine s_callC hrun hM hsc (fun v m2 ho => ?_) (fun e m2 ho => ?_) (fun ho => by rw [ho]; rfl)
  · rw [ho]
    rcases v with _ | (v | v | v | v | v)
    · exact Sim.none
    · exact h v m2
    · exact Sim.none
    · exact Sim.none
    · exact Sim.none
    · exact Sim.none
  · rw [ho]
    match e with
    | 0 => exact h0 m2
    | 1 => exact h1 m2
    | 2 => exact h2 m2
    | n + 3 => exact Or.inl rfl
theorem s_cVC {av st0 : List MV} {o2 : MO} {X : Type} {k : MM → Option X} {a b c : MM → Option X} {kk : X → MO} (hrun : RunOK fx me me2 pc true av) (hM : MS fx me2 av m o2) (hsc : sc st ≤ 8) (hst0 : st0 = av.reverse ++ st) (hpc : pc' = pc + 3)
    (h0 : ∀ m2, (a m2).bind kk = none ∨ ∃ hpc, Takes me pc 0 hpc (eT me) ∧ ∀ q, Sim fx me hpc L [aV (.ref q)] m2 ((a m2).bind kk)) (h1 : ∀ m2, (b m2).bind kk = none ∨ ∃ hpc, Takes me pc 1 hpc (eT me) ∧ ∀ q, Sim fx me hpc L [aV (.ref q)] m2 ((b m2).bind kk)) (h2 : ∀ m2, (c m2).bind kk = none ∨ ∃ hpc, Takes me pc 2 hpc (eT me) ∧ ∀ q, Sim fx me hpc L [aV (.ref q)] m2 ((c m2).bind kk))
    (h : ∀ m2, Sim fx me pc' L st m2 ((k m2).bind kk)) : Sim fx me pc L st0 m ((bV o2 k (xc a b c)).bind kk) := by
  subst hst0; subst hpc
  refine s_callC hrun hM hsc (fun v m2 ho => ?_) (fun e m2 ho => ?_) (fun ho => by rw [ho]; rfl)
  · rw [ho]
    rcases v with _ | v
    · exact h m2
    · exact Sim.none
  · rw [ho]
    match e with
    | 0 => exact h0 m2
    | 1 => exact h1 m2
    | 2 => exact h2 m2
    | n + 3 => exact Or.inl rfl
end SGen
theorem ty_int : FieldType.int ∈ [FieldType.int, .long, .boolean] := by decide
theorem ty_long : FieldType.long ∈ [FieldType.int, .long, .boolean] := by decide
theorem ty_boolean : FieldType.boolean ∈ [FieldType.int, .long, .boolean] := by decide
theorem m0_ {a0 : Nat × MV} {L : List (Nat × MV)} : a0 ∈ a0 :: L := List.mem_cons_self
theorem m1_ {a0 a1 : Nat × MV} {L : List (Nat × MV)} : a1 ∈ a0 :: a1 :: L := List.mem_cons_of_mem _ (List.mem_cons_self)
theorem m2_ {a0 a1 a2 : Nat × MV} {L : List (Nat × MV)} : a2 ∈ a0 :: a1 :: a2 :: L := List.mem_cons_of_mem _ (List.mem_cons_of_mem _ (List.mem_cons_self))
theorem m3_ {a0 a1 a2 a3 : Nat × MV} {L : List (Nat × MV)} : a3 ∈ a0 :: a1 :: a2 :: a3 :: L := List.mem_cons_of_mem _ (List.mem_cons_of_mem _ (List.mem_cons_of_mem _ (List.mem_cons_self)))
theorem m4_ {a0 a1 a2 a3 a4 : Nat × MV} {L : List (Nat × MV)} : a4 ∈ a0 :: a1 :: a2 :: a3 :: a4 :: L := List.mem_cons_of_mem _ (List.mem_cons_of_mem _ (List.mem_cons_of_mem _ (List.mem_cons_of_mem _ (List.mem_cons_self))))
theorem m5_ {a0 a1 a2 a3 a4 a5 : Nat × MV} {L : List (Nat × MV)} : a5 ∈ a0 :: a1 :: a2 :: a3 :: a4 :: a5 :: L := List.mem_cons_of_mem _ (List.mem_cons_of_mem _ (List.mem_cons_of_mem _ (List.mem_cons_of_mem _ (List.mem_cons_of_mem _ (List.mem_cons_self)))))
theorem m6_ {a0 a1 a2 a3 a4 a5 a6 : Nat × MV} {L : List (Nat × MV)} : a6 ∈ a0 :: a1 :: a2 :: a3 :: a4 :: a5 :: a6 :: L := List.mem_cons_of_mem _ (List.mem_cons_of_mem _ (List.mem_cons_of_mem _ (List.mem_cons_of_mem _ (List.mem_cons_of_mem _ (List.mem_cons_of_mem _ (List.mem_cons_self))))))
theorem m7_ {a0 a1 a2 a3 a4 a5 a6 a7 : Nat × MV} {L : List (Nat × MV)} : a7 ∈ a0 :: a1 :: a2 :: a3 :: a4 :: a5 :: a6 :: a7 :: L := List.mem_cons_of_mem _ (List.mem_cons_of_mem _ (List.mem_cons_of_mem _ (List.mem_cons_of_mem _ (List.mem_cons_of_mem _ (List.mem_cons_of_mem _ (List.mem_cons_of_mem _ (List.mem_cons_self)))))))
theorem m8_ {a0 a1 a2 a3 a4 a5 a6 a7 a8 : Nat × MV} {L : List (Nat × MV)} : a8 ∈ a0 :: a1 :: a2 :: a3 :: a4 :: a5 :: a6 :: a7 :: a8 :: L := List.mem_cons_of_mem _ (List.mem_cons_of_mem _ (List.mem_cons_of_mem _ (List.mem_cons_of_mem _ (List.mem_cons_of_mem _ (List.mem_cons_of_mem _ (List.mem_cons_of_mem _ (List.mem_cons_of_mem _ (List.mem_cons_self))))))))
theorem m9_ {a0 a1 a2 a3 a4 a5 a6 a7 a8 a9 : Nat × MV} {L : List (Nat × MV)} : a9 ∈ a0 :: a1 :: a2 :: a3 :: a4 :: a5 :: a6 :: a7 :: a8 :: a9 :: L := List.mem_cons_of_mem _ (List.mem_cons_of_mem _ (List.mem_cons_of_mem _ (List.mem_cons_of_mem _ (List.mem_cons_of_mem _ (List.mem_cons_of_mem _ (List.mem_cons_of_mem _ (List.mem_cons_of_mem _ (List.mem_cons_of_mem _ (List.mem_cons_self)))))))))
theorem m10_ {a0 a1 a2 a3 a4 a5 a6 a7 a8 a9 a10 : Nat × MV} {L : List (Nat × MV)} : a10 ∈ a0 :: a1 :: a2 :: a3 :: a4 :: a5 :: a6 :: a7 :: a8 :: a9 :: a10 :: L := List.mem_cons_of_mem _ (List.mem_cons_of_mem _ (List.mem_cons_of_mem _ (List.mem_cons_of_mem _ (List.mem_cons_of_mem _ (List.mem_cons_of_mem _ (List.mem_cons_of_mem _ (List.mem_cons_of_mem _ (List.mem_cons_of_mem _ (List.mem_cons_of_mem _ (List.mem_cons_self))))))))))
theorem m11_ {a0 a1 a2 a3 a4 a5 a6 a7 a8 a9 a10 a11 : Nat × MV} {L : List (Nat × MV)} : a11 ∈ a0 :: a1 :: a2 :: a3 :: a4 :: a5 :: a6 :: a7 :: a8 :: a9 :: a10 :: a11 :: L := List.mem_cons_of_mem _ (List.mem_cons_of_mem _ (List.mem_cons_of_mem _ (List.mem_cons_of_mem _ (List.mem_cons_of_mem _ (List.mem_cons_of_mem _ (List.mem_cons_of_mem _ (List.mem_cons_of_mem _ (List.mem_cons_of_mem _ (List.mem_cons_of_mem _ (List.mem_cons_of_mem _ (List.mem_cons_self)))))))))))
theorem m12_ {a0 a1 a2 a3 a4 a5 a6 a7 a8 a9 a10 a11 a12 : Nat × MV} {L : List (Nat × MV)} : a12 ∈ a0 :: a1 :: a2 :: a3 :: a4 :: a5 :: a6 :: a7 :: a8 :: a9 :: a10 :: a11 :: a12 :: L := List.mem_cons_of_mem _ (List.mem_cons_of_mem _ (List.mem_cons_of_mem _ (List.mem_cons_of_mem _ (List.mem_cons_of_mem _ (List.mem_cons_of_mem _ (List.mem_cons_of_mem _ (List.mem_cons_of_mem _ (List.mem_cons_of_mem _ (List.mem_cons_of_mem _ (List.mem_cons_of_mem _ (List.mem_cons_of_mem _ (List.mem_cons_self))))))))))))
theorem m13_ {a0 a1 a2 a3 a4 a5 a6 a7 a8 a9 a10 a11 a12 a13 : Nat × MV} {L : List (Nat × MV)} : a13 ∈ a0 :: a1 :: a2 :: a3 :: a4 :: a5 :: a6 :: a7 :: a8 :: a9 :: a10 :: a11 :: a12 :: a13 :: L := List.mem_cons_of_mem _ (List.mem_cons_of_mem _ (List.mem_cons_of_mem _ (List.mem_cons_of_mem _ (List.mem_cons_of_mem _ (List.mem_cons_of_mem _ (List.mem_cons_of_mem _ (List.mem_cons_of_mem _ (List.mem_cons_of_mem _ (List.mem_cons_of_mem _ (List.mem_cons_of_mem _ (List.mem_cons_of_mem _ (List.mem_cons_of_mem _ (List.mem_cons_self)))))))))))))
theorem m14_ {a0 a1 a2 a3 a4 a5 a6 a7 a8 a9 a10 a11 a12 a13 a14 : Nat × MV} {L : List (Nat × MV)} : a14 ∈ a0 :: a1 :: a2 :: a3 :: a4 :: a5 :: a6 :: a7 :: a8 :: a9 :: a10 :: a11 :: a12 :: a13 :: a14 :: L := List.mem_cons_of_mem _ (List.mem_cons_of_mem _ (List.mem_cons_of_mem _ (List.mem_cons_of_mem _ (List.mem_cons_of_mem _ (List.mem_cons_of_mem _ (List.mem_cons_of_mem _ (List.mem_cons_of_mem _ (List.mem_cons_of_mem _ (List.mem_cons_of_mem _ (List.mem_cons_of_mem _ (List.mem_cons_of_mem _ (List.mem_cons_of_mem _ (List.mem_cons_of_mem _ (List.mem_cons_self))))))))))))))
theorem m15_ {a0 a1 a2 a3 a4 a5 a6 a7 a8 a9 a10 a11 a12 a13 a14 a15 : Nat × MV} {L : List (Nat × MV)} : a15 ∈ a0 :: a1 :: a2 :: a3 :: a4 :: a5 :: a6 :: a7 :: a8 :: a9 :: a10 :: a11 :: a12 :: a13 :: a14 :: a15 :: L := List.mem_cons_of_mem _ (List.mem_cons_of_mem _ (List.mem_cons_of_mem _ (List.mem_cons_of_mem _ (List.mem_cons_of_mem _ (List.mem_cons_of_mem _ (List.mem_cons_of_mem _ (List.mem_cons_of_mem _ (List.mem_cons_of_mem _ (List.mem_cons_of_mem _ (List.mem_cons_of_mem _ (List.mem_cons_of_mem _ (List.mem_cons_of_mem _ (List.mem_cons_of_mem _ (List.mem_cons_of_mem _ (List.mem_cons_self)))))))))))))))
theorem m16_ {a0 a1 a2 a3 a4 a5 a6 a7 a8 a9 a10 a11 a12 a13 a14 a15 a16 : Nat × MV} {L : List (Nat × MV)} : a16 ∈ a0 :: a1 :: a2 :: a3 :: a4 :: a5 :: a6 :: a7 :: a8 :: a9 :: a10 :: a11 :: a12 :: a13 :: a14 :: a15 :: a16 :: L := List.mem_cons_of_mem _ (List.mem_cons_of_mem _ (List.mem_cons_of_mem _ (List.mem_cons_of_mem _ (List.mem_cons_of_mem _ (List.mem_cons_of_mem _ (List.mem_cons_of_mem _ (List.mem_cons_of_mem _ (List.mem_cons_of_mem _ (List.mem_cons_of_mem _ (List.mem_cons_of_mem _ (List.mem_cons_of_mem _ (List.mem_cons_of_mem _ (List.mem_cons_of_mem _ (List.mem_cons_of_mem _ (List.mem_cons_of_mem _ (List.mem_cons_self))))))))))))))))
theorem m17_ {a0 a1 a2 a3 a4 a5 a6 a7 a8 a9 a10 a11 a12 a13 a14 a15 a16 a17 : Nat × MV} {L : List (Nat × MV)} : a17 ∈ a0 :: a1 :: a2 :: a3 :: a4 :: a5 :: a6 :: a7 :: a8 :: a9 :: a10 :: a11 :: a12 :: a13 :: a14 :: a15 :: a16 :: a17 :: L := List.mem_cons_of_mem _ (List.mem_cons_of_mem _ (List.mem_cons_of_mem _ (List.mem_cons_of_mem _ (List.mem_cons_of_mem _ (List.mem_cons_of_mem _ (List.mem_cons_of_mem _ (List.mem_cons_of_mem _ (List.mem_cons_of_mem _ (List.mem_cons_of_mem _ (List.mem_cons_of_mem _ (List.mem_cons_of_mem _ (List.mem_cons_of_mem _ (List.mem_cons_of_mem _ (List.mem_cons_of_mem _ (List.mem_cons_of_mem _ (List.mem_cons_of_mem _ (List.mem_cons_self)))))))))))))))))
theorem m18_ {a0 a1 a2 a3 a4 a5 a6 a7 a8 a9 a10 a11 a12 a13 a14 a15 a16 a17 a18 : Nat × MV} {L : List (Nat × MV)} : a18 ∈ a0 :: a1 :: a2 :: a3 :: a4 :: a5 :: a6 :: a7 :: a8 :: a9 :: a10 :: a11 :: a12 :: a13 :: a14 :: a15 :: a16 :: a17 :: a18 :: L := List.mem_cons_of_mem _ (List.mem_cons_of_mem _ (List.mem_cons_of_mem _ (List.mem_cons_of_mem _ (List.mem_cons_of_mem _ (List.mem_cons_of_mem _ (List.mem_cons_of_mem _ (List.mem_cons_of_mem _ (List.mem_cons_of_mem _ (List.mem_cons_of_mem _ (List.mem_cons_of_mem _ (List.mem_cons_of_mem _ (List.mem_cons_of_mem _ (List.mem_cons_of_mem _ (List.mem_cons_of_mem _ (List.mem_cons_of_mem _ (List.mem_cons_of_mem _ (List.mem_cons_of_mem _ (List.mem_cons_self))))))))))))))))))
theorem m19_ {a0 a1 a2 a3 a4 a5 a6 a7 a8 a9 a10 a11 a12 a13 a14 a15 a16 a17 a18 a19 : Nat × MV} {L : List (Nat × MV)} : a19 ∈ a0 :: a1 :: a2 :: a3 :: a4 :: a5 :: a6 :: a7 :: a8 :: a9 :: a10 :: a11 :: a12 :: a13 :: a14 :: a15 :: a16 :: a17 :: a18 :: a19 :: L := List.mem_cons_of_mem _ (List.mem_cons_of_mem _ (List.mem_cons_of_mem _ (List.mem_cons_of_mem _ (List.mem_cons_of_mem _ (List.mem_cons_of_mem _ (List.mem_cons_of_mem _ (List.mem_cons_of_mem _ (List.mem_cons_of_mem _ (List.mem_cons_of_mem _ (List.mem_cons_of_mem _ (List.mem_cons_of_mem _ (List.mem_cons_of_mem _ (List.mem_cons_of_mem _ (List.mem_cons_of_mem _ (List.mem_cons_of_mem _ (List.mem_cons_of_mem _ (List.mem_cons_of_mem _ (List.mem_cons_of_mem _ (List.mem_cons_self)))))))))))))))))))
theorem m20_ {a0 a1 a2 a3 a4 a5 a6 a7 a8 a9 a10 a11 a12 a13 a14 a15 a16 a17 a18 a19 a20 : Nat × MV} {L : List (Nat × MV)} : a20 ∈ a0 :: a1 :: a2 :: a3 :: a4 :: a5 :: a6 :: a7 :: a8 :: a9 :: a10 :: a11 :: a12 :: a13 :: a14 :: a15 :: a16 :: a17 :: a18 :: a19 :: a20 :: L := List.mem_cons_of_mem _ (List.mem_cons_of_mem _ (List.mem_cons_of_mem _ (List.mem_cons_of_mem _ (List.mem_cons_of_mem _ (List.mem_cons_of_mem _ (List.mem_cons_of_mem _ (List.mem_cons_of_mem _ (List.mem_cons_of_mem _ (List.mem_cons_of_mem _ (List.mem_cons_of_mem _ (List.mem_cons_of_mem _ (List.mem_cons_of_mem _ (List.mem_cons_of_mem _ (List.mem_cons_of_mem _ (List.mem_cons_of_mem _ (List.mem_cons_of_mem _ (List.mem_cons_of_mem _ (List.mem_cons_of_mem _ (List.mem_cons_of_mem _ (List.mem_cons_self))))))))))))))))))))
theorem m21_ {a0 a1 a2 a3 a4 a5 a6 a7 a8 a9 a10 a11 a12 a13 a14 a15 a16 a17 a18 a19 a20 a21 : Nat × MV} {L : List (Nat × MV)} : a21 ∈ a0 :: a1 :: a2 :: a3 :: a4 :: a5 :: a6 :: a7 :: a8 :: a9 :: a10 :: a11 :: a12 :: a13 :: a14 :: a15 :: a16 :: a17 :: a18 :: a19 :: a20 :: a21 :: L := List.mem_cons_of_mem _ (List.mem_cons_of_mem _ (List.mem_cons_of_mem _ (List.mem_cons_of_mem _ (List.mem_cons_of_mem _ (List.mem_cons_of_mem _ (List.mem_cons_of_mem _ (List.mem_cons_of_mem _ (List.mem_cons_of_mem _ (List.mem_cons_of_mem _ (List.mem_cons_of_mem _ (List.mem_cons_of_mem _ (List.mem_cons_of_mem _ (List.mem_cons_of_mem _ (List.mem_cons_of_mem _ (List.mem_cons_of_mem _ (List.mem_cons_of_mem _ (List.mem_cons_of_mem _ (List.mem_cons_of_mem _ (List.mem_cons_of_mem _ (List.mem_cons_of_mem _ (List.mem_cons_self)))))))))))))))))))))
theorem m22_ {a0 a1 a2 a3 a4 a5 a6 a7 a8 a9 a10 a11 a12 a13 a14 a15 a16 a17 a18 a19 a20 a21 a22 : Nat × MV} {L : List (Nat × MV)} : a22 ∈ a0 :: a1 :: a2 :: a3 :: a4 :: a5 :: a6 :: a7 :: a8 :: a9 :: a10 :: a11 :: a12 :: a13 :: a14 :: a15 :: a16 :: a17 :: a18 :: a19 :: a20 :: a21 :: a22 :: L := List.mem_cons_of_mem _ (List.mem_cons_of_mem _ (List.mem_cons_of_mem _ (List.mem_cons_of_mem _ (List.mem_cons_of_mem _ (List.mem_cons_of_mem _ (List.mem_cons_of_mem _ (List.mem_cons_of_mem _ (List.mem_cons_of_mem _ (List.mem_cons_of_mem _ (List.mem_cons_of_mem _ (List.mem_cons_of_mem _ (List.mem_cons_of_mem _ (List.mem_cons_of_mem _ (List.mem_cons_of_mem _ (List.mem_cons_of_mem _ (List.mem_cons_of_mem _ (List.mem_cons_of_mem _ (List.mem_cons_of_mem _ (List.mem_cons_of_mem _ (List.mem_cons_of_mem _ (List.mem_cons_of_mem _ (List.mem_cons_self))))))))))))))))))))))
theorem m23_ {a0 a1 a2 a3 a4 a5 a6 a7 a8 a9 a10 a11 a12 a13 a14 a15 a16 a17 a18 a19 a20 a21 a22 a23 : Nat × MV} {L : List (Nat × MV)} : a23 ∈ a0 :: a1 :: a2 :: a3 :: a4 :: a5 :: a6 :: a7 :: a8 :: a9 :: a10 :: a11 :: a12 :: a13 :: a14 :: a15 :: a16 :: a17 :: a18 :: a19 :: a20 :: a21 :: a22 :: a23 :: L := List.mem_cons_of_mem _ (List.mem_cons_of_mem _ (List.mem_cons_of_mem _ (List.mem_cons_of_mem _ (List.mem_cons_of_mem _ (List.mem_cons_of_mem _ (List.mem_cons_of_mem _ (List.mem_cons_of_mem _ (List.mem_cons_of_mem _ (List.mem_cons_of_mem _ (List.mem_cons_of_mem _ (List.mem_cons_of_mem _ (List.mem_cons_of_mem _ (List.mem_cons_of_mem _ (List.mem_cons_of_mem _ (List.mem_cons_of_mem _ (List.mem_cons_of_mem _ (List.mem_cons_of_mem _ (List.mem_cons_of_mem _ (List.mem_cons_of_mem _ (List.mem_cons_of_mem _ (List.mem_cons_of_mem _ (List.mem_cons_of_mem _ (List.mem_cons_self)))))))))))))))))))))))
theorem m24_ {a0 a1 a2 a3 a4 a5 a6 a7 a8 a9 a10 a11 a12 a13 a14 a15 a16 a17 a18 a19 a20 a21 a22 a23 a24 : Nat × MV} {L : List (Nat × MV)} : a24 ∈ a0 :: a1 :: a2 :: a3 :: a4 :: a5 :: a6 :: a7 :: a8 :: a9 :: a10 :: a11 :: a12 :: a13 :: a14 :: a15 :: a16 :: a17 :: a18 :: a19 :: a20 :: a21 :: a22 :: a23 :: a24 :: L := List.mem_cons_of_mem _ (List.mem_cons_of_mem _ (List.mem_cons_of_mem _ (List.mem_cons_of_mem _ (List.mem_cons_of_mem _ (List.mem_cons_of_mem _ (List.mem_cons_of_mem _ (List.mem_cons_of_mem _ (List.mem_cons_of_mem _ (List.mem_cons_of_mem _ (List.mem_cons_of_mem _ (List.mem_cons_of_mem _ (List.mem_cons_of_mem _ (List.mem_cons_of_mem _ (List.mem_cons_of_mem _ (List.mem_cons_of_mem _ (List.mem_cons_of_mem _ (List.mem_cons_of_mem _ (List.mem_cons_of_mem _ (List.mem_cons_of_mem _ (List.mem_cons_of_mem _ (List.mem_cons_of_mem _ (List.mem_cons_of_mem _ (List.mem_cons_of_mem _ (List.mem_cons_self))))))))))))))))))))))))
theorem m25_ {a0 a1 a2 a3 a4 a5 a6 a7 a8 a9 a10 a11 a12 a13 a14 a15 a16 a17 a18 a19 a20 a21 a22 a23 a24 a25 : Nat × MV} {L : List (Nat × MV)} : a25 ∈ a0 :: a1 :: a2 :: a3 :: a4 :: a5 :: a6 :: a7 :: a8 :: a9 :: a10 :: a11 :: a12 :: a13 :: a14 :: a15 :: a16 :: a17 :: a18 :: a19 :: a20 :: a21 :: a22 :: a23 :: a24 :: a25 :: L := List.mem_cons_of_mem _ (List.mem_cons_of_mem _ (List.mem_cons_of_mem _ (List.mem_cons_of_mem _ (List.mem_cons_of_mem _ (List.mem_cons_of_mem _ (List.mem_cons_of_mem _ (List.mem_cons_of_mem _ (List.mem_cons_of_mem _ (List.mem_cons_of_mem _ (List.mem_cons_of_mem _ (List.mem_cons_of_mem _ (List.mem_cons_of_mem _ (List.mem_cons_of_mem _ (List.mem_cons_of_mem _ (List.mem_cons_of_mem _ (List.mem_cons_of_mem _ (List.mem_cons_of_mem _ (List.mem_cons_of_mem _ (List.mem_cons_of_mem _ (List.mem_cons_of_mem _ (List.mem_cons_of_mem _ (List.mem_cons_of_mem _ (List.mem_cons_of_mem _ (List.mem_cons_of_mem _ (List.mem_cons_self)))))))))))))))))))))))))
theorem m26_ {a0 a1 a2 a3 a4 a5 a6 a7 a8 a9 a10 a11 a12 a13 a14 a15 a16 a17 a18 a19 a20 a21 a22 a23 a24 a25 a26 : Nat × MV} {L : List (Nat × MV)} : a26 ∈ a0 :: a1 :: a2 :: a3 :: a4 :: a5 :: a6 :: a7 :: a8 :: a9 :: a10 :: a11 :: a12 :: a13 :: a14 :: a15 :: a16 :: a17 :: a18 :: a19 :: a20 :: a21 :: a22 :: a23 :: a24 :: a25 :: a26 :: L := List.mem_cons_of_mem _ (List.mem_cons_of_mem _ (List.mem_cons_of_mem _ (List.mem_cons_of_mem _ (List.mem_cons_of_mem _ (List.mem_cons_of_mem _ (List.mem_cons_of_mem _ (List.mem_cons_of_mem _ (List.mem_cons_of_mem _ (List.mem_cons_of_mem _ (List.mem_cons_of_mem _ (List.mem_cons_of_mem _ (List.mem_cons_of_mem _ (List.mem_cons_of_mem _ (List.mem_cons_of_mem _ (List.mem_cons_of_mem _ (List.mem_cons_of_mem _ (List.mem_cons_of_mem _ (List.mem_cons_of_mem _ (List.mem_cons_of_mem _ (List.mem_cons_of_mem _ (List.mem_cons_of_mem _ (List.mem_cons_of_mem _ (List.mem_cons_of_mem _ (List.mem_cons_of_mem _ (List.mem_cons_of_mem _ (List.mem_cons_self))))))))))))))))))))))))))
theorem m27_ {a0 a1 a2 a3 a4 a5 a6 a7 a8 a9 a10 a11 a12 a13 a14 a15 a16 a17 a18 a19 a20 a21 a22 a23 a24 a25 a26 a27 : Nat × MV} {L : List (Nat × MV)} : a27 ∈ a0 :: a1 :: a2 :: a3 :: a4 :: a5 :: a6 :: a7 :: a8 :: a9 :: a10 :: a11 :: a12 :: a13 :: a14 :: a15 :: a16 :: a17 :: a18 :: a19 :: a20 :: a21 :: a22 :: a23 :: a24 :: a25 :: a26 :: a27 :: L := List.mem_cons_of_mem _ (List.mem_cons_of_mem _ (List.mem_cons_of_mem _ (List.mem_cons_of_mem _ (List.mem_cons_of_mem _ (List.mem_cons_of_mem _ (List.mem_cons_of_mem _ (List.mem_cons_of_mem _ (List.mem_cons_of_mem _ (List.mem_cons_of_mem _ (List.mem_cons_of_mem _ (List.mem_cons_of_mem _ (List.mem_cons_of_mem _ (List.mem_cons_of_mem _ (List.mem_cons_of_mem _ (List.mem_cons_of_mem _ (List.mem_cons_of_mem _ (List.mem_cons_of_mem _ (List.mem_cons_of_mem _ (List.mem_cons_of_mem _ (List.mem_cons_of_mem _ (List.mem_cons_of_mem _ (List.mem_cons_of_mem _ (List.mem_cons_of_mem _ (List.mem_cons_of_mem _ (List.mem_cons_of_mem _ (List.mem_cons_of_mem _ (List.mem_cons_self)))))))))))))))))))))))))))
theorem m28_ {a0 a1 a2 a3 a4 a5 a6 a7 a8 a9 a10 a11 a12 a13 a14 a15 a16 a17 a18 a19 a20 a21 a22 a23 a24 a25 a26 a27 a28 : Nat × MV} {L : List (Nat × MV)} : a28 ∈ a0 :: a1 :: a2 :: a3 :: a4 :: a5 :: a6 :: a7 :: a8 :: a9 :: a10 :: a11 :: a12 :: a13 :: a14 :: a15 :: a16 :: a17 :: a18 :: a19 :: a20 :: a21 :: a22 :: a23 :: a24 :: a25 :: a26 :: a27 :: a28 :: L := List.mem_cons_of_mem _ (List.mem_cons_of_mem _ (List.mem_cons_of_mem _ (List.mem_cons_of_mem _ (List.mem_cons_of_mem _ (List.mem_cons_of_mem _ (List.mem_cons_of_mem _ (List.mem_cons_of_mem _ (List.mem_cons_of_mem _ (List.mem_cons_of_mem _ (List.mem_cons_of_mem _ (List.mem_cons_of_mem _ (List.mem_cons_of_mem _ (List.mem_cons_of_mem _ (List.mem_cons_of_mem _ (List.mem_cons_of_mem _ (List.mem_cons_of_mem _ (List.mem_cons_of_mem _ (List.mem_cons_of_mem _ (List.mem_cons_of_mem _ (List.mem_cons_of_mem _ (List.mem_cons_of_mem _ (List.mem_cons_of_mem _ (List.mem_cons_of_mem _ (List.mem_cons_of_mem _ (List.mem_cons_of_mem _ (List.mem_cons_of_mem _ (List.mem_cons_of_mem _ (List.mem_cons_self))))))))))))))))))))))))))))
theorem m29_ {a0 a1 a2 a3 a4 a5 a6 a7 a8 a9 a10 a11 a12 a13 a14 a15 a16 a17 a18 a19 a20 a21 a22 a23 a24 a25 a26 a27 a28 a29 : Nat × MV} {L : List (Nat × MV)} : a29 ∈ a0 :: a1 :: a2 :: a3 :: a4 :: a5 :: a6 :: a7 :: a8 :: a9 :: a10 :: a11 :: a12 :: a13 :: a14 :: a15 :: a16 :: a17 :: a18 :: a19 :: a20 :: a21 :: a22 :: a23 :: a24 :: a25 :: a26 :: a27 :: a28 :: a29 :: L := List.mem_cons_of_mem _ (List.mem_cons_of_mem _ (List.mem_cons_of_mem _ (List.mem_cons_of_mem _ (List.mem_cons_of_mem _ (List.mem_cons_of_mem _ (List.mem_cons_of_mem _ (List.mem_cons_of_mem _ (List.mem_cons_of_mem _ (List.mem_cons_of_mem _ (List.mem_cons_of_mem _ (List.mem_cons_of_mem _ (List.mem_cons_of_mem _ (List.mem_cons_of_mem _ (List.mem_cons_of_mem _ (List.mem_cons_of_mem _ (List.mem_cons_of_mem _ (List.mem_cons_of_mem _ (List.mem_cons_of_mem _ (List.mem_cons_of_mem _ (List.mem_cons_of_mem _ (List.mem_cons_of_mem _ (List.mem_cons_of_mem _ (List.mem_cons_of_mem _ (List.mem_cons_of_mem _ (List.mem_cons_of_mem _ (List.mem_cons_of_mem _ (List.mem_cons_of_mem _ (List.mem_cons_of_mem _ (List.mem_cons_self)))))))))))))))))))))))))))))
theorem m30_ {a0 a1 a2 a3 a4 a5 a6 a7 a8 a9 a10 a11 a12 a13 a14 a15 a16 a17 a18 a19 a20 a21 a22 a23 a24 a25 a26 a27 a28 a29 a30 : Nat × MV} {L : List (Nat × MV)} : a30 ∈ a0 :: a1 :: a2 :: a3 :: a4 :: a5 :: a6 :: a7 :: a8 :: a9 :: a10 :: a11 :: a12 :: a13 :: a14 :: a15 :: a16 :: a17 :: a18 :: a19 :: a20 :: a21 :: a22 :: a23 :: a24 :: a25 :: a26 :: a27 :: a28 :: a29 :: a30 :: L := List.mem_cons_of_mem _ (List.mem_cons_of_mem _ (List.mem_cons_of_mem _ (List.mem_cons_of_mem _ (List.mem_cons_of_mem _ (List.mem_cons_of_mem _ (List.mem_cons_of_mem _ (List.mem_cons_of_mem _ (List.mem_cons_of_mem _ (List.mem_cons_of_mem _ (List.mem_cons_of_mem _ (List.mem_cons_of_mem _ (List.mem_cons_of_mem _ (List.mem_cons_of_mem _ (List.mem_cons_of_mem _ (List.mem_cons_of_mem _ (List.mem_cons_of_mem _ (List.mem_cons_of_mem _ (List.mem_cons_of_mem _ (List.mem_cons_of_mem _ (List.mem_cons_of_mem _ (List.mem_cons_of_mem _ (List.mem_cons_of_mem _ (List.mem_cons_of_mem _ (List.mem_cons_of_mem _ (List.mem_cons_of_mem _ (List.mem_cons_of_mem _ (List.mem_cons_of_mem _ (List.mem_cons_of_mem _ (List.mem_cons_of_mem _ (List.mem_cons_self))))))))))))))))))))))))))))))
theorem m31_ {a0 a1 a2 a3 a4 a5 a6 a7 a8 a9 a10 a11 a12 a13 a14 a15 a16 a17 a18 a19 a20 a21 a22 a23 a24 a25 a26 a27 a28 a29 a30 a31 : Nat × MV} {L : List (Nat × MV)} : a31 ∈ a0 :: a1 :: a2 :: a3 :: a4 :: a5 :: a6 :: a7 :: a8 :: a9 :: a10 :: a11 :: a12 :: a13 :: a14 :: a15 :: a16 :: a17 :: a18 :: a19 :: a20 :: a21 :: a22 :: a23 :: a24 :: a25 :: a26 :: a27 :: a28 :: a29 :: a30 :: a31 :: L := List.mem_cons_of_mem _ (List.mem_cons_of_mem _ (List.mem_cons_of_mem _ (List.mem_cons_of_mem _ (List.mem_cons_of_mem _ (List.mem_cons_of_mem _ (List.mem_cons_of_mem _ (List.mem_cons_of_mem _ (List.mem_cons_of_mem _ (List.mem_cons_of_mem _ (List.mem_cons_of_mem _ (List.mem_cons_of_mem _ (List.mem_cons_of_mem _ (List.mem_cons_of_mem _ (List.mem_cons_of_mem _ (List.mem_cons_of_mem _ (List.mem_cons_of_mem _ (List.mem_cons_of_mem _ (List.mem_cons_of_mem _ (List.mem_cons_of_mem _ (List.mem_cons_of_mem _ (List.mem_cons_of_mem _ (List.mem_cons_of_mem _ (List.mem_cons_of_mem _ (List.mem_cons_of_mem _ (List.mem_cons_of_mem _ (List.mem_cons_of_mem _ (List.mem_cons_of_mem _ (List.mem_cons_of_mem _ (List.mem_cons_of_mem _ (List.mem_cons_of_mem _ (List.mem_cons_self)))))))))))))))))))))))))))))))
theorem n_m1 : nrm (-1) := ⟨by decide, by decide⟩
theorem n_0 : nrm 0 := ⟨by decide, by decide⟩
theorem n_1 : nrm 1 := ⟨by decide, by decide⟩
theorem n_2 : nrm 2 := ⟨by decide, by decide⟩
theorem n_3 : nrm 3 := ⟨by decide, by decide⟩
theorem n_4 : nrm 4 := ⟨by decide, by decide⟩
theorem n_5 : nrm 5 := ⟨by decide, by decide⟩
theorem n_6 : nrm 6 := ⟨by decide, by decide⟩
theorem n_7 : nrm 7 := ⟨by decide, by decide⟩
theorem n_8 : nrm 8 := ⟨by decide, by decide⟩
theorem n_9 : nrm 9 := ⟨by decide, by decide⟩
theorem n_10 : nrm 10 := ⟨by decide, by decide⟩
theorem n_11 : nrm 11 := ⟨by decide, by decide⟩
theorem n_12 : nrm 12 := ⟨by decide, by decide⟩
theorem n_13 : nrm 13 := ⟨by decide, by decide⟩
theorem n_15 : nrm 15 := ⟨by decide, by decide⟩
theorem n_16 : nrm 16 := ⟨by decide, by decide⟩
theorem n_20 : nrm 20 := ⟨by decide, by decide⟩
theorem n_24 : nrm 24 := ⟨by decide, by decide⟩
theorem n_26 : nrm 26 := ⟨by decide, by decide⟩
theorem n_27 : nrm 27 := ⟨by decide, by decide⟩
theorem n_28 : nrm 28 := ⟨by decide, by decide⟩
theorem n_32 : nrm 32 := ⟨by decide, by decide⟩
theorem n_40 : nrm 40 := ⟨by decide, by decide⟩
theorem n_46 : nrm 46 := ⟨by decide, by decide⟩
theorem n_47 : nrm 47 := ⟨by decide, by decide⟩
theorem n_48 : nrm 48 := ⟨by decide, by decide⟩
theorem n_50 : nrm 50 := ⟨by decide, by decide⟩
theorem n_60 : nrm 60 := ⟨by decide, by decide⟩
theorem n_61 : nrm 61 := ⟨by decide, by decide⟩
theorem n_63 : nrm 63 := ⟨by decide, by decide⟩
theorem n_70 : nrm 70 := ⟨by decide, by decide⟩
theorem n_97 : nrm 97 := ⟨by decide, by decide⟩
theorem n_98 : nrm 98 := ⟨by decide, by decide⟩
theorem n_100 : nrm 100 := ⟨by decide, by decide⟩
theorem n_102 : nrm 102 := ⟨by decide, by decide⟩
theorem n_105 : nrm 105 := ⟨by decide, by decide⟩
theorem n_108 : nrm 108 := ⟨by decide, by decide⟩
theorem n_110 : nrm 110 := ⟨by decide, by decide⟩
theorem n_112 : nrm 112 := ⟨by decide, by decide⟩
theorem n_113 : nrm 113 := ⟨by decide, by decide⟩
theorem n_117 : nrm 117 := ⟨by decide, by decide⟩
theorem n_122 : nrm 122 := ⟨by decide, by decide⟩
theorem n_150 : nrm 150 := ⟨by decide, by decide⟩
theorem n_180 : nrm 180 := ⟨by decide, by decide⟩
theorem n_256 : nrm 256 := ⟨by decide, by decide⟩
theorem n_288 : nrm 288 := ⟨by decide, by decide⟩
theorem n_400 : nrm 400 := ⟨by decide, by decide⟩
theorem n_576 : nrm 576 := ⟨by decide, by decide⟩
theorem n_624 : nrm 624 := ⟨by decide, by decide⟩
theorem n_1000 : nrm 1000 := ⟨by decide, by decide⟩
theorem n_2000 : nrm 2000 := ⟨by decide, by decide⟩
theorem n_2880 : nrm 2880 := ⟨by decide, by decide⟩
theorem n_5000 : nrm 5000 := ⟨by decide, by decide⟩
theorem n_7200 : nrm 7200 := ⟨by decide, by decide⟩
theorem n_252645135 : nrm 252645135 := ⟨by decide, by decide⟩
theorem n_858993459 : nrm 858993459 := ⟨by decide, by decide⟩
theorem n_1431655765 : nrm 1431655765 := ⟨by decide, by decide⟩
