/-! RULES for fields, arrays, new cells. -/
def CF (c : Nat) : Prop := ∃ r : vw_C, vwCl[c]? = some r ∧ (∀ w ∈ u_ws r.1 r.2.1 r.2.2, w ∈ GW) ∧ (∀ k, k < r.2.2 → parseFieldDescriptor (r.2.1 k).2.2.1 = some (FTy c k)) ∧ (∀ a, a < r.2.2 → ∀ b, b < r.2.2 → a ≠ b → (r.2.1 a).2.1 ≠ (r.2.1 b).2.1)
def tk : FieldType → Nat
  | .int => 0
  | .long => 1
  | .object _ => 2
  | .array _ => 2
  | .boolean => 3
  | _ => 4
/-- a link of a field: of class c, its field k, of kind t, final or not -/
def fl (own : String) (idx c k t : Nat) (fin : Bool) : Prop := ∃ r : vw_C, vwCl[c]? = some r ∧ k < r.2.2 ∧ Cond.fieldLink own idx (r.2.1 k).1 (r.2.1 k).2.1 (r.2.1 k).2.2.1 ∈ GW ∧ tk (FTy c k) = t ∧ (r.2.1 k).2.2.2 = fin ∧ c < 13 ∧ (r.2.1 k).1 = r.1
theorem cf_k {c : Nat} (h : CF c) : CF c := h
def fvV (ad : Nat → Nat → Nat) (m : MM) (K i s t : Nat) : Value := match t with
  | 1 => .long (gL m K i s)
  | 2 => va_rf ((gR m K i s).map fun q => ad q.1 q.2)
  | _ => .int (Int32.ofInt (gN m K i s))
theorem fV_tk (ad : Nat → Nat → Nat) (m : MM) (K i s : Nat) (ty : FieldType) : fV ad m K i s ty = fvV ad m K i s (tk ty) := by cases ty <;> rfl
theorem lenI_of {m : MM} {K i n : Nat} (h : gZ m K i = some n) : lenI m K i = n := by unfold lenI; rw [h]
theorem Rep.nrm {fx : FX} {ad : Nat → Nat → Nat} {m : MM} {H : Heap} (h : Rep fx ad m H) (K i s : Nat) : nrm (gN m K i s) := h.2.2.2.1 K i s
theorem liveN {m : MM} {K i : Nat} (h : okV m (aR (some (K, i)))) : ∃ n, gZ m K i = some n := by
  have h' : gZ m K i ≠ none := h
  cases hz : gZ m K i with
  | none => exact absurd hz h'
  | some n => exact ⟨n, rfl⟩
section SM
variable {fx : FX} {me : ME} {pc pc' : Nat} {L : List (Nat × MV)} {st : List MV} {m : MM} {o : MO}
/-- reading a field of a live object -/
theorem z_get {p : Program} {e : Env} {R : Room} {s : State} {mi : MethodId} {args : Array Value} {below : List Frame} {meth : Method} {c : Code} {ad : Nat → Nat → Nat} {H : Heap} {locs : List Loc} {cells slots : Nat} {ls : Array Slot} {Q : State → Prop} {K i k t idx n : Nat} {fin : Bool} {rest : List Value} (hcf : ∀ c, c < 13 → CF c)
    (C : Ctx fx me p R s mi args meth c) (hR : Rep fx ad m H) (hz : gZ m K i = some n) (hf : fl (eY me).cls idx K k t fin) (d : decode (eB me) pc = .ok (.getfield idx, 3))
    (kk : W p (xl fx) e R s mi args below meth c H locs cells slots Q (F0 mi (pc + 3) ls (fvV ad m K i k t :: rest))) : W p (xl fx) e R s mi args below meth c H locs cells slots Q (F0 mi pc ls (.ref (ad K i) :: rest)) := by
  obtain ⟨hx, hb, -, hown, hts, -, -, -, hKH, -⟩ := C
  obtain ⟨r, hr, hk, hlink, ht, -, hK13, hdc⟩ := hf
  obtain ⟨r2, hr2, hws, hty, hnm⟩ := hcf K hK13
  cases hr.symm.trans hr2
  obtain ⟨⟨c0, c1, c2⟩, -⟩ := hR.1 K i n hz
  obtain ⟨r3, hr3, -, cell, q1, q2, q3, q4⟩ := c1 hK13
  cases hr.symm.trans hr3
  obtain ⟨hSl, hfc, kC, hkC, hkind⟩ := hKH.1.1.1 K r hr
  obtain ⟨cf, kf, fi, f, hi, hsl⟩ := hSl k hk
  refine W.getf hx hb hown (hts _ hlink) hi (u_facts hfc hkC (u_lays hts hws hk) hi).1 q1 (by rw [q3]; exact fun h => by cases h) (v := fvV ad m K i k t) ?_ rfl rfl d kk
  rw [hsl]
  have h4 : cell.slots[xI fx K k]? = some (fV ad m K i k (FTy K k)) := q4 k hk
  rw [fV_tk, ht] at h4
  exact h4
theorem s_getN {K i k idx : Nat} {fin : Bool} (hcf : ∀ c, c < 13 → CF c) (d : dk me pc (.getfield idx) 3 pc') (hf : fl (eY me).cls idx K k 0 fin) (h : Sim fx me pc' L (aI (gN m K i k) :: st) m o) : Sim fx me pc L (aR (some (K, i)) :: st) m o := by
  obtain ⟨d, rfl⟩ := d
  intro r m' ho
  obtain ⟨h1, h2⟩ := h r m' ho
  refine ⟨h1, fun hL hst p e R s mi args below meth c C ad0 m0 ad H locs cells slots ls hR hE hS hl g1 g2 => ?_⟩
  obtain ⟨n, hz⟩ := liveN (okH hst)
  exact z_get hcf C hR hz hf d (h2 hL (okC' (hR.nrm K i k) (okS hst)) p e R s mi args below meth c C ad0 m0 ad H locs cells slots ls hR hE hS hl g1 g2)
theorem s_getB {K i k idx : Nat} {fin : Bool} (hcf : ∀ c, c < 13 → CF c) (d : dk me pc (.getfield idx) 3 pc') (hf : fl (eY me).cls idx K k 3 fin) (h : Sim fx me pc' L (aI (gN m K i k) :: st) m o) : Sim fx me pc L (aR (some (K, i)) :: st) m o := by
  obtain ⟨d, rfl⟩ := d
  intro r m' ho
  obtain ⟨h1, h2⟩ := h r m' ho
  refine ⟨h1, fun hL hst p e R s mi args below meth c C ad0 m0 ad H locs cells slots ls hR hE hS hl g1 g2 => ?_⟩
  obtain ⟨n, hz⟩ := liveN (okH hst)
  exact z_get hcf C hR hz hf d (h2 hL (okC' (hR.nrm K i k) (okS hst)) p e R s mi args below meth c C ad0 m0 ad H locs cells slots ls hR hE hS hl g1 g2)
theorem s_getL {K i k idx : Nat} {fin : Bool} (hcf : ∀ c, c < 13 → CF c) (d : dk me pc (.getfield idx) 3 pc') (hf : fl (eY me).cls idx K k 1 fin) (h : Sim fx me pc' L (aL (gL m K i k) :: st) m o) : Sim fx me pc L (aR (some (K, i)) :: st) m o := by
  obtain ⟨d, rfl⟩ := d
  intro r m' ho
  obtain ⟨h1, h2⟩ := h r m' ho
  refine ⟨h1, fun hL hst p e R s mi args below meth c C ad0 m0 ad H locs cells slots ls hR hE hS hl g1 g2 => ?_⟩
  obtain ⟨n, hz⟩ := liveN (okH hst)
  exact z_get hcf C hR hz hf d (h2 hL (okC' trivial (okS hst)) p e R s mi args below meth c C ad0 m0 ad H locs cells slots ls hR hE hS hl g1 g2)
theorem okR {K i k : Nat} {ad : Nat → Nat → Nat} {H : Heap} (h : Rep fx ad m H) : okV m (aR (gR m K i k)) := by
  cases hr : gR m K i k with
  | none => trivial
  | some q => exact h.2.2.2.2.1 K i k q hr
theorem s_getR {K i k idx : Nat} {fin : Bool} (hcf : ∀ c, c < 13 → CF c) (d : dk me pc (.getfield idx) 3 pc') (hf : fl (eY me).cls idx K k 2 fin) (h : Sim fx me pc' L (aR (gR m K i k) :: st) m o) : Sim fx me pc L (aR (some (K, i)) :: st) m o := by
  obtain ⟨d, rfl⟩ := d
  intro r m' ho
  obtain ⟨h1, h2⟩ := h r m' ho
  refine ⟨h1, fun hL hst p e R s mi args below meth c C ad0 m0 ad H locs cells slots ls hR hE hS hl g1 g2 => ?_⟩
  obtain ⟨n, hz⟩ := liveN (okH hst)
  exact z_get hcf C hR hz hf d (h2 hL (okC' (okR hR) (okS hst)) p e R s mi args below meth c C ad0 m0 ad H locs cells slots ls hR hE hS hl g1 g2)
/-- a reference is known to be a cell of kind K -/
theorem s_nk {K : Nat} {r : Option (Nat × Nat)} {X : Type} {f : Nat → Option X} {kk : X → MO} (h : ∀ i, Sim fx me pc L (aR (some (K, i)) :: st) m ((f i).bind kk)) : Sim fx me pc L (aR r :: st) m ((nk K r f).bind kk) := by
  cases r with
  | none => exact Sim.none
  | some q =>
    obtain ⟨K2, i⟩ := q
    show Sim fx me pc L _ m ((if K2 = K then f i else none).bind kk)
    split
    next e => subst e; exact h i
    next => exact Sim.none
/-- .. of which the machine asks whether it is null -/
theorem s_ifnull {r : Option (Nat × Nat)} {off : Int} {tgt : Nat} {X : Type} {f g : Option X} {kk : X → MO} (d : dk me pc (.ifnull off) 3 pc') (ht : (pc : Int) + off = (tgt : Int)) (h1 : Sim fx me tgt L st m (f.bind kk)) (h2 : Sim fx me pc' L st m (g.bind kk)) : Sim fx me pc L (aR r :: st) m ((if r = none then f else g).bind kk) := by
  obtain ⟨d, rfl⟩ := d
  cases r with
  | none =>
    rw [if_pos rfl]
    refine h1.stk (fun _ h => okS h) (fun p e R s mi args below meth c C ad H locs cells slots ls Q hR hS hL hst hl g1 g2 k => ?_)
    obtain ⟨hx, hb, -⟩ := C
    exact lv_ifnullN hx hb d ht k
  | some q =>
    rw [if_neg (fun h => by cases h)]
    refine h2.stk (fun _ h => okS h) (fun p e R s mi args below meth c C ad H locs cells slots ls Q hR hS hL hst hl g1 g2 k => ?_)
    obtain ⟨hx, hb, -⟩ := C
    exact lv_ifnull hx hb d k
theorem s_ifnonnull {r : Option (Nat × Nat)} {off : Int} {tgt : Nat} {X : Type} {f g : Option X} {kk : X → MO} (d : dk me pc (.ifnonnull off) 3 pc') (ht : (pc : Int) + off = (tgt : Int)) (h1 : Sim fx me tgt L st m (f.bind kk)) (h2 : Sim fx me pc' L st m (g.bind kk)) : Sim fx me pc L (aR r :: st) m ((if ¬ r = none then f else g).bind kk) := by
  obtain ⟨d, rfl⟩ := d
  cases r with
  | none =>
    rw [if_neg (fun h => h rfl)]
    refine h2.stk (fun _ h => okS h) (fun p e R s mi args below meth c C ad H locs cells slots ls Q hR hS hL hst hl g1 g2 k => ?_)
    obtain ⟨hx, hb, -⟩ := C
    exact lv_ifnonnullN hx hb d k
  | some q =>
    rw [if_pos (fun h => by cases h)]
    refine h1.stk (fun _ h => okS h) (fun p e R s mi args below meth c C ad H locs cells slots ls Q hR hS hL hst hl g1 g2 k => ?_)
    obtain ⟨hx, hb, -⟩ := C
    exact lv_ifnonnull hx hb d ht k
theorem s_acmpne {r q : Option (Nat × Nat)} {off : Int} {tgt : Nat} {X : Type} {f g : Option X} {kk : X → MO} (d : dk me pc (.if_acmp .ne off) 3 pc') (ht : (pc : Int) + off = (tgt : Int)) (h1 : Sim fx me tgt L st m (f.bind kk)) (h2 : Sim fx me pc' L st m (g.bind kk)) : Sim fx me pc L (aR q :: aR r :: st) m ((if ¬ r = q then f else g).bind kk) := by
  obtain ⟨d, rfl⟩ := d
  have key : ∀ {ad : Nat → Nat → Nat} {H : Heap}, Rep fx ad m H → okA m (aR q :: aR r :: st) → (r.map (fun q => ad q.1 q.2) = q.map (fun q => ad q.1 q.2) ↔ r = q) := by
    intro ad H hR hst
    have o1 := okH hst
    have o2 := okH (okS hst)
    constructor
    · intro e
      cases r with
      | none => cases q with
        | none => rfl
        | some b => cases e
      | some a => cases q with
        | none => cases e
        | some b =>
          obtain ⟨a1, a2⟩ := a
          obtain ⟨b1, b2⟩ := b
          obtain ⟨e1, e2⟩ := hR.2.1 a1 a2 b1 b2 o2 o1 (Option.some.inj e)
          subst e1; subst e2
          rfl
    · intro e; rw [e]
  split
  next hc =>
    refine h1.stk (fun _ h => okS (okS h)) (fun p e R s mi args below meth c C ad H locs cells slots ls Q hR hS hL hst hl g1 g2 k => ?_)
    obtain ⟨hx, hb, -⟩ := C
    exact lv_acmp_ne hx hb d ht (fun _ => k) (fun e => absurd ((key hR hst).mp e) hc)
  next hc =>
    refine h2.stk (fun _ h => okS (okS h)) (fun p e R s mi args below meth c C ad H locs cells slots ls Q hR hS hL hst hl g1 g2 k => ?_)
    obtain ⟨hx, hb, -⟩ := C
    exact lv_acmp_ne hx hb d ht (fun e => absurd ((key hR hst).mpr (Classical.not_not.mp hc)) e) (fun _ => k)
/-- an element of an array -/
theorem vp_ofI {j : Int} {n : Nat} (h0 : 0 ≤ j) (h1 : j < n) (hn : n < 2147483648) : vp_in (Int32.ofInt j) n ∧ (Int32.ofInt j).toNatClampNeg = j.toNat := by
  have hj : (Int32.ofInt j).toInt = j := ofT ⟨by omega, by omega⟩
  refine ⟨vp_in_iff.mpr (by rw [hj]; exact ⟨h0, h1⟩), ?_⟩
  show (Int32.ofInt j).toInt.toNat = j.toNat
  rw [hj]
/-- a step that may write, or make cells -/
theorem Sim.mem {pc pc' : Nat} {L L' : List (Nat × MV)} {st st' : List MV} {m m1 : MM} {o : MO} (dA dB : Nat) (hA : gA m1 = gA m + dA) (hB : gB m1 = gB m + dB) (h : Sim fx me pc' L' st' m1 o)
    (hw : ∀ (p : Program) (e : Env) (R : Room) (s : State) (mi : MethodId) (args : Array Value) (below : List Frame) (meth : Method) (c : Code), Ctx fx me p R s mi args meth c → ∀ (ad : Nat → Nat → Nat) (H : Heap) (locs : List Loc) (cells slots : Nat) (ls : Array Slot) (Q : State → Prop),
      Rep fx ad m H → va_S (XA fx) s.heap H locs → okL m L → okA m st → lv_has ls (eN me) (L.map fun q => (q.1, toV ad q.2)) → cells + dA ≤ R.cells → slots + dB ≤ R.slots →
      (∀ (ad1 : Nat → Nat → Nat) (H1 : Heap) (locs1 : List Loc) (ls1 : Array Slot), Rep fx ad1 m1 H1 → Ext m ad m1 ad1 → va_S (XA fx) s.heap H1 locs1 → okL m1 L' → okA m1 st' → lv_has ls1 (eN me) (L'.map fun q => (q.1, toV ad1 q.2)) →
        W p (xl fx) e R s mi args below meth c H1 locs1 (cells + dA) (slots + dB) Q (F0 mi pc' ls1 (st'.map (toV ad1)))) →
      W p (xl fx) e R s mi args below meth c H locs cells slots Q (F0 mi pc ls (st.map (toV ad)))) : Sim fx me pc L st m o := by
  intro r m' ho
  obtain ⟨⟨h1, h1'⟩, h2⟩ := h r m' ho
  refine ⟨⟨by omega, by omega⟩, fun hL hst p e R s mi args below meth c C ad0 m0 ad H locs cells slots ls hR hE hS hl g1 g2 => ?_⟩
  exact hw p e R s mi args below meth c C ad H locs cells slots ls _ hR hS hL hst hl (by omega) (by omega) fun ad1 H1 locs1 ls1 k1 k2 k3 k4 k5 k6 =>
    h2 k4 k5 p e R s mi args below meth c C ad0 m0 ad1 H1 locs1 (cells + dA) (slots + dB) ls1 k1 (hE.tr k2) k3 k6 (by omega) (by omega)
/-- .. the locals stay, and what is left on the stack -/
theorem Sim.mk {pc pc' : Nat} {L : List (Nat × MV)} {st st' : List MV} {m m1 : MM} {o : MO} (dA dB : Nat) (hA : gA m1 = gA m + dA) (hB : gB m1 = gB m + dB) (h : Sim fx me pc' L st' m1 o)
    (hw : ∀ (p : Program) (e : Env) (R : Room) (s : State) (mi : MethodId) (args : Array Value) (below : List Frame) (meth : Method) (c : Code), Ctx fx me p R s mi args meth c → ∀ (ad : Nat → Nat → Nat) (H : Heap) (locs : List Loc) (cells slots : Nat) (ls : Array Slot) (Q : State → Prop),
      Rep fx ad m H → va_S (XA fx) s.heap H locs → okL m L → okA m st → ls.size = eN me → cells + dA ≤ R.cells → slots + dB ≤ R.slots →
      (∀ (ad1 : Nat → Nat → Nat) (H1 : Heap) (locs1 : List Loc), Rep fx ad1 m1 H1 → Ext m ad m1 ad1 → va_S (XA fx) s.heap H1 locs1 → okA m1 st' →
        W p (xl fx) e R s mi args below meth c H1 locs1 (cells + dA) (slots + dB) Q (F0 mi pc' ls (st'.map (toV ad1)))) →
      W p (xl fx) e R s mi args below meth c H locs cells slots Q (F0 mi pc ls (st.map (toV ad)))) : Sim fx me pc L st m o := by
  refine h.mem dA dB hA hB fun p e R s mi args below meth c C ad H locs cells slots ls Q hR hS hL hst hl g1 g2 k => ?_
  refine hw p e R s mi args below meth c C ad H locs cells slots ls Q hR hS hL hst hl.1 g1 g2 fun ad1 H1 locs1 k1 k2 k3 k5 => k ad1 H1 locs1 ls k1 k2 k3 (okL_ext k2 hL) k5 ?_
  rw [mapL_ext k2 hL]
  exact hl
/-- a read: nothing changes -/
theorem Sim.rd {pc pc' : Nat} {L : List (Nat × MV)} {st st' : List MV} {m : MM} {o : MO} (h : Sim fx me pc' L st' m o)
    (hw : ∀ (p : Program) (e : Env) (R : Room) (s : State) (mi : MethodId) (args : Array Value) (below : List Frame) (meth : Method) (c : Code), Ctx fx me p R s mi args meth c → ∀ (ad : Nat → Nat → Nat) (H : Heap) (locs : List Loc) (cells slots : Nat) (ls : Array Slot) (Q : State → Prop),
      Rep fx ad m H → va_S (XA fx) s.heap H locs → okL m L → okA m st →
      (okA m st' → W p (xl fx) e R s mi args below meth c H locs cells slots Q (F0 mi pc' ls (st'.map (toV ad)))) →
      W p (xl fx) e R s mi args below meth c H locs cells slots Q (F0 mi pc ls (st.map (toV ad)))) : Sim fx me pc L st m o :=
  Sim.mk 0 0 rfl rfl h fun p e R s mi args below meth c C ad H locs cells slots ls Q hR hS hL hst hl g1 g2 k => hw p e R s mi args below meth c C ad H locs cells slots ls Q hR hS hL hst fun k5 => k ad H locs hR Ext.rf hS k5
/-- the array behind a reference -/
theorem z_arr {ad : Nat → Nat → Nat} {H : Heap} {K i n : Nat} {s : State} {ty : FieldType} (hR : Rep fx ad m H) (hz : gZ m K i = some n) (hK : 13 ≤ K ∧ KT K = ty) (hKK : KK fx s) (hty : ty ∈ aTys) :
    H[ad K i]? = some (arrV (xA fx ty) n (fun s => fV ad m K i s ty)) ∧ ArrOfT s (xA fx ty) ty ∧ va_RA s (xA fx ty) ty ∧ n < 2147483648 := by
  obtain ⟨⟨c0, c1, c2⟩, -⟩ := hR.1 K i n hz
  have h := c2 hK.1
  rw [hK.2] at h
  exact ⟨h, (hKK.2.1 ty hty).1, (hKK.2.1 ty hty).2, c0⟩
theorem s_ldN {K i : Nat} {u : MV} {j : Int} {X : Type} {f : Int → Option X} {kk : X → MO} (d : dk me pc .iaload 1 pc') (hK : 13 ≤ K ∧ KT K = .int) (hu : vi u = some j) (h : ∀ v, Sim fx me pc' L (aI v :: st) m ((f v).bind kk)) : Sim fx me pc L (u :: aR (some (K, i)) :: st) m ((ldN m K i j f).bind kk) := by
  obtain ⟨d, rfl⟩ := d
  unfold ldN
  split
  next hc =>
    refine (h (gN m K i j.toNat)).rd (fun p e R s mi args below meth c C ad H locs cells slots ls Q hR hS hL hst k => ?_)
    obtain ⟨hx, hb, -, -, -, -, -, -, hKH, -⟩ := C
    obtain ⟨n, hz⟩ := liveN (okH (okS hst))
    obtain ⟨a1, a2, a3, a4⟩ := z_arr hR hz hK hKH.1 (by decide)
    rw [lenI_of hz] at hc
    obtain ⟨v1, v2⟩ := vp_ofI hc.1 hc.2 a4
    have hlt : j.toNat < n := by omega
    rw [List.map_cons, vi_toV ad u j hu]
    refine W.iald (v := toV ad (aI (gN m K i j.toNat))) hx hb a1 (a2 n _) (fun q => by cases q) (by rw [arrV_size]; exact v1) (by rw [v2, arrV_read _ _ hlt]; rfl) rfl rfl d (k (okC' (hR.nrm _ _ _) (okS (okS hst))))
  next => exact Sim.none
theorem s_ldB {K i : Nat} {u : MV} {j : Int} {X : Type} {f : Int → Option X} {kk : X → MO} (d : dk me pc .baload 1 pc') (hK : 13 ≤ K ∧ KT K = .boolean) (hu : vi u = some j) (h : ∀ v, Sim fx me pc' L (aI v :: st) m ((f v).bind kk)) : Sim fx me pc L (u :: aR (some (K, i)) :: st) m ((ldN m K i j f).bind kk) := by
  obtain ⟨d, rfl⟩ := d
  unfold ldN
  split
  next hc =>
    refine (h (gN m K i j.toNat)).rd (fun p e R s mi args below meth c C ad H locs cells slots ls Q hR hS hL hst k => ?_)
    obtain ⟨hx, hb, -, -, -, -, -, -, hKH, -⟩ := C
    obtain ⟨n, hz⟩ := liveN (okH (okS hst))
    obtain ⟨a1, a2, a3, a4⟩ := z_arr hR hz hK hKH.1 (by decide)
    rw [lenI_of hz] at hc
    obtain ⟨v1, v2⟩ := vp_ofI hc.1 hc.2 a4
    have hlt : j.toNat < n := by omega
    rw [List.map_cons, vi_toV ad u j hu]
    refine W.zald (v := toV ad (aI (gN m K i j.toNat))) hx hb a1 (a2 n _) (fun q => by cases q) (by rw [arrV_size]; exact v1) (by rw [v2, arrV_read _ _ hlt]; rfl) rfl rfl d (k (okC' (hR.nrm _ _ _) (okS (okS hst))))
  next => exact Sim.none
theorem s_ldL {K i : Nat} {u : MV} {j : Int} {X : Type} {f : Int64 → Option X} {kk : X → MO} (d : dk me pc .laload 1 pc') (hK : 13 ≤ K ∧ KT K = .long) (hu : vi u = some j) (h : ∀ v, Sim fx me pc' L (aL v :: st) m ((f v).bind kk)) : Sim fx me pc L (u :: aR (some (K, i)) :: st) m ((ldL m K i j f).bind kk) := by
  obtain ⟨d, rfl⟩ := d
  unfold ldL
  split
  next hc =>
    refine (h (gL m K i j.toNat)).rd (fun p e R s mi args below meth c C ad H locs cells slots ls Q hR hS hL hst k => ?_)
    obtain ⟨hx, hb, -, -, -, -, -, -, hKH, -⟩ := C
    obtain ⟨n, hz⟩ := liveN (okH (okS hst))
    obtain ⟨a1, a2, a3, a4⟩ := z_arr hR hz hK hKH.1 (by decide)
    rw [lenI_of hz] at hc
    obtain ⟨v1, v2⟩ := vp_ofI hc.1 hc.2 a4
    have hlt : j.toNat < n := by omega
    rw [List.map_cons, vi_toV ad u j hu]
    refine W.lald (v := toV ad (aL (gL m K i j.toNat))) hx hb a1 (a2 n _) (fun q => by cases q) (by rw [arrV_size]; exact v1) (by rw [v2, arrV_read _ _ hlt]; rfl) rfl rfl d (k (okC' trivial (okS (okS hst))))
  next => exact Sim.none
theorem s_ldR {K i : Nat} {ty : FieldType} {u : MV} {j : Int} {X : Type} {f : Option (Nat × Nat) → Option X} {kk : X → MO} (d : dk me pc .aaload 1 pc') (hK : 13 ≤ K ∧ KT K = ty) (hty : ty ∈ aTys) (hrf : tk ty = 2) (hu : vi u = some j) (h : ∀ v, Sim fx me pc' L (aR v :: st) m ((f v).bind kk)) : Sim fx me pc L (u :: aR (some (K, i)) :: st) m ((ldR m K i j f).bind kk) := by
  obtain ⟨d, rfl⟩ := d
  unfold ldR
  split
  next hc =>
    refine (h (gR m K i j.toNat)).rd (fun p e R s mi args below meth c C ad H locs cells slots ls Q hR hS hL hst k => ?_)
    obtain ⟨hx, hb, -, -, -, -, -, -, hKH, -⟩ := C
    obtain ⟨n, hz⟩ := liveN (okH (okS hst))
    obtain ⟨a1, a2, a3, a4⟩ := z_arr hR hz hK hKH.1 hty
    rw [lenI_of hz] at hc
    obtain ⟨v1, v2⟩ := vp_ofI hc.1 hc.2 a4
    have hlt : j.toNat < n := by omega
    rw [List.map_cons, vi_toV ad u j hu]
    refine W.aald (v := toV ad (aR (gR m K i j.toNat))) (ty := ty) hx hb a1 (a2 n _) (by cases ty <;> first | rfl | (cases hrf)) (fun q => by cases q) (by rw [arrV_size]; exact v1) (by rw [v2, arrV_read _ _ hlt, fV_tk, hrf]; rfl) rfl rfl d (k (okC' (okR hR) (okS (okS hst))))
  next => exact Sim.none
theorem s_len {K i : Nat} {ty : FieldType} (d : dk me pc .arraylength 1 pc') (hK : 13 ≤ K ∧ KT K = ty) (hty : ty ∈ aTys) (h : Sim fx me pc' L (aI (lenI m K i) :: st) m o) : Sim fx me pc L (aR (some (K, i)) :: st) m o := by
  obtain ⟨d, rfl⟩ := d
  refine h.rd (fun p e R s mi args below meth c C ad H locs cells slots ls Q hR hS hL hst k => ?_)
  obtain ⟨hx, hb, -, -, -, -, -, -, hKH, -⟩ := C
  obtain ⟨n, hz⟩ := liveN (okH hst)
  obtain ⟨a1, a2, a3, a4⟩ := z_arr hR hz hK hKH.1 hty
  have hk := k (okC' (by rw [lenI_of hz]; exact ⟨by omega, by omega⟩) (okS hst))
  rw [lenI_of hz] at hk
  exact W.alen (n := Int32.ofInt n) hx hb a1 (a2 n _) (by rw [arrV_size]; rfl) rfl rfl d hk
end SM
