/-! MORE RULES: the script, switches, Math, arraycopy, exceptions thrown and caught. -/
def sld {X : Type} (f : Nat → Int32) (n : Nat) (j : Int) (k : Int → Option X) : Option X := if 0 ≤ j ∧ j < n then k (f j.toNat).toInt else none
def iushr (x y : Int) : Int := ((Int32.ofInt x).toUInt32 >>> ((Int32.ofInt y).toUInt32 &&& Int32.toUInt32 31)).toInt32.toInt
def tsw {X : Type} (x lo : Int) (fs : List (Option X)) (d : Option X) : Option X := if x < lo then d else (fs[(x - lo).toNat]?).getD d
def cpM (m : MM) (K i1 sp i2 dp n : Nat) : MM := (fun a b c => if a = K ∧ b = i2 ∧ dp ≤ c ∧ c < dp + n then m.1 K i1 (sp + (c - dp)) else m.1 a b c, m.2)
theorem gN_cpM (m : MM) (K i1 sp i2 dp n a b c : Nat) : gN (cpM m K i1 sp i2 dp n) a b c = if a = K ∧ b = i2 ∧ dp ≤ c ∧ c < dp + n then gN m K i1 (sp + (c - dp)) else gN m a b c := rfl
def cpN {X : Type} (m : MM) (K i1 : Nat) (sp : Int) (i2 : Nat) (dp n : Int) (f : MM → Option X) : Option X := if (0 ≤ sp ∧ 0 ≤ dp ∧ 0 ≤ n) ∧ sp + n ≤ lenI m K i1 ∧ dp + n ≤ lenI m K i2 then f (cpM m K i1 sp.toNat i2 dp.toNat n.toNat) else none
section SMo
variable {fx : FX} {me me2 : ME} {pc pc' : Nat} {L : List (Nat × MV)} {st : List MV} {m : MM} {o : MO}
theorem s_slen (d : dk me pc .arraylength 1 pc') (hn : xn fx < 2147483648) (h : Sim fx me pc' L (aI (xn fx) :: st) m o) : Sim fx me pc L (aV (.ref (xb fx)) :: st) m o := by
  obtain ⟨d, rfl⟩ := d
  refine h.rd (fun p e R s mi args below meth c C ad H locs cells slots ls Q hR hS hL hst k => ?_)
  obtain ⟨hx, hb, -, -, -, -, -, -, hKH, -⟩ := C
  exact va_slen hx hb hKH.2.2.2.1 hKH.2.2.2.2.1 (Nat.not_le.mpr hKH.2.2.2.2.2) hS d (k (okC' ⟨by omega, by omega⟩ (okS hst)))
theorem s_sld {u : MV} {j : Int} {X : Type} {f : Int → Option X} {kk : X → MO} (d : dk me pc .iaload 1 pc') (hn : xn fx < 2147483648) (hu : vi u = some j) (h : ∀ v, Sim fx me pc' L (aI v :: st) m ((f v).bind kk)) : Sim fx me pc L (u :: aV (.ref (xb fx)) :: st) m ((sld (xs fx) (xn fx) j f).bind kk) := by
  obtain ⟨d, rfl⟩ := d
  unfold sld
  split
  next hc =>
    refine (h (xs fx j.toNat).toInt).rd (fun p e R s mi args below meth c C ad H locs cells slots ls Q hR hS hL hst k => ?_)
    obtain ⟨hx, hb, -, -, -, -, -, -, hKH, -⟩ := C
    obtain ⟨v1, v2⟩ := vp_ofI hc.1 hc.2 hn
    rw [List.map_cons, vi_toV ad u j hu]
    have z := k (okC' (nrm_i32 _) (okS (okS hst)))
    rw [List.map_cons, show toV ad (aI (xs fx j.toNat).toInt) = .int (xs fx j.toNat) from congrArg Value.int (of_i32 _)] at z
    refine va_sld hx hb hKH.2.2.2.1 hKH.2.2.2.2.1 (Nat.not_le.mpr hKH.2.2.2.2.2) hS v1 d ?_
    rw [v2]
    exact z
  next => exact Sim.none
theorem s_iushr {x y : Int} (d : dk me pc .iushr 1 pc') (h : Sim fx me pc' L (aI (iushr x y) :: st) m o) : Sim fx me pc L (aI y :: aI x :: st) m o := by
  obtain ⟨d, rfl⟩ := d
  refine h.stk (fun _ h => okC' (nrm_i32 _) (okS (okS h))) (fun p e R s mi args below meth c C ad H locs cells slots ls Q hR hS hL hst hl g1 g2 k => ?_)
  obtain ⟨hx, hb, -⟩ := C
  exact lv_iushr hx hb d (of_i32 _).symm k
theorem s_ldcw {x : Int} {v : Int32} {idx : Nat} (d : dk me pc (.ldc_w idx) 3 pc') (w : Cond.constant (eY me).cls idx v ∈ GW) (hv : Int32.ofInt x = v) (hn : nrm x) (h : Sim fx me pc' L (aI x :: st) m o) : Sim fx me pc L st m o := by
  obtain ⟨d, rfl⟩ := d
  refine h.stk (fun _ h => okC' hn h) (fun p e R s mi args below meth c C ad H locs cells slots ls Q hR hS hL hst hl g1 g2 k => ?_)
  obtain ⟨hx, hb, -, hown, hts, -⟩ := C
  rw [List.map_cons, show toV ad (aI x) = .int v from congrArg Value.int hv] at k
  exact lv_ldcw hx hb hown (hts _ w) d k
theorem s_ldc2 {v : Int64} {idx : Nat} (d : dk me pc (.ldc2_w idx) 3 pc') (w : Cond.constantLong (eY me).cls idx v ∈ GW) (h : Sim fx me pc' L (aL v :: st) m o) : Sim fx me pc L st m o := by
  obtain ⟨d, rfl⟩ := d
  refine h.stk (fun _ h => okC' trivial h) (fun p e R s mi args below meth c C ad H locs cells slots ls Q hR hS hL hst hl g1 g2 k => ?_)
  obtain ⟨hx, hb, -, hown, hts, -⟩ := C
  exact lv_ldc2 hx hb hown (hts _ w) d k
/-- the cases of a switch, each at its place -/
def SwL (fx : FX) (me : ME) (pc : Nat) (L : List (Nat × MV)) (st : List MV) (m : MM) {X : Type} (kk : X → MO) : List Int → List (Option X) → Prop
  | [], [] => True
  | o :: os, f :: fs => (∃ tgt : Nat, (pc : Int) + o = (tgt : Int) ∧ Sim fx me tgt L st m (f.bind kk)) ∧ SwL fx me pc L st m kk os fs
  | _, _ => False
theorem SwL_at {X : Type} {kk : X → MO} : ∀ {os : List Int} {fs : List (Option X)}, SwL fx me pc L st m kk os fs → os.length = fs.length ∧ ∀ (i : Nat) (f : Option X), fs[i]? = some f → ∃ (o : Int) (tgt : Nat), os[i]? = some o ∧ (pc : Int) + o = (tgt : Int) ∧ Sim fx me tgt L st m (f.bind kk)
  | [], [], _ => ⟨rfl, fun i f h => by simp at h⟩
  | o :: os, g :: fs, h => by
    obtain ⟨⟨t, h1, h2⟩, h3⟩ := h
    obtain ⟨e, k⟩ := SwL_at h3
    refine ⟨by simp [e], fun i f hi => ?_⟩
    cases i with
    | zero => simp at hi; subst hi; exact ⟨o, t, rfl, h1, h2⟩
    | succ i => simp at hi; obtain ⟨o', t', q1, q2, q3⟩ := k i f hi; exact ⟨o', t', by simpa using q1, q2, q3⟩
  | [], _ :: _, h => h.elim
  | _ :: _, [], h => h.elim
theorem s_tsw {x lo hi dflt : Int} {offs : Array Int} {len dt : Nat} {X : Type} {fs : List (Option X)} {df : Option X} {kk : X → MO} (d : dk me pc (.tableswitch dflt lo hi offs) len pc') (hlo : nrm lo) (hh : hi = lo + fs.length - 1) (hs : SwL fx me pc L st m kk offs.toList fs) (hdt : (pc : Int) + dflt = (dt : Int)) (hd : Sim fx me dt L st m (df.bind kk)) : Sim fx me pc L (aI x :: st) m ((tsw x lo fs df).bind kk) := by
  obtain ⟨d, rfl⟩ := d
  obtain ⟨hlen, hat⟩ := SwL_at hs
  unfold tsw
  split
  next hc =>
    refine hd.stk (fun _ h => okS h) (fun p e R s mi args below meth c C ad H locs cells slots ls Q hR hS hL hst hl g1 g2 k => ?_)
    obtain ⟨hx, hb, -⟩ := C
    have hn : nrm x := okH hst
    exact lv_tableOut hx hb d (Or.inl (by rw [ofT hn]; exact hc)) hdt k
  next hc =>
    cases hf : fs[(x - lo).toNat]? with
    | none =>
      have hge : fs.length ≤ (x - lo).toNat := List.getElem?_eq_none_iff.mp hf
      refine hd.stk (fun _ h => okS h) (fun p e R s mi args below meth c C ad H locs cells slots ls Q hR hS hL hst hl g1 g2 k => ?_)
      obtain ⟨hx, hb, -⟩ := C
      have hn : nrm x := okH hst
      exact lv_tableOut hx hb d (Or.inr (by rw [ofT hn, hh]; omega)) hdt k
    | some f =>
      have hlt : (x - lo).toNat < fs.length := (List.getElem?_eq_some_iff.mp hf).1
      obtain ⟨off, tgt, q1, q2, q3⟩ := hat _ f hf
      refine Sim.stk (pc' := tgt) (o := f.bind kk) q3 (fun _ h => okS h) (fun p e R s mi args below meth c C ad H locs cells slots ls Q hR hS hL hst hl g1 g2 k => ?_)
      obtain ⟨hx, hb, -⟩ := C
      have hn : nrm x := okH hst
      refine lv_tableIn (off := off) hx hb d (by rw [ofT hn]; omega) (by rw [ofT hn, hh]; omega) ?_ q2 k
      rw [ofT hn, ← Array.getElem?_toList]
      exact q1
theorem s_lsw2 {x a1 o1 a2 o2 dflt : Int} {len t1 t2 dt : Nat} {X : Type} {f1 f2 df : Option X} {kk : X → MO} (d : dk me pc (.lookupswitch dflt #[(a1, o1), (a2, o2)]) len pc') (ha : a1 < a2) (ht1 : (pc : Int) + o1 = (t1 : Int)) (ht2 : (pc : Int) + o2 = (t2 : Int)) (hdt : (pc : Int) + dflt = (dt : Int)) (h1 : Sim fx me t1 L st m (f1.bind kk)) (h2 : Sim fx me t2 L st m (f2.bind kk)) (h3 : Sim fx me dt L st m (df.bind kk)) : Sim fx me pc L (aI x :: st) m ((if a1 = x then f1 else if a2 = x then f2 else df).bind kk) := by
  obtain ⟨d, rfl⟩ := d
  have hp : (((#[(a1, o1), (a2, o2)] : Array (Int × Int)).toList.zip ((#[(a1, o1), (a2, o2)] : Array (Int × Int)).toList.drop 1)).all (fun (a, next) => a.1 < next.1)) = true := by simp [ha]
  split
  next hc =>
    refine h1.stk (fun _ h => okS h) (fun p e R s mi args below meth c C ad H locs cells slots ls Q hR hS hL hst hl g1 g2 k => ?_)
    obtain ⟨hx, hb, -⟩ := C
    have hn : nrm x := okH hst
    exact lv_lookup (off := o1) hx hb d hp (by rw [ofT hn, Op.lookupswitch.offset_cons, if_pos hc]) ht1 k
  next hc =>
    split
    next hc2 =>
      refine h2.stk (fun _ h => okS h) (fun p e R s mi args below meth c C ad H locs cells slots ls Q hR hS hL hst hl g1 g2 k => ?_)
      obtain ⟨hx, hb, -⟩ := C
      have hn : nrm x := okH hst
      exact lv_lookup (off := o2) hx hb d hp (by rw [ofT hn, Op.lookupswitch.offset_cons, if_neg hc, Op.lookupswitch.offset_cons, if_pos hc2]) ht2 k
    next hc2 =>
      refine h3.stk (fun _ h => okS h) (fun p e R s mi args below meth c C ad H locs cells slots ls Q hR hS hL hst hl g1 g2 k => ?_)
      obtain ⟨hx, hb, -⟩ := C
      have hn : nrm x := okH hst
      exact lv_lookup (off := dflt) hx hb d hp (by rw [ofT hn, Op.lookupswitch.offset_cons, if_neg hc, Op.lookupswitch.offset_cons, if_neg hc2, Op.lookupswitch.offset_nil]) hdt k
theorem s_max {x y : Int} {idx : Nat} (d : dk me pc (.invokestatic idx) 3 pc') (w1 : Cond.methodLink (eY me).cls idx Lib.Math.max.name ∈ GW) (w2 : Cond.static Lib.Math.max.name ∈ GW) (w3 : Cond.initialized "java/lang/Math" ∈ GW) (w4 : Cond.code Lib.Math.max.name Lib.Math.max.code 2 (some .int) ∈ GW) (hf1 : 1 ≤ eF me) (hf2 : sc st + 13 ≤ eP me) (h : Sim fx me pc' L (aI (if x < y then y else x) :: st) m o) : Sim fx me pc L (aI y :: aI x :: st) m o := by
  obtain ⟨d, rfl⟩ := d
  refine h.stk (fun _ h => okC' (by split; exact okH h; exact okH (okS h)) (okS (okS h))) (fun p e R s mi args below meth c C ad H locs cells slots ls Q hR hS hL hst hl g1 g2 k => ?_)
  obtain ⟨hx, hb, hml, hown, hts, -, -, -, -, -, hf, hp, -⟩ := C
  have hny : nrm y := okH hst
  have hnx : nrm x := okH (okS hst)
  refine va_mmax hx hb (hml.trans hl.1.symm) hown (hts _ w1) (hts _ w2) (hts _ w3) (hts _ w4) (by rw [hf]; exact hf1) (by rw [sc_sum (okS (okS hst)), hp]; exact hf2) g1 g2 d ?_
  have e : (if Int32.ofInt x < Int32.ofInt y then Int32.ofInt y else Int32.ofInt x) = Int32.ofInt (if x < y then y else x) := by
    by_cases q : x < y
    · rw [if_pos q, if_pos ((ofI_lt hnx hny).mpr q)]
    · rw [if_neg q, if_neg (fun z => q ((ofI_lt hnx hny).mp z))]
  rw [e]
  exact k
theorem s_min {x y : Int} {idx : Nat} (d : dk me pc (.invokestatic idx) 3 pc') (w1 : Cond.methodLink (eY me).cls idx Lib.Math.min.name ∈ GW) (w2 : Cond.static Lib.Math.min.name ∈ GW) (w3 : Cond.initialized "java/lang/Math" ∈ GW) (w4 : Cond.code Lib.Math.min.name Lib.Math.min.code 2 (some .int) ∈ GW) (hf1 : 1 ≤ eF me) (hf2 : sc st + 13 ≤ eP me) (h : Sim fx me pc' L (aI (if y < x then y else x) :: st) m o) : Sim fx me pc L (aI y :: aI x :: st) m o := by
  obtain ⟨d, rfl⟩ := d
  refine h.stk (fun _ h => okC' (by split; exact okH h; exact okH (okS h)) (okS (okS h))) (fun p e R s mi args below meth c C ad H locs cells slots ls Q hR hS hL hst hl g1 g2 k => ?_)
  obtain ⟨hx, hb, hml, hown, hts, -, -, -, -, -, hf, hp, -⟩ := C
  have hny : nrm y := okH hst
  have hnx : nrm x := okH (okS hst)
  refine va_mmin hx hb (hml.trans hl.1.symm) hown (hts _ w1) (hts _ w2) (hts _ w3) (hts _ w4) (by rw [hf]; exact hf1) (by rw [sc_sum (okS (okS hst)), hp]; exact hf2) g1 g2 d ?_
  have e : (if Int32.ofInt y < Int32.ofInt x then Int32.ofInt y else Int32.ofInt x) = Int32.ofInt (if y < x then y else x) := by
    by_cases q : y < x
    · rw [if_pos q, if_pos ((ofI_lt hny hnx).mpr q)]
    · rw [if_neg q, if_neg (fun z => q ((ofI_lt hny hnx).mp z))]
  rw [e]
  exact k
/-- throw new E("text") -/
theorem s_throw {e ik is ic p1 p2 p3 p4 : Nat} {text : String} {names : List String} (hT : eT me = []) (hown9 : (eY me).cls = "Leadchapel") (hcls : Bundle.fit (exN e) = true) (hnames : ∀ n ∈ names, Bundle.fit n = true) (hnl : names.length ≤ 3)
    (wk : Cond.classLink (eY me).cls ik (exN e) ∈ GW) (wi : Cond.initialized (exN e) ∈ GW) (wat : ∀ w ∈ vx_atS (eY me).cls ic (exN e) names, w ∈ GW ∨ w = .castable (exN e) (exN e) ∨ ∃ n, w = .declares (Bundle.initS (suN n))) (hgood : ∀ w ∈ Cond.classLink (eY me).cls ik (exN e) :: Cond.initialized (exN e) :: vx_atS (eY me).cls ic (exN e) names, vx_ot w = true) (hstr : (is, text) ∈ strL)
    (d0 : dk me pc (.new ik) 3 p1) (d3 : dk me p1 .dup 1 p2) (d4 : dk me p2 (.ldc_w is) 3 p3) (d7 : dk me p3 (.invokespecial ic) 3 p4) (d10 : dk me p4 .athrow 1 pc') (hF : 7 ≤ eF me) (hP : sc st + 110 ≤ eP me) (ho : o = some (.inr e, bX m)) : Sim fx me pc L st m o := by
  obtain ⟨d0, rfl⟩ := d0
  obtain ⟨d3, rfl⟩ := d3
  obtain ⟨d4, rfl⟩ := d4
  obtain ⟨d7, rfl⟩ := d7
  obtain ⟨d10, rfl⟩ := d10
  intro r m' h
  rw [ho] at h
  cases h
  refine ⟨⟨Nat.le_succ _, Nat.le_add_right _ _⟩, fun hL hst p e9 R s mi args below meth c C ad0 m0 ad H locs cells slots ls hR hE hS hl g1 g2 => ?_⟩
  obtain ⟨hx, hb, hml, hown, hts, -, hlk, htab, hKH, -, hf, hp, hbase, hstt⟩ := C
  obtain ⟨sa, hsa⟩ := hKH.1.2.2.2.2.2.1 _ hstr
  have g1' : gA m + 1 + cells ≤ gA m + R.cells := g1
  have g2' : gB m + 6 + slots ≤ gB m + R.slots := g2
  refine vx_throwSW (A := XA fx) (text := text) (sa := sa) (own := (eY me).cls) (cls := exN e) (names := names) (ik := ik) (is := is) (ic := ic) hx hb hstt hown hcls hnames (hts _ wk) (hts _ wi) (by rw [hown9]; exact hsa) (fun w hw => ?_) hgood hKH.2.1 hKH.2.2.1 hS (hl.1.trans hml.symm) d0 d3 d4 d7 d10 (by rw [htab, hT]; intro x hx; cases hx) (by rw [hf]; omega) (by rw [sc_sum hst, hp]; omega) (by omega) (by omega) hlk ?_ hS.2.2 (by omega) (by omega)
  · rcases wat w hw with h | rfl | ⟨n, rfl⟩
    · exact hts _ h
    · exact va_Nw.use rfl (hKH.1.2.2.2.2.2.2.1 e).1
    · exact va_Nw.use rfl (hKH.1.2.2.2.2.2.2.1 n).2
  · intro t9 _ hz ho9
    refine ⟨e, ad, rfl, rfl, hE.tr (fun K i n h => ⟨h, rfl⟩), (hR.same rfl rfl rfl rfl (fun _ => Nat.le_refl _)).kept ho9, Nat.le_trans hS.1 hz, fun q hq hA => ?_⟩
    rw [ho9 q (Nat.lt_of_lt_of_le hq hS.1)]
    exact hS.2.1 q hq hA
end SMo
