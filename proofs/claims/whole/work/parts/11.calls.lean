/-! METHODS, calls, ends, loops. -/
def itn {S X : Type} (b : S → Option (S ⊕ X)) : Nat → S → Option X
  | 0, _ => none
  | n + 1, s => match b s with
    | none => none
    | some (.inl s') => itn b n s'
    | some (.inr x) => some x
theorem itn_up {S X : Type} {b : S → Option (S ⊕ X)} : ∀ {n : Nat} {s : S} {x : X}, itn b n s = some x → itn b (n + 1) s = some x
  | 0, _, _, h => by cases h
  | n + 1, s, x, h => by
    unfold itn at h ⊢
    cases hb : b s with
    | none => rw [hb] at h; cases h
    | some z => rw [hb] at h; cases z with
      | inl s' => exact itn_up h
      | inr y => exact h
theorem itn_mono {S X : Type} {b : S → Option (S ⊕ X)} {n k : Nat} {s : S} {x : X} (h : itn b n s = some x) : itn b (n + k) s = some x := by
  induction k with
  | zero => exact h
  | succ k ih => exact itn_up ih
theorem itn_one {S X : Type} {b : S → Option (S ⊕ X)} {n k : Nat} {s : S} {x y : X} (h : itn b n s = some x) (h' : itn b k s = some y) : x = y := by
  have h1 := itn_mono (k := k) h
  have h2 := itn_mono (k := n) h'
  rw [Nat.add_comm] at h2
  exact Option.some.inj (h1.symm.trans h2)
/-- a loop: the body says how it goes on, or with what it is left -/
noncomputable def lpb {S X : Type} (b : S → Option (S ⊕ X)) (s : S) : Option X := by
  classical exact if h : ∃ x n, itn b n s = some x then some (Classical.choose h) else none
theorem lpb_of {S X : Type} {b : S → Option (S ⊕ X)} {n : Nat} {s : S} {x : X} (h : itn b n s = some x) : lpb b s = some x := by
  unfold lpb
  have hex : ∃ x n, itn b n s = some x := ⟨x, n, h⟩
  rw [dif_pos hex]
  obtain ⟨k, hk⟩ := Classical.choose_spec hex
  rw [itn_one hk h]
theorem lpb_ex {S X : Type} {b : S → Option (S ⊕ X)} {s : S} {x : X} (h : lpb b s = some x) : ∃ n, itn b n s = some x := by
  unfold lpb at h
  split at h
  next hex =>
    obtain ⟨n, hn⟩ := Classical.choose_spec hex
    cases h
    exact ⟨n, hn⟩
  next => cases h
theorem lpb_eq {S X : Type} (b : S → Option (S ⊕ X)) (s : S) : lpb b s = (b s).bind (fun z => Sum.elim (lpb b) some z) := by
  cases hb : b s with
  | none =>
    cases hl : lpb b s with
    | none => rfl
    | some x =>
      obtain ⟨n, hn⟩ := lpb_ex hl
      cases n with
      | zero => cases hn
      | succ n => unfold itn at hn; rw [hb] at hn; cases hn
  | some z => cases z with
    | inr x => exact lpb_of (n := 1) (by unfold itn; rw [hb])
    | inl s' =>
      show lpb b s = lpb b s'
      cases hl : lpb b s' with
      | some x =>
        obtain ⟨n, hn⟩ := lpb_ex hl
        exact lpb_of (n := n + 1) (by unfold itn; rw [hb]; exact hn)
      | none =>
        cases hl2 : lpb b s with
        | none => rfl
        | some x =>
          obtain ⟨n, hn⟩ := lpb_ex hl2
          cases n with
          | zero => cases hn
          | succ n =>
            unfold itn at hn; rw [hb] at hn
            have := lpb_of hn
            rw [hl] at this
            cases this
section SC
variable {fx : FX} {me : ME} {pc pc' : Nat} {L : List (Nat × MV)} {st : List MV} {m : MM} {o : MO}
theorem s_lp {S X : Type} {b : S → Option (S ⊕ X)} {kk : X → MO} {Lf : S → List (Nat × MV)} {mf : S → MM} (hb : ∀ (k2 : S ⊕ X → MO) (s : S), (∀ s', Sim fx me pc (Lf s') [] (mf s') (k2 (.inl s'))) → (∀ x, k2 (.inr x) = kk x) → Sim fx me pc (Lf s) [] (mf s) ((b s).bind k2)) (s : S) : Sim fx me pc (Lf s) [] (mf s) ((lpb b s).bind kk) := by
  have key : ∀ (n : Nat) (s : S), Sim fx me pc (Lf s) [] (mf s) ((itn b n s).bind kk) := by
    intro n
    induction n with
    | zero => intro s; exact Sim.none
    | succ n ih =>
      intro s
      have h := hb (fun z => Sum.elim (fun s' => (itn b n s').bind kk) kk z) s ih (fun _ => rfl)
      have e : (itn b (n + 1) s).bind kk = (b s).bind (fun z => Sum.elim (fun s' => (itn b n s').bind kk) kk z) := by
        show (match b s with | none => none | some (.inl s') => itn b n s' | some (.inr x) => some x).bind kk = _
        cases b s with
        | none => rfl
        | some z => cases z <;> rfl
      rw [e]
      exact h
  intro r m' ho
  cases hl : lpb b s with
  | none => rw [hl] at ho; cases ho
  | some x =>
    obtain ⟨n, hn⟩ := lpb_ex hl
    rw [hl, ← hn] at ho
    exact key n s r m' ho
def PcM (fx : FX) (ad : Nat → Nat → Nat) (m : MM) (av : List MV) : Array Value → State → Prop := fun v U => v = (av.map (toV ad)).toArray ∧ Rep fx ad m U.heap ∧ KH fx U ∧ xB fx ≤ U.heap.size ∧ (xl fx).stackTraces = false
def cdM (me : ME) : Cond := match eT me with
  | [] => .code (eY me) (eB me) (eN me) (eR me)
  | h :: t => .codeWith (eY me) (eB me) (eN me) (eR me) (h :: t)
def wsM (me : ME) : List Cond := cdM me :: GW
def rmM (me : ME) (dA dB : Nat) : Room := { frames := eF me, cells := dA, slots := dB, locals := eP me }
/-- a method called with these arguments in this memory does what o says -/
def MS (fx : FX) (me : ME) (av : List MV) (m : MM) (o : MO) : Prop := ∀ r m', o = some (r, m') → (gA m ≤ gA m' ∧ gB m ≤ gB m') ∧ (okA m av → ∀ ad,
  vx_Met (xl fx) (eY me) (wsM me) (rmM me (gA m' - gA m) (gB m' - gB m)) (PcM fx ad m av) (QR fx ad m r m') (XR fx ad m r m') (gA m' - gA m) (gB m' - gB m) (XA fx))
theorem PcM.blind (fx : FX) (ad : Nat → Nat → Nat) (m : MM) (av : List MV) : FrameBlind (PcM fx ad m av) := by
  intro a U g mk ⟨h1, h2, h3, h4, h5⟩
  refine ⟨h1, h2, ?_, h4, h5⟩
  exact KH.to (s := U) (locs := []) (State.WarmedH.refl U) va_S.rf h3
def argL : Nat → List MV → List (Nat × MV)
  | _, [] => []
  | i, v :: vs => (i, v) :: argL (bif ct2 v then i + 2 else i + 1) vs
def sc : List MV → Nat
  | [] => 0
  | v :: vs => (bif ct2 v then 2 else 1) + sc vs
theorem sc_sum {ad : Nat → Nat → Nat} {st : List MV} (h : okA m st) : ((st.map (toV ad)).map fun v => v.category).sum = sc st := by
  induction st with
  | nil => rfl
  | cons v st ih =>
    rw [List.map_cons, List.map_cons, List.sum_cons, ih (okS h), toV_cat ad (okH h)]
    show _ = (bif ct2 v then 2 else 1) + sc st
    cases ct2 v <;> rfl
theorem sc_sl {ad : Nat → Nat → Nat} {st : List MV} (h : okA m st) : (lg_sl (st.map (toV ad))).length = sc st := by
  induction st with
  | nil => rfl
  | cons v st ih =>
    have e := toV_cat ad (okH h)
    unfold lg_sl at ih ⊢
    rw [List.map_cons, List.flatMap_cons, List.length_append, ih (okS h)]
    rw [e]
    show _ = (bif ct2 v then 2 else 1) + sc st
    cases ct2 v <;> rfl
theorem argL_map {ad : Nat → Nat → Nat} {st : List MV} (h : okA m st) : ∀ i, lv_args i (st.map (toV ad)) = (argL i st).map fun q => (q.1, toV ad q.2) := by
  induction st with
  | nil => intro i; rfl
  | cons v st ih =>
    intro i
    have e := toV_cat ad (okH h)
    unfold argL
    rw [List.map_cons, List.map_cons, ← ih (okS h), lv_args, e]
    cases ct2 v <;> rfl
theorem argL_ok {st : List MV} (h : okA m st) : ∀ i, okL m (argL i st) := by
  induction st with
  | nil => intro i q hq; cases hq
  | cons v st ih =>
    intro i
    unfold argL
    exact okL_cons.mpr ⟨okH h, ih (okS h) _⟩
/-- what a method's name and tables must be -/
def mF (me : ME) (n : Nat) : Prop := plainName (eY me).cls = true ∧ (eI me = true → (eY me).name = "<init>") ∧ cdM me ∈ GW ∧ Cond.initialized (eY me).cls ∈ GW ∧ (eY me).cls ≠ "java/lang/invoke/MethodHandle" ∧ (eY me).cls ≠ "java/lang/invoke/VarHandle" ∧ (parseMethodDescriptor (eY me).desc).map (fun d => d.parameters.length) = some n
theorem ms_of {av : List MV} {n : Nat} (hT : eT me = []) (hF : mF me n) (hn : sc av ≤ eN me) (h : Sim fx me 0 (argL 0 av) [] m o) : MS fx me av m o := by
  intro r m' ho
  obtain ⟨h1, h2⟩ := h r m' ho
  refine ⟨h1, fun hok ad => ?_⟩
  obtain ⟨hpl, hI, hcd, hini, -⟩ := hF
  have hcde : cdM me = .code (eY me) (eB me) (eN me) (eR me) := by unfold cdM; rw [hT]
  refine vx_ofW (cc := eB me) (maxL := eN me) (ret := eR me) (ws' := GW) hpl (by unfold wsM; rw [hcde]) ?_
  intro p e s mi args below meth c s₁ B hml ht hv
  obtain ⟨rfl, hR, hKH, hbase, hstt⟩ := hv
  have hts := atoms_spec (ws := wsM me) B.pre
  rw [lg_entry_eq]
  have hl := lv_entry (av.map (toV ad)) (n := eN me) (by rw [sc_sl hok]; exact hn)
  rw [argL_map hok] at hl
  refine h2 (argL_ok hok 0) (fun q hq => by cases hq) p e _ s mi _ below meth c ⟨B.exec, B.bytes, hml, findClass_of_methodNamed B.named, fun w hw => hts w (List.mem_cons_of_mem _ hw), B.returns, B.notSynchronized, ?_, hKH, fun q => (name_of_methodNamed B.named B.method).1.trans (hI q), rfl, rfl, hbase, hstt⟩
    ad m ad s.heap [] 0 0 _ hR Ext.rf va_S.rf hl ?_ ?_
  · rw [hT]
    cases hc : c.exceptionTable.toList with
    | nil => rfl
    | cons x t => exact (ht x (by rw [hc]; exact List.mem_cons_self)).elim
  · show gA m' + 0 ≤ gA m + (gA m' - gA m); omega
  · show gB m' + 0 ≤ gB m + (gB m' - gB m); omega
-- ends
theorem s_iret {v : Int} (d : dk me pc .ireturn 1 pc') (hr : eR me = some .int) (ho : o = some (.inl (some (aI v)), m)) : Sim fx me pc L [aI v] m o := by
  obtain ⟨d, rfl⟩ := d
  intro r m' h
  rw [ho] at h
  cases h
  refine ⟨⟨Nat.le_refl _, Nat.le_refl _⟩, fun hL hst p e R s mi args below meth c C ad0 m0 ad H locs cells slots ls hR hE hS hl g1 g2 => ?_⟩
  obtain ⟨hx, hb, -, -, -, hrt, hlk, -⟩ := C
  refine W.widen (k := R.cells) (n := R.slots) (by omega) (by omega) (vx_ret ?_)
  exact W.iret (v := Int32.ofInt v) hx hb (hrt.trans hr) (fun t ht hW => ⟨some (aI v), ad, rfl, hE, rfl, by rw [ht]; exact hR, fun x hx => by cases hx; exact okH hst, hS.F ht⟩) hS.2.2 d hlk
theorem s_zret {v : Int} {X : Type} {f : Option X} {kk : X → MO} (d : dk me pc .ireturn 1 pc') (hr : eR me = some .boolean) (ho : f.bind kk = some (.inl (some (aI v)), m)) : Sim fx me pc L [aI v] m ((cb v f).bind kk) := by
  obtain ⟨d, rfl⟩ := d
  unfold cb
  split
  next hc =>
    intro r m' h
    rw [ho] at h
    cases h
    refine ⟨⟨Nat.le_refl _, Nat.le_refl _⟩, fun hL hst p e R s mi args below meth c C ad0 m0 ad H locs cells slots ls hR hE hS hl g1 g2 => ?_⟩
    obtain ⟨hx, hb, -, -, -, hrt, hlk, -⟩ := C
    refine W.widen (k := R.cells) (n := R.slots) (by omega) (by omega) (vx_ret ?_)
    exact W.zret (v := Int32.ofInt v) (ty := .boolean) hx hb (hrt.trans hr) (by rcases hc with rfl | rfl <;> rfl) (fun t ht hW => ⟨some (aI v), ad, rfl, hE, rfl, by rw [ht]; exact hR, fun x hx => by cases hx; exact okH hst, hS.F ht⟩) hS.2.2 d hlk
  next => exact Sim.none
theorem s_lret {v : Int64} (d : dk me pc .lreturn 1 pc') (hr : eR me = some .long) (ho : o = some (.inl (some (aL v)), m)) : Sim fx me pc L [aL v] m o := by
  obtain ⟨d, rfl⟩ := d
  intro r m' h
  rw [ho] at h
  cases h
  refine ⟨⟨Nat.le_refl _, Nat.le_refl _⟩, fun hL hst p e R s mi args below meth c C ad0 m0 ad H locs cells slots ls hR hE hS hl g1 g2 => ?_⟩
  obtain ⟨hx, hb, -, -, -, hrt, hlk, -⟩ := C
  refine W.widen (k := R.cells) (n := R.slots) (by omega) (by omega) (vx_ret ?_)
  exact W.lret (v := v) hx hb (hrt.trans hr) (fun t ht hW => ⟨some (aL v), ad, rfl, hE, rfl, by rw [ht]; exact hR, fun x hx => by cases hx; trivial, hS.F ht⟩) hS.2.2 d hlk
theorem s_aret {v : Option (Nat × Nat)} {rt : FieldType} (d : dk me pc .areturn 1 pc') (hr : eR me = some rt) (hrt : (∃ n, rt = .object n) ∨ ∃ t, rt = .array t) (ho : o = some (.inl (some (aR v)), m)) : Sim fx me pc L [aR v] m o := by
  obtain ⟨d, rfl⟩ := d
  intro r m' h
  rw [ho] at h
  cases h
  refine ⟨⟨Nat.le_refl _, Nat.le_refl _⟩, fun hL hst p e R s mi args below meth c C ad0 m0 ad H locs cells slots ls hR hE hS hl g1 g2 => ?_⟩
  obtain ⟨hx, hb, -, -, -, hrt9, hlk, -⟩ := C
  refine W.widen (k := R.cells) (n := R.slots) (by omega) (by omega) (vx_ret ?_)
  exact W.aret (v := toV ad (aR v)) hx hb (hrt9.trans hr) hrt (by cases v with
    | none => exact Or.inl rfl
    | some q => exact Or.inr ⟨_, rfl⟩) (fun t ht hW => ⟨some (aR v), ad, rfl, hE, rfl, by rw [ht]; exact hR, fun x hx => by cases hx; exact okH hst, hS.F ht⟩) hS.2.2 d hlk
theorem s_vret (d : dk me pc .return_ 1 pc') (hr : eR me = none) (ho : o = some (.inl none, m)) : Sim fx me pc L [] m o := by
  obtain ⟨d, rfl⟩ := d
  intro r m' h
  rw [ho] at h
  cases h
  refine ⟨⟨Nat.le_refl _, Nat.le_refl _⟩, fun hL hst p e R s mi args below meth c C ad0 m0 ad H locs cells slots ls hR hE hS hl g1 g2 => ?_⟩
  obtain ⟨hx, hb, -, -, -, hrt9, hlk, -⟩ := C
  refine W.widen (k := R.cells) (n := R.slots) (by omega) (by omega) (vx_ret ?_)
  exact W.vret hx hb (hrt9.trans hr) (fun t ht hW => ⟨none, ad, rfl, hE, rfl, by rw [ht]; exact hR, (fun x hx => by cases hx), hS.F ht⟩) hS.2.2 d hlk
theorem s_objInit {idx K i : Nat} (d : dk me pc (.invokespecial idx) 3 pc') (w1 : Cond.methodLink (eY me).cls idx Lib.objectInit ∈ GW) (w2 : Cond.instanceMethod Lib.objectInit ∈ GW) (w3 : Cond.code Lib.objectInit ⟨#[0xb1]⟩ 1 none ∈ GW) (hfr : 1 ≤ eF me) (hlo : sc st + 12 ≤ eP me) (h : Sim fx me pc' L st m o) : Sim fx me pc L (aR (some (K, i)) :: st) m o := by
  obtain ⟨d, rfl⟩ := d
  refine h.stk (fun _ h => okS h) (fun p e R s mi args below meth c C ad H locs cells slots ls Q hR hS hL hst hl g1 g2 k => ?_)
  obtain ⟨hx, hb, hml, hown, hts, -, -, -, -, -, hf, hp, -⟩ := C
  exact W.objInit hx hb hown (hts _ w1) (hts _ w2) (hts _ w3) rfl (by rw [hml]; exact hl.1) rfl d (by rw [hf]; exact hfr) (by show 2 * 0 + _ + 12 ≤ _; rw [sc_sum (okS hst), hp]; omega) k
end SC
