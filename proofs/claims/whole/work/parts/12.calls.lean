/-! CALLS. -/
section SCa
variable {fx : FX} {me me2 : ME} {pc pc' : Nat} {L : List (Nat × MV)} {st : List MV} {m : MM} {o : MO}
/-- at pc a call of me2 with these arguments can be run; thr: it may throw -/
def RunOK (fx : FX) (me me2 : ME) (pc : Nat) (thr : Bool) (av : List MV) : Prop :=
  ∀ (p : Program) (e : Env) (R : Room) (s : State) (mi : MethodId) (args : Array Value) (below : List Frame) (meth : Method) (c : Code), Ctx fx me p R s mi args meth c → ∀ (ad : Nat → Nat → Nat) (m : MM) (H : Heap) (locs : List Loc) (cells slots : Nat) (ls : Array Slot) (rest : List MV) (dA dB : Nat) (Qc : Array Value → State → Outcome → State → Prop) (XC : String → State → State → Prop),
    Rep fx ad m H → va_S (XA fx) s.heap H locs → okA m av → okA m rest → ls.size = eN me → sc rest ≤ 8 → (thr = false → ∀ E s t, ¬ XC E s t) → vx_Met (xl fx) (eY me2) (wsM me2) (rmM me2 dA dB) (PcM fx ad m av) Qc XC dA dB (XA fx) → cells + dA ≤ R.cells → slots + dB ≤ R.slots →
    vx_Run p (xl fx) e R s mi args below meth c H locs cells slots dA dB (F0 mi pc ls ((av.reverse ++ rest).map (toV ad))) (rest.map (toV ad)) (Qc (av.map (toV ad)).toArray) XC (XA fx)
theorem pc_of {fx : FX} {me : ME} {p : Program} {R : Room} {s : State} {mi : MethodId} {args : Array Value} {meth : Method} {c : Code} {ad : Nat → Nat → Nat} {m : MM} {H : Heap} {locs : List Loc} {av : List MV} (C : Ctx fx me p R s mi args meth c) (hR : Rep fx ad m H) (hS : va_S (XA fx) s.heap H locs) : ∀ U : State, U.heap = H → s.WarmedH U.vm → PcM fx ad m av (av.map (toV ad)).toArray U := by
  obtain ⟨-, -, -, -, -, -, -, -, hKH, -, -, -, hbase, hstt⟩ := C
  intro U hU hW
  exact ⟨rfl, by rw [hU]; exact hR, hKH.to hW (by rw [hU]; exact hS), by rw [hU]; exact Nat.le_trans hbase hS.1, hstt⟩
theorem met_of {l : Launch} {y : MethodName} {ws : List Cond} {rm : Room} {Pc : Array Value → State → Prop} {Qc : Array Value → State → Outcome → State → Prop} {XC : String → State → State → Prop} {mc ms : Nat} {free : Addr → Prop} (h : vx_Met l y ws rm Pc Qc XC mc ms free) (hx : ∀ E s t, ¬ XC E s t) : Met l y ws rm Pc Qc mc ms free := by
  intro p e h1 h2 h3 s m args below h4 h5 h6 h7
  obtain ⟨n, o, a1, a2, a3, a4⟩ := h p e h1 h2 h3 s m args below h4 h5 h6 h7
  refine ⟨n, o, a1, a2, a3, ?_⟩
  rcases a4 with a4 | ⟨q, -, E, ce, L, hX, -⟩
  · exact a4
  · exact absurd hX (hx _ _ _)
theorem vx_of_va {p : Program} {l : Launch} {e : Env} {R : Room} {s : State} {m : MethodId} {args : Array Value} {below : List Frame} {meth : Method} {c : Code} {H : Heap} {locs : List Loc} {cells slots mc ms : Nat} {g : JFrame} {rest : List Value} {Qa : State → Outcome → State → Prop} {XC : String → State → State → Prop} {free : Addr → Prop}
    (h : va_Run p l e R s m args below meth c H locs cells slots mc ms g rest Qa free) : vx_Run p l e R s m args below meth c H locs cells slots mc ms g rest Qa XC free := fun T hT X => Or.inl (h T hT X)
theorem gw_ws {me2 : ME} (hcd : cdM me2 ∈ GW) : GoodIn GW (wsM me2) := by
  intro w hw
  have : w ∈ GW := by
    rcases List.mem_cons.mp hw with rfl | h
    · exact hcd
    · exact h
  exact ⟨this, good_of_word (gw_good this)⟩
theorem cdM_code {me2 : ME} (hT : eT me2 = []) : wsM me2 = Cond.code (eY me2) (eB me2) (eN me2) (eR me2) :: GW := by unfold wsM cdM; rw [hT]
theorem hW_of {ad : Nat → Nat → Nat} {rest : List MV} {mi : MethodId} {pc : Nat} {ls : Array Slot} {st9 : List Value} (hok : okA m rest) (h : sc rest ≤ 8) : 2 * (F0 mi pc ls st9).monitorRoom + ((rest.map (toV ad)).map fun v => v.category).sum ≤ 8 := by
  rw [sc_sum hok]
  show 2 * 0 + _ ≤ 8
  omega
theorem run_S {idx n : Nat} {av : List MV} (d : dk me pc (.invokestatic idx) 3 pc') (hF : mF me2 n) (hT : eT me2 = []) (w1 : Cond.methodLink (eY me).cls idx (eY me2) ∈ GW) (w2 : Cond.static (eY me2) ∈ GW) (hfr : eF me2 + 1 ≤ eF me ∧ 8 + (eN me2 + 11) + eP me2 ≤ eP me) (hn : av.length = n) : RunOK fx me me2 pc true av := by
  intro p e R s mi args below meth c C ad m H locs cells slots ls rest dA dB Qc XC hR hS hav hrest hls hsc hx hM g1 g2
  have hpc := pc_of (av := av) C hR hS
  obtain ⟨hx', hb, hml, hown, hts, -, -, -, hKH, -, hf, hp, -⟩ := C
  obtain ⟨-, -, hcd, hini, hd1, hd2, hd3⟩ := hF
  have hcb := callB_of (R := R) (args := args) (index := idx) (own := (eY me).cls) (y := eY me2) (bytes := eB me2) (maxL := eN me2) (ret := eR me2) (ws := wsM me2) (ws' := GW) (rm := rmM me2 dA dB) (mc := dA) (ms := dB) n hts (gw_ws hcd) (cdM_code hT) rfl rfl (hts _ hini) (hts _ w1) ⟨hd1, hd2, hd3⟩ ⟨by rw [hf]; exact hfr.1, by rw [hp]; exact hfr.2⟩
  exact vx_runS (Ts := GW) (own := (eY me).cls) (As := av.map (toV ad)) (rest := rest.map (toV ad)) (nL := eN me) ⟨hx', hb, hml, hown, hts⟩ hM ⟨hcb, hts _ w2⟩ ⟨PcM.blind _ _ _ _, hpc⟩ rfl (by rw [List.length_map]; exact hn) hls (by rw [List.map_append, List.map_reverse]) (hW_of hrest hsc) d.1 ⟨g1, g2⟩
theorem z_recv {fx : FX} {s : State} {ad : Nat → Nat → Nat} {m : MM} {H : Heap} {K i : Nat} {C9 : String} (hKK : KK fx s) (hR : Rep fx ad m H) (hok : okV m (aR (some (K, i)))) (hK : K < 13) (hcl : (vwCl[K]?).map (fun r => r.1) = some C9) : ∃ cell : Cell, H[ad K i]? = some cell ∧ cell.vm.isStatics = false ∧ s.vm.findClass C9 = some cell.cls := by
  obtain ⟨n, hz⟩ := liveN hok
  obtain ⟨⟨-, b1, -⟩, -⟩ := hR.1 K i n hz
  obtain ⟨r, hr, -, cellV, q1, q2, q3, -⟩ := b1 hK
  rw [hr] at hcl
  have hcn : r.1 = C9 := Option.some.inj hcl
  exact ⟨cellV, q1, by rw [q3]; rfl, by rw [q2, ← hcn]; exact (hKK.1.1 K r hr).2.1⟩
theorem run_V {idx n K i : Nat} {av : List MV} (d : dk me pc (.invokevirtual idx) 3 pc') (hF : mF me2 n) (hT : eT me2 = []) (w1 : Cond.methodLink (eY me).cls idx (eY me2) ∈ GW) (w2 : Cond.instanceMethod (eY me2) ∈ GW) (w3 : Cond.selects (eY me2).cls (eY me2) (eY me2) ∈ GW) (hfr : eF me2 + 1 ≤ eF me ∧ 8 + (eN me2 + 11) + eP me2 ≤ eP me) (hK : K < 13) (hcl : (vwCl[K]?).map (fun r => r.1) = some (eY me2).cls) (hn : av.length = n) : RunOK fx me me2 pc true (aR (some (K, i)) :: av) := by
  intro p e R s mi args below meth c C ad m H locs cells slots ls rest dA dB Qc XC hR hS hav hrest hls hsc hx hM g1 g2
  have hpc := pc_of (av := aR (some (K, i)) :: av) C hR hS
  obtain ⟨hx', hb, hml, hown, hts, -, -, -, hKH, -, hf, hp, -⟩ := C
  obtain ⟨-, -, hcd, hini, hd1, hd2, hd3⟩ := hF
  have hcb := callB_of (R := R) (args := args) (index := idx) (own := (eY me).cls) (y := eY me2) (bytes := eB me2) (maxL := eN me2) (ret := eR me2) (ws := wsM me2) (ws' := GW) (rm := rmM me2 dA dB) (mc := dA) (ms := dB) n hts (gw_ws hcd) (cdM_code hT) rfl rfl (hts _ hini) (hts _ w1) ⟨hd1, hd2, hd3⟩ ⟨by rw [hf]; exact hfr.1, by rw [hp]; exact hfr.2⟩
  exact vx_runV (Ts := GW) (own := (eY me).cls) (C := (eY me2).cls) (b := ad K i) (As := av.map (toV ad)) (rest := rest.map (toV ad)) (nL := eN me) ⟨hx', hb, hml, hown, hts⟩ hM ⟨hcb, hts _ w2, hts _ w3⟩ ⟨PcM.blind _ _ _ _, z_recv hKH.1 hR (okH hav) hK hcl, hpc⟩ rfl (by rw [List.length_map]; exact hn) hls (by rw [List.reverse_cons, List.append_assoc, List.map_append, List.map_reverse]; rfl) (hW_of hrest hsc) d.1 ⟨g1, g2⟩
theorem run_I {idx n K i : Nat} {av : List MV} (d : dk me pc (.invokespecial idx) 3 pc') (hF : mF me2 n) (hT : eT me2 = []) (hr : eR me2 = none) (hy : (eY me2).name = "<init>") (w1 : Cond.methodLink (eY me).cls idx (eY me2) ∈ GW) (w2 : Cond.instanceMethod (eY me2) ∈ GW) (hfr : eF me2 + 1 ≤ eF me ∧ 8 + (eN me2 + 11) + eP me2 ≤ eP me) (hn : av.length = n) : RunOK fx me me2 pc false (aR (some (K, i)) :: av) := by
  intro p e R s mi args below meth c C ad m H locs cells slots ls rest dA dB Qc XC hR hS hav hrest hls hsc hx hM g1 g2
  have hpc := pc_of (av := aR (some (K, i)) :: av) C hR hS
  obtain ⟨hx', hb, hml, hown, hts, -, -, -, hKH, -, hf, hp, -⟩ := C
  obtain ⟨-, -, hcd, hini, hd1, hd2, hd3⟩ := hF
  have hcb := callB_of (R := R) (args := args) (index := idx) (own := (eY me).cls) (y := eY me2) (bytes := eB me2) (maxL := eN me2) (ret := none) (ws := wsM me2) (ws' := GW) (rm := rmM me2 dA dB) (mc := dA) (ms := dB) n hts (gw_ws hcd) (by rw [← hr]; exact cdM_code hT) rfl rfl (hts _ hini) (hts _ w1) ⟨hd1, hd2, hd3⟩ ⟨by rw [hf]; exact hfr.1, by rw [hp]; exact hfr.2⟩
  exact vx_of_va (va_runI (Ts := GW) (own := (eY me).cls) (b := ad K i) (As := av.map (toV ad)) (rest := rest.map (toV ad)) (nL := eN me) ⟨hx', hb, hml, hown, hts⟩ (met_of hM (hx rfl)) ⟨hcb, hy, hts _ w2⟩ ⟨PcM.blind _ _ _ _, hpc⟩ rfl (by rw [List.length_map]; exact hn) hls (by rw [List.reverse_cons, List.append_assoc, List.map_append, List.map_reverse]; rfl) (hW_of hrest hsc) d.1 ⟨g1, g2⟩)
theorem run_SN {idx n : Nat} {host : String} {av : List MV} (d : dk me pc (.invokestatic idx) 3 pc') (hF : mF me2 n) (hT : eT me2 = []) (w1 : ((eY me).cls, idx, eY me2, host) ∈ nestL) (w2 : Cond.static (eY me2) ∈ GW) (hfr : eF me2 + 1 ≤ eF me ∧ 8 + (eN me2 + 11) + eP me2 ≤ eP me) (hn : av.length = n) : RunOK fx me me2 pc false av := by
  intro p e R s mi args below meth c C ad m H locs cells slots ls rest dA dB Qc XC hR hS hav hrest hls hsc hx hM g1 g2
  have hpc := pc_of (av := av) C hR hS
  obtain ⟨hx', hb, hml, hown, hts, -, -, -, hKH, -, hf, hp, -⟩ := C
  obtain ⟨-, -, hcd, hini, hd1, hd2, hd3⟩ := hF
  have hcb := va_cnB (R := R) (args := args) (index := idx) (own := (eY me).cls) (host := host) (y := eY me2) (bytes := eB me2) (maxL := eN me2) (ret := eR me2) (ws := wsM me2) (ws' := GW) (rm := rmM me2 dA dB) (mc := dA) (ms := dB) n hts (gw_ws hcd) (cdM_code hT) rfl rfl (hKH.1.2.2.1 _ w1) (hts _ hini) ⟨hd1, hd2, hd3⟩ ⟨by rw [hf]; exact hfr.1, by rw [hp]; exact hfr.2⟩
  exact vx_of_va (va_runSN (Ts := GW) (own := (eY me).cls) (As := av.map (toV ad)) (rest := rest.map (toV ad)) (nL := eN me) ⟨hx', hb, hml, hown, hts⟩ (met_of hM (hx rfl)) ⟨hcb, hts _ w2, trivial⟩ ⟨PcM.blind _ _ _ _, hpc⟩ rfl (by rw [List.length_map]; exact hn) hls (by rw [List.map_append, List.map_reverse]) (hW_of hrest hsc) d.1 ⟨g1, g2⟩)
theorem run_IN {idx n K i : Nat} {host : String} {av : List MV} (d : dk me pc (.invokespecial idx) 3 pc') (hF : mF me2 n) (hT : eT me2 = []) (hr : eR me2 = none) (hy : (eY me2).name = "<init>") (w1 : ((eY me).cls, idx, eY me2, host) ∈ nestL) (w2 : Cond.instanceMethod (eY me2) ∈ GW) (hfr : eF me2 + 1 ≤ eF me ∧ 8 + (eN me2 + 11) + eP me2 ≤ eP me) (hn : av.length = n) : RunOK fx me me2 pc false (aR (some (K, i)) :: av) := by
  intro p e R s mi args below meth c C ad m H locs cells slots ls rest dA dB Qc XC hR hS hav hrest hls hsc hx hM g1 g2
  have hpc := pc_of (av := aR (some (K, i)) :: av) C hR hS
  obtain ⟨hx', hb, hml, hown, hts, -, -, -, hKH, -, hf, hp, -⟩ := C
  obtain ⟨-, -, hcd, hini, hd1, hd2, hd3⟩ := hF
  have hcb := va_cnB (R := R) (args := args) (index := idx) (own := (eY me).cls) (host := host) (y := eY me2) (bytes := eB me2) (maxL := eN me2) (ret := none) (ws := wsM me2) (ws' := GW) (rm := rmM me2 dA dB) (mc := dA) (ms := dB) n hts (gw_ws hcd) (by rw [← hr]; exact cdM_code hT) rfl rfl (hKH.1.2.2.1 _ w1) (hts _ hini) ⟨hd1, hd2, hd3⟩ ⟨by rw [hf]; exact hfr.1, by rw [hp]; exact hfr.2⟩
  exact vx_of_va (va_runIN (Ts := GW) (own := (eY me).cls) (b := ad K i) (As := av.map (toV ad)) (rest := rest.map (toV ad)) (nL := eN me) ⟨hx', hb, hml, hown, hts⟩ (met_of hM (hx rfl)) ⟨hcb, hy, hts _ w2⟩ ⟨PcM.blind _ _ _ _, hpc⟩ rfl (by rw [List.length_map]; exact hn) hls (by rw [List.reverse_cons, List.append_assoc, List.map_append, List.map_reverse]; rfl) (hW_of hrest hsc) d.1 ⟨g1, g2⟩)
/-- behind a call -/
theorem s_call {thr : Bool} {av : List MV} {o2 : MO} (hrun : RunOK fx me me2 pc thr av) (hM : MS fx me2 av m o2) (hsc : sc st ≤ 8) (hT : eT me = [])
    (hthr : thr = false → ∀ e m2, o2 = some (.inr e, m2) → o = none)
    (hr : ∀ v m2, o2 = some (.inl v, m2) → Sim fx me (pc + 3) L (v.toList ++ st) m2 o) (hx : ∀ e m2, o2 = some (.inr e, m2) → o = none ∨ o = some (.inr e, m2)) (hn : o2 = none → o = none) : Sim fx me pc L (av.reverse ++ st) m o := by
  intro r m' ho
  cases ho2 : o2 with
  | none => rw [hn ho2] at ho; cases ho
  | some q =>
    obtain ⟨r2, m2⟩ := q
    obtain ⟨⟨q1, q2⟩, hMt⟩ := hM r2 m2 ho2
    cases r2 with
    | inl v =>
      obtain ⟨⟨h1, h1'⟩, h2⟩ := hr v m2 ho2 r m' ho
      refine ⟨⟨by omega, by omega⟩, fun hL hst p e R s mi args below meth c C ad0 m0 ad H locs cells slots ls hR hE hS hl g1 g2 => ?_⟩
      have hav : okA m av := fun x hx => hst x (List.mem_append_left _ (List.mem_reverse.mpr hx))
      have hsto : okA m st := fun x hx => hst x (List.mem_append_right _ hx)
      have hru := hrun p e R s mi args below meth c C ad m H locs cells slots ls st (gA m2 - gA m) (gB m2 - gB m) _ _ hR hS hav hsto hl.1 hsc (fun _ E s t hX => by obtain ⟨e9, _, h9, -⟩ := hX; cases h9) (hMt hav ad) (by omega) (by omega)
      intro T hT9 X
      rcases hru T hT9 X with ⟨v9, st₀, t, T', L9, e0, X', hL9, e1, e2, hQ, hgo⟩ | ⟨_, _, _, _, _, _, _, -, -, -, -, -, hX, -⟩
      · obtain ⟨v8, ad8, hv8, hE8, ho8, hR8, hok8, hF8⟩ := hQ
        cases hv8
        cases ho8
        obtain ⟨-, -, k3⟩ := vx_keep (A0 := XA fx) (A1 := XA fx) (free := XA fx) (locs := locs) e0 e1 hS (fun _ _ h => h) (fun _ h => h) hL9 hF8
        have hst2 : okA m2 (v.toList ++ st) := by
          intro x hx
          rcases List.mem_append.mp hx with h | h
          · exact hok8 x (by cases v with
              | none => cases h
              | some y => rw [List.mem_singleton.mp h])
          · exact okA_ext hE8 hsto x h
        have hW := h2 (okL_ext hE8 hL) hst2 p e R s mi args below meth c C ad0 m0 ad8 T'.heap (locs ++ L9) (cells + (gA m2 - gA m)) (slots + (gB m2 - gB m)) ls (by rw [e1]; exact hR8) (hE.tr hE8) k3 (by rw [mapL_ext hE8 hL]; exact hl) (by omega) (by omega)
        rw [List.map_append, mapV_ext hE8 hsto, show v.toList.map (toV ad8) = (v.map (toV ad8)).toList by cases v <;> rfl] at hW
        obtain ⟨t2, a1, b1⟩ := hW T' rfl X'
        exact ⟨t2, hgo t2 a1, b1⟩
      · obtain ⟨e9, _, h9, -⟩ := hX
        cases h9
    | inr e9 =>
      rcases hx e9 m2 ho2 with h9 | h9
      · rw [h9] at ho; cases ho
      · have hthr' : thr = true := by
          cases thr with
          | true => rfl
          | false => rw [hthr rfl e9 m2 ho2] at ho; cases ho
        rw [h9] at ho
        cases ho
        refine ⟨⟨by omega, by omega⟩, fun hL hst p e R s mi args below meth c C ad0 m0 ad H locs cells slots ls hR hE hS hl g1 g2 => ?_⟩
        have hav : okA m av := fun x hx => hst x (List.mem_append_left _ (List.mem_reverse.mpr hx))
        have hsto : okA m st := fun x hx => hst x (List.mem_append_right _ hx)
        have hru := hrun p e R s mi args below meth c C ad m H locs cells slots ls st (gA m' - gA m) (gB m' - gB m) _ _ hR hS hav hsto hl.1 hsc (fun q => absurd (hthr'.symm.trans q) (by decide)) (hMt hav ad) (by omega) (by omega)
        intro T hT9 X
        rcases hru T hT9 X with ⟨v9, st₀, t, T', L9, e0, X', hL9, e1, e2, hQ, hgo⟩ | ⟨q, st₀, t, T', L9, E, ce, e0, X', hL9, e1, e2, hX, hce, hcv, hcl, hgo⟩
        · obtain ⟨v8, ad8, hv8, -⟩ := hQ
          cases hv8
        · obtain ⟨e8, ad8, he8, hE8n, hE8, hR8, hF8⟩ := hX
          cases he8
          subst hE8n
          obtain ⟨-, -, k3⟩ := vx_keep (A0 := XA fx) (A1 := XA fx) (free := XA fx) (locs := locs) e0 e1 hS (fun _ _ h => h) (fun _ h => h) hL9 hF8
          obtain ⟨hx', hb, hml, hown, hts, -, hlk, htab, -⟩ := C
          have hout := vx_out (p := p) (l := xl fx) (e := e) (R := R) (s := s) (m := mi) (args := args) (below := below) (meth := meth) (c := c) (H := T'.heap) (locs := locs ++ L9) (cells := cells + (gA m' - gA m)) (slots := slots + (gB m' - gB m)) (ls := ls) (rest := st.map (toV ad)) (Qc := QR fx ad0 m0 (.inr e9) m') (XC := XR fx ad0 m0 (.inr e9) m') (pc := pc) (E := exN e9) (ce := ce) (q := q) (mc := R.cells) (ms := R.slots) (free := XA fx)
            (by rw [htab, hT]; intro x hx; cases hx) hlk (by rw [e1]; exact hce) hcv hcl (fun t9 ht9 _ => ⟨e9, ad8, rfl, rfl, hE.tr hE8, by rw [ht9, e1]; exact hR8, k3.F ht9⟩) k3.2.2 (by omega) (by omega)
          obtain ⟨t2, a1, b1⟩ := hout T' rfl X'
          exact ⟨t2, hgo.trans a1, b1⟩
/-- the combinators of calls -/
def bI {X : Type} (o : MO) (k : Int → MM → Option X) (x : Nat → MM → Option X) : Option X := match o with
  | some (.inl (some (.inl v)), m') => k v m'
  | some (.inr e, m') => x e m'
  | _ => none
def bL {X : Type} (o : MO) (k : Int64 → MM → Option X) (x : Nat → MM → Option X) : Option X := match o with
  | some (.inl (some (.inr (.inr (.inl v)))), m') => k v m'
  | some (.inr e, m') => x e m'
  | _ => none
def bR {X : Type} (o : MO) (k : Option (Nat × Nat) → MM → Option X) (x : Nat → MM → Option X) : Option X := match o with
  | some (.inl (some (.inr (.inr (.inr (.inl v))))), m') => k v m'
  | some (.inr e, m') => x e m'
  | _ => none
def bV {X : Type} (o : MO) (k : MM → Option X) (x : Nat → MM → Option X) : Option X := match o with
  | some (.inl none, m') => k m'
  | some (.inr e, m') => x e m'
  | _ => none
def x0 {X : Type} : Nat → MM → Option X := fun _ _ => none
theorem s_cI {thr : Bool} {av st0 : List MV} {o2 : MO} {X : Type} {k : Int → MM → Option X} {x : Nat → MM → Option X} {kk : X → MO} (hrun : RunOK fx me me2 pc thr av) (hM : MS fx me2 av m o2) (hsc : sc st ≤ 8) (hT : eT me = []) (hst0 : st0 = av.reverse ++ st) (hpc : pc' = pc + 3)
    (hthr : thr = false → ∀ e m2, (x e m2).bind kk = none) (hx : ∀ e m2, (x e m2).bind kk = none ∨ (x e m2).bind kk = some (.inr e, m2)) (h : ∀ v m2, Sim fx me pc' L (aI v :: st) m2 ((k v m2).bind kk)) : Sim fx me pc L st0 m ((bI o2 k x).bind kk) := by
  subst hst0; subst hpc
  refine s_call hrun hM hsc hT (fun q e m2 ho => by rw [ho]; exact hthr q e m2) (fun v m2 ho => ?_) (fun e m2 ho => by rw [ho]; exact hx e m2) (fun ho => by rw [ho]; rfl)
  rw [ho]
  rcases v with _ | (v | v | v | v | v)
  · exact Sim.none
  · exact h v m2
  · exact Sim.none
  · exact Sim.none
  · exact Sim.none
  · exact Sim.none
theorem s_cL {thr : Bool} {av st0 : List MV} {o2 : MO} {X : Type} {k : Int64 → MM → Option X} {x : Nat → MM → Option X} {kk : X → MO} (hrun : RunOK fx me me2 pc thr av) (hM : MS fx me2 av m o2) (hsc : sc st ≤ 8) (hT : eT me = []) (hst0 : st0 = av.reverse ++ st) (hpc : pc' = pc + 3)
    (hthr : thr = false → ∀ e m2, (x e m2).bind kk = none) (hx : ∀ e m2, (x e m2).bind kk = none ∨ (x e m2).bind kk = some (.inr e, m2)) (h : ∀ v m2, Sim fx me pc' L (aL v :: st) m2 ((k v m2).bind kk)) : Sim fx me pc L st0 m ((bL o2 k x).bind kk) := by
  subst hst0; subst hpc
  refine s_call hrun hM hsc hT (fun q e m2 ho => by rw [ho]; exact hthr q e m2) (fun v m2 ho => ?_) (fun e m2 ho => by rw [ho]; exact hx e m2) (fun ho => by rw [ho]; rfl)
  rw [ho]
  rcases v with _ | (v | v | v | v | v)
  · exact Sim.none
  · exact Sim.none
  · exact Sim.none
  · exact h v m2
  · exact Sim.none
  · exact Sim.none
theorem s_cR {thr : Bool} {av st0 : List MV} {o2 : MO} {X : Type} {k : Option (Nat × Nat) → MM → Option X} {x : Nat → MM → Option X} {kk : X → MO} (hrun : RunOK fx me me2 pc thr av) (hM : MS fx me2 av m o2) (hsc : sc st ≤ 8) (hT : eT me = []) (hst0 : st0 = av.reverse ++ st) (hpc : pc' = pc + 3)
    (hthr : thr = false → ∀ e m2, (x e m2).bind kk = none) (hx : ∀ e m2, (x e m2).bind kk = none ∨ (x e m2).bind kk = some (.inr e, m2)) (h : ∀ v m2, Sim fx me pc' L (aR v :: st) m2 ((k v m2).bind kk)) : Sim fx me pc L st0 m ((bR o2 k x).bind kk) := by
  subst hst0; subst hpc
  refine s_call hrun hM hsc hT (fun q e m2 ho => by rw [ho]; exact hthr q e m2) (fun v m2 ho => ?_) (fun e m2 ho => by rw [ho]; exact hx e m2) (fun ho => by rw [ho]; rfl)
  rw [ho]
  rcases v with _ | (v | v | v | v | v)
  · exact Sim.none
  · exact Sim.none
  · exact Sim.none
  · exact Sim.none
  · exact h v m2
  · exact Sim.none
theorem s_cV {thr : Bool} {av st0 : List MV} {o2 : MO} {X : Type} {k : MM → Option X} {x : Nat → MM → Option X} {kk : X → MO} (hrun : RunOK fx me me2 pc thr av) (hM : MS fx me2 av m o2) (hsc : sc st ≤ 8) (hT : eT me = []) (hst0 : st0 = av.reverse ++ st) (hpc : pc' = pc + 3)
    (hthr : thr = false → ∀ e m2, (x e m2).bind kk = none) (hx : ∀ e m2, (x e m2).bind kk = none ∨ (x e m2).bind kk = some (.inr e, m2)) (h : ∀ m2, Sim fx me pc' L st m2 ((k m2).bind kk)) : Sim fx me pc L st0 m ((bV o2 k x).bind kk) := by
  subst hst0; subst hpc
  refine s_call hrun hM hsc hT (fun q e m2 ho => by rw [ho]; exact hthr q e m2) (fun v m2 ho => ?_) (fun e m2 ho => by rw [ho]; exact hx e m2) (fun ho => by rw [ho]; rfl)
  rw [ho]
  rcases v with _ | v
  · exact h m2
  · exact Sim.none
/-- callees that only read -/
theorem s_pI {thr : Bool} {av st0 : List MV} {f : Option Int} {X : Type} {k : Int → Option X} {kk : X → MO} (hrun : RunOK fx me me2 pc thr av) (hM : MS fx me2 av m (f.bind fun v => some (.inl (some (aI v)), m))) (hsc : sc st ≤ 8) (hT : eT me = []) (hst0 : st0 = av.reverse ++ st) (hpc : pc' = pc + 3)
    (h : ∀ v, Sim fx me pc' L (aI v :: st) m ((k v).bind kk)) : Sim fx me pc L st0 m ((f.bind k).bind kk) := by
  subst hst0; subst hpc
  cases f with
  | none => exact Sim.none
  | some v => exact s_call hrun hM hsc hT (fun _ e m2 ho => by cases ho) (fun v m2 ho => by cases ho; exact h _) (fun e m2 ho => by cases ho) (fun ho => by cases ho)
theorem s_pL {thr : Bool} {av st0 : List MV} {f : Option Int64} {X : Type} {k : Int64 → Option X} {kk : X → MO} (hrun : RunOK fx me me2 pc thr av) (hM : MS fx me2 av m (f.bind fun v => some (.inl (some (aL v)), m))) (hsc : sc st ≤ 8) (hT : eT me = []) (hst0 : st0 = av.reverse ++ st) (hpc : pc' = pc + 3)
    (h : ∀ v, Sim fx me pc' L (aL v :: st) m ((k v).bind kk)) : Sim fx me pc L st0 m ((f.bind k).bind kk) := by
  subst hst0; subst hpc
  cases f with
  | none => exact Sim.none
  | some v => exact s_call hrun hM hsc hT (fun _ e m2 ho => by cases ho) (fun v m2 ho => by cases ho; exact h _) (fun e m2 ho => by cases ho) (fun ho => by cases ho)
theorem s_pR {thr : Bool} {av st0 : List MV} {f : Option (Option (Nat × Nat))} {X : Type} {k : Option (Nat × Nat) → Option X} {kk : X → MO} (hrun : RunOK fx me me2 pc thr av) (hM : MS fx me2 av m (f.bind fun v => some (.inl (some (aR v)), m))) (hsc : sc st ≤ 8) (hT : eT me = []) (hst0 : st0 = av.reverse ++ st) (hpc : pc' = pc + 3)
    (h : ∀ v, Sim fx me pc' L (aR v :: st) m ((k v).bind kk)) : Sim fx me pc L st0 m ((f.bind k).bind kk) := by
  subst hst0; subst hpc
  cases f with
  | none => exact Sim.none
  | some v => exact s_call hrun hM hsc hT (fun _ e m2 ho => by cases ho) (fun v m2 ho => by cases ho; exact h _) (fun e m2 ho => by cases ho) (fun ho => by cases ho)
end SCa
