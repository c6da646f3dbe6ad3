/-! arraycopy; methods with handlers. -/
section SCt
variable {fx : FX} {me me2 : ME} {pc pc' : Nat} {L : List (Nat × MV)} {st : List MV} {m : MM} {o : MO}
theorem s_copy {K i1 i2 idx : Nat} {sp dp n : Int} {X : Type} {f : MM → Option X} {kk : X → MO} (d : dk me pc (.invokestatic idx) 3 pc') (hK : 13 ≤ K ∧ KT K = .int) (w1 : Cond.methodLink (eY me).cls idx arraycopyName ∈ GW) (w2 : Cond.native arraycopyName ∈ GW) (w3 : Cond.static arraycopyName ∈ GW) (w4 : Cond.initialized "java/lang/System" ∈ GW) (hf1 : 1 ≤ eF me) (hf2 : sc st + (nativeFrameWords "java/lang/System" "arraycopy" 5 + 11) ≤ eP me)
    (h : ∀ m1, Sim fx me pc' L st m1 ((f m1).bind kk)) : Sim fx me pc L (aI n :: aI dp :: aR (some (K, i2)) :: aI sp :: aR (some (K, i1)) :: st) m ((cpN m K i1 sp i2 dp n f).bind kk) := by
  obtain ⟨d, rfl⟩ := d
  unfold cpN
  split
  next hc =>
    refine Sim.mk (m1 := cpM m K i1 sp.toNat i2 dp.toNat n.toNat) 0 0 rfl rfl (h _) fun p e R s mi args below meth c C ad H locs cells slots ls Q hR hS hL hst hl g1 g2 kk => ?_
    obtain ⟨hx, hb, hml, hown, hts, -, -, -, hKH, -, hf, hp, -⟩ := C
    have hstr := okS (okS (okS (okS (okS hst))))
    obtain ⟨n1, hz1⟩ := liveN (okH (okS (okS (okS (okS hst)))))
    obtain ⟨n2, hz2⟩ := liveN (okH (okS (okS hst)))
    obtain ⟨a1, a2, a3, a4⟩ := z_arr hR hz1 hK hKH.1 (by decide)
    obtain ⟨b1, b2, b3, b4⟩ := z_arr hR hz2 hK hKH.1 (by decide)
    rw [lenI_of hz1, lenI_of hz2] at hc
    obtain ⟨⟨c1, c2, c3⟩, c4, c5⟩ := hc
    have cv : ∀ z : Int, 0 ≤ z → z ≤ n1 ∨ z ≤ n2 → (Int32.ofInt z).toInt = z ∧ (Int32.ofInt z).toNatClampNeg = z.toNat ∧ ¬ Int32.ofInt z < 0 := by
      intro z h0 h1
      have hj : (Int32.ofInt z).toInt = z := ofT ⟨by omega, by omega⟩
      refine ⟨hj, ?_, fun h => ?_⟩
      · show (Int32.ofInt z).toInt.toNat = z.toNat
        rw [hj]
      · rw [Int32.lt_iff_toInt_lt, hj] at h
        have : (0 : Int32).toInt = 0 := rfl
        omega
    obtain ⟨s1, s2, s3⟩ := cv sp c1 (by omega)
    obtain ⟨d1, d2, d3⟩ := cv dp c2 (by omega)
    obtain ⟨e1, e2, e3⟩ := cv n c3 (by omega)
    intro T hT X
    obtain ⟨-, k0, hk0, cm0, hkk0⟩ := a2 n1 (fun j => .int (Int32.ofInt (gN m K i1 j)))
    obtain ⟨-, k1, hk1, cm1, hkk1⟩ := b2 n2 (fun j => .int (Int32.ofInt (gN m K i2 j)))
    obtain ⟨vm', X', step⟩ := X.arraycopy hx hown (hts _ w1) (hts _ w2) (hts _ w3) (hts _ w4) (src := ad K i1) (dst := ad K i2) (cs := arrV (xA fx .int) n1 (fun j => .int (Int32.ofInt (gN m K i1 j)))) (cd := arrV (xA fx .int) n2 (fun j => .int (Int32.ofInt (gN m K i2 j)))) (srcPos := Int32.ofInt sp) (destPos := Int32.ofInt dp) (n := Int32.ofInt n) (by rw [hT]; exact a1) (by rw [hT]; exact b1)
      (fun _ h => by cases h) (fun _ h => by cases h) (fun h => by cases h) (fun h => by cases h) hk0 hk1 hkk0 hkk1 (by rfl) s3 d3 e3
      (by rw [s1, e1, arrV_size]; omega) (by rw [d1, e1, arrV_size]; omega)
      (fun vm₁ _ i hi => by
        rw [s2]
        rw [e2] at hi
        have e : (arrV (xA fx .int) n1 (fun j => .int (Int32.ofInt (gN m K i1 j)))).slots.getD (sp.toNat + i) .null = .int (Int32.ofInt (gN m K i1 (sp.toNat + i))) := by
          rw [Array.getD_eq_getD_getElem?, arrV_read _ _ (by omega)]
          rfl
        refine ⟨?_, ?_⟩
        · rw [e]; rfl
        · rw [e]; exact trivial)
      (g := F0 mi pc ls (.int (Int32.ofInt n) :: .int (Int32.ofInt dp) :: .ref (ad K i2) :: .int (Int32.ofInt sp) :: .ref (ad K i1) :: st.map (toV ad))) rfl (by rw [hml]; exact hl) (rest := st.map (toV ad)) rfl (by rw [hb]; exact d) (by rw [hf]; exact hf1) (by show 2 * 0 + _ + _ ≤ _; rw [sc_sum hstr, hp]; omega)
    have ec : copied (arrV (xA fx .int) n1 (fun j => .int (Int32.ofInt (gN m K i1 j)))) (arrV (xA fx .int) n2 (fun j => .int (Int32.ofInt (gN m K i2 j)))) (Int32.ofInt sp) (Int32.ofInt dp) (Int32.ofInt n) = arrV (xA fx .int) n2 (fun j => .int (va_cpy (fun j => Int32.ofInt (gN m K i1 j)) (fun j => Int32.ofInt (gN m K i2 j)) sp.toNat dp.toNat n.toNat j)) := by
      have h9 := va_copied (fun z => .int z) (xA fx .int) (xA fx .int) (n0 := n1) (n1 := n2) (sp := sp.toNat) (dp := dp.toNat) (n := n.toNat) (fun j => Int32.ofInt (gN m K i1 j)) (fun j => Int32.ofInt (gN m K i2 j)) (by omega)
      rw [← h9]
      unfold copied
      rw [s2, d2, e2]
    rw [ec] at X' step
    have hlt : ad K i2 < H.size := hR.lt K i2 n2 hz2
    have oq : ∀ (cell : Cell) (q : Nat), q ≠ ad K i2 → (H.setIfInBounds (ad K i2) cell)[q]? = H[q]? := fun cell q hq => by simp [Array.getElem?_setIfInBounds, Ne.symm hq]
    have hM : OKM (cpM m K i1 sp.toNat i2 dp.toNat n.toNat) := by
      obtain ⟨h1, h2, h3, h4⟩ := hR.2.2
      refine ⟨h1, fun a b c => ?_, h3, fun a b hab c => ⟨?_, (h4 a b hab c).2⟩⟩
      · rw [gN_cpM]; split
        · exact h2 _ _ _
        · exact h2 a b c
      · rw [gN_cpM, if_neg]
        · exact (h4 a b hab c).1
        · rintro ⟨rfl, rfl, -⟩
          have hab : gZ m a b = none := hab
          rw [hz2] at hab; cases hab
    have hRep : Rep fx ad (cpM m K i1 sp.toNat i2 dp.toNat n.toNat) (H.setIfInBounds (ad K i2) (arrV (xA fx .int) n2 (fun j => .int (va_cpy (fun j => Int32.ofInt (gN m K i1 j)) (fun j => Int32.ofInt (gN m K i2 j)) sp.toNat dp.toNat n.toNat j)))) := by
      refine hR.upd (K := K) (i := i2) (n := n2) (fun _ _ => rfl) hz2 (fun a b c hne => ⟨?_, rfl, rfl⟩) ⟨b4, fun h => absurd h (by omega), fun _ => ?_⟩ (oq _) hM
      · rw [gN_cpM, if_neg (fun q => hne ⟨q.1, q.2.1⟩)]
      · rw [hK.2]
        rw [Array.getElem?_setIfInBounds, if_pos rfl, if_pos hlt]
        congr 2
        funext j
        show Value.int _ = Value.int _
        rw [gN_cpM]
        unfold va_cpy
        by_cases q : dp.toNat ≤ j ∧ j < dp.toNat + n.toNat
        · rw [if_pos q, if_pos ⟨rfl, rfl, q⟩]
        · rw [if_neg q, if_neg (fun z => q z.2.2)]
    have hE : Ext m ad (cpM m K i1 sp.toNat i2 dp.toNat n.toNat) ad := fun _ _ _ h => ⟨h, rfl⟩
    have hge : xB fx ≤ ad K i2 := (hR.1 K i2 n2 hz2).2
    obtain ⟨t, a9, b9⟩ := kk ad _ _ hRep hE ⟨by simp; exact hS.1, fun q g1 g2 => by
        rw [oq _ q (fun e => g2 (by rw [e]; exact hge))]
        exact hS.2.1 q g1 g2, fun q hq => by
        rcases List.mem_append.mp hq with h | h
        · exact hS.2.2 q h
        · obtain ⟨z, -, hz⟩ := List.mem_map.mp h
          rw [← hz]
          exact hge⟩ (okA_ext hE hstr) _ (by rw [← hT]; rfl) X'
    exact ⟨t, step t a9, b9⟩
  next => exact Sim.none
/-- a method with handlers -/
theorem ms_ofH {av : List MV} {n : Nat} {h0 : Nat × Nat × Nat × Nat} {hh : List (Nat × Nat × Nat × Nat)} (hT : eT me = h0 :: hh) (hF : mF me n) (hn : sc av ≤ eN me) (h : Sim fx me 0 (argL 0 av) [] m o) : MS fx me av m o := by
  intro r m' ho
  obtain ⟨h1, h2⟩ := h r m' ho
  refine ⟨h1, fun hok ad => ?_⟩
  obtain ⟨hpl, hI, hcd, hini, -⟩ := hF
  have hcde : cdM me = .codeWith (eY me) (eB me) (eN me) (eR me) (eT me) := by unfold cdM; rw [hT]
  refine vx_ofWH (cc := eB me) (maxL := eN me) (ret := eR me) (hh := eT me) (ws' := GW) hpl (by unfold wsM; rw [hcde]) ?_
  intro p e s mi args below meth c s₁ B hml hv
  obtain ⟨rfl, hR, hKH, hbase, hstt⟩ := hv
  have hts := atoms_spec (ws := wsM me) B.pre
  rw [lg_entry_eq]
  have hl := lv_entry (av.map (toV ad)) (n := eN me) (by rw [sc_sl hok]; exact hn)
  rw [argL_map hok] at hl
  refine h2 (argL_ok hok 0) (fun q hq => by cases hq) p e _ s mi _ below meth c ⟨B.exec, B.bytes, hml, findClass_of_methodNamed B.named, fun w hw => hts w (List.mem_cons_of_mem _ hw), B.returns, B.notSynchronized, ?_, hKH, fun q => (name_of_methodNamed B.named B.method).1.trans (hI q), rfl, rfl, hbase, hstt⟩
    ad m ad s.heap [] 0 0 _ hR Ext.rf va_S.rf hl ?_ ?_
  · exact vx_table (x := eY me) B (hts _ (by unfold wsM; rw [hcde]; exact List.mem_cons_self))
  · show gA m' + 0 ≤ gA m + (gA m' - gA m); omega
  · show gB m' + 0 ≤ gB m + (gB m' - gB m); omega
/-- a static call of a method with handlers -/
theorem run_SX {idx n : Nat} {av : List MV} {h0 : Nat × Nat × Nat × Nat} {hh : List (Nat × Nat × Nat × Nat)} (d : dk me pc (.invokestatic idx) 3 pc') (hF : mF me2 n) (hT : eT me2 = h0 :: hh) (w1 : Cond.methodLink (eY me).cls idx (eY me2) ∈ GW) (w2 : Cond.static (eY me2) ∈ GW) (hfr : eF me2 + 1 ≤ eF me ∧ 8 + (eN me2 + 11) + eP me2 ≤ eP me) (hn : av.length = n) : RunOK fx me me2 pc true av := by
  intro p e R s mi args below meth c C ad m H locs cells slots ls rest dA dB Qc XC hR hS hav hrest hls hsc hx hM g1 g2
  have hpc := pc_of (av := av) C hR hS
  obtain ⟨hx', hb, hml, hown, hts, -, -, -, hKH, -, hf, hp, -⟩ := C
  obtain ⟨-, -, hcd, hini, hd1, hd2, hd3⟩ := hF
  have hcde : cdM me2 = .codeWith (eY me2) (eB me2) (eN me2) (eR me2) (eT me2) := by unfold cdM; rw [hT]
  have hT9 : GoodIn GW (va_wsS (eY me).cls idx (eY me2) (wsM me2)) := by
    intro w hw
    have : w ∈ GW := by
      unfold va_wsS at hw
      rcases List.mem_append.mp hw with h | h
      · simp only [List.mem_cons, List.not_mem_nil, or_false] at h
        rcases h with rfl | rfl | rfl
        · exact w1
        · exact w2
        · exact hini
      · exact (gw_ws hcd w h).1
    exact ⟨this, good_of_word (gw_good this)⟩
  have hcw := vx_cwSW (R := R) (args := args) (own := (eY me).cls) (index := idx) (maxL := eN me2) (mc := dA) (ms := dB) (y := eY me2) (bytes := eB me2) (ret := eR me2) (hh := eT me2) (ws := wsM me2) (ws' := GW) (rm := rmM me2 dA dB) n hts hT9 (by unfold wsM; rw [hcde]) rfl rfl ⟨hd1, hd2, hd3⟩ ⟨by rw [hf]; exact hfr.1, by rw [hp]; exact hfr.2⟩
  exact vx_runSX (Ts := GW) (own := (eY me).cls) (As := av.map (toV ad)) (rest := rest.map (toV ad)) (nL := eN me) ⟨hx', hb, hml, hown, hts⟩ hM hcw ⟨PcM.blind _ _ _ _, hpc⟩ rfl (by rw [List.length_map]; exact hn) hls (by rw [List.map_append, List.map_reverse]) (hW_of hrest hsc) d.1 ⟨g1, g2⟩
/-- the entry of the table that takes an exception: those ahead name other classes -/
def Takes (me : ME) (pc e hpc : Nat) : List (Nat × Nat × Nat × Nat) → Prop
  | [] => False
  | x :: t => covers ⟨x.1, x.2.1, x.2.2.1, x.2.2.2⟩ pc = true ∧ x.2.2.2 ≠ 0 ∧ ∃ f, Cond.classLink (eY me).cls x.2.2.2 (exN f) ∈ GW ∧ ((exN f = exN e ∧ x.2.2.1 = hpc) ∨ (exN e ≠ exN f ∧ Takes me pc e hpc t))
theorem z_catch {p : Program} {l : Launch} {e9 : Env} {R : Room} {s : State} {mi : MethodId} {args : Array Value} {below : List Frame} {meth : Method} {c : Code} {H : Heap} {locs : List Loc} {cells slots : Nat} {Q : State → Prop} {ls : Array Slot} {rest : List Value} {e hpc : Nat} {ce : Cell} {q : Addr} (hown : s.vm.findClass (eY me).cls = some mi.cls) (hts : ∀ w ∈ GW, w.before args s = true) (hKK : KK fx s) (hcell : H[q]? = some ce) (hv : ce.vm = .none) (hcl : s.vm.findClass (exN e) = some ce.cls)
    (kk : W p l e9 R s mi args below meth c H locs cells slots Q (F0 mi hpc ls [.ref q])) : ∀ (T pre : List (Nat × Nat × Nat × Nat)), Takes me pc e hpc T → c.exceptionTable.toList = tableOf (pre ++ T) → (∀ z ∈ tableOf pre, covers z pc = false ∨ (z.catchType ≠ 0 ∧ ∃ nm : String, (Cond.classLink (eY me).cls z.catchType nm).before args s = true ∧ va_Nc (exN e) nm s)) → vx_W p l e9 R s mi args below meth c H locs cells slots Q (F0 mi pc ls rest) q := by
  intro T
  induction T with
  | nil => intro pre h; exact h.elim
  | cons x t ih =>
    intro pre hT htab hpre
    obtain ⟨h1, h2, f, h3, h4⟩ := hT
    rcases h4 with ⟨h4, h5⟩ | ⟨h4, h5⟩
    · subst h5
      refine vx_catch (own := (eY me).cls) (name := exN f) (E := exN e) (ce := ce) hown (tableOf pre) ⟨x.1, x.2.1, x.2.2.1, x.2.2.2⟩ (tableOf t) (by rw [htab]; unfold tableOf; rw [List.map_append]; rfl) hpre h1 h2 (hts _ h3) (by rw [h4]; exact va_Nw.use rfl (hKK.2.2.2.2.2.2.1 e).1) hcell hv hcl kk
    · refine ih (pre ++ [x]) h5 (by rw [htab, List.append_assoc]; rfl) ?_
      intro z hz
      unfold tableOf at hz
      rw [List.map_append] at hz
      rcases List.mem_append.mp hz with h | h
      · exact hpre z h
      · rw [List.mem_singleton.mp h]
        exact Or.inr ⟨h2, exN f, hts _ h3, hKK.2.2.2.2.2.2.2 e f h4⟩
theorem s_callC {av : List MV} {o2 : MO} (hrun : RunOK fx me me2 pc true av) (hM : MS fx me2 av m o2) (hsc : sc st ≤ 8)
    (hr : ∀ v m2, o2 = some (.inl v, m2) → Sim fx me (pc + 3) L (v.toList ++ st) m2 o) (hx : ∀ e m2, o2 = some (.inr e, m2) → o = none ∨ ∃ hpc, Takes me pc e hpc (eT me) ∧ ∀ q, Sim fx me hpc L [aV (.ref q)] m2 o) (hn : o2 = none → o = none) : Sim fx me pc L (av.reverse ++ st) m o := by
  intro r m' ho
  cases ho2 : o2 with
  | none => rw [hn ho2] at ho; cases ho
  | some q =>
    obtain ⟨r2, m2⟩ := q
    obtain ⟨⟨q1, q2⟩, hMt⟩ := hM r2 m2 ho2
    cases r2 with
    | inl v =>
      obtain ⟨⟨h1, h1'⟩, h2⟩ := hr v m2 ho2 r m' ho
      refine ⟨⟨by omega, by omega⟩, fun hL hst p e R s mi args below meth c C ad0 m0 ad H locs cells slots ls hR hE hS hl g1 g2 => ?_⟩
      have hav : okA m av := fun x hx => hst x (List.mem_append_left _ (List.mem_reverse.mpr hx))
      have hsto : okA m st := fun x hx => hst x (List.mem_append_right _ hx)
      have hru := hrun p e R s mi args below meth c C ad m H locs cells slots ls st (gA m2 - gA m) (gB m2 - gB m) _ _ hR hS hav hsto hl.1 hsc (fun q => by cases q) (hMt hav ad) (by omega) (by omega)
      intro T hT9 X
      rcases hru T hT9 X with ⟨v9, st₀, t, T', L9, e0, X', hL9, e1, e2, hQ, hgo⟩ | ⟨_, _, _, _, _, _, _, -, -, -, -, -, hX, -⟩
      · obtain ⟨v8, ad8, hv8, hE8, ho8, hR8, hok8, hF8⟩ := hQ
        cases hv8
        cases ho8
        obtain ⟨-, -, k3⟩ := vx_keep (A0 := XA fx) (A1 := XA fx) (free := XA fx) (locs := locs) e0 e1 hS (fun _ _ h => h) (fun _ h => h) hL9 hF8
        have hst2 : okA m2 (v.toList ++ st) := by
          intro x hx
          rcases List.mem_append.mp hx with h | h
          · exact hok8 x (by cases v with
              | none => cases h
              | some y => rw [List.mem_singleton.mp h])
          · exact okA_ext hE8 hsto x h
        have hW := h2 (okL_ext hE8 hL) hst2 p e R s mi args below meth c C ad0 m0 ad8 T'.heap (locs ++ L9) (cells + (gA m2 - gA m)) (slots + (gB m2 - gB m)) ls (by rw [e1]; exact hR8) (hE.tr hE8) k3 (by rw [mapL_ext hE8 hL]; exact hl) (by omega) (by omega)
        rw [List.map_append, mapV_ext hE8 hsto, show v.toList.map (toV ad8) = (v.map (toV ad8)).toList by cases v <;> rfl] at hW
        obtain ⟨t2, a1, b1⟩ := hW T' rfl X'
        exact ⟨t2, hgo t2 a1, b1⟩
      · obtain ⟨e9, _, h9, -⟩ := hX
        cases h9
    | inr e9 =>
      rcases hx e9 m2 ho2 with h9 | ⟨hpc, hTk, hS9⟩
      · rw [h9] at ho; cases ho
      · refine ⟨?_, fun hL hst p e R s mi args below meth c C ad0 m0 ad H locs cells slots ls hR hE hS hl g1 g2 => ?_⟩
        · obtain ⟨⟨h1, h1'⟩, -⟩ := hS9 0 r m' ho
          exact ⟨by omega, by omega⟩
        have hav : okA m av := fun x hx => hst x (List.mem_append_left _ (List.mem_reverse.mpr hx))
        have hsto : okA m st := fun x hx => hst x (List.mem_append_right _ hx)
        have hmono := (hS9 0 r m' ho).1
        have hru := hrun p e R s mi args below meth c C ad m H locs cells slots ls st (gA m2 - gA m) (gB m2 - gB m) _ _ hR hS hav hsto hl.1 hsc (fun q => by cases q) (hMt hav ad) (by omega) (by omega)
        intro T hT9 X
        rcases hru T hT9 X with ⟨v9, st₀, t, T', L9, e0, X', hL9, e1, e2, hQ, hgo⟩ | ⟨q, st₀, t, T', L9, E, ce, e0, X', hL9, e1, e2, hX, hce, hcv, hcl, hgo⟩
        · obtain ⟨v8, ad8, hv8, -⟩ := hQ
          cases hv8
        · obtain ⟨e8, ad8, he8, hE8n, hE8, hR8, hF8⟩ := hX
          cases he8
          subst hE8n
          obtain ⟨-, -, k3⟩ := vx_keep (A0 := XA fx) (A1 := XA fx) (free := XA fx) (locs := locs) e0 e1 hS (fun _ _ h => h) (fun _ h => h) hL9 hF8
          have hW := (hS9 q r m' ho).2 (okL_ext hE8 hL) (okC' (v := aV (.ref q)) rfl (fun x hx => by cases hx)) p e R s mi args below meth c C ad0 m0 ad8 T'.heap (locs ++ L9) (cells + (gA m2 - gA m)) (slots + (gB m2 - gB m)) ls (by rw [e1]; exact hR8) (hE.tr hE8) k3 (by rw [mapL_ext hE8 hL]; exact hl) (by omega) (by omega)
          obtain ⟨hx', hb, hml, hown, hts, -, hlk, htab, hKH, -⟩ := C
          have hout := z_catch (fx := fx) (me := me) (pc := pc) (rest := st.map (toV ad)) hown hts hKH.1 (by rw [e1]; exact hce) hcv hcl hW (eT me) [] hTk (by rw [htab]; rfl) (fun z hz => by cases hz)
          obtain ⟨t2, a1, b1⟩ := hout T' rfl X'
          exact ⟨t2, hgo.trans a1, b1⟩
end SCt
