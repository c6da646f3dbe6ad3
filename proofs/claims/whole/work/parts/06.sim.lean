def nestL : List (String × Nat × MethodName × String) := [("Leadchapel", 9, ⟨"Leadchapel$Words", "<init>", "()V"⟩, "Leadchapel"), ("Leadchapel", 41, ⟨"Leadchapel$Press", "<init>", "()V"⟩, "Leadchapel"), ("Leadchapel", 48, ⟨"Leadchapel$Scholar", "<init>", "()V"⟩, "Leadchapel"), ("Leadchapel$Words", 33, ⟨"Leadchapel", "isLetter", "(I)Z"⟩, "Leadchapel"), ("Leadchapel$Book", 11, ⟨"Leadchapel$Text", "<init>", "()V"⟩, "Leadchapel"), ("Leadchapel$Book", 110, ⟨"Leadchapel", "letters", "(J)I"⟩, "Leadchapel"), ("Leadchapel$Page", 120, ⟨"Leadchapel", "letters", "(J)I"⟩, "Leadchapel"), ("Leadchapel$Text", 67, ⟨"Leadchapel", "letters", "(J)I"⟩, "Leadchapel"), ("Leadchapel$Page", 155, ⟨"Leadchapel", "letterAt", "(JI)I"⟩, "Leadchapel"), ("Leadchapel$Scholar", 110, ⟨"Leadchapel", "workingHoursAhead", "(I)I"⟩, "Leadchapel")]
def strL : List (Nat × String) := [(455, "an argument is out of range, or the tape does not serve"), (460, "the house is not in a state for this"), (448, "there is no such one"), (463, "there is no such book"), (469, "there is no such page"), (465, "there is no such hand"), (471, "there is no such forme"), (467, "there is no such press")]
def ovL : List String := ["Leadchapel$Hand", "Leadchapel$Book", "Leadchapel$Press", "Leadchapel$Page", "Leadchapel$Forme", "Leadchapel$Sheet"]
def aTys : List FieldType := [.int, .long, .boolean, .object "Leadchapel$Book", .object "Leadchapel$Forme", .object "Leadchapel$Hand", .object "Leadchapel$Page", .object "Leadchapel$Press", .object "Leadchapel$Sheet", .array .int]
def exN : Nat → String
  | 0 => "java/lang/IndexOutOfBoundsException"
  | 1 => "java/lang/IllegalArgumentException"
  | _ => "java/lang/IllegalStateException"
def suN : Nat → String
  | 0 => "java/lang/RuntimeException"
  | 1 => "java/lang/Exception"
  | _ => "java/lang/Throwable"
def GW : List Cond := lw_tbl.filter goodWord
theorem gw {w : Cond} (i : Nat) (h : lw_tbl[i]? = some w) (g : goodWord w = true) : w ∈ GW := List.mem_filter.mpr ⟨List.mem_of_getElem? h, g⟩
theorem gw_good {w : Cond} (h : w ∈ GW) : goodWord w = true := (List.mem_filter.mp h).2
theorem gw_sub {big : List Cond} (h : ∀ w ∈ GW, w ∈ big) : GoodIn big GW := fun w hw => ⟨h w hw, good_of_word (gw_good hw)⟩
/-- what the tables say of classes, arrays, links among nest mates, texts, exceptions -/
def KK (fx : FX) (U : State) : Prop :=
  va_K (xC fx, xI fx) vwCl [] U ∧ (∀ ty ∈ aTys, ArrOfT U (xA fx ty) ty ∧ va_RA U (xA fx ty) ty) ∧ (∀ q ∈ nestL, va_Nw (.methodLinkNest q.1 q.2.1 q.2.2.1 q.2.2.2) U) ∧
  (∀ C ∈ ovL, va_AO C U) ∧ va_AOA .int U ∧ (∀ q ∈ strL, ∃ a, vk_R "Leadchapel" q.1 q.2 a U) ∧ (∀ e, va_Nw (.castable (exN e) (exN e)) U ∧ va_Nw (.declares (Bundle.initS (suN e))) U) ∧ (∀ e f, exN e ≠ exN f → va_Nc (exN e) (exN f) U)
theorem va_AOA.warm {ty : FieldType} {s U : State} (hW : s.vm.Alike U.vm) (h : va_AOA ty s) : va_AOA ty U := by
  have h1 : (Cond.arrayOver (.array ty)).before #[] (s.setVm U.vm) = true := by rw [Cond.arrayOver_setVmC hW]; exact h
  exact h1
theorem KK.warm {fx : FX} {s U : State} (hW : s.WarmedH U.vm) (h : KK fx s) : KK fx U := by
  obtain ⟨h1, h2, h3, h4, h5, h6, h7, h8⟩ := h
  have ha := hW.alike
  exact ⟨h1.moved ha, fun ty ht => ⟨arrOfT_moved ha (h2 ty ht).1, (h2 ty ht).2.moved ha⟩, fun q hq => va_Nw.warmM hW (h3 q hq), fun C hC => va_AO.moved ha (h4 C hC), h5.warm ha,
    fun q hq => (h6 q hq).imp fun a h => vk_R.warm hW h, fun e => ⟨va_Nw.warmC hW (h7 e).1, va_Nw.warmD hW (h7 e).2⟩, fun e f hf => va_Nc.moved ha (h8 e f hf)⟩
def XA (fx : FX) : Nat → Prop := fun q => xB fx ≤ q
def KH (fx : FX) (U : State) : Prop := KK fx U ∧ vx_Zq Bundle.tN "UNASSIGNED_STACK" Bundle.steD (XA fx) U U.heap ∧ vx_Zq Bundle.tN "SUPPRESSED_SENTINEL" Bundle.listD (XA fx) U U.heap ∧ va_X (xb fx) (xn fx) (xs fx) U U.heap ∧ xb fx < U.heap.size ∧ xb fx < xB fx
theorem KH.to {fx : FX} {s U : State} {locs : List Loc} (hW : s.WarmedH U.vm) (hS : va_S (XA fx) s.heap U.heap locs) (h : KH fx s) : KH fx U :=
  ⟨h.1.warm hW, vx_Zq.moved hW.alike (h.2.1.kept hS.2.1), vx_Zq.moved hW.alike (h.2.2.1.kept hS.2.1), va_X.moved hW.alike (h.2.2.2.1.kept (hS.2.1 _ h.2.2.2.2.1 (Nat.not_le.mpr h.2.2.2.2.2))), Nat.lt_of_lt_of_le h.2.2.2.2.1 hS.1, h.2.2.2.2.2⟩
/-- a method: its name, code, locals, kind of answer, frames and locals below it, whether it is a constructor, its handlers -/
abbrev ME : Type := MethodName × ByteArray × Nat × Option FieldType × Nat × Nat × Bool × List (Nat × Nat × Nat × Nat)
def eY (me : ME) : MethodName := me.1
def eB (me : ME) : ByteArray := me.2.1
def eN (me : ME) : Nat := me.2.2.1
def eR (me : ME) : Option FieldType := me.2.2.2.1
def eF (me : ME) : Nat := me.2.2.2.2.1
def eP (me : ME) : Nat := me.2.2.2.2.2.1
def eI (me : ME) : Bool := me.2.2.2.2.2.2.1
def eT (me : ME) : List (Nat × Nat × Nat × Nat) := me.2.2.2.2.2.2.2
def Ctx (fx : FX) (me : ME) (p : Program) (R : Room) (s : State) (mi : MethodId) (args : Array Value) (meth : Method) (c : Code) : Prop :=
  p.tables.exec = Jvm.exec ∧ c.code = eB me ∧ c.maxLocals = eN me ∧ s.vm.findClass (eY me).cls = some mi.cls ∧ (∀ w ∈ GW, w.before args s = true) ∧ meth.sig.returnType = eR me ∧ meth.locks = false ∧
  c.exceptionTable.toList = tableOf (eT me) ∧ KH fx s ∧ (eI me = true → meth.name = "<init>") ∧ R.frames = eF me ∧ R.locals = eP me ∧ xB fx ≤ s.heap.size ∧ (xl fx).stackTraces = false
/-- how a method ends -/
def QR (fx : FX) (ad0 : Nat → Nat → Nat) (m0 : MM) (r : RV) (m' : MM) : Array Value → State → Outcome → State → Prop := fun _ st o t =>
  ∃ (v : Option MV) (ad : Nat → Nat → Nat), r = .inl v ∧ Ext m0 ad0 m' ad ∧ o = .returned (v.map (toV ad)) ∧ Rep fx ad m' t.heap ∧ (∀ x, v = some x → okV m' x) ∧ va_F (XA fx) st t
def XR (fx : FX) (ad0 : Nat → Nat → Nat) (m0 : MM) (r : RV) (m' : MM) : String → State → State → Prop := fun E st t =>
  ∃ (e : Nat) (ad : Nat → Nat → Nat), r = .inr e ∧ E = exN e ∧ Ext m0 ad0 m' ad ∧ Rep fx ad m' t.heap ∧ va_F (XA fx) st t
def SW (fx : FX) (me : ME) (pc : Nat) (L : List (Nat × MV)) (st : List MV) (m : MM) (r : RV) (m' : MM) : Prop :=
  okL m L → okA m st → ∀ (p : Program) (e : Env) (R : Room) (s : State) (mi : MethodId) (args : Array Value) (below : List Frame) (meth : Method) (c : Code), Ctx fx me p R s mi args meth c →
  ∀ (ad0 : Nat → Nat → Nat) (m0 : MM) (ad : Nat → Nat → Nat) (H : Heap) (locs : List Loc) (cells slots : Nat) (ls : Array Slot), Rep fx ad m H → Ext m0 ad0 m ad → va_S (XA fx) s.heap H locs → lv_has ls (eN me) (L.map fun q => (q.1, toV ad q.2)) →
  gA m' + cells ≤ gA m + R.cells → gB m' + slots ≤ gB m + R.slots →
  W p (xl fx) e R s mi args below meth c H locs cells slots (vx_MQ below (QR fx ad0 m0 r m') (XR fx ad0 m0 r m') args s R.cells R.slots (XA fx)) (F0 mi pc ls (st.map (toV ad)))
/-- the machine at pc does what the program o says -/
def Sim (fx : FX) (me : ME) (pc : Nat) (L : List (Nat × MV)) (st : List MV) (m : MM) (o : MO) : Prop :=
  ∀ r m', o = some (r, m') → (gA m ≤ gA m' ∧ gB m ≤ gB m') ∧ SW fx me pc L st m r m'
/-- a step that leaves the memory -/
theorem Sim.stp {fx : FX} {me : ME} {pc pc' : Nat} {L L' : List (Nat × MV)} {st st' : List MV} {m : MM} {o : MO} (h : Sim fx me pc' L' st' m o) (hok : okL m L → okA m st → okL m L' ∧ okA m st')
    (hw : ∀ (p : Program) (e : Env) (R : Room) (s : State) (mi : MethodId) (args : Array Value) (below : List Frame) (meth : Method) (c : Code), Ctx fx me p R s mi args meth c → ∀ (ad : Nat → Nat → Nat) (H : Heap) (locs : List Loc) (cells slots : Nat) (ls : Array Slot) (Q : State → Prop),
      Rep fx ad m H → va_S (XA fx) s.heap H locs → okL m L → okA m st → lv_has ls (eN me) (L.map fun q => (q.1, toV ad q.2)) → cells ≤ R.cells → slots ≤ R.slots → (∀ ls', lv_has ls' (eN me) (L'.map fun q => (q.1, toV ad q.2)) → W p (xl fx) e R s mi args below meth c H locs cells slots Q (F0 mi pc' ls' (st'.map (toV ad)))) →
      W p (xl fx) e R s mi args below meth c H locs cells slots Q (F0 mi pc ls (st.map (toV ad)))) : Sim fx me pc L st m o := by
  intro r m' ho
  obtain ⟨h1, h2⟩ := h r m' ho
  refine ⟨h1, fun hL hst p e R s mi args below meth c C ad0 m0 ad H locs cells slots ls hR hE hS hl g1 g2 => ?_⟩
  obtain ⟨hL', hst'⟩ := hok hL hst
  exact hw p e R s mi args below meth c C ad H locs cells slots ls _ hR hS hL hst hl (by omega) (by omega) fun ls' hl' => h2 hL' hst' p e R s mi args below meth c C ad0 m0 ad H locs cells slots ls' hR hE hS hl' g1 g2
/-- .. and the locals -/
theorem Sim.stk {fx : FX} {me : ME} {pc pc' : Nat} {L : List (Nat × MV)} {st st' : List MV} {m : MM} {o : MO} (h : Sim fx me pc' L st' m o) (hok : okL m L → okA m st → okA m st')
    (hw : ∀ (p : Program) (e : Env) (R : Room) (s : State) (mi : MethodId) (args : Array Value) (below : List Frame) (meth : Method) (c : Code), Ctx fx me p R s mi args meth c → ∀ (ad : Nat → Nat → Nat) (H : Heap) (locs : List Loc) (cells slots : Nat) (ls : Array Slot) (Q : State → Prop),
      Rep fx ad m H → va_S (XA fx) s.heap H locs → okL m L → okA m st → lv_has ls (eN me) (L.map fun q => (q.1, toV ad q.2)) → cells ≤ R.cells → slots ≤ R.slots → W p (xl fx) e R s mi args below meth c H locs cells slots Q (F0 mi pc' ls (st'.map (toV ad))) →
      W p (xl fx) e R s mi args below meth c H locs cells slots Q (F0 mi pc ls (st.map (toV ad)))) : Sim fx me pc L st m o :=
  h.stp (fun a b => ⟨a, hok a b⟩) fun p e R s mi args below meth c C ad H locs cells slots ls Q h1 h2 h3 h4 h5 h6 h7 k => hw p e R s mi args below meth c C ad H locs cells slots ls Q h1 h2 h3 h4 h5 h6 h7 (k ls h5)
/-- a decoded instruction: its place, its length, the next one's place -/
def dk (me : ME) (pc : Nat) (i : Instr) (n pc' : Nat) : Prop := decode (eB me) pc = .ok (i, n) ∧ pc' = pc + n
theorem Sim.none {fx : FX} {me : ME} {pc : Nat} {L : List (Nat × MV)} {st : List MV} {m : MM} : Sim fx me pc L st m none := fun r m' h => by cases h
/-- fewer locals are needed -/
theorem s_sub {fx : FX} {me : ME} {pc : Nat} {L L' : List (Nat × MV)} {st : List MV} {m : MM} {o : MO} (hs : ∀ q ∈ L', q ∈ L) (h : Sim fx me pc L' st m o) : Sim fx me pc L st m o :=
  h.stp (fun a b => ⟨fun q hq => a q (hs q hq), b⟩) fun p e R s mi args below meth c C ad H locs cells slots ls Q hR hS h1 h2 hl _ _ k => k ls ⟨hl.1, hl.2.1, fun q hq => by
    obtain ⟨x, hx, rfl⟩ := List.mem_map.mp hq
    exact hl.2.2 _ (List.mem_map.mpr ⟨x, hs x hx, rfl⟩)⟩
