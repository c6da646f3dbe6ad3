/-! THE LAW'S ENTRY: what the tables and the launch give; the claim out of a statement about the printed program alone. -/
def R_law : String := "LeadchapelLaw"
/-- the empty memory -/
def m00 : MM := (fun _ _ _ => 0, fun _ _ _ => 0, fun _ _ _ => none, fun _ _ => none, fun _ => 0, 0, 0)
/-- WHAT IS LEFT: the law's program says true, within the claim's room -/
def LawTrue : Prop := ∀ fx : FX, xn fx ≤ 3072 → ∃ m', f_L_law fx m00 = some (.inl (some (aI 1)), m') ∧ gA m' ≤ 300000 ∧ gB m' ≤ 3000000
theorem rm_c : 300000 ≤ room_1.cells := by decide
theorem rm_s : 3000000 ≤ room_1.slots := by decide
def lw_P (b : Addr) (xs : List Int32) (args : Array Value) (s : State) : Prop := args = #[.ref b] ∧ s.IntsAt b xs ∧ xs.length ≤ 3072 ∧ (Jvm.Cond.and given_1 narrow_1).before args s = true
def lw_Q (_ : Array Value) (s : State) (o : Outcome) (t : State) : Prop := o = .returned (some (.int 1)) ∧ Framed s o t [] room_1.cells room_1.slots
def lw_Z (below : List Frame) (a : Array Value) (s : State) : State → Prop := fun t => ∃ o, t.status = .running ∧ Ended t below o ∧ lw_Q a s o t
def lw_At (p : Program) (s : State) (m : MethodId) (meth : Method) (c : Code) (b L : Nat) (xs : Nat → Int32) : Prop :=
  p.tables.exec = Jvm.exec ∧ c.code = code ∧ meth.sig.returnType = ret ∧ c.maxLocals = 7 ∧ s.vm.findClass R_law = some m.cls ∧ (∀ w ∈ lw_tbl, w.before #[Value.ref b] s = true) ∧ va_X b L xs s s.heap ∧ b < s.heap.size ∧ meth.locks = false ∧ (Jvm.Cond.and given_1 narrow_1).before #[Value.ref b] s = true ∧ c.exceptionTable.toList = []
section SSt
variable {s : State} {args : Array Value}
theorem st_arr (hts : ∀ w ∈ lw_tbl, w.before args s = true) : ∀ ty ∈ aTys, ∃ c, ArrOfT s c ty ∧ va_RA s c ty := by
  intro ty hty
  unfold aTys at hty
  simp only [List.mem_cons, List.not_mem_nil, or_false] at hty
  rcases hty with rfl | rfl | rfl | rfl | rfl | rfl | rfl | rfl | rfl | rfl
  · obtain ⟨c, k, comp, h1, h2, h3⟩ := Cond.arrayClass_spec (hts (.arrayClass .int) (tb_1 _ (List.mem_of_getElem? (i := 65) rfl)))
    exact ⟨c, fun n z => ⟨fun k h => (by cases h), k, h2, comp, h3⟩, h1⟩
  · obtain ⟨c, k, comp, h1, h2, h3⟩ := Cond.arrayClass_spec (hts (.arrayClass .long) (tb_1 _ (List.mem_of_getElem? (i := 66) rfl)))
    exact ⟨c, fun n z => ⟨fun k h => (by cases h), k, h2, comp, h3⟩, h1⟩
  · obtain ⟨c, k, comp, h1, h2, h3⟩ := Cond.arrayClass_spec (hts (.arrayClass .boolean) (tb_1 _ (List.mem_of_getElem? (i := 67) rfl)))
    exact ⟨c, fun n z => ⟨fun k h => (by cases h), k, h2, comp, h3⟩, h1⟩
  · obtain ⟨comp, c, k, h1, -, h2, h3, h4⟩ := Cond.arrayOver_spec (hts (.arrayOver (.object "Leadchapel$Book")) (tb_1 _ (List.mem_of_getElem? (i := 107) rfl)))
    exact ⟨c, fun n z => ⟨fun k h => (by cases h), k, h2, comp, h3⟩, k, comp, h2, h3, h1, h4⟩
  · obtain ⟨comp, c, k, h1, -, h2, h3, h4⟩ := Cond.arrayOver_spec (hts (.arrayOver (.object "Leadchapel$Forme")) (tb_3 _ (List.mem_of_getElem? (i := 118) rfl)))
    exact ⟨c, fun n z => ⟨fun k h => (by cases h), k, h2, comp, h3⟩, k, comp, h2, h3, h1, h4⟩
  · obtain ⟨comp, c, k, h1, -, h2, h3, h4⟩ := Cond.arrayOver_spec (hts (.arrayOver (.object "Leadchapel$Hand")) (tb_1 _ (List.mem_of_getElem? (i := 105) rfl)))
    exact ⟨c, fun n z => ⟨fun k h => (by cases h), k, h2, comp, h3⟩, k, comp, h2, h3, h1, h4⟩
  · obtain ⟨comp, c, k, h1, -, h2, h3, h4⟩ := Cond.arrayOver_spec (hts (.arrayOver (.object "Leadchapel$Page")) (tb_3 _ (List.mem_of_getElem? (i := 20) rfl)))
    exact ⟨c, fun n z => ⟨fun k h => (by cases h), k, h2, comp, h3⟩, k, comp, h2, h3, h1, h4⟩
  · obtain ⟨comp, c, k, h1, -, h2, h3, h4⟩ := Cond.arrayOver_spec (hts (.arrayOver (.object "Leadchapel$Press")) (tb_1 _ (List.mem_of_getElem? (i := 109) rfl)))
    exact ⟨c, fun n z => ⟨fun k h => (by cases h), k, h2, comp, h3⟩, k, comp, h2, h3, h1, h4⟩
  · obtain ⟨comp, c, k, h1, -, h2, h3, h4⟩ := Cond.arrayOver_spec (hts (.arrayOver (.object "Leadchapel$Sheet")) (tb_3 _ (List.mem_of_getElem? (i := 185) rfl)))
    exact ⟨c, fun n z => ⟨fun k h => (by cases h), k, h2, comp, h3⟩, k, comp, h2, h3, h1, h4⟩
  · obtain ⟨comp, c, k, h1, h2, h3, h4⟩ := Cond.arrayOver_specA (hts (.arrayOver (.array .int)) (tb_3 _ (List.mem_of_getElem? (i := 33) rfl)))
    exact ⟨c, fun n z => ⟨fun k h => (by cases h), k, h2, comp, h3⟩, h4⟩
theorem st_cls (hts : ∀ w ∈ lw_tbl, w.before args s = true) : ∀ c, c < 13 → ∀ r : vw_C, vwCl[c]? = some r → ∃ (cC : ClassId) (iS : Nat → Nat), u_Kn s r.1 r.2.1 r.2.2 cC iS := by
  intro c hc r hr
  have hG : ∀ w ∈ GW, w.before args s = true := fun w hw => hts w (List.mem_filter.mp hw).1
  obtain ⟨r2, hr2, hws, -⟩ := cf c hc
  cases hr.symm.trans hr2
  match c, hc with
  | 0, _ => cases hr; exact u_known hG hws (hts (.instantiable "Leadchapel$Book" 12) (tb_2 _ (List.mem_of_getElem? (i := 223) rfl)))
  | 1, _ => cases hr; exact u_known hG hws (hts (.instantiable "Leadchapel$Cases" 6) (tb_1 _ (List.mem_of_getElem? (i := 69) rfl)))
  | 2, _ => cases hr; exact u_known hG hws (hts (.instantiable "Leadchapel$Forme" 11) (tb_3 _ (List.mem_of_getElem? (i := 119) rfl)))
  | 3, _ => cases hr; exact u_known hG hws (hts (.instantiable "Leadchapel$Hand" 6) (tb_2 _ (List.mem_of_getElem? (i := 190) rfl)))
  | 4, _ => cases hr; exact u_known hG hws (hts (.instantiable "Leadchapel$Page" 15) (tb_3 _ (List.mem_of_getElem? (i := 21) rfl)))
  | 5, _ => cases hr; exact u_known hG hws (hts (.instantiable "Leadchapel$Places" 5) (tb_3 _ (List.mem_of_getElem? (i := 27) rfl)))
  | 6, _ => cases hr; exact u_known hG hws (hts (.instantiable "Leadchapel$Press" 4) (tb_1 _ (List.mem_of_getElem? (i := 110) rfl)))
  | 7, _ => cases hr; exact u_known hG hws (hts (.instantiable "Leadchapel$Scholar" 6) (tb_1 _ (List.mem_of_getElem? (i := 133) rfl)))
  | 8, _ => cases hr; exact u_known hG hws (hts (.instantiable "Leadchapel$Sheet" 6) (tb_3 _ (List.mem_of_getElem? (i := 186) rfl)))
  | 9, _ => cases hr; exact u_known hG hws (hts (.instantiable "Leadchapel$Text" 6) (tb_2 _ (List.mem_of_getElem? (i := 229) rfl)))
  | 10, _ => cases hr; exact u_known hG hws (hts (.instantiable "Leadchapel$Words" 7) (tb_1 _ (List.mem_of_getElem? (i := 32) rfl)))
  | 11, _ => cases hr; exact u_known hG hws (hts (.instantiable "Leadchapel" 11) (tb_1 _ (List.mem_of_getElem? (i := 24) rfl)))
  | 12, _ => cases hr; exact u_known hG hws (hts (.instantiable "LeadchapelModel" 82) (tb_6 _ (List.mem_of_getElem? (i := 139) rfl)))
  | n + 13, h => exact absurd h (by omega)
theorem st_nest (hts : ∀ w ∈ lw_tbl, w.before args s = true) : ∀ q ∈ nestL, va_Nw (.methodLinkNest q.1 q.2.1 q.2.2.1 q.2.2.2) s := by
  intro q hq
  unfold nestL at hq
  simp only [List.mem_cons, List.not_mem_nil, or_false] at hq
  rcases hq with rfl | rfl | rfl | rfl | rfl | rfl | rfl | rfl | rfl | rfl
  · exact va_Nw.of rfl (hts (.methodLinkNest "Leadchapel" 9 ⟨"Leadchapel$Words", "<init>", "()V"⟩ "Leadchapel") (tb_1 _ (List.mem_of_getElem? (i := 33) rfl)))
  · exact va_Nw.of rfl (hts (.methodLinkNest "Leadchapel" 41 ⟨"Leadchapel$Press", "<init>", "()V"⟩ "Leadchapel") (tb_1 _ (List.mem_of_getElem? (i := 111) rfl)))
  · exact va_Nw.of rfl (hts (.methodLinkNest "Leadchapel" 48 ⟨"Leadchapel$Scholar", "<init>", "()V"⟩ "Leadchapel") (tb_1 _ (List.mem_of_getElem? (i := 134) rfl)))
  · exact va_Nw.of rfl (hts (.methodLinkNest "Leadchapel$Words" 33 ⟨"Leadchapel", "isLetter", "(I)Z"⟩ "Leadchapel") (tb_1 _ (List.mem_of_getElem? (i := 203) rfl)))
  · exact va_Nw.of rfl (hts (.methodLinkNest "Leadchapel$Book" 11 ⟨"Leadchapel$Text", "<init>", "()V"⟩ "Leadchapel") (tb_2 _ (List.mem_of_getElem? (i := 230) rfl)))
  · exact va_Nw.of rfl (hts (.methodLinkNest "Leadchapel$Book" 110 ⟨"Leadchapel", "letters", "(J)I"⟩ "Leadchapel") (tb_4 _ (List.mem_of_getElem? (i := 87) rfl)))
  · exact va_Nw.of rfl (hts (.methodLinkNest "Leadchapel$Page" 120 ⟨"Leadchapel", "letters", "(J)I"⟩ "Leadchapel") (tb_4 _ (List.mem_of_getElem? (i := 137) rfl)))
  · exact va_Nw.of rfl (hts (.methodLinkNest "Leadchapel$Text" 67 ⟨"Leadchapel", "letters", "(J)I"⟩ "Leadchapel") (tb_4 _ (List.mem_of_getElem? (i := 164) rfl)))
  · exact va_Nw.of rfl (hts (.methodLinkNest "Leadchapel$Page" 155 ⟨"Leadchapel", "letterAt", "(JI)I"⟩ "Leadchapel") (tb_4 _ (List.mem_of_getElem? (i := 173) rfl)))
  · exact va_Nw.of rfl (hts (.methodLinkNest "Leadchapel$Scholar" 110 ⟨"Leadchapel", "workingHoursAhead", "(I)I"⟩ "Leadchapel") (tb_6 _ (List.mem_of_getElem? (i := 107) rfl)))
theorem st_ov (hts : ∀ w ∈ lw_tbl, w.before args s = true) : ∀ C ∈ ovL, va_AO C s := by
  intro q hq
  unfold ovL at hq
  simp only [List.mem_cons, List.not_mem_nil, or_false] at hq
  rcases hq with rfl | rfl | rfl | rfl | rfl | rfl
  · exact va_AO.of (A := args) (hts (.arrayOver (.object "Leadchapel$Hand")) (tb_1 _ (List.mem_of_getElem? (i := 105) rfl)))
  · exact va_AO.of (A := args) (hts (.arrayOver (.object "Leadchapel$Book")) (tb_1 _ (List.mem_of_getElem? (i := 107) rfl)))
  · exact va_AO.of (A := args) (hts (.arrayOver (.object "Leadchapel$Press")) (tb_1 _ (List.mem_of_getElem? (i := 109) rfl)))
  · exact va_AO.of (A := args) (hts (.arrayOver (.object "Leadchapel$Page")) (tb_3 _ (List.mem_of_getElem? (i := 20) rfl)))
  · exact va_AO.of (A := args) (hts (.arrayOver (.object "Leadchapel$Forme")) (tb_3 _ (List.mem_of_getElem? (i := 118) rfl)))
  · exact va_AO.of (A := args) (hts (.arrayOver (.object "Leadchapel$Sheet")) (tb_3 _ (List.mem_of_getElem? (i := 185) rfl)))
theorem st_str (hts : ∀ w ∈ lw_tbl, w.before args s = true) {cur : Nat} (hcur : s.vm.findClass "Leadchapel" = some cur) : ∀ q ∈ strL, ∃ a, vk_R "Leadchapel" q.1 q.2 a s := by
  have key : ∀ (i : Nat) (t : String), (Cond.stringRef "Leadchapel" i t).before args s = true → ∃ a, vk_R "Leadchapel" i t a s := by
    intro i t h
    obtain ⟨k, cf, j, a, -, -, -, -, -, h2⟩ := Cond.stringRef_spec hcur h
    exact ⟨a, vk_R.of (A := args) h h2⟩
  intro q hq
  unfold strL at hq
  simp only [List.mem_cons, List.not_mem_nil, or_false] at hq
  rcases hq with rfl | rfl | rfl | rfl | rfl | rfl | rfl | rfl
  · exact key _ _ (hts (.stringRef "Leadchapel" 455 "an argument is out of range, or the tape does not serve") (tb_2 _ (List.mem_of_getElem? (i := 23) rfl)))
  · exact key _ _ (hts (.stringRef "Leadchapel" 460 "the house is not in a state for this") (tb_2 _ (List.mem_of_getElem? (i := 70) rfl)))
  · exact key _ _ (hts (.stringRef "Leadchapel" 448 "there is no such one") (tb_2 _ (List.mem_of_getElem? (i := 158) rfl)))
  · exact key _ _ (hts (.stringRef "Leadchapel" 463 "there is no such book") (tb_4 _ (List.mem_of_getElem? (i := 33) rfl)))
  · exact key _ _ (hts (.stringRef "Leadchapel" 469 "there is no such page") (tb_4 _ (List.mem_of_getElem? (i := 106) rfl)))
  · exact key _ _ (hts (.stringRef "Leadchapel" 465 "there is no such hand") (tb_4 _ (List.mem_of_getElem? (i := 111) rfl)))
  · exact key _ _ (hts (.stringRef "Leadchapel" 471 "there is no such forme") (tb_5 _ (List.mem_of_getElem? (i := 7) rfl)))
  · exact key _ _ (hts (.stringRef "Leadchapel" 467 "there is no such press") (tb_5 _ (List.mem_of_getElem? (i := 32) rfl)))
theorem st_cast (hts : ∀ w ∈ lw_tbl, w.before args s = true) : ∀ e, va_Nw (.castable (exN e) (exN e)) s ∧ va_Nw (.declares (Bundle.initS (suN e))) s := by
  have key : ∀ e, e < 3 → va_Nw (.castable (exN e) (exN e)) s ∧ va_Nw (.declares (Bundle.initS (suN e))) s := by
    intro e he
    match e, he with
    | 0, _ => exact ⟨va_Nw.of rfl (hts (.castable "java/lang/IndexOutOfBoundsException" "java/lang/IndexOutOfBoundsException") (tb_2 _ (List.mem_of_getElem? (i := 151) rfl))), va_Nw.of rfl (hts (.declares (Bundle.initS "java/lang/RuntimeException")) (tb_1 _ (List.mem_of_getElem? (i := 226) rfl)))⟩
    | 1, _ => exact ⟨va_Nw.of rfl (hts (.castable "java/lang/IllegalArgumentException" "java/lang/IllegalArgumentException") (tb_1 _ (List.mem_of_getElem? (i := 224) rfl))), va_Nw.of rfl (hts (.declares (Bundle.initS "java/lang/Exception")) (tb_1 _ (List.mem_of_getElem? (i := 228) rfl)))⟩
    | 2, _ => exact ⟨va_Nw.of rfl (hts (.castable "java/lang/IllegalStateException" "java/lang/IllegalStateException") (tb_2 _ (List.mem_of_getElem? (i := 63) rfl))), va_Nw.of rfl (hts (.declares (Bundle.initS "java/lang/Throwable")) (tb_1 _ (List.mem_of_getElem? (i := 230) rfl)))⟩
    | n + 3, h => exact absurd h (by omega)
  intro e
  match e with
  | 0 => exact key 0 (by omega)
  | 1 => exact key 1 (by omega)
  | n + 2 => exact key 2 (by omega)
theorem st_nc (hg : (Jvm.Cond.and given_1 narrow_1).before args s = true) : ∀ e f, exN e ≠ exN f → va_Nc (exN e) (exN f) s := by
  have hs := flat_of_before _ hg
  have h01 : va_Nc (exN 0) (exN 1) s := va_Nc.of (hs (.not (.castable "java/lang/IndexOutOfBoundsException" "java/lang/IllegalArgumentException")) (by decide +kernel))
  have h02 : va_Nc (exN 0) (exN 2) s := va_Nc.of (hs (.not (.castable "java/lang/IndexOutOfBoundsException" "java/lang/IllegalStateException")) (by decide +kernel))
  have h10 : va_Nc (exN 1) (exN 0) s := va_Nc.of (hs (.not (.castable "java/lang/IllegalArgumentException" "java/lang/IndexOutOfBoundsException")) (by decide +kernel))
  have h12 : va_Nc (exN 1) (exN 2) s := va_Nc.of (hs (.not (.castable "java/lang/IllegalArgumentException" "java/lang/IllegalStateException")) (by decide +kernel))
  have h20 : va_Nc (exN 2) (exN 0) s := va_Nc.of (hs (.not (.castable "java/lang/IllegalStateException" "java/lang/IndexOutOfBoundsException")) (by decide +kernel))
  have h21 : va_Nc (exN 2) (exN 1) s := va_Nc.of (hs (.not (.castable "java/lang/IllegalStateException" "java/lang/IllegalArgumentException")) (by decide +kernel))
  have e2 : ∀ n, exN (n + 2) = exN 2 := fun _ => rfl
  intro e f hn
  match e, f with
  | 0, 0 => exact absurd rfl hn
  | 0, 1 => exact h01
  | 0, k + 2 => exact h02
  | 1, 0 => exact h10
  | 1, 1 => exact absurd rfl hn
  | 1, k + 2 => exact h12
  | n + 2, 0 => exact h20
  | n + 2, 1 => exact h21
  | n + 2, k + 2 => exact absurd rfl hn
/-- what the tables say, gathered -/
theorem st_KK (hts : ∀ w ∈ lw_tbl, w.before args s = true) (hg : (Jvm.Cond.and given_1 narrow_1).before args s = true) (l : Launch) (b L : Nat) (xs : Nat → Int32) :
    ∃ (dC : Nat → ClassId) (dI : Nat → Nat → Nat) (dA : FieldType → ClassId), KK ((l, dC, dI, dA, s.heap.size, b, L, xs) : FX) s := by
  have hc := st_cls hts
  have hc2 : ∀ c : Nat, ∃ (q : ClassId × (Nat → Nat)), ∀ r : vw_C, vwCl[c]? = some r → u_Kn s r.1 r.2.1 r.2.2 q.1 q.2 := by
    intro c
    by_cases h : c < 13
    · cases hr : vwCl[c]? with
      | none => exact ⟨(0, fun _ => 0), fun r h => by cases h⟩
      | some r0 =>
        obtain ⟨cC, iS, h9⟩ := hc c h r0 hr
        exact ⟨(cC, iS), fun r h => by cases h; exact h9⟩
    · refine ⟨(0, fun _ => 0), fun r hr => ?_⟩
      have := (List.getElem?_eq_some_iff.mp hr).1
      exact absurd this h
  obtain ⟨qf, hq⟩ := Classical.axiomOfChoice hc2
  have ha2 : ∀ ty : FieldType, ∃ c, ty ∈ aTys → ArrOfT s c ty ∧ va_RA s c ty := by
    intro ty
    by_cases h : ty ∈ aTys
    · obtain ⟨c, h9⟩ := st_arr hts ty h
      exact ⟨c, fun _ => h9⟩
    · exact ⟨0, fun h9 => absurd h9 h⟩
  obtain ⟨dA, hA⟩ := Classical.axiomOfChoice ha2
  obtain ⟨-, hcur, -⟩ := hq 11 _ rfl
  exact ⟨fun c => (qf c).1, fun c => (qf c).2, dA, ⟨fun c r hr => hq c r hr, fun k r hr => by cases hr⟩, fun ty h => hA ty h, st_nest hts, st_ov hts, hts (.arrayOver (.array .int)) (tb_3 _ (List.mem_of_getElem? (i := 33) rfl)), st_str hts hcur, st_cast hts, st_nc hg⟩
end SSt
theorem lw_drop {s t : State} {L : List Loc} {k n : Nat} (h : s.sameButNew t L k n) (hL : ∀ q ∈ L, s.heap.size ≤ q.base) : s.sameButNew t [] k n := by
  obtain ⟨h1, h2, h3, h4, h5, h6⟩ := h
  refine ⟨h1, h2, h3, h4, h5, fun a c hc => ?_⟩
  obtain ⟨c', g1, g2, g3, g4⟩ := h6 a c hc
  refine ⟨c', g1, g2, g3, fun i _ => g4 i fun hm => ?_⟩
  have h9 := hL _ hm
  have h8 := (Array.getElem?_eq_some_iff.mp hc).1
  exact absurd h8 (Nat.not_lt.mpr h9)
theorem whole_start (hLT : LawTrue) {p : Program} {e : Env} {s : State} {m : MethodId} {below : List Frame} {meth : Method} {c : Code} (l : Launch) (hflags : l.flags = flags0) {b L : Nat} {xs : Nat → Int32} (hL : L ≤ 3072) (C0 : lw_At p s m meth c b L xs) : W p l e room_1 s m #[Value.ref b] below meth c s.heap [] 0 0 (lw_Z below #[Value.ref b] s) (entryFrame m ([Value.ref b] : List Value).toArray 7) := by
  obtain ⟨hx, hb, hr, hml, hown, hts, hX, hbl, hlk, hgv, htab⟩ := C0
  obtain ⟨dC, dI, dA, hK⟩ := st_KK hts hgv l b L xs
  obtain ⟨fx, hfx⟩ : ∃ fx : FX, fx = (l, dC, dI, dA, s.heap.size, b, L, xs) := ⟨_, rfl⟩
  rw [← hfx] at hK
  have e1 : xl fx = l := by rw [hfx]; rfl
  have e2 : xB fx = s.heap.size := by rw [hfx]; rfl
  have e3 : xb fx = b := by rw [hfx]; rfl
  have e4 : xn fx = L := by rw [hfx]; rfl
  have e5 : xs = Pilot.CLeadchapelLaw_law_r3013_356d08.xs fx := by rw [hfx]; rfl
  have hs := flat_of_before _ hgv
  have hXA : ∀ a : Nat, a < s.heap.size → ¬ XA fx a := fun a h1 h2 => by
    have h3 : xB fx ≤ a := h2
    rw [e2] at h3
    omega
  have hZ1 : vx_Zq Bundle.tN "UNASSIGNED_STACK" Bundle.steD (XA fx) s s.heap := vx_Zqof (hts (.laysStatic Bundle.tN "UNASSIGNED_STACK" Bundle.steD) (tb_2 _ (List.mem_of_getElem? (i := 9) rfl))) (hts (.initialized Bundle.tN) (tb_1 _ (List.mem_of_getElem? (i := 7) rfl))) (hs (.isRef (.static Bundle.tN "UNASSIGNED_STACK" Bundle.steD)) (by decide +kernel)) hXA
  have hZ2 : vx_Zq Bundle.tN "SUPPRESSED_SENTINEL" Bundle.listD (XA fx) s s.heap := vx_Zqof (hts (.laysStatic Bundle.tN "SUPPRESSED_SENTINEL" Bundle.listD) (tb_2 _ (List.mem_of_getElem? (i := 11) rfl))) (hts (.initialized Bundle.tN) (tb_1 _ (List.mem_of_getElem? (i := 7) rfl))) (hs (.isRef (.static Bundle.tN "SUPPRESSED_SENTINEL" Bundle.listD)) (by decide +kernel)) hXA
  have hst : (xl fx).stackTraces = false := by
    rw [e1]
    show (!l.flags.contains noTraceFlag) = false
    rw [hflags]
    decide +kernel
  have hKH : KH fx s := ⟨hK, hZ1, hZ2, by rw [e3, e4, ← e5]; exact hX, by rw [e3]; exact hbl, by rw [e3, e2]; exact hbl⟩
  obtain ⟨m', hm', hA, hB⟩ := hLT fx (by rw [e4]; exact hL)
  have h := sim_L_law (fx := fx) (by rw [e4]; omega) (m := m00)
  obtain ⟨-, h2⟩ := h (.inl (some (aI 1))) m' hm'
  have hG : ∀ w ∈ GW, w.before #[Value.ref b] s = true := fun w hw => hts w (List.mem_filter.mp hw).1
  have hC : Ctx fx me_LW p room_1 s m #[Value.ref b] meth c := ⟨hx, hb, hml, hown, hG, hr, hlk, by rw [htab]; rfl, hKH, fun h => (by cases h), rfl, rfl, by rw [e2]; exact Nat.le_refl _, hst⟩
  have hOK : OKM m00 := ⟨fun _ _ _ => rfl, fun _ _ _ => nrm0, fun _ _ _ q h => (by cases h), fun _ _ _ _ => ⟨rfl, rfl, rfl⟩⟩
  have hR : Rep fx (fun _ _ => 0) m00 s.heap := ⟨fun _ _ _ h => (by cases h), fun _ _ _ _ h => absurd rfl h, hOK⟩
  have hl := lv_entry ([Value.ref b]) (n := 7) (b8 rfl)
  rw [lg_entry_eq]
  rw [e3] at h2
  have hW := h2 (fun q hq => by rw [List.mem_singleton.mp hq]; rfl) (fun q hq => by cases hq) p e room_1 s m #[Value.ref b] below meth c hC (fun _ _ => 0) m00 (fun _ _ => 0) s.heap [] 0 0 _ hR Ext.rf va_S.rf hl (by show gA m' + 0 ≤ 0 + room_1.cells; have := rm_c; omega) (by show gB m' + 0 ≤ 0 + room_1.slots; have := rm_s; omega)
  rw [e1] at hW
  intro T hT X
  obtain ⟨t, a1, o, b1, b2, b3⟩ := hW T hT X
  refine ⟨t, a1, o, b1, b2, ?_⟩
  rcases b3 with ⟨⟨v, ad, hv, -, ho, -⟩, L9, hF, hL9⟩ | ⟨q, -, E, ce, L9, ⟨e9, ad, he9, -⟩, -⟩
  · cases hv
    refine ⟨ho, hF.1, hF.2.1, lw_drop hF.2.2 fun q hq => ?_⟩
    have h3 : xB fx ≤ q.base := hL9 q hq
    rw [e2] at h3
    exact h3
  · cases he9
set_option maxHeartbeats 4000000 in
theorem lw_walk (hLT : LawTrue) (l : Launch) (hflags : l.flags = flags0) (b : Addr) (xs : List Int32) : MetFree l x (headSpec (Jvm.Cond.code x code maxLocals ret :: tables_1) room_1) (lw_P b xs) (fun _ _ _ _ _ => True) lw_Q := by
  refine MetFree.of_bodyS (code := code) (maxLocals := maxLocals) (ret := ret) (by decide) ?_ ?_
  · intro args s m h hn
    obtain ⟨meth, c, h1, h2, h3, h4, h5, h6, -, -⟩ := Cond.code_spec hn (atoms_spec (ws := Jvm.Cond.code x code maxLocals ret :: tables_1) h _ List.mem_cons_self)
    exact ⟨meth, c, h1, h2, h3, h4, h5, h6⟩
  · intro p e s m args below meth c s₁ B hml0 hP _
    obtain ⟨rfl, hx, hbd, hgv⟩ := hP
    obtain ⟨scr, harrAt, hlist, hof, hsmall⟩ := hx
    obtain ⟨hcb, hkn, -, -⟩ := State.arrayAt?_spec harrAt
    have hown : s.vm.findClass R_law = some m.cls := findClass_of_methodNamed B.named
    have hts0 : ∀ c ∈ (Jvm.Cond.code x code maxLocals ret :: tables_1), c.before #[Value.ref b] s = true := atoms_spec (ws := Jvm.Cond.code x code maxLocals ret :: tables_1) B.pre
    have hts : ∀ w ∈ lw_tbl, w.before #[Value.ref b] s = true := k2_hts_sels lw_privs (fun w hw => hts0 w (List.mem_cons_of_mem _ hw)) lw_privs_ok
    have hml : c.maxLocals = 7 := B.maxLocals_eq (hts0 _ List.mem_cons_self)
    have htb : c.exceptionTable.toList = [] := by
      obtain ⟨meth9, c9, h1, h2, -, -, -, -, h7, -⟩ := Cond.code_spec B.named (hts0 _ List.mem_cons_self)
      cases Option.some.inj (h1.symm.trans B.method)
      cases Option.some.inj (h2.symm.trans (Stand.of_body B).code)
      rw [Array.isEmpty_iff.mp h7]
    have X₀ : Stand p l e room_1 s m #[Value.ref b] below meth c s₁ [] 0 0 := Stand.of_body B
    have hh0 : s₁.heap = s.heap := by rw [B.state]; rfl
    have hsz : scr.slots.size = xs.length := by rw [← Array.length_toList, hlist, List.length_map]
    have hval : ∀ j : Nat, j < xs.length → scr.slots[j]? = some (.int (xs.getD j 0)) := fun j hj => by
      rw [← Array.getElem?_toList, hlist]
      simp [hj]
    have hbl : b < s.heap.size := (Array.getElem?_eq_some_iff.mp hcb).1
    have hX : va_X b xs.length (fun j => xs.getD j 0) s s.heap := ⟨scr, hcb, hof, hkn, hsz, hval⟩
    have K : W p l e room_1 s m #[Value.ref b] below meth c s₁.heap [] 0 0 (lw_Z below #[Value.ref b] s) (entryFrame m ([Value.ref b] : List Value).toArray 7) := by
      rw [hh0]
      exact whole_start hLT l hflags hbd ⟨B.exec, B.bytes, B.returns, hml, hown, hts, hX, hbl, B.notSynchronized, hgv, htb⟩
    obtain ⟨t, a1, o, b1, b2, b3⟩ := K s₁ rfl X₀
    exact ⟨t, o, a1, b1, b2, b3⟩
theorem lw_pre_spec {args : Array Value} {s : State} (h : (Jvm.Cond.and given_1 narrow_1).before args s = true) (hr : rest_1_c.before args s = true) : ∃ (b : Addr) (xs : List Int32), lw_P b xs args s := by
  have hs := flat_of_before _ h
  have hq := flat_of_before _ hr
  have hc : (Cond.count 1).before args s = true := hs _ (by decide +kernel)
  have harr : (Cond.arrayOf (.arg 0) .int).before args s = true := hs _ (by decide +kernel)
  have hle : (Cond.le (.length (.arg 0)) (.int 3072)).before args s = true := hs _ (by decide +kernel)
  have hlen : (Cond.isInt (.length (.arg 0))).before args s = true := hq _ (by decide +kernel)
  have hall : (Cond.all (.arg 0) (.isInt (.elem (.arg 0) (.index 0)))).before args s = true := hq _ (by decide +kernel)
  obtain ⟨b, xs, hb, hx⟩ := State.ints_of_pre rfl harr hlen hall
  have hsm : xs.length < 2 ^ 31 := hx.choose_spec.2.2.2
  have hev : (Term.length (.arg 0)).eval args s none [] s = some (.int xs.length.toInt32) := hx.length_eval hb
  have hv := Cond.le_ints hev (show (Term.int 3072).eval args s none [] s = some (.int 3072) from rfl)
  have hd : xs.length.toInt32 ≤ 3072 := by
    simpa [Cond.before, Cond.holds, hv] using hle
  have hN : xs.length ≤ 3072 := (Int32.ofNat_le_ofNat hsm (by decide)).mp (show Int32.ofNat xs.length ≤ Int32.ofNat 3072 from hd)
  exact ⟨b, xs, Cond.one_arg hc (show args[0]? = some (.ref b) from hb), hx, hN, h⟩
theorem lw_comes (hLT : LawTrue) (l : Launch) (hflags : l.flags = flags0) : Comes l x (Jvm.Cond.code x code maxLocals ret :: tables_1) room_1 (fun tb e args s => Calls_1 tb e args s ∧ rest_1 tb e args s ∧ Pre_1 tb e args s)
    (fun _ _ args s o t => lw_Q args s o t) := by
  intro p e ha hc hk s m args below hf hfit hheap happ hpre
  obtain ⟨b, xs, hP⟩ := lw_pre_spec hpre.2.2 hpre.2.1
  obtain ⟨k, o, h1, h2, h3, hQ⟩ := lw_walk hLT l hflags b xs p e ha hc hk s m args below hf ((Spec.applies_iff_loose hf).mp happ).1 hP trivial
  exact ⟨k, o, h1, h2, h3, hQ⟩
theorem lw_frame {s t : State} {o : Outcome} {args : Array Value} (h : Framed s o t [] room_1.cells room_1.slots) :
    Framed s o t (fieldLocs frame_1_writes args s ++ arrayLocs frame_1_arrays args s ++ staticLocs frame_1_statics s) room_1.cells room_1.slots := h
theorem lw_limb (hLT : LawTrue) (L : Cond) (hL : ∀ (args : Array Value) (s t : State), L.after args s (.returned (some (.int 1))) t = true) :
    ArmFor flags0 classFile x code maxLocals ret World_1 tables_1 room_1 Calls_1 rest_1 Pre_1
      (fun tb e a s o t => postC L tb e a s o t ∧ Framed s o t (fieldLocs frame_1_writes a s ++ arrayLocs frame_1_arrays a s ++ staticLocs frame_1_statics s) room_1.cells room_1.slots) := by
  intro l hflags _ _ p e ha hc hk s m args below hf hfit hheap happ hpre
  obtain ⟨k, o, h1, h2, h3, rfl, hF⟩ := lw_comes hLT l hflags p e ha hc hk s m args below hf hfit hheap happ hpre
  exact ⟨k, _, h1, h2, h3, hL args s _, lw_frame hF⟩
