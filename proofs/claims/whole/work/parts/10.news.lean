/-! RULES that make cells. -/
section SNew
variable {fx : FX} {me : ME} {pc pc' : Nat} {L : List (Nat × MV)} {st : List MV} {m : MM} {o : MO}
def nwF (own : String) (idx K n : Nat) : Prop := ∃ r : vw_C, vwCl[K]? = some r ∧ K < 13 ∧ r.2.2 = n ∧ n < 2147483648 ∧ Cond.classLink own idx r.1 ∈ GW ∧ Cond.instantiable r.1 r.2.2 ∈ GW ∧ Cond.initialized r.1 ∈ GW ∧ ∀ s, s < n → tk (FTy K s) ≠ 4
def adN (ad : Nat → Nat → Nat) (m : MM) (K h : Nat) : Nat → Nat → Nat := fun a b => if a = K ∧ b = gC m K then h else ad a b
theorem adN_new (ad : Nat → Nat → Nat) (m : MM) (K h : Nat) : adN ad m K h K (gC m K) = h := if_pos ⟨rfl, rfl⟩
theorem fV_zero {ad ad' : Nat → Nat → Nat} {m m1 : MM} {K i : Nat} {s : Nat} {ty : FieldType} (hM : OKM m) (hz : gZ m K i = none) (h1 : gN m1 K i s = gN m K i s) (h2 : gL m1 K i s = gL m K i s) (h3 : gR m1 K i s = gR m K i s) (ht : tk ty ≠ 4) : fV ad' m1 K i s ty = defaultValue ty := by
  obtain ⟨e1, e2, e3⟩ := hM.2.2.2 K i hz s
  cases ty <;> first | (simp only [fV, h1, h2, h3, e1, e2, e3]; rfl) | exact absurd rfl ht
theorem s_new {K n idx : Nat} {X : Type} {f : MM → Option X} {kk : X → MO} (hcf : ∀ c, c < 13 → CF c) (d : dk me pc (.new idx) 3 pc') (hf : nwF (eY me).cls idx K n)
    (h : ∀ m1, Sim fx me pc' L (aR (some (K, gC m K)) :: st) m1 ((f m1).bind kk)) : Sim fx me pc L st m ((lt' (nW m K n) f).bind kk) := by
  obtain ⟨d, rfl⟩ := d
  refine Sim.mk (m1 := nW m K n) 1 n rfl rfl (h _) fun p e R s mi args below meth c C ad H locs cells slots ls Q hR hS hL hst hl g1 g2 kk => ?_
  obtain ⟨hx, hb, -, hown, hts, -, -, -, hKH, -, -, -, hbase, -⟩ := C
  obtain ⟨r, hr, hK, hn, hnb, w1, w2, w3, ht4⟩ := hf
  obtain ⟨r2, hr2, hws, hty, hnm⟩ := hcf K hK
  cases hr.symm.trans hr2
  have hKn := hKH.1.1.1 K r hr
  refine W.newcK hx hb hown (hts _ w1) (hts _ w2) (hts _ w3) rfl d g1 (by rw [hn]; exact g2) hKn.2.1 rfl fun H1 kC hkC e1 z1 o1 => ?_
  rw [hn]
  have hfr : gZ m K (gC m K) = none := hR.2.2.1 K _ (Nat.le_refl _)
  have hob : okC fx (adN ad m K H.size) (nW m K n) K (gC m K) n H1 := by
    refine ⟨hnb, fun _ => ⟨r, hr, hn.symm, ?_⟩, fun h => absurd h (by omega)⟩
    rw [adN_new]
    refine (u_born (FTy K) hts hws hKn hkC e1 hty).to fun j hj => ?_
    exact (fV_zero (ad := ad) hR.2.2 hfr rfl rfl rfl (ht4 j (by omega))).symm
  obtain ⟨q1, q2⟩ := hR.new (n := n) (H' := H1) (Nat.le_trans hbase hS.1) hR.lt (ad' := adN ad m K H.size) rfl hob o1
  have hok : okA (nW m K n) (aR (some (K, gC m K)) :: st) := by
    refine okC' ?_ (okA_ext q2 hst)
    show gZ (nW m K n) K (gC m K) ≠ none
    rw [gZ_nW, if_pos ⟨rfl, rfl⟩]
    exact fun h => by cases h
  have z := kk (adN ad m K H.size) H1 locs q1 q2 ⟨Nat.le_trans hS.1 (by omega), fun x h1 h2 => (o1 x (Nat.lt_of_lt_of_le h1 hS.1)).trans (hS.2.1 x h1 h2), hS.2.2⟩ hok
  rw [List.map_cons, mapV_ext q2 hst, show toV (adN ad m K H.size) (aR (some (K, gC m K))) = .ref H.size from congrArg Value.ref (adN_new ad m K H.size)] at z
  exact z
/-- an array of numbers: of ints, longs, booleans -/
theorem z_arrNew {s : State} {ad : Nat → Nat → Nat} {H H1 : Heap} {locs : List Loc} {K n : Nat} {ty : FieldType} (hR : Rep fx ad m H) (hS : va_S (XA fx) s.heap H locs) (hbase : xB fx ≤ s.heap.size) (hK : 13 ≤ K ∧ KT K = ty) (ht : tk ty ≠ 4) (hn : n < 2147483648)
    (e1 : H1[H.size]? = some (arrV (xA fx ty) n (fun _ => defaultValue ty))) (z1 : H1.size = H.size + 1) (o1 : ∀ q, q < H.size → H1[q]? = H[q]?) :
    Rep fx (adN ad m K H.size) (nW m K n) H1 ∧ Ext m ad (nW m K n) (adN ad m K H.size) ∧ va_S (XA fx) s.heap H1 locs := by
  have hfr : gZ m K (gC m K) = none := hR.2.2.1 K _ (Nat.le_refl _)
  have hob : okC fx (adN ad m K H.size) (nW m K n) K (gC m K) n H1 := by
    refine ⟨hn, fun h => absurd h (by omega), fun _ => ?_⟩
    rw [adN_new, e1, hK.2]
    congr 2
    funext j
    exact (fV_zero (ad := ad) hR.2.2 hfr rfl rfl rfl ht).symm
  obtain ⟨q1, q2⟩ := hR.new (n := n) (H' := H1) (Nat.le_trans hbase hS.1) hR.lt (ad' := adN ad m K H.size) rfl hob o1
  exact ⟨q1, q2, Nat.le_trans hS.1 (by omega), fun x h1 h2 => (o1 x (Nat.lt_of_lt_of_le h1 hS.1)).trans (hS.2.1 x h1 h2), hS.2.2⟩
theorem z_arrOk {st : List MV} {ad : Nat → Nat → Nat} {K n h : Nat} (q2 : Ext m ad (nW m K n) (adN ad m K h)) (hst : okA m st) : okA (nW m K n) (aR (some (K, gC m K)) :: st) := by
  refine okC' ?_ (okA_ext q2 hst)
  show gZ (nW m K n) K (gC m K) ≠ none
  rw [gZ_nW, if_pos ⟨rfl, rfl⟩]
  exact fun h => by cases h
theorem z_arrMap {st : List MV} {ad : Nat → Nat → Nat} {K n h : Nat} (q2 : Ext m ad (nW m K n) (adN ad m K h)) (hst : okA m st) : (aR (some (K, gC m K)) :: st).map (toV (adN ad m K h)) = .ref h :: st.map (toV ad) := by
  rw [List.map_cons, mapV_ext q2 hst, show toV (adN ad m K h) (aR (some (K, gC m K))) = .ref h from congrArg Value.ref (adN_new ad m K h)]
theorem nn_ofI {x : Int} (h0 : 0 ≤ x) (h1 : x ≤ 100000) : ¬ Int32.ofInt x < 0 ∧ (Int32.ofInt x).toNatClampNeg = x.toNat := by
  have hj : (Int32.ofInt x).toInt = x := ofT ⟨by omega, by omega⟩
  refine ⟨fun h => ?_, ?_⟩
  · rw [Int32.lt_iff_toInt_lt, hj] at h
    have : (0 : Int32).toInt = 0 := rfl
    omega
  · show (Int32.ofInt x).toInt.toNat = x.toNat
    rw [hj]
theorem s_newA {K : Nat} {ty : FieldType} {at' : ArrayType} {u : MV} {x : Int} {X : Type} {f : MM → Option X} {kk : X → MO} (d : dk me pc (.newarray at') 2 pc') (hK : 13 ≤ K ∧ KT K = ty) (ha : newarray.typeOf at' = ty) (hty : ty ∈ [FieldType.int, .long, .boolean]) (hw : Cond.arrayClass ty ∈ GW) (hu : vi u = some x)
    (h : ∀ m1, Sim fx me pc' L (aR (some (K, gC m K)) :: st) m1 ((f m1).bind kk)) : Sim fx me pc L (u :: st) m ((newA m K x f).bind kk) := by
  obtain ⟨d, rfl⟩ := d
  unfold newA
  split
  next hc =>
    refine Sim.mk (m1 := nW m K x.toNat) 1 x.toNat rfl rfl (h _) fun p e R s mi args below meth c C ad H locs cells slots ls Q hR hS hL hst hl g1 g2 kk => ?_
    obtain ⟨hx, hb, -, hown, hts, -, -, -, hKH, -, -, -, hbase, -⟩ := C
    obtain ⟨v1, v2⟩ := nn_ofI hc.1 hc.2
    have hty9 : ty ∈ aTys := by
      rcases List.mem_cons.mp hty with rfl | h1
      · decide
      · rcases List.mem_cons.mp h1 with rfl | h1
        · decide
        · rcases List.mem_cons.mp h1 with rfl | h1
          · decide
          · cases h1
    have hby : x.toNat * componentBytes ty ≤ 536870912 ∧ tk ty ≠ 4 := by
      rcases List.mem_cons.mp hty with rfl | h1
      · exact ⟨by show x.toNat * 4 ≤ _; omega, by decide⟩
      · rcases List.mem_cons.mp h1 with rfl | h1
        · exact ⟨by show x.toNat * 8 ≤ _; omega, by decide⟩
        · rcases List.mem_cons.mp h1 with rfl | h1
          · exact ⟨by show x.toNat * 1 ≤ _; omega, by decide⟩
          · cases h1
    rw [List.map_cons, vi_toV ad u x hu]
    refine va_newaK hx hb (by rw [ha]; exact hts _ hw) rfl d rfl v1 v2 (by rw [ha]; exact hby.1) g1 g2 rfl fun H1 cA e1 z1 o1 hAr hNm => ?_
    rw [ha] at e1 hNm
    have hcA : cA = xA fx ty := by
      have h2 := (hKH.1.2.1 ty hty9).2
      rcases List.mem_cons.mp hty with rfl | h1
      · exact Option.some.inj (hNm.symm.trans h2)
      · rcases List.mem_cons.mp h1 with rfl | h1
        · exact Option.some.inj (hNm.symm.trans h2)
        · rcases List.mem_cons.mp h1 with rfl | h1
          · exact Option.some.inj (hNm.symm.trans h2)
          · cases h1
    subst hcA
    obtain ⟨q1, q2, q3⟩ := z_arrNew hR hS hbase hK hby.2 (by omega) e1 z1 o1
    have z := kk (adN ad m K H.size) H1 locs q1 q2 q3 (z_arrOk q2 (okS hst))
    rw [z_arrMap q2 (okS hst)] at z
    exact z
  next => exact Sim.none
/-- an array of objects -/
theorem s_newQ {K idx : Nat} {C9 : String} {u : MV} {x : Int} {X : Type} {f : MM → Option X} {kk : X → MO} (d : dk me pc (.anewarray idx) 3 pc') (hK : 13 ≤ K ∧ KT K = .object C9) (hty : FieldType.object C9 ∈ aTys) (hov : C9 ∈ ovL) (hw : Cond.classLink (eY me).cls idx C9 ∈ GW) (hu : vi u = some x)
    (h : ∀ m1, Sim fx me pc' L (aR (some (K, gC m K)) :: st) m1 ((f m1).bind kk)) : Sim fx me pc L (u :: st) m ((newA m K x f).bind kk) := by
  obtain ⟨d, rfl⟩ := d
  unfold newA
  split
  next hc =>
    refine Sim.mk (m1 := nW m K x.toNat) 1 x.toNat rfl rfl (h _) fun p e R s mi args below meth c C ad H locs cells slots ls Q hR hS hL hst hl g1 g2 kk => ?_
    obtain ⟨hx, hb, -, hown, hts, -, -, -, hKH, -, -, -, hbase, -⟩ := C
    obtain ⟨v1, v2⟩ := nn_ofI hc.1 hc.2
    rw [List.map_cons, vi_toV ad u x hu]
    refine W.anew hx hb hown (hts _ hw) (va_AO.use (hKH.1.2.2.2.1 C9 hov)) rfl d rfl v1 (by rw [v2]; omega) g1 (by rw [v2]; exact g2) fun cA kA comp f1 f2 f3 f4 => ?_
    rw [v2]
    generalize hH1 : H.push ({ cls := cA, slots := Array.replicate x.toNat .null, vm := .none } : Cell) = H1
    have z1 : H1.size = H.size + 1 := by rw [← hH1, Array.size_push]
    have e1 : H1[H.size]? = some (arrV cA x.toNat (fun _ => .null)) := by rw [← hH1, Array.getElem?_push_size, ← arrV_new]
    have o1 : ∀ q : Nat, q < H.size → H1[q]? = H[q]? := fun q hq => by rw [← hH1, Array.getElem?_push, if_neg (Nat.ne_of_lt hq)]
    have hcA : cA = xA fx (.object C9) := by
      obtain ⟨_, _, -, -, -, h2⟩ := (hKH.1.2.1 _ hty).2
      exact Option.some.inj (f1.symm.trans h2)
    subst hcA
    obtain ⟨q1, q2, q3⟩ := z_arrNew hR hS hbase hK (fun h => by cases h) (by omega) e1 z1 o1
    have z := kk (adN ad m K H.size) H1 locs q1 q2 q3 (z_arrOk q2 (okS hst))
    rw [z_arrMap q2 (okS hst)] at z
    exact z
  next => exact Sim.none
/-- new int[x][y] -/
def adM (ad : Nat → Nat → Nat) (m : MM) (K1 K2 n h : Nat) : Nat → Nat → Nat := fun a b => if a = K1 ∧ b = gC m K1 then h else if a = K2 ∧ gC m K2 ≤ b ∧ b < gC m K2 + n then h + 1 + (b - gC m K2) else ad a b
theorem s_newM {K K2 idx : Nat} {u v : MV} {x y : Int} {X : Type} {f : MM → Option X} {kk : X → MO} (d : dk me pc (.multianewarray idx 2) 4 pc') (hK : 13 ≤ K ∧ KT K = .array .int) (hK2 : 13 ≤ K2 ∧ KT K2 = .int) (hw : Cond.classLink (eY me).cls idx "[[I" ∈ GW) (hwi : Cond.arrayClass .int ∈ GW) (hu : vi u = some x) (hv : vi v = some y)
    (h : ∀ m1, Sim fx me pc' L (aR (some (K, gC m K)) :: st) m1 ((f m1).bind kk)) : Sim fx me pc L (v :: u :: st) m ((newM m K x K2 y f).bind kk) := by
  obtain ⟨d, rfl⟩ := d
  unfold newM
  split
  next hc =>
    refine Sim.mk (m1 := nM m K x.toNat K2 y.toNat) (1 + x.toNat) (x.toNat + x.toNat * y.toNat) rfl rfl (h _) fun p e R s mi args below meth c C ad H locs cells slots ls Q hR hS hL hst hl g1 g2 kk => ?_
    obtain ⟨hx, hb, -, hown, hts, -, -, -, hKH, -, -, -, hbase, -⟩ := C
    obtain ⟨⟨hc1, hc2⟩, hc3, hc4⟩ := hc
    obtain ⟨v1, v2⟩ := nn_ofI hc1 hc2
    obtain ⟨v3, v4⟩ := nn_ofI hc3 hc4
    have hKne : K ≠ K2 := fun q => by rw [q, hK2.2] at hK; cases hK.2
    rw [List.map_cons, List.map_cons, vi_toV ad u x hu, vi_toV ad v y hv]
    intro T hT Xs
    obtain ⟨vm₁, cA, comp, -, fA, fC, hO, -, X', step⟩ := Xs.multianewarray2F hx (ty := .int) hown (hts _ hw) (va_AOA.use hKH.1.2.2.2.2.1) (hts _ hwi) (g := F0 mi pc ls (.int (Int32.ofInt y) :: .int (Int32.ofInt x) :: st.map (toV ad))) rfl (by rw [hb]; exact d) rfl v1 v3 (by rw [v2]; omega) (by rw [v4]; show _ * 4 ≤ _; omega) (by rw [v4]; omega) rfl rfl (by rw [v2]; exact g1) (by rw [v2, v4]; exact g2)
    rw [v2, v4] at X' step
    generalize hF : Jvm.Free.Multi.fill (T.setVm vm₁) cA comp x.toNat y.toNat (defaultValue .int) x.toNat = F at X' step
    have hTh : (T.setVm vm₁).heap = H := hT
    obtain ⟨f1, f2, -, -⟩ := Jvm.Free.Multi.fill_facts (T.setVm vm₁) cA comp x.toNat y.toNat (defaultValue .int) x.toNat
    rw [hF, hTh] at f1 f2
    have hold : ∀ z : Nat, z < H.size → F.heap[z]? = H[z]? := fun z hz => by
      have := Jvm.Free.Multi.fill_old (T.setVm vm₁) cA comp x.toNat y.toNat (defaultValue .int) (a := z) (by rw [hTh]; exact hz) x.toNat
      rw [hF, hTh] at this
      exact this
    have hrow : ∀ j : Nat, j < x.toNat → F.heap[H.size + 1 + j]? = some (arrV comp y.toNat (fun _ => defaultValue .int)) := fun j hj => by
      have := Jvm.Free.Multi.fill_inner (T.setVm vm₁) cA comp x.toNat y.toNat (defaultValue .int) x.toNat j hj
      rw [hF, hTh] at this
      rw [this, ← arrV_new]
      rfl
    rw [vr_outer, ] at f2
    have hcA : cA = xA fx (.array .int) := Option.some.inj (fA.symm.trans (hKH.1.2.1 (.array .int) (by decide)).2)
    have hcI : comp = xA fx .int := Option.some.inj (fC.symm.trans (hKH.1.2.1 .int (by decide)).2)
    subst hcA
    subst hcI
    have o0 := hR.2.2.1
    have hfr : ∀ b, gC m K ≤ b → gZ m K b = none := o0 K
    have hfr2 : ∀ b, gC m K2 ≤ b → gZ m K2 b = none := o0 K2
    have had1 : adM ad m K K2 x.toNat H.size K (gC m K) = H.size := if_pos ⟨rfl, rfl⟩
    have had2 : ∀ j, j < x.toNat → adM ad m K K2 x.toNat H.size K2 (gC m K2 + j) = H.size + 1 + j := fun j hj => by
      unfold adM
      rw [if_neg (fun q => hKne q.1.symm), if_pos ⟨rfl, by omega, by omega⟩]
      omega
    have hE : Ext m ad (nM m K x.toNat K2 y.toNat) (adM ad m K K2 x.toNat H.size) := by
      intro a b k hk
      have e1 : ¬ (a = K ∧ b = gC m K) := by rintro ⟨rfl, rfl⟩; rw [hfr _ (Nat.le_refl _)] at hk; cases hk
      have e2 : ¬ (a = K2 ∧ gC m K2 ≤ b ∧ b < gC m K2 + x.toNat) := by rintro ⟨rfl, q, -⟩; rw [hfr2 _ q] at hk; cases hk
      exact ⟨by rw [gZ_nM, if_neg e1, if_neg e2]; exact hk, by unfold adM; rw [if_neg e1, if_neg e2]⟩
    -- the cells of the new memory
    have hz3 : ∀ a b k, gZ (nM m K x.toNat K2 y.toNat) a b = some k → (a = K ∧ b = gC m K ∧ k = x.toNat) ∨ (∃ j, a = K2 ∧ b = gC m K2 + j ∧ j < x.toNat ∧ k = y.toNat) ∨ (gZ m a b = some k ∧ adM ad m K K2 x.toNat H.size a b = ad a b) := by
      intro a b k hk
      rw [gZ_nM] at hk
      by_cases e1 : a = K ∧ b = gC m K
      · rw [if_pos e1] at hk; cases hk
        exact Or.inl ⟨e1.1, e1.2, rfl⟩
      · rw [if_neg e1] at hk
        by_cases e2 : a = K2 ∧ gC m K2 ≤ b ∧ b < gC m K2 + x.toNat
        · rw [if_pos e2] at hk; cases hk
          exact Or.inr (Or.inl ⟨b - gC m K2, e2.1, by omega, by omega, rfl⟩)
        · rw [if_neg e2] at hk
          exact Or.inr (Or.inr ⟨hk, by unfold adM; rw [if_neg e1, if_neg e2]⟩)
    have hf9 : ∀ a b k, gZ m a b = some k → ∀ s ty, fV (adM ad m K K2 x.toNat H.size) (nM m K x.toNat K2 y.toNat) a b s ty = fV ad m a b s ty := by
      intro a b k hk s ty
      have e1 : ¬ (a = K ∧ b = gC m K ∧ s < x.toNat) := by rintro ⟨rfl, rfl, -⟩; rw [hfr _ (Nat.le_refl _)] at hk; cases hk
      have key : (gR (nM m K x.toNat K2 y.toNat) a b s).map (fun q => adM ad m K K2 x.toNat H.size q.1 q.2) = (gR m a b s).map (fun q => ad q.1 q.2) := by
        rw [gR_nM, if_neg e1]
        cases hr : gR m a b s with
        | none => rfl
        | some q =>
          have hz := hR.2.2.2.2.1 a b s q hr
          cases hz9 : gZ m q.1 q.2 with
          | none => exact absurd hz9 hz
          | some k => exact congrArg some (hE _ _ _ hz9).2
      cases ty <;> simp only [Pilot.CLeadchapelLaw_law_r3013_356d08.fV, gN_nM, gL_nM, key]
    have hsz : ∀ z, z < H.size + 1 + x.toNat → z < F.heap.size := fun z hz => by rw [f1]; omega
    have hRep : Rep fx (adM ad m K K2 x.toNat H.size) (nM m K x.toNat K2 y.toNat) F.heap := by
      refine ⟨fun a b k hk => ?_, fun a b a' b' p q e9 => ?_, fun a b hab => ?_, fun a b c => hR.2.2.2.1 a b c, fun a b c q hq => ?_, fun a b hz c => ?_⟩
      · rcases hz3 a b k hk with ⟨rfl, rfl, rfl⟩ | ⟨j, rfl, rfl, hj, rfl⟩ | ⟨hk9, ha9⟩
        · refine ⟨⟨by omega, fun h => absurd h (by omega), fun _ => ?_⟩, by rw [had1]; exact Nat.le_trans hbase hS.1⟩
          rw [had1, f2, hK.2]
          congr 2
          funext j
          show va_rf _ = va_rf _
          rw [gR_nM]
          by_cases hj : j < x.toNat
          · rw [if_pos hj, if_pos ⟨rfl, rfl, hj⟩]
            exact congrArg (fun z => va_rf (some z)) (had2 j hj).symm
          · rw [if_neg hj, if_neg (fun q => hj q.2.2), (hR.2.2.2.2.2 a _ (hfr _ (Nat.le_refl _)) j).2.2]
            rfl
        · refine ⟨⟨by omega, fun h => absurd h (by omega), fun _ => ?_⟩, by rw [had2 j hj]; have := Nat.le_trans hbase hS.1; omega⟩
          rw [had2 j hj, hrow j hj, hK2.2]
          congr 2
          funext s
          refine (fV_zero (ad := ad) (ad' := adM ad m K a x.toNat H.size) (m1 := nM m K x.toNat a y.toNat) hR.2.2 (hfr2 (gC m a + j) (by omega)) rfl rfl ?_ (by decide)).symm
          rw [gR_nM, if_neg (fun q => hKne q.1.symm)]
        · obtain ⟨⟨c0, c1, c2⟩, h9⟩ := hR.1 a b k hk9
          have hlt := hR.lt a b k hk9
          refine ⟨⟨c0, fun hK9 => ?_, fun hK9 => ?_⟩, by rw [ha9]; exact h9⟩
          · obtain ⟨r, q1, q2, q3⟩ := c1 hK9
            refine ⟨r, q1, q2, ?_⟩
            rw [ha9]
            exact (q3.to (fun s _ => (hf9 a b k hk9 s _).symm)).kept (hold _ hlt)
          · rw [ha9, hold _ hlt, c2 hK9]
            congr 2
            funext s
            exact (hf9 a b k hk9 s _).symm
      · cases hp : gZ (nM m K x.toNat K2 y.toNat) a b with
        | none => exact absurd hp p
        | some k => cases hq : gZ (nM m K x.toNat K2 y.toNat) a' b' with
          | none => exact absurd hq q
          | some k' =>
            rcases hz3 a b k hp with ⟨rfl, rfl, -⟩ | ⟨j, rfl, rfl, hj, -⟩ | ⟨hk9, ha9⟩ <;> rcases hz3 a' b' k' hq with ⟨rfl, rfl, -⟩ | ⟨j', rfl, rfl, hj', -⟩ | ⟨hk9', ha9'⟩
            · exact ⟨rfl, rfl⟩
            · rw [had1, had2 j' hj'] at e9; omega
            · rw [had1, ha9'] at e9; have := hR.lt _ _ _ hk9'; omega
            · rw [had1, had2 j hj] at e9; omega
            · rw [had2 j hj, had2 j' hj'] at e9; exact ⟨rfl, by omega⟩
            · rw [had2 j hj, ha9'] at e9; have := hR.lt _ _ _ hk9'; omega
            · rw [had1, ha9] at e9; have := hR.lt _ _ _ hk9; omega
            · rw [had2 j' hj', ha9] at e9; have := hR.lt _ _ _ hk9; omega
            · rw [ha9, ha9'] at e9
              exact hR.2.1 a b a' b' (by rw [hk9]; exact fun h => by cases h) (by rw [hk9']; exact fun h => by cases h) e9
      · rw [gC_nM] at hab
        rw [gZ_nM]
        by_cases e1 : a = K
        · subst e1
          rw [if_pos rfl] at hab
          rw [if_neg (by omega), if_neg (fun q => hKne q.1)]
          exact hfr b (by omega)
        · rw [if_neg e1] at hab
          rw [if_neg (fun q => e1 q.1)]
          by_cases e2 : a = K2
          · subst e2
            rw [if_pos rfl] at hab
            rw [if_neg (by omega)]
            exact hfr2 b (by omega)
          · rw [if_neg e2] at hab
            rw [if_neg (fun q => e2 q.1)]
            exact o0 a b hab
      · rw [gR_nM] at hq
        by_cases e1 : a = K ∧ b = gC m K ∧ c < x.toNat
        · rw [if_pos e1] at hq
          cases hq
          rw [gZ_nM, if_neg (fun q => hKne q.1.symm), if_pos ⟨rfl, by omega, by omega⟩]
          exact fun h => by cases h
        · rw [if_neg e1] at hq
          have hz := hR.2.2.2.2.1 a b c q hq
          cases hz9 : gZ m q.1 q.2 with
          | none => exact absurd hz9 hz
          | some k => rw [(hE _ _ _ hz9).1]; exact fun h => by cases h
      · rw [gZ_nM] at hz
        by_cases e1 : a = K ∧ b = gC m K
        · rw [if_pos e1] at hz; cases hz
        · rw [if_neg e1] at hz
          by_cases e2 : a = K2 ∧ gC m K2 ≤ b ∧ b < gC m K2 + x.toNat
          · rw [if_pos e2] at hz; cases hz
          · rw [if_neg e2] at hz
            rw [gN_nM, gL_nM, gR_nM, if_neg (fun q => e1 ⟨q.1, q.2.1⟩)]
            exact hR.2.2.2.2.2 a b hz c
    have hS1 : va_S (XA fx) s.heap F.heap locs := ⟨by rw [f1]; have := hS.1; omega, fun z h1 h2 => (hold z (Nat.lt_of_lt_of_le h1 hS.1)).trans (hS.2.1 z h1 h2), hS.2.2⟩
    have hok : okA (nM m K x.toNat K2 y.toNat) (aR (some (K, gC m K)) :: st) := by
      refine okC' ?_ (okA_ext hE (okS (okS hst)))
      show gZ (nM m K x.toNat K2 y.toNat) K (gC m K) ≠ none
      rw [gZ_nM, if_pos ⟨rfl, rfl⟩]
      exact fun h => by cases h
    have z := kk (adM ad m K K2 x.toNat H.size) F.heap locs hRep hE hS1 hok
    rw [List.map_cons, mapV_ext hE (okS (okS hst)), show toV (adM ad m K K2 x.toNat H.size) (aR (some (K, gC m K))) = .ref H.size from congrArg Value.ref had1] at z
    rw [show cells + (1 + x.toNat) = cells + 1 + x.toNat by omega, show slots + (x.toNat + x.toNat * y.toNat) = slots + x.toNat + x.toNat * y.toNat by omega] at z
    obtain ⟨t, a1, b1⟩ := z F rfl X'
    refine ⟨t, step t ?_, b1⟩
    have e : T.heap.size = H.size := by rw [hT]
    rw [e]
    exact a1
  next => exact Sim.none
end SNew
