/-! RULES for writes and new cells. -/
theorem OKM.sN {m : MM} {K i s : Nat} {v : Int} (h : OKM m) (hv : nrm v) (hz : gZ m K i ≠ none) : OKM (sN m K i s v) := by
  obtain ⟨h1, h2, h3, h4⟩ := h
  refine ⟨h1, fun a b c => ?_, h3, fun a b hab c => ⟨?_, (h4 a b hab c).2⟩⟩
  · rw [gN_sN]; split
    · exact hv
    · exact h2 a b c
  · rw [gN_sN, if_neg]
    · exact (h4 a b hab c).1
    · rintro ⟨rfl, rfl, -⟩; exact hz hab
theorem OKM.sL {m : MM} {K i s : Nat} {v : Int64} (h : OKM m) (hz : gZ m K i ≠ none) : OKM (sL m K i s v) := by
  obtain ⟨h1, h2, h3, h4⟩ := h
  refine ⟨h1, h2, h3, fun a b hab c => ⟨(h4 a b hab c).1, ?_, (h4 a b hab c).2.2⟩⟩
  rw [gL_sL, if_neg]
  · exact (h4 a b hab c).2.1
  · rintro ⟨rfl, rfl, -⟩; exact hz hab
theorem OKM.sR {m : MM} {K i s : Nat} {v : Option (Nat × Nat)} (h : OKM m) (hv : okV m (aR v)) (hz : gZ m K i ≠ none) : OKM (sR m K i s v) := by
  obtain ⟨h1, h2, h3, h4⟩ := h
  refine ⟨h1, h2, fun a b c q hq => ?_, fun a b hab c => ⟨(h4 a b hab c).1, (h4 a b hab c).2.1, ?_⟩⟩
  · rw [gR_sR] at hq
    by_cases e : a = K ∧ b = i ∧ c = s
    · rw [if_pos e] at hq
      subst hq
      exact hv
    · rw [if_neg e] at hq
      exact h3 a b c q hq
  · rw [gR_sR, if_neg]
    · exact (h4 a b hab c).2.2
    · rintro ⟨rfl, rfl, -⟩; exact hz hab
/-- m1 is m but for one slot of (K, i) -/
def One (ad : Nat → Nat → Nat) (m m1 : MM) (K i k : Nat) (ty : FieldType) (v : Value) : Prop :=
  (∀ a b, gZ m1 a b = gZ m a b) ∧ gA m1 = gA m ∧ gB m1 = gB m ∧ (∀ a b c, ¬ (a = K ∧ b = i ∧ c = k) → gN m1 a b c = gN m a b c ∧ gL m1 a b c = gL m a b c ∧ gR m1 a b c = gR m a b c) ∧ fV ad m1 K i k ty = v ∧ OKM m1
theorem One.sN {ad : Nat → Nat → Nat} {m : MM} {K i k : Nat} {ty : FieldType} {v : Int} (h : OKM m) (hv : nrm v) (hz : gZ m K i ≠ none) (ht : tk ty = 0 ∨ tk ty = 3) : One ad m (sN m K i k v) K i k ty (.int (Int32.ofInt v)) := by
  refine ⟨fun _ _ => rfl, rfl, rfl, fun a b c hne => ⟨?_, rfl, rfl⟩, ?_, h.sN hv hz⟩
  · rw [gN_sN, if_neg hne]
  · cases ty <;> first | (simp only [fV, gN_sN]; simp; done) | (simp [tk] at ht)
theorem One.sL {ad : Nat → Nat → Nat} {m : MM} {K i k : Nat} {ty : FieldType} {v : Int64} (h : OKM m) (hz : gZ m K i ≠ none) (ht : tk ty = 1) : One ad m (sL m K i k v) K i k ty (.long v) := by
  refine ⟨fun _ _ => rfl, rfl, rfl, fun a b c hne => ⟨rfl, ?_, rfl⟩, ?_, h.sL hz⟩
  · rw [gL_sL, if_neg hne]
  · cases ty <;> first | (simp only [fV, gL_sL]; simp; done) | (simp [tk] at ht)
theorem One.sR {ad : Nat → Nat → Nat} {m : MM} {K i k : Nat} {ty : FieldType} {v : Option (Nat × Nat)} (h : OKM m) (hv : okV m (aR v)) (hz : gZ m K i ≠ none) (ht : tk ty = 2) : One ad m (sR m K i k v) K i k ty (toV ad (aR v)) := by
  refine ⟨fun _ _ => rfl, rfl, rfl, fun a b c hne => ⟨rfl, rfl, ?_⟩, ?_, h.sR hv hz⟩
  · rw [gR_sR, if_neg hne]
  · cases ty <;> first | (simp only [fV, gR_sR]; simp [toV]; done) | (simp [tk] at ht)
theorem One.fV {ad : Nat → Nat → Nat} {m m1 : MM} {K i k : Nat} {ty : FieldType} {v : Value} (h : One ad m m1 K i k ty v) {s : Nat} (hs : s ≠ k) (t : FieldType) : fV ad m1 K i s t = fV ad m K i s t := by
  obtain ⟨h1, h2, h3⟩ := h.2.2.2.1 K i s (fun q => hs q.2.2)
  cases t <;> simp only [Pilot.CLeadchapelLaw_law_r3013_356d08.fV, h1, h2, h3]
theorem One.ext {ad : Nat → Nat → Nat} {m m1 : MM} {K i k : Nat} {ty : FieldType} {v : Value} (h : One ad m m1 K i k ty v) : Ext m ad m1 ad := fun a b n hn => ⟨by rw [h.1]; exact hn, rfl⟩
section SWr
variable {fx : FX} {me : ME} {pc pc' : Nat} {L : List (Nat × MV)} {st : List MV} {m : MM} {o : MO}
theorem z_put {p : Program} {e : Env} {R : Room} {s : State} {mi : MethodId} {args : Array Value} {below : List Frame} {meth : Method} {c : Code} {ad : Nat → Nat → Nat} {H : Heap} {locs : List Loc} {cells slots : Nat} {ls : Array Slot} {Q : State → Prop} {K i k t idx n : Nat} {fin : Bool} {rest : List Value} {m1 : MM} {v : Value} (hcf : ∀ c, c < 13 → CF c)
    (C : Ctx fx me p R s mi args meth c) (hR : Rep fx ad m H) (hS : va_S (XA fx) s.heap H locs) (hz : gZ m K i = some n) (hf : fl (eY me).cls idx K k t fin) (hfin : fin = true → eI me = true ∧ ∃ r, vwCl[K]? = some r ∧ r.1 = (eY me).cls) (h1 : One ad m m1 K i k (FTy K k) v) (hn : narrow (FTy K k) v = v) (hfit : fits (FTy K k) v = true) (d : decode (eB me) pc = .ok (.putfield idx, 3))
    (kk : ∀ (H1 : Heap) (locs1 : List Loc), Rep fx ad m1 H1 → va_S (XA fx) s.heap H1 locs1 → W p (xl fx) e R s mi args below meth c H1 locs1 cells slots Q (F0 mi (pc + 3) ls rest)) : W p (xl fx) e R s mi args below meth c H locs cells slots Q (F0 mi pc ls (v :: .ref (ad K i) :: rest)) := by
  obtain ⟨hx, hb, -, hown, hts, -, -, -, hKH, hin, -⟩ := C
  obtain ⟨r, hr, hk, hlink, ht, hff, hK13, hdc⟩ := hf
  obtain ⟨r2, hr2, hws, hty, hnm⟩ := hcf K hK13
  cases hr.symm.trans hr2
  obtain ⟨⟨c0, c1, c2⟩, hge⟩ := hR.1 K i n hz
  obtain ⟨r3, hr3, hnn, cell, q1, q2, q3, q4⟩ := c1 hK13
  cases hr.symm.trans hr3
  have hap : ∀ x y, x < r.2.2 → y < r.2.2 → x ≠ y → (xI fx K) x ≠ (xI fx K) y := va_apart (own := r.1) (D := (xC fx, xI fx)) hts hws (FTy K) hty hnm hKH.1.1 hr
  obtain ⟨hSl, hfc, kC, hkC, hkind⟩ := hKH.1.1.1 K r hr
  obtain ⟨cf, kf, fi, f, hi, hsl⟩ := hSl k hk
  have hsl : f.slot = xI fx K k := hsl
  have hst := (u_facts hfc hkC (u_lays hts hws hk) hi).1
  have fin9 : ∀ H' : Heap, H'[ad K i]? = some (cell.setSlot f.slot v) → H'.size = H.size → (∀ q, q ≠ ad K i → H'[q]? = H[q]?) → W p (xl fx) e R s mi args below meth c H' (locs ++ [⟨ad K i, f.slot⟩]) cells slots Q (F0 mi (pc + 3) ls rest) := by
    intro H' e1 e2 e3
    rw [hsl] at e1
    refine kk H' _ (hR.upd (m' := m1) h1.1 hz (fun a b c hne => h1.2.2.2.1 a b c (fun q => hne ⟨q.1, q.2.1⟩)) ⟨c0, fun _ => ⟨r, hr, hnn, ?_⟩, fun h => absurd h (by omega)⟩ e3 h1.2.2.2.2.2) (hS.put e2 e3 hge)
    refine t_OB.to (V := updV (fun s => fV ad m K i s (FTy K s)) k v) ⟨_, e1, q2, q3, t_set q4 hap hk v⟩ (fun j _ => ?_)
    unfold updV
    by_cases e : j = k
    · rw [if_pos e, e]; exact h1.2.2.2.2.1.symm
    · rw [if_neg e]; exact (h1.fV e _).symm
  have hlay := hts _ (hws _ (u_in_lay hk))
  unfold u_lay at hlay
  cases fin with
  | false =>
    rw [if_neg (by rw [hff]; decide)] at hlay
    have h6 := u_store hfc hkC hkind hlay hi (hty k hk) hn hfit
    exact W.putK hx hb (f := f) ⟨hown, hts _ hlink, ⟨_, _, _, hi⟩, hst⟩ (by rw [q2]; exact h6) q1 q3 (by rw [hsl]; exact k2_hasslot (q4 k hk)) rfl rfl d fin9
  | true =>
    rw [if_pos hff] at hlay
    obtain ⟨hI, r4, hr4, hcls⟩ := hfin rfl
    cases hr.symm.trans hr4
    have hcf : mi.cls = cf := by
      obtain ⟨_, _, c', _, _, _, -, -, hf', -, -, -, hown2, -⟩ := Cond.laysFinal_spec hlay
      have e1 : c' = cf := by have := hi.symm.trans hf'; simp at this; exact this.1.symm
      rw [hdc, hcls] at hown2
      rw [← e1]; exact Option.some.inj (hown.symm.trans hown2)
    have h6 := u_fits hfc hkC hkind (Or.inr hlay) hi (hty k hk) hn hfit
    exact W.putFinK hx hb hown (hts _ hlink) hi hst hcf (hin hI) (by rw [q2]; exact h6) q1 q3 (by rw [hsl]; exact k2_hasslot (q4 k hk)) rfl rfl d fin9
theorem s_putN {K i k idx : Nat} {fin : Bool} {v : Int} {X : Type} {f : MM → Option X} {kk : X → MO} (hcf : ∀ c, c < 13 → CF c) (d : dk me pc (.putfield idx) 3 pc') (hf : fl (eY me).cls idx K k 0 fin) (hfin : fin = true → eI me = true ∧ ∃ r, vwCl[K]? = some r ∧ r.1 = (eY me).cls)
    (h : ∀ m1, Sim fx me pc' L st m1 ((f m1).bind kk)) : Sim fx me pc L (aI v :: aR (some (K, i)) :: st) m ((lt' (sN m K i k v) f).bind kk) := by
  obtain ⟨d, rfl⟩ := d
  refine Sim.mk (m1 := sN m K i k v) 0 0 rfl rfl (h _) fun p e R s mi args below meth c C ad H locs cells slots ls Q hR hS hL hst hl g1 g2 kk => ?_
  obtain ⟨n, hz⟩ := liveN (okH (okS hst))
  have ht : tk (FTy K k) = 0 := by obtain ⟨r, -, -, -, ht, -⟩ := hf; exact ht
  have h1 := One.sN (ad := ad) (k := k) (ty := FTy K k) hR.2.2 (okH hst) (by rw [hz]; exact fun h => by cases h) (Or.inl ht)
  exact z_put hcf C hR hS hz hf hfin h1 (by cases hty : FTy K k <;> first | rfl | (rw [hty] at ht; cases ht)) (by cases hty : FTy K k <;> first | rfl | (rw [hty] at ht; cases ht)) d
    fun H1 locs1 k1 k2 => kk ad H1 locs1 k1 h1.ext k2 (okA_ext h1.ext (okS (okS hst)))
theorem s_putB {K i k idx : Nat} {fin : Bool} {v : Int} {X : Type} {f : MM → Option X} {kk : X → MO} (hcf : ∀ c, c < 13 → CF c) (d : dk me pc (.putfield idx) 3 pc') (hf : fl (eY me).cls idx K k 3 fin) (hfin : fin = true → eI me = true ∧ ∃ r, vwCl[K]? = some r ∧ r.1 = (eY me).cls)
    (h : ∀ m1, Sim fx me pc' L st m1 ((f m1).bind kk)) : Sim fx me pc L (aI v :: aR (some (K, i)) :: st) m ((cb v (lt' (sN m K i k v) f)).bind kk) := by
  obtain ⟨d, rfl⟩ := d
  unfold cb
  split
  next hc =>
    refine Sim.mk (m1 := sN m K i k v) 0 0 rfl rfl (h _) fun p e R s mi args below meth c C ad H locs cells slots ls Q hR hS hL hst hl g1 g2 kk => ?_
    obtain ⟨n, hz⟩ := liveN (okH (okS hst))
    have ht : tk (FTy K k) = 3 := by obtain ⟨r, -, -, -, ht, -⟩ := hf; exact ht
    have h1 := One.sN (ad := ad) (k := k) (ty := FTy K k) hR.2.2 (okH hst) (by rw [hz]; exact fun h => by cases h) (Or.inr ht)
    refine z_put hcf C hR hS hz hf hfin h1 ?_ ?_ d fun H1 locs1 k1 k2 => kk ad H1 locs1 k1 h1.ext k2 (okA_ext h1.ext (okS (okS hst)))
    · cases hty : FTy K k <;> first | (rcases hc with rfl | rfl <;> rfl) | (rw [hty] at ht; cases ht)
    · cases hty : FTy K k <;> first | (rcases hc with rfl | rfl <;> rfl) | (rw [hty] at ht; cases ht)
  next => exact Sim.none
theorem s_putL {K i k idx : Nat} {fin : Bool} {v : Int64} {X : Type} {f : MM → Option X} {kk : X → MO} (hcf : ∀ c, c < 13 → CF c) (d : dk me pc (.putfield idx) 3 pc') (hf : fl (eY me).cls idx K k 1 fin) (hfin : fin = true → eI me = true ∧ ∃ r, vwCl[K]? = some r ∧ r.1 = (eY me).cls)
    (h : ∀ m1, Sim fx me pc' L st m1 ((f m1).bind kk)) : Sim fx me pc L (aL v :: aR (some (K, i)) :: st) m ((lt' (sL m K i k v) f).bind kk) := by
  obtain ⟨d, rfl⟩ := d
  refine Sim.mk (m1 := sL m K i k v) 0 0 rfl rfl (h _) fun p e R s mi args below meth c C ad H locs cells slots ls Q hR hS hL hst hl g1 g2 kk => ?_
  obtain ⟨n, hz⟩ := liveN (okH (okS hst))
  have ht : tk (FTy K k) = 1 := by obtain ⟨r, -, -, -, ht, -⟩ := hf; exact ht
  have h1 := One.sL (ad := ad) (k := k) (v := v) (ty := FTy K k) hR.2.2 (by rw [hz]; exact fun h => by cases h) ht
  exact z_put hcf C hR hS hz hf hfin h1 (by cases hty : FTy K k <;> first | rfl | (rw [hty] at ht; cases ht)) (by cases hty : FTy K k <;> first | rfl | (rw [hty] at ht; cases ht)) d
    fun H1 locs1 k1 k2 => kk ad H1 locs1 k1 h1.ext k2 (okA_ext h1.ext (okS (okS hst)))
theorem s_putR {K i k idx : Nat} {fin : Bool} {v : Option (Nat × Nat)} {X : Type} {f : MM → Option X} {kk : X → MO} (hcf : ∀ c, c < 13 → CF c) (d : dk me pc (.putfield idx) 3 pc') (hf : fl (eY me).cls idx K k 2 fin) (hfin : fin = true → eI me = true ∧ ∃ r, vwCl[K]? = some r ∧ r.1 = (eY me).cls)
    (h : ∀ m1, Sim fx me pc' L st m1 ((f m1).bind kk)) : Sim fx me pc L (aR v :: aR (some (K, i)) :: st) m ((lt' (sR m K i k v) f).bind kk) := by
  obtain ⟨d, rfl⟩ := d
  refine Sim.mk (m1 := sR m K i k v) 0 0 rfl rfl (h _) fun p e R s mi args below meth c C ad H locs cells slots ls Q hR hS hL hst hl g1 g2 kk => ?_
  obtain ⟨n, hz⟩ := liveN (okH (okS hst))
  have ht : tk (FTy K k) = 2 := by obtain ⟨r, -, -, -, ht, -⟩ := hf; exact ht
  have h1 := One.sR (ad := ad) (k := k) (ty := FTy K k) hR.2.2 (okH hst) (by rw [hz]; exact fun h => by cases h) ht
  have hv9 : toV ad (aR v) = .null ∨ ∃ a, toV ad (aR v) = .ref a := by
    cases v with
    | none => exact Or.inl rfl
    | some q => exact Or.inr ⟨_, rfl⟩
  refine z_put hcf C hR hS hz hf hfin h1 ?_ ?_ d fun H1 locs1 k1 k2 => kk ad H1 locs1 k1 h1.ext k2 (okA_ext h1.ext (okS (okS hst)))
  · cases hty : FTy K k <;> first | (rcases hv9 with e | ⟨a, e⟩ <;> rw [e] <;> rfl) | (rw [hty] at ht; cases ht)
  · cases hty : FTy K k <;> first | (rcases hv9 with e | ⟨a, e⟩ <;> rw [e] <;> rfl) | (rw [hty] at ht; cases ht)
/-- what a store into an array leaves -/
theorem z_ast {s : State} {ad : Nat → Nat → Nat} {H H' : Heap} {locs : List Loc} {K i n : Nat} {ty : FieldType} {m1 : MM} {v : Value} {j : Nat} (hR : Rep fx ad m H) (hS : va_S (XA fx) s.heap H locs) (hz : gZ m K i = some n) (hK : 13 ≤ K ∧ KT K = ty) (h1 : One ad m m1 K i j ty v)
    (e1 : H'[ad K i]? = some ((arrV (xA fx ty) n (fun s => fV ad m K i s ty)).setSlot j v)) (e2 : H'.size = H.size) (e3 : ∀ q, q ≠ ad K i → H'[q]? = H[q]?) : Rep fx ad m1 H' ∧ va_S (XA fx) s.heap H' (locs ++ [⟨ad K i, j⟩]) := by
  obtain ⟨⟨c0, c1, c2⟩, hge⟩ := hR.1 K i n hz
  refine ⟨hR.upd (m' := m1) h1.1 hz (fun a b c hne => h1.2.2.2.1 a b c (fun q => hne ⟨q.1, q.2.1⟩)) ⟨c0, fun h => absurd h (by omega), fun _ => ?_⟩ e3 h1.2.2.2.2.2, hS.put e2 e3 hge⟩
  rw [e1, arrV_store, hK.2]
  congr 2
  funext s
  unfold updV
  by_cases e : s = j
  · rw [if_pos e, e]; exact h1.2.2.2.2.1.symm
  · rw [if_neg e]; exact (h1.fV e _).symm
theorem s_stN {K i : Nat} {u : MV} {j v : Int} {X : Type} {f : MM → Option X} {kk : X → MO} (d : dk me pc .iastore 1 pc') (hK : 13 ≤ K ∧ KT K = .int) (hu : vi u = some j) (h : ∀ m1, Sim fx me pc' L st m1 ((f m1).bind kk)) : Sim fx me pc L (aI v :: u :: aR (some (K, i)) :: st) m ((stN m K i j v f).bind kk) := by
  obtain ⟨d, rfl⟩ := d
  unfold stN
  split
  next hc =>
    refine Sim.mk (m1 := sN m K i j.toNat v) 0 0 rfl rfl (h _) fun p e R s mi args below meth c C ad H locs cells slots ls Q hR hS hL hst hl g1 g2 kk => ?_
    obtain ⟨hx, hb, -, -, -, -, -, -, hKH, -⟩ := C
    obtain ⟨n, hz⟩ := liveN (okH (okS (okS hst)))
    obtain ⟨a1, a2, a3, a4⟩ := z_arr hR hz hK hKH.1 (by decide)
    rw [lenI_of hz] at hc
    obtain ⟨v1, v2⟩ := vp_ofI hc.1 hc.2 a4
    have h1 := One.sN (ad := ad) (k := j.toNat) (ty := .int) hR.2.2 (okH hst) (by rw [hz]; exact fun h => by cases h) (Or.inl rfl)
    rw [List.map_cons, List.map_cons, vi_toV ad u j hu]
    refine W.iast hx hb a1 (a2 n _) (fun q => by cases q) (by rw [arrV_size]; exact v1) rfl rfl d fun H' e1 e2 e3 => ?_
    rw [v2] at e1 ⊢
    obtain ⟨r1, r2⟩ := z_ast hR hS hz hK h1 e1 e2 e3
    exact kk ad H' _ r1 h1.ext r2 (okA_ext h1.ext (okS (okS (okS hst))))
  next => exact Sim.none
theorem s_stB {K i : Nat} {u : MV} {j v : Int} {X : Type} {f : MM → Option X} {kk : X → MO} (d : dk me pc .bastore 1 pc') (hK : 13 ≤ K ∧ KT K = .boolean) (hu : vi u = some j) (h : ∀ m1, Sim fx me pc' L st m1 ((f m1).bind kk)) : Sim fx me pc L (aI v :: u :: aR (some (K, i)) :: st) m ((cb v (stN m K i j v f)).bind kk) := by
  obtain ⟨d, rfl⟩ := d
  unfold cb
  split
  next hb9 =>
    unfold stN
    split
    next hc =>
      refine Sim.mk (m1 := sN m K i j.toNat v) 0 0 rfl rfl (h _) fun p e R s mi args below meth c C ad H locs cells slots ls Q hR hS hL hst hl g1 g2 kk => ?_
      obtain ⟨hx, hb, -, -, -, -, -, -, hKH, -⟩ := C
      obtain ⟨n, hz⟩ := liveN (okH (okS (okS hst)))
      obtain ⟨a1, a2, a3, a4⟩ := z_arr hR hz hK hKH.1 (by decide)
      rw [lenI_of hz] at hc
      obtain ⟨v1, v2⟩ := vp_ofI hc.1 hc.2 a4
      have h1 := One.sN (ad := ad) (k := j.toNat) (ty := .boolean) hR.2.2 (okH hst) (by rw [hz]; exact fun h => by cases h) (Or.inr rfl)
      have hnar : narrow .boolean (.int (Int32.ofInt v)) = .int (Int32.ofInt v) := by rcases hb9 with rfl | rfl <;> rfl
      rw [List.map_cons, List.map_cons, vi_toV ad u j hu]
      refine W.zast hx hb a1 (a2 n _) (fun q => by cases q) (by rw [arrV_size]; exact v1) rfl rfl d fun H' e1 e2 e3 => ?_
      rw [v2, hnar] at e1
      rw [v2]
      obtain ⟨r1, r2⟩ := z_ast hR hS hz hK h1 e1 e2 e3
      exact kk ad H' _ r1 h1.ext r2 (okA_ext h1.ext (okS (okS (okS hst))))
    next => exact Sim.none
  next => exact Sim.none
theorem s_stL {K i : Nat} {u : MV} {j : Int} {v : Int64} {X : Type} {f : MM → Option X} {kk : X → MO} (d : dk me pc .lastore 1 pc') (hK : 13 ≤ K ∧ KT K = .long) (hu : vi u = some j) (h : ∀ m1, Sim fx me pc' L st m1 ((f m1).bind kk)) : Sim fx me pc L (aL v :: u :: aR (some (K, i)) :: st) m ((stL m K i j v f).bind kk) := by
  obtain ⟨d, rfl⟩ := d
  unfold stL
  split
  next hc =>
    refine Sim.mk (m1 := sL m K i j.toNat v) 0 0 rfl rfl (h _) fun p e R s mi args below meth c C ad H locs cells slots ls Q hR hS hL hst hl g1 g2 kk => ?_
    obtain ⟨hx, hb, -, -, -, -, -, -, hKH, -⟩ := C
    obtain ⟨n, hz⟩ := liveN (okH (okS (okS hst)))
    obtain ⟨a1, a2, a3, a4⟩ := z_arr hR hz hK hKH.1 (by decide)
    rw [lenI_of hz] at hc
    obtain ⟨v1, v2⟩ := vp_ofI hc.1 hc.2 a4
    have h1 := One.sL (ad := ad) (k := j.toNat) (v := v) (ty := .long) hR.2.2 (by rw [hz]; exact fun h => by cases h) rfl
    rw [List.map_cons, List.map_cons, vi_toV ad u j hu]
    refine W.last hx hb a1 (a2 n _) (fun q => by cases q) (by rw [arrV_size]; exact v1) rfl rfl d fun H' e1 e2 e3 => ?_
    rw [v2] at e1 ⊢
    obtain ⟨r1, r2⟩ := z_ast hR hS hz hK h1 e1 e2 e3
    exact kk ad H' _ r1 h1.ext r2 (okA_ext h1.ext (okS (okS (okS hst))))
  next => exact Sim.none
/-- an object into an array of its class -/
theorem s_stR {K i K2 i2 : Nat} {C9 : String} {u : MV} {j : Int} {X : Type} {f : MM → Option X} {kk : X → MO} (d : dk me pc .aastore 1 pc') (hK : 13 ≤ K ∧ KT K = .object C9) (hty : FieldType.object C9 ∈ aTys) (hK2 : K2 < 13) (hcl : (vwCl[K2]?).map (fun r => r.1) = some C9) (hu : vi u = some j) (h : ∀ m1, Sim fx me pc' L st m1 ((f m1).bind kk)) : Sim fx me pc L (aR (some (K2, i2)) :: u :: aR (some (K, i)) :: st) m ((stR m K i j (some (K2, i2)) f).bind kk) := by
  obtain ⟨d, rfl⟩ := d
  unfold stR
  split
  next hc =>
    refine Sim.mk (m1 := sR m K i j.toNat (some (K2, i2))) 0 0 rfl rfl (h _) fun p e R s mi args below meth c C ad H locs cells slots ls Q hR hS hL hst hl g1 g2 kk => ?_
    obtain ⟨hx, hb, -, -, -, -, -, -, hKH, -⟩ := C
    obtain ⟨n, hz⟩ := liveN (okH (okS (okS hst)))
    obtain ⟨n2, hz2⟩ := liveN (okH hst)
    obtain ⟨a1, a2, a3, a4⟩ := z_arr hR hz hK hKH.1 hty
    rw [lenI_of hz] at hc
    obtain ⟨v1, v2⟩ := vp_ofI hc.1 hc.2 a4
    have h1 := One.sR (ad := ad) (k := j.toNat) (v := some (K2, i2)) (ty := .object C9) hR.2.2 (okH hst) (by rw [hz]; exact fun h => by cases h) rfl
    obtain ⟨⟨-, b1, -⟩, -⟩ := hR.1 K2 i2 n2 hz2
    obtain ⟨r, hr, -, cellV, q1, q2, q3, -⟩ := b1 hK2
    rw [hr] at hcl
    have hcn : r.1 = C9 := Option.some.inj hcl
    have hcls := (hKH.1.1.1 K2 r hr).2
    obtain ⟨kA, comp, k1, k2, k3, -⟩ := a3
    have hcomp : comp = (xC fx, xI fx).1 K2 := Option.some.inj (k3.symm.trans (by rw [← hcn]; exact hcls.1))
    subst hcomp
    obtain ⟨kC, hkC, -⟩ := id hcls.2
    rw [List.map_cons, List.map_cons, vi_toV ad u j hu]
    refine W.aast hx hb a1 (fun q h => by cases h) (fun h => by cases h) k1 k2 rfl hkC ⟨fun q => v1 (Or.inl q), by rw [arrV_size]; exact Nat.not_le.mp fun q => v1 (Or.inr q)⟩ q1 (fun q h => by rw [q3] at h; cases h) (by rw [q2]; exact hkC) (by rw [q2]; exact va_assign hcls) rfl rfl d fun H' e1 e2 e3 => ?_
    rw [v2] at e1 ⊢
    obtain ⟨r1, r2⟩ := z_ast hR hS hz hK h1 e1 e2 e3
    exact kk ad H' _ r1 h1.ext r2 (okA_ext h1.ext (okS (okS (okS hst))))
  next => exact Sim.none
end SWr
