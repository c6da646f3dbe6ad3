/-! SHORT FORMS for the printed walks. -/
section ST
variable {fx : FX} {me me2 : ME} {pc pc' : Nat} {L : List (Nat × MV)} {st : List MV} {m : MM} {o : MO}
theorem s_top (h : Sim fx me pc L st m (o.bind fun z => some z)) : Sim fx me pc L st m o := by
  rw [show o.bind (fun z => some z) = o from by cases o <;> rfl] at h
  exact h
theorem s_lp2 {S X R : Type} {b : S → Option (S ⊕ X)} {k : X → Option R} {kk : R → MO} (Lf : S → List (Nat × MV)) (mf : S → MM) (s : S) (hb : ∀ (k2 : S ⊕ X → MO), (∀ x, k2 (.inr x) = (k x).bind kk) → ∀ (s : S), (∀ s', Sim fx me pc (Lf s') [] (mf s') (k2 (.inl s'))) → Sim fx me pc (Lf s) [] (mf s) ((b s).bind k2)) : Sim fx me pc (Lf s) [] (mf s) (((lpb b s).bind k).bind kk) := by
  rw [Option.bind_assoc]
  exact s_lp (kk := fun x => (k x).bind kk) (fun k2 s h1 h2 => hb k2 h2 s h1) s
theorem s_exit {S X : Type} {k2 : S ⊕ X → MO} {x : X} {o2 : MO} (hx : k2 (.inr x) = o2) (h : Sim fx me pc L st m o2) : Sim fx me pc L st m ((some (Sum.inr x : S ⊕ X)).bind k2) := by
  show Sim fx me pc L st m (k2 (.inr x))
  rw [hx]
  exact h
theorem s_back {S X : Type} {k2 : S ⊕ X → MO} {s : S} (h : Sim fx me pc L st m (k2 (.inl s))) : Sim fx me pc L st m ((some (Sum.inl s : S ⊕ X)).bind k2) := h
theorem s_bump {g : Nat → Nat} {X : Type} {f : MM → Option X} {kk : X → MO} (h : ∀ m1, Sim fx me pc L st m1 ((f m1).bind kk)) : Sim fx me pc L st m ((lt' (bC m g) f).bind kk) := by
  refine Sim.mk (m1 := bC m g) 0 0 rfl rfl (h _) fun p e R s mi args below meth c C ad H locs cells slots ls Q hR hS hL hst hl g1 g2 k => ?_
  have hE : Ext m ad (bC m g) ad := fun _ _ _ h => ⟨h, rfl⟩
  exact k ad H locs (hR.same rfl rfl rfl rfl (fun K => Nat.le_max_left _ _)) hE hS (okA_ext hE hst)
theorem sub0 : ∀ q ∈ ([] : List (Nat × MV)), q ∈ L := fun q h => by cases h
theorem subc {a : Nat × MV} {L1 : List (Nat × MV)} (h : a ∈ L) (h1 : ∀ q ∈ L1, q ∈ L) : ∀ q ∈ a :: L1, q ∈ L := fun q hq => by
  rcases List.mem_cons.mp hq with rfl | hq
  · exact h
  · exact h1 q hq
/-- a method called by its class: with its number of arguments and its class's kind -/
def VF (me2 : ME) (n K : Nat) : Prop := mF me2 n ∧ eT me2 = [] ∧ Cond.instanceMethod (eY me2) ∈ GW ∧ Cond.selects (eY me2).cls (eY me2) (eY me2) ∈ GW ∧ K < 13 ∧ (vwCl[K]?).map (fun r => r.1) = some (eY me2).cls
def SF (me2 : ME) (n : Nat) : Prop := mF me2 n ∧ eT me2 = [] ∧ Cond.static (eY me2) ∈ GW
def IF (me2 : ME) (n : Nat) : Prop := mF me2 n ∧ eT me2 = [] ∧ eR me2 = none ∧ (eY me2).name = "<init>" ∧ Cond.instanceMethod (eY me2) ∈ GW
def FR (me me2 : ME) : Bool := Nat.ble (eF me2 + 1) (eF me) && Nat.ble (8 + (eN me2 + 11) + eP me2) (eP me)
theorem FR_of (h : FR me me2 = true) : eF me2 + 1 ≤ eF me ∧ 8 + (eN me2 + 11) + eP me2 ≤ eP me := by
  unfold FR at h
  rw [Bool.and_eq_true] at h
  exact ⟨Nat.le_of_ble_eq_true h.1, Nat.le_of_ble_eq_true h.2⟩
theorem r_V {idx n K i : Nat} {av : List MV} (d : dk me pc (.invokevirtual idx) 3 pc') (h : VF me2 n K) (w1 : Cond.methodLink (eY me).cls idx (eY me2) ∈ GW) (hfr : FR me me2 = true) (hn : av.length = n) : RunOK fx me me2 pc true (aR (some (K, i)) :: av) := run_V d h.1 h.2.1 w1 h.2.2.1 h.2.2.2.1 (FR_of hfr) h.2.2.2.2.1 h.2.2.2.2.2 hn
theorem r_S {idx n : Nat} {av : List MV} (d : dk me pc (.invokestatic idx) 3 pc') (h : SF me2 n) (w1 : Cond.methodLink (eY me).cls idx (eY me2) ∈ GW) (hfr : FR me me2 = true) (hn : av.length = n) : RunOK fx me me2 pc true av := run_S d h.1 h.2.1 w1 h.2.2 (FR_of hfr) hn
theorem r_I {idx n K i : Nat} {av : List MV} (d : dk me pc (.invokespecial idx) 3 pc') (h : IF me2 n) (w1 : Cond.methodLink (eY me).cls idx (eY me2) ∈ GW) (hfr : FR me me2 = true) (hn : av.length = n) : RunOK fx me me2 pc false (aR (some (K, i)) :: av) := run_I d h.1 h.2.1 h.2.2.1 h.2.2.2.1 w1 h.2.2.2.2 (FR_of hfr) hn
theorem r_SN {idx n : Nat} {host : String} {av : List MV} (d : dk me pc (.invokestatic idx) 3 pc') (h : SF me2 n) (w1 : ((eY me).cls, idx, eY me2, host) ∈ nestL) (hfr : FR me me2 = true) (hn : av.length = n) : RunOK fx me me2 pc false av := run_SN d h.1 h.2.1 w1 h.2.2 (FR_of hfr) hn
theorem r_IN {idx n K i : Nat} {host : String} {av : List MV} (d : dk me pc (.invokespecial idx) 3 pc') (h : IF me2 n) (w1 : ((eY me).cls, idx, eY me2, host) ∈ nestL) (hfr : FR me me2 = true) (hn : av.length = n) : RunOK fx me me2 pc false (aR (some (K, i)) :: av) := run_IN d h.1 h.2.1 h.2.2.1 h.2.2.2.1 w1 h.2.2.2.2 (FR_of hfr) hn
theorem b8 {a b : Nat} (h : Nat.ble a b = true) : a ≤ b := Nat.le_of_ble_eq_true h
end ST
