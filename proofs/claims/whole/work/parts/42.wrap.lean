/-! WRAPPERS of the law: what they make of a call. -/
/-- the law's out array is there -/
def OutOK (m : MM) : Prop := gZ m 131 0 = some 1
theorem wrapI {o : MO} {r : RV} {mc' : MM} {a b c : MM → Option (RV × MM)} (h : o = some (r, mc')) (hz : OutOK mc') :
    (∀ v, r = .inl (some (aI v)) → bI o (fun v m1 => stL m1 131 0 0 (i2l v) fun m3 => some (.inl (some (aI 0)), m3)) (xc a b c) = some (.inl (some (aI 0)), sL mc' 131 0 0 (i2l v))) ∧
    (r = .inr 0 → bI o (fun v m1 => stL m1 131 0 0 (i2l v) fun m3 => some (.inl (some (aI 0)), m3)) (xc a b c) = a mc') ∧
    (r = .inr 1 → bI o (fun v m1 => stL m1 131 0 0 (i2l v) fun m3 => some (.inl (some (aI 0)), m3)) (xc a b c) = b mc') ∧
    (r = .inr 2 → bI o (fun v m1 => stL m1 131 0 0 (i2l v) fun m3 => some (.inl (some (aI 0)), m3)) (xc a b c) = c mc') := by
  subst h
  refine ⟨fun v hv => ?_, fun hv => ?_, fun hv => ?_, fun hv => ?_⟩ <;> subst hv
  · apply ev_eq
    refine ev_bIv rfl (ev_stL hz (by omega) (ev_some rfl))
  · rfl
  · rfl
  · rfl
/-- two longs made of ints are the same iff the ints are -/
theorem i2l_inj {x y : Int} (hx : nrm x) (hy : nrm y) : lcm' (i2l x) (i2l y) = 0 ↔ x = y := by
  rw [lcm_zero]
  constructor
  · intro h
    have := congrArg Int64.toInt h
    unfold i2l at this
    rw [Int32.toInt_toInt64, Int32.toInt_toInt64, ofT hx, ofT hy] at this
    exact this
  · intro h
    rw [h]
