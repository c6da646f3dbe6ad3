noncomputable def j_X11_handAt_0_23 (m : MM)  (s0 : Option (Nat × Nat)) : Option (RV × MM) :=
  if ¬ s0 = none then (some (.inl (some (aR s0)), m)) else
  some (.inr 0, bX m)
noncomputable def j_X11_handAt_0_22 (m : MM)   : Option (RV × MM) :=
  j_X11_handAt_0_23 m none
noncomputable def f_X11_handAt (m : MM) (l0 : Nat) (l1 : Int) : Option (RV × MM) :=
  if l1 < 0 then (j_X11_handAt_0_22 m) else
  nk 55 (gR m 11 l0 2) fun i1 => if (lenI m 55 i1) ≤ l1 then (j_X11_handAt_0_22 m) else
  nk 55 (gR m 11 l0 2) fun i2 => ldR m 55 i2 l1 fun r3 => j_X11_handAt_0_23 m r3
noncomputable def j_X11_pressAt_0_13 (m : MM)   : Option (RV × MM) :=
  some (.inr 0, bX m)
noncomputable def f_X11_pressAt (m : MM) (l0 : Nat) (l1 : Int) : Option (RV × MM) :=
  if l1 < 0 then (j_X11_pressAt_0_13 m) else
  nk 57 (gR m 11 l0 4) fun i1 => if l1 < (lenI m 57 i1) then (nk 57 (gR m 11 l0 4) fun i2 => ldR m 57 i2 l1 fun r3 => some (.inl (some (aR r3)), m)) else
  j_X11_pressAt_0_13 m
noncomputable def f_X11_requireArgument (m : MM) (l0 : Int) : Option (RV × MM) :=
  if ¬ l0 = 0 then (some (.inl none, m)) else
  some (.inr 1, bX m)
noncomputable def f_X11_requireIndex (m : MM) (l0 : Int) : Option (RV × MM) :=
  if ¬ l0 = 0 then (some (.inl none, m)) else
  some (.inr 0, bX m)
noncomputable def j_X11_account_0_36 (m : MM) (l0 : Nat) (l2 : Int) (s0 : Int) : Option (RV × MM) :=
  bV (f_X11_requireIndex m s0) (fun m9 => nk 58 (gR m9 11 l0 5) fun i11 => ldN m9 58 i11 l2 fun v12 => some (.inl (some (aI v12)), m9)) xt
noncomputable def j_X11_account_0_35 (m : MM) (l0 : Nat) (l2 : Int)  : Option (RV × MM) :=
  j_X11_account_0_36 m l0 l2 0
noncomputable def j_X11_account_0_14 (m : MM) (l0 : Nat) (l1 : Int) (l2 : Int) (s0 : Int) : Option (RV × MM) :=
  bV (f_X11_requireArgument m s0) (fun m1 => if ¬ l1 = 4 then (if l1 < 2 then (bR (f_X11_handAt m1 l0 l2) (fun r4 m3 => nk 3 r4 fun i5 => if ¬ l1 = 0 then (some (.inl (some (aI (gN m3 3 i5 5))), m3)) else
  some (.inl (some (aI (gN m3 3 i5 4))), m3)) xt) else
  bR (f_X11_pressAt m1 l0 l2) (fun r7 m6 => nk 6 r7 fun i8 => if ¬ l1 = 2 then (some (.inl (some (aI (gN m6 6 i8 3))), m6)) else
  some (.inl (some (aI (gN m6 6 i8 2))), m6)) xt) else
  if l2 < 0 then (j_X11_account_0_35 m1 l0 l2) else
  if 4 ≤ l2 then (j_X11_account_0_35 m1 l0 l2) else
  j_X11_account_0_36 m1 l0 l2 1) xt
noncomputable def j_X11_account_0_13 (m : MM) (l0 : Nat) (l1 : Int) (l2 : Int)  : Option (RV × MM) :=
  j_X11_account_0_14 m l0 l1 l2 0
noncomputable def f_X11_account (m : MM) (l0 : Nat) (l1 : Int) (l2 : Int) : Option (RV × MM) :=
  if l1 < 0 then (j_X11_account_0_13 m l0 l1 l2) else
  if 4 < l1 then (j_X11_account_0_13 m l0 l1 l2) else
  j_X11_account_0_14 m l0 l1 l2 1
noncomputable def f_L_account (m : MM) (l0 : Nat) (l1 : Int) (l2 : Int) (l3 : Nat) : Option (RV × MM) :=
  bI (f_X11_account m l0 l1 l2) (fun v2 m1 => stL m1 131 l3 0 (i2l v2) fun m3 => some (.inl (some (aI 0)), m3)) (xc (fun mx => some (.inl (some (aI 2)), mx)) (fun mx => some (.inl (some (aI 1)), mx)) xn_)
noncomputable def f_X0_hasForme (m : MM) (l0 : Nat) (l1 : Int) : Option (Int) :=
  if l1 < 0 then (some 0) else
  nk 14 (gR m 0 l0 6) fun i1 => if (lenI m 14 i1) ≤ l1 then (some 0) else
  some 1
noncomputable def j_X11_bookAt_0_23 (m : MM)  (s0 : Option (Nat × Nat)) : Option (RV × MM) :=
  if ¬ s0 = none then (some (.inl (some (aR s0)), m)) else
  some (.inr 0, bX m)
noncomputable def j_X11_bookAt_0_22 (m : MM)   : Option (RV × MM) :=
  j_X11_bookAt_0_23 m none
noncomputable def f_X11_bookAt (m : MM) (l0 : Nat) (l1 : Int) : Option (RV × MM) :=
  if l1 < 0 then (j_X11_bookAt_0_22 m) else
  nk 56 (gR m 11 l0 3) fun i1 => if (lenI m 56 i1) ≤ l1 then (j_X11_bookAt_0_22 m) else
  nk 56 (gR m 11 l0 3) fun i2 => ldR m 56 i2 l1 fun r3 => j_X11_bookAt_0_23 m r3
noncomputable def b_X7_allAheadOf_19 (m : MM) (l0 : Nat) (l2 : Int) (l4 : Int) (l3 : Int) (l5 : Int) : Option ((Int × Int) ⊕ (Int)) :=
  if l2 ≤ l5 then (some (.inr l3)) else
  if (iand l3 (ishl 1 l5)) = 0 then (ck (l5 + 1) <| some (.inl (l3, (l5 + 1)))) else
  nk 39 (gR m 7 l0 0) fun i3 => ldN m 39 i3 l5 fun v4 => ck (l5 + 1) <| some (.inl ((ior' l3 v4), (l5 + 1)))
noncomputable def j_X7_allAheadOf_10_50 (m : MM) (l0 : Nat) (l2 : Int) (l3 : Int) (l4 : Int)  : Option ((Int × Int) ⊕ (Int)) :=
  ck (l4 + 1) <| some (.inl (l3, (l4 + 1)))
noncomputable def b_X7_allAheadOf_10 (m : MM) (l0 : Nat) (l2 : Int) (l3 : Int) (l4 : Int) : Option ((Int × Int) ⊕ (Int)) :=
  if l2 ≤ l4 then (some (.inr l3)) else
  (lpb (fun s => b_X7_allAheadOf_19 m l0 l2 l4 s.1 s.2) (l3, 0)).bind fun z => j_X7_allAheadOf_10_50 m l0 l2 z l4
noncomputable def j_X7_allAheadOf_0_56 (m : MM) (l3 : Int)  : Option (Int) :=
  some l3
noncomputable def f_X7_allAheadOf (m : MM) (l0 : Nat) (l1 : Int) (l2 : Int) : Option (Int) :=
  nk 39 (gR m 7 l0 0) fun i1 => ldN m 39 i1 l1 fun v2 => (lpb (fun s => b_X7_allAheadOf_10 m l0 l2 s.1 s.2) (v2, 0)).bind fun z => j_X7_allAheadOf_0_56 m z
noncomputable def b_X7_readPiece_27 (l0 : Nat) (l1 : Nat) (l2 : Int) (l3 : Int) (l4 : Int) (l5 : Int) (mm : MM) : Option ((Int × MM) ⊕ (MM)) :=
  nk 14 (gR mm 0 l1 6) fun i7 => if (lenI mm 14 i7) ≤ l5 then (some (.inr mm)) else
  nk 14 (gR mm 0 l1 6) fun i8 => ldR mm 14 i8 l5 fun r9 => nk 2 r9 fun i10 => nk 25 (gR mm 2 i10 3) fun i11 => ldN mm 25 i11 l2 fun v12 => if v12 ≤ 0 then (ck (l5 + 1) <| some (.inl ((l5 + 1), mm))) else
  if l4 ≤ v12 then (ck (l5 + 1) <| some (.inl ((l5 + 1), mm))) else
  nk 39 (gR mm 7 l0 0) fun i13 => ldN mm 39 i13 l3 fun v14 => stN mm 39 i13 l3 (ior' v14 (ishl 1 l5)) fun m15 => ck (l5 + 1) <| some (.inl ((l5 + 1), m15))
noncomputable def j_X7_readPiece_2_82 (m : MM) (l0 : Nat) (l1 : Nat) (l2 : Int) (l3 : Int)  : Option ((Int × MM) ⊕ (MM)) :=
  ck (l3 + 1) <| some (.inl ((l3 + 1), m))
noncomputable def b_X7_readPiece_2 (l0 : Nat) (l1 : Nat) (l2 : Int) (l3 : Int) (mm : MM) : Option ((Int × MM) ⊕ (MM)) :=
  nk 14 (gR mm 0 l1 6) fun i1 => if (lenI mm 14 i1) ≤ l3 then (some (.inr mm)) else
  nk 14 (gR mm 0 l1 6) fun i2 => ldR mm 14 i2 l3 fun r3 => nk 2 r3 fun i4 => nk 25 (gR mm 2 i4 3) fun i5 => ldN mm 25 i5 l2 fun v6 => (lpb (fun s => b_X7_readPiece_27 l0 l1 l2 l3 v6 s.1 s.2) (0, mm)).bind fun z => j_X7_readPiece_2_82 z l0 l1 l2 l3
noncomputable def j_X7_readPiece_0_88 (m : MM)   : Option (RV × MM) :=
  some (.inl none, m)
noncomputable def f_X7_readPiece (m : MM) (l0 : Nat) (l1 : Nat) (l2 : Int) : Option (RV × MM) :=
  (lpb (fun s => b_X7_readPiece_2 l0 l1 l2 s.1 s.2) (0, m)).bind fun z => j_X7_readPiece_0_88 z
noncomputable def b_X7_readFormes_2 (l0 : Nat) (l1 : Nat) (l2 : Nat) (l3 : Int) (mm : MM) : Option ((Int × MM) ⊕ (MM)) :=
  nk 14 (gR mm 0 l1 6) fun i1 => if (lenI mm 14 i1) ≤ l3 then (some (.inr mm)) else
  nk 39 (gR mm 7 l0 0) fun i2 => stN mm 39 i2 l3 0 fun m3 => ck (l3 + 1) <| some (.inl ((l3 + 1), m3))
noncomputable def b_X7_readFormes_26 (l0 : Nat) (l1 : Nat) (l2 : Nat) (l3 : Int) (mm : MM) : Option ((Int × MM) ⊕ (MM)) :=
  if (gN mm 1 l2 5) ≤ l3 then (some (.inr mm)) else
  nk 21 (gR mm 1 l2 1) fun i4 => ldN mm 21 i4 l3 fun v5 => if v5 ≤ 0 then (ck (l3 + 1) <| some (.inl ((l3 + 1), mm))) else
  bV (f_X7_readPiece mm l0 l1 l3) (fun m6 => ck (l3 + 1) <| some (.inl ((l3 + 1), m6))) x0
noncomputable def j_X7_readFormes_0_55 (m : MM)   : Option (RV × MM) :=
  some (.inl none, m)
noncomputable def j_X7_readFormes_0_24 (m : MM) (l0 : Nat) (l1 : Nat) (l2 : Nat)  : Option (RV × MM) :=
  (lpb (fun s => b_X7_readFormes_26 l0 l1 l2 s.1 s.2) (0, m)).bind fun z => j_X7_readFormes_0_55 z
noncomputable def f_X7_readFormes (m : MM) (l0 : Nat) (l1 : Nat) (l2 : Nat) : Option (RV × MM) :=
  (lpb (fun s => b_X7_readFormes_2 l0 l1 l2 s.1 s.2) (0, m)).bind fun z => j_X7_readFormes_0_24 z l0 l1 l2
noncomputable def j_X11_ahead_0_43 (m : MM) (l0 : Nat) (l2 : Int) (l3 : Int) (l4 : Nat) (s0 : Int) : Option (RV × MM) :=
  bV (f_X11_requireArgument m s0) (fun m8 => nk 7 (gR m8 11 l0 6) fun i10 => nk 1 (gR m8 11 l0 1) fun i11 => bV (f_X7_readFormes m8 i10 l4 i11) (fun m12 => nk 7 (gR m12 11 l0 6) fun i14 => nk 14 (gR m12 0 l4 6) fun i15 => (f_X7_allAheadOf m12 i14 l3 (lenI m12 14 i15)).bind fun v16 => if (iand v16 (ishl 1 l2)) = 0 then (nk 7 (gR m12 11 l0 6) fun i17 => nk 14 (gR m12 0 l4 6) fun i18 => (f_X7_allAheadOf m12 i17 l2 (lenI m12 14 i18)).bind fun v19 => if (iand v19 (ishl 1 l3)) = 0 then (some (.inl (some (aI 0)), m12)) else
  some (.inl (some (aI (-1))), m12)) else
  some (.inl (some (aI 1)), m12)) x0) xt
noncomputable def j_X11_ahead_0_30 (m : MM) (l0 : Nat) (l2 : Int) (l3 : Int) (l4 : Nat) (s0 : Int) : Option (RV × MM) :=
  bV (f_X11_requireIndex m s0) (fun m6 => if l2 = l3 then (j_X11_ahead_0_43 m6 l0 l2 l3 l4 0) else
  j_X11_ahead_0_43 m6 l0 l2 l3 l4 1) xt
noncomputable def j_X11_ahead_0_29 (m : MM) (l0 : Nat) (l2 : Int) (l3 : Int) (l4 : Nat)  : Option (RV × MM) :=
  j_X11_ahead_0_30 m l0 l2 l3 l4 0
noncomputable def f_X11_ahead (m : MM) (l0 : Nat) (l1 : Int) (l2 : Int) (l3 : Int) : Option (RV × MM) :=
  bR (f_X11_bookAt m l0 l1) (fun r2 m1 => nk 0 r2 fun i3 => (f_X0_hasForme m1 i3 l2).bind fun v4 => if v4 = 0 then (j_X11_ahead_0_29 m1 l0 l2 l3 i3) else
  (f_X0_hasForme m1 i3 l3).bind fun v5 => if v5 = 0 then (j_X11_ahead_0_29 m1 l0 l2 l3 i3) else
  j_X11_ahead_0_30 m1 l0 l2 l3 i3 1) xt
noncomputable def f_L_ahead (m : MM) (l0 : Nat) (l1 : Int) (l2 : Int) (l3 : Int) (l4 : Nat) : Option (RV × MM) :=
  bI (f_X11_ahead m l0 l1 l2 l3) (fun v2 m1 => stL m1 131 l4 0 (i2l v2) fun m3 => some (.inl (some (aI 0)), m3)) (xc (fun mx => some (.inl (some (aI 1)), mx)) (fun mx => some (.inl (some (aI 2)), mx)) xn_)
noncomputable def f_X0_hasCopy (m : MM) (l0 : Nat) (l1 : Int) : Option (Int) :=
  if l1 < 0 then (some 0) else
  if (gN m 0 l0 3) ≤ l1 then (some 0) else
  some 1
noncomputable def f_X0_formeOfPage (m : MM) (l0 : Int) (l1 : Int) : Option (Int) :=
  ck (2 * l1) <| dv l0 (2 * l1) <| ck ((l0 % (2 * l1)) + 1) <| ck (2 * l1) <| dv l0 (2 * l1) <| dv ((l0 % (2 * l1)) + 1) 4 <| if 1 < (((l0 % (2 * l1)) + 1) % 4) then (ck (((l0 / (2 * l1)) * 2) + 1) <| some (((l0 / (2 * l1)) * 2) + 1)) else
  ck (((l0 / (2 * l1)) * 2) + 0) <| some (((l0 / (2 * l1)) * 2) + 0)
noncomputable def f_X0_formeNumber (m : MM) (l0 : Nat) (l1 : Int) : Option (Int) :=
  (f_X0_formeOfPage m l1 (gN m 0 l0 0)).bind fun v1 => some v1
noncomputable def b_X2_stateOf_4 (m : MM) (l0 : Nat) (l1 : Int) (l2 : Int) (l3 : Int) : Option ((Int × Int) ⊕ (Int)) :=
  if (gN m 2 l0 7) ≤ l3 then (some (.inr l2)) else
  nk 26 (gR m 2 l0 2) fun i1 => ldN m 26 i1 l3 fun v2 => if l1 < v2 then (ck (l3 + 1) <| some (.inl (l2, (l3 + 1)))) else
  ck (l3 + 1) <| some (.inl (l3, (l3 + 1)))
noncomputable def j_X2_stateOf_0_30 (m : MM) (l2 : Int)  : Option (Int) :=
  some l2
noncomputable def f_X2_stateOf (m : MM) (l0 : Nat) (l1 : Int) : Option (Int) :=
  (lpb (fun s => b_X2_stateOf_4 m l0 l1 s.1 s.2) (0, 1)).bind fun z => j_X2_stateOf_0_30 m z
noncomputable def j_X8_stateOn_0_21 (m : MM)  (s0 : Nat) (s1 : Int) : Option (Int) :=
  (f_X2_stateOf m s0 s1).bind fun v1 => some v1
noncomputable def f_X8_stateOn (m : MM) (l0 : Nat) (l1 : Nat) (l2 : Int) : Option (Int) :=
  if ¬ some (2, l1) = (gR m 8 l0 2) then (ck (((gN m 2 l1 1) - 1) - l2) <| j_X8_stateOn_0_21 m l1 (((gN m 2 l1 1) - 1) - l2)) else
  j_X8_stateOn_0_21 m l1 l2
noncomputable def f_X0_stateIn (m : MM) (l0 : Nat) (l1 : Int) (l2 : Int) : Option (Int) :=
  nk 17 (gR m 0 l0 9) fun i1 => ldR m 17 i1 l1 fun r2 => nk 18 r2 fun i3 => dv l2 2 <| ldN m 18 i3 (l2 / 2) fun v4 => if ¬ v4 = (-1) then (nk 15 (gR m 0 l0 7) fun i5 => ck (2 * (gN m 0 l0 0)) <| dv l2 (2 * (gN m 0 l0 0)) <| ldR m 15 i5 (l2 / (2 * (gN m 0 l0 0))) fun r6 => nk 8 r6 fun i7 => nk 14 (gR m 0 l0 6) fun i8 => (f_X0_formeNumber m l0 l2).bind fun v9 => ldR m 14 i8 v9 fun r10 => nk 2 r10 fun i11 => (f_X8_stateOn m i7 i11 v4).bind fun v12 => some v12) else
  some (-1)
noncomputable def b_X0_hasSameStates_2 (m : MM) (l0 : Nat) (l1 : Int) (l2 : Int) (l3 : Int) : Option (Int ⊕ ((Int) ⊕ Unit)) :=
  nk 13 (gR m 0 l0 5) fun i1 => if (lenI m 13 i1) ≤ l3 then (some (.inr (.inr ()))) else
  (f_X0_stateIn m l0 l1 l3).bind fun v2 => (f_X0_stateIn m l0 l2 l3).bind fun v3 => if v2 = v3 then (ck (l3 + 1) <| some (.inl (l3 + 1))) else
  some (.inr (.inl 0))
noncomputable def j_X0_hasSameStates_0_34 (m : MM)   : Option (Int) :=
  some 1
noncomputable def f_X0_hasSameStates (m : MM) (l0 : Nat) (l1 : Int) (l2 : Int) : Option (Int) :=
  (lpb (fun s => b_X0_hasSameStates_2 m l0 l1 l2 s) 0).bind (Sum.elim (fun r => some r) fun z => j_X0_hasSameStates_0_34 m)
noncomputable def f_X11_requireState (m : MM) (l0 : Int) : Option (RV × MM) :=
  if ¬ l0 = 0 then (some (.inl none, m)) else
  some (.inr 2, bX m)
noncomputable def b_X11_alike_27 (m : MM) (l2 : Int) (l3 : Nat) (l4 : Int) (l5 : Int) : Option ((Int × Int) ⊕ (Int)) :=
  if (gN m 0 l3 3) ≤ l5 then (some (.inr l4)) else
  (f_X0_hasSameStates m l3 l2 l5).bind fun v9 => if v9 = 0 then (ck (l5 + 1) <| some (.inl (l4, (l5 + 1)))) else
  ck (l4 + 1) <| ck (l5 + 1) <| some (.inl ((l4 + 1), (l5 + 1)))
noncomputable def j_X11_alike_0_55 (m : MM) (l4 : Int)  : Option (RV × MM) :=
  some (.inl (some (aI l4)), m)
noncomputable def f_X11_alike (m : MM) (l0 : Nat) (l1 : Int) (l2 : Int) : Option (RV × MM) :=
  bR (f_X11_bookAt m l0 l1) (fun r2 m1 => nk 0 r2 fun i3 => (f_X0_hasCopy m1 i3 l2).bind fun v4 => bV (f_X11_requireIndex m1 v4) (fun m5 => bV (f_X11_requireState m5 (gN m5 0 i3 11)) (fun m7 => (lpb (fun s => b_X11_alike_27 m7 l2 i3 s.1 s.2) (0, 0)).bind fun z => j_X11_alike_0_55 m7 z) xt) xt) xt
noncomputable def f_L_alike (m : MM) (l0 : Nat) (l1 : Int) (l2 : Int) (l3 : Nat) : Option (RV × MM) :=
  bI (f_X11_alike m l0 l1 l2) (fun v2 m1 => stL m1 131 l3 0 (i2l v2) fun m3 => some (.inl (some (aI 0)), m3)) (xc (fun mx => some (.inl (some (aI 1)), mx)) xn_ (fun mx => some (.inl (some (aI 2)), mx)))
noncomputable def b_X0_gather_12 (l0 : Nat) (l1 : Int) (l2 : Int) (mm : MM) : Option ((Int × MM) ⊕ (MM)) :=
  nk 17 (gR mm 0 l0 9) fun i1 => ldR mm 17 i1 l1 fun r2 => nk 18 r2 fun i3 => if (lenI mm 18 i3) ≤ l2 then (some (.inr mm)) else
  nk 17 (gR mm 0 l0 9) fun i4 => ldR mm 17 i4 l1 fun r5 => nk 18 r5 fun i6 => nk 15 (gR mm 0 l0 7) fun i7 => dv l2 (gN mm 0 l0 0) <| ldR mm 15 i7 (l2 / (gN mm 0 l0 0)) fun r8 => nk 8 r8 fun i9 => ck (l1 + (gN mm 8 i9 5)) <| dv (l1 + (gN mm 8 i9 5)) (gN mm 0 l0 3) <| stN mm 18 i6 l2 ((l1 + (gN mm 8 i9 5)) % (gN mm 0 l0 3)) fun m10 => ck (l2 + 1) <| some (.inl ((l2 + 1), m10))
noncomputable def j_X0_gather_2_58 (m : MM) (l0 : Nat) (l1 : Int)  : Option ((Int × MM) ⊕ (MM)) :=
  ck (l1 + 1) <| some (.inl ((l1 + 1), m))
noncomputable def b_X0_gather_2 (l0 : Nat) (l1 : Int) (mm : MM) : Option ((Int × MM) ⊕ (MM)) :=
  if (gN mm 0 l0 3) ≤ l1 then (some (.inr mm)) else
  (lpb (fun s => b_X0_gather_12 l0 l1 s.1 s.2) (0, mm)).bind fun z => j_X0_gather_2_58 z l0 l1
noncomputable def j_X0_gather_0_64 (m : MM) (l0 : Nat)  : Option (RV × MM) :=
  lt' (sN m 0 l0 11 1) fun m11 => some (.inl none, m11)
noncomputable def f_X0_gather (m : MM) (l0 : Nat) : Option (RV × MM) :=
  (lpb (fun s => b_X0_gather_2 l0 s.1 s.2) (0, m)).bind fun z => j_X0_gather_0_64 z l0
noncomputable def f_X2_wasDone (m : MM) (l0 : Nat) : Option (Int) :=
  if (gN m 2 l0 4) = 3 then (some 1) else
  if ¬ (gN m 2 l0 4) = 4 then (some 0) else
  some 1
noncomputable def b_X0_isPrinted_10 (m : MM) (l1 : Nat) (l2 : Int) (l3 : Int) : Option (Int ⊕ ((Int) ⊕ Unit)) :=
  if l2 ≤ l3 then (some (.inr (.inr ()))) else
  ldR m 14 l1 l3 fun r2 => nk 2 r2 fun i3 => (f_X2_wasDone m i3).bind fun v4 => if ¬ v4 = 0 then (ck (l3 + 1) <| some (.inl (l3 + 1))) else
  some (.inr (.inl 0))
noncomputable def j_X0_isPrinted_0_36 (m : MM)   : Option (Int) :=
  some 1
noncomputable def f_X0_isPrinted (m : MM) (l0 : Nat) : Option (Int) :=
  nk 14 (gR m 0 l0 6) fun i1 => (lpb (fun s => b_X0_isPrinted_10 m i1 (lenI m 14 i1) s) 0).bind (Sum.elim (fun r => some r) fun z => j_X0_isPrinted_0_36 m)
noncomputable def j_X11_bind_0_25 (m : MM) (l2 : Nat) (s0 : Int) : Option (RV × MM) :=
  bV (f_X11_requireState m s0) (fun m5 => bV (f_X0_gather m5 l2) (fun m7 => some (.inl (some (aI (gN m7 0 l2 3))), m7)) x0) xt
noncomputable def j_X11_bind_0_24 (m : MM) (l2 : Nat)  : Option (RV × MM) :=
  j_X11_bind_0_25 m l2 0
noncomputable def f_X11_bind (m : MM) (l0 : Nat) (l1 : Int) : Option (RV × MM) :=
  bR (f_X11_bookAt m l0 l1) (fun r2 m1 => nk 0 r2 fun i3 => if ¬ (gN m1 0 i3 11) = 0 then (j_X11_bind_0_24 m1 i3) else
  (f_X0_isPrinted m1 i3).bind fun v4 => if v4 = 0 then (j_X11_bind_0_24 m1 i3) else
  j_X11_bind_0_25 m1 i3 1) xt
noncomputable def f_L_bind (m : MM) (l0 : Nat) (l1 : Int) (l2 : Nat) : Option (RV × MM) :=
  bI (f_X11_bind m l0 l1) (fun v2 m1 => stL m1 131 l2 0 (i2l v2) fun m3 => some (.inl (some (aI 0)), m3)) (xc (fun mx => some (.inl (some (aI 1)), mx)) xn_ (fun mx => some (.inl (some (aI 2)), mx)))
noncomputable def f_X0_placeInForme (m : MM) (l0 : Int) (l1 : Int) : Option (Int) :=
  ck (2 * l1) <| dv l0 (2 * l1) <| dv (l0 % (2 * l1)) 2 <| some ((l0 % (2 * l1)) / 2)
noncomputable def b_X0_pagesOf_8 (l0 : Int) (l1 : Nat) (l2 : Int) (l3 : Nat) (l4 : Int) (mm : MM) : Option ((Int × MM) ⊕ (MM)) :=
  if (lenI mm 13 l1) ≤ l4 then (some (.inr mm)) else
  (f_X0_formeOfPage mm l4 l2).bind fun v2 => if ¬ v2 = l0 then (ck (l4 + 1) <| some (.inl ((l4 + 1), mm))) else
  (f_X0_placeInForme mm l4 l2).bind fun v3 => ldR mm 13 l1 l4 fun r4 => nk 4 r4 fun i5 => stR mm 19 l3 v3 (some (4, i5)) fun m6 => ck (l4 + 1) <| some (.inl ((l4 + 1), m6))
noncomputable def j_X0_pagesOf_0_43 (m : MM) (l3 : Nat)  : Option (RV × MM) :=
  some (.inl (some (aR (some (19, l3)))), m)
noncomputable def f_X0_pagesOf (m : MM) (l0 : Int) (l1 : Nat) (l2 : Int) : Option (RV × MM) :=
  newA m 19 l2 fun m1 => (lpb (fun s => b_X0_pagesOf_8 l0 l1 l2 (gC m 19) s.1 s.2) (0, m1)).bind fun z => j_X0_pagesOf_0_43 z (gC m 19)
noncomputable def f_X2_init (m : MM) (l0 : Nat) (l1 : Nat) (l2 : Int) : Option (RV × MM) :=
  newA m 25 400 fun m1 => lt' (sR m1 2 l0 3 (some (25, (gC m 25)))) fun m2 => lt' (sN m2 2 l0 4 0) fun m3 => lt' (sN m3 2 l0 5 (-1)) fun m4 => lt' (sN m4 2 l0 7 1) fun m5 => lt' (sN m5 2 l0 8 (-1)) fun m6 => lt' (sN m6 2 l0 9 (-1)) fun m7 => lt' (sR m7 2 l0 0 (some (19, l1))) fun m8 => lt' (sN m8 2 l0 1 l2) fun m9 => newA m9 26 l2 fun m10 => lt' (sR m10 2 l0 2 (some (26, (gC m9 26)))) fun m11 => some (.inl none, m11)
noncomputable def f_X5_init (m : MM) (l0 : Nat) (l1 : Int) (l2 : Int) : Option (RV × MM) :=
  newA m 34 l1 fun m1 => lt' (sR m1 5 l0 0 (some (34, (gC m 34)))) fun m2 => newA m2 35 l1 fun m3 => lt' (sR m3 5 l0 1 (some (35, (gC m2 35)))) fun m4 => newA m4 36 l1 fun m5 => lt' (sR m5 5 l0 2 (some (36, (gC m4 36)))) fun m6 => lt' (bC m6 (bump1 l0)) fun m7 => newM m7 37 l2 38 l1 fun m8 => lt' (sR m8 5 l0 3 (some (37, (gC m7 37)))) fun m9 => some (.inl none, m9)
noncomputable def f_X4_init (m : MM) (l0 : Nat) (l1 : Int) (l2 : Int) (l3 : Int) : Option (RV × MM) :=
  newA m 27 61 fun m1 => lt' (sR m1 4 l0 1 (some (27, (gC m 27)))) fun m2 => newA m2 28 61 fun m3 => lt' (sR m3 4 l0 2 (some (28, (gC m2 28)))) fun m4 => newA m4 29 61 fun m5 => lt' (sR m5 4 l0 3 (some (29, (gC m4 29)))) fun m6 => newA m6 30 61 fun m7 => lt' (sR m7 4 l0 4 (some (30, (gC m6 30)))) fun m8 => lt' (sN m8 4 l0 9 (-1)) fun m9 => lt' (sN m9 4 l0 0 l1) fun m10 => newA m10 31 l2 fun m11 => lt' (sR m11 4 l0 5 (some (31, (gC m10 31)))) fun m12 => newA m12 32 l2 fun m13 => lt' (sR m13 4 l0 6 (some (32, (gC m12 32)))) fun m14 => newA m14 33 l2 fun m15 => lt' (sR m15 4 l0 7 (some (33, (gC m14 33)))) fun m16 => lt' (nW m16 5 5) fun m17 => ck (l1 * l2) <| bV (f_X5_init m17 (gC m16 5) (l1 * l2) l3) (fun m18 => lt' (sR m18 4 l0 8 (some (5, (gC m16 5)))) fun m20 => some (.inl none, m20)) x0
noncomputable def f_X8_init (m : MM) (l0 : Nat) (l1 : Nat) (l2 : Nat) : Option (RV × MM) :=
  lt' (sR m 8 l0 0 (some (2, l1))) fun m1 => lt' (sR m1 8 l0 1 (some (2, l2))) fun m2 => some (.inl none, m2)
noncomputable def f_X9_init (m : MM) (l0 : Nat) : Option (RV × MM) :=
  newA m 45 60 fun m1 => lt' (sR m1 9 l0 0 (some (45, (gC m 45)))) fun m2 => newA m2 46 60 fun m3 => lt' (sR m3 9 l0 1 (some (46, (gC m2 46)))) fun m4 => newA m4 47 60 fun m5 => lt' (sR m5 9 l0 2 (some (47, (gC m4 47)))) fun m6 => newA m6 48 60 fun m7 => lt' (sR m7 9 l0 3 (some (48, (gC m6 48)))) fun m8 => newA m8 49 60 fun m9 => lt' (sR m9 9 l0 4 (some (49, (gC m8 49)))) fun m10 => some (.inl none, m10)
noncomputable def b_X0_init_52 (l0 : Nat) (l1 : Int) (l2 : Int) (l3 : Int) (l4 : Int) (l5 : Int) (l6 : Int) (mm : MM) : Option ((Int × MM) ⊕ (MM)) :=
  nk 13 (gR mm 0 l0 5) fun i11 => if (lenI mm 13 i11) ≤ l6 then (some (.inr mm)) else
  nk 13 (gR mm 0 l0 5) fun i12 => lt' (nW mm 4 15) fun m13 => bV (f_X4_init m13 (gC mm 4) l3 l4 l5) (fun m14 => stR m14 13 i12 l6 (some (4, (gC mm 4))) fun m16 => ck (l6 + 1) <| some (.inl ((l6 + 1), m16))) x0
noncomputable def b_X0_init_100 (l0 : Nat) (l1 : Int) (l2 : Int) (l5 : Int) (l6 : Int) (mm : MM) : Option ((Int × MM) ⊕ (MM)) :=
  nk 14 (gR mm 0 l0 6) fun i19 => if (lenI mm 14 i19) ≤ l6 then (some (.inr mm)) else
  nk 14 (gR mm 0 l0 6) fun i20 => lt' (nW mm 2 11) fun m21 => nk 13 (gR m21 0 l0 5) fun i22 => bR (f_X0_pagesOf m21 l6 i22 l1) (fun r24 m23 => nk 19 r24 fun i25 => bV (f_X2_init m23 (gC mm 2) i25 l5) (fun m26 => stR m26 14 i20 l6 (some (2, (gC mm 2))) fun m28 => ck (l6 + 1) <| some (.inl ((l6 + 1), m28))) x0) x0
noncomputable def b_X0_init_153 (l0 : Nat) (l1 : Int) (l2 : Int) (l5 : Int) (l6 : Int) (mm : MM) : Option ((Int × MM) ⊕ (MM)) :=
  if l2 ≤ l6 then (some (.inr mm)) else
  nk 15 (gR mm 0 l0 7) fun i31 => lt' (nW mm 8 6) fun m32 => nk 14 (gR m32 0 l0 6) fun i33 => ldR m32 14 i33 (2 * l6) fun r34 => nk 2 r34 fun i35 => nk 14 (gR m32 0 l0 6) fun i36 => ldR m32 14 i36 ((2 * l6) + 1) fun r37 => nk 2 r37 fun i38 => bV (f_X8_init m32 (gC mm 8) i35 i38) (fun m39 => stR m39 15 i31 l6 (some (8, (gC mm 8))) fun m41 => ck (l6 + 1) <| some (.inl ((l6 + 1), m41))) x0
noncomputable def j_X0_init_0_199 (m : MM) (l0 : Nat) (l1 : Int) (l2 : Int) (l5 : Int)  : Option (RV × MM) :=
  nk 13 (gR m 0 l0 5) fun i42 => newA m 16 (lenI m 13 i42) fun m43 => lt' (sR m43 0 l0 8 (some (16, (gC m 16)))) fun m44 => newM m44 17 l5 18 (l1 * l2) fun m45 => lt' (sR m45 0 l0 9 (some (17, (gC m44 17)))) fun m46 => some (.inl none, m46)
noncomputable def j_X0_init_0_142 (m : MM) (l0 : Nat) (l1 : Int) (l2 : Int) (l5 : Int)  : Option (RV × MM) :=
  newA m 15 l2 fun m29 => lt' (sR m29 0 l0 7 (some (15, (gC m 15)))) fun m30 => (lpb (fun s => b_X0_init_153 l0 l1 l2 l5 s.1 s.2) (0, m30)).bind fun z => j_X0_init_0_199 z l0 l1 l2 l5
noncomputable def j_X0_init_0_87 (m : MM) (l0 : Nat) (l1 : Int) (l2 : Int) (l5 : Int)  : Option (RV × MM) :=
  newA m 14 (2 * l2) fun m17 => lt' (sR m17 0 l0 6 (some (14, (gC m 14)))) fun m18 => (lpb (fun s => b_X0_init_100 l0 l1 l2 l5 s.1 s.2) (0, m18)).bind fun z => j_X0_init_0_142 z l0 l1 l2 l5
noncomputable def f_X0_init (m : MM) (l0 : Nat) (l1 : Int) (l2 : Int) (l3 : Int) (l4 : Int) (l5 : Int) : Option (RV × MM) :=
  lt' (nW m 9 6) fun m1 => bV (f_X9_init m1 (gC m 9)) (fun m2 => lt' (sR m2 0 l0 4 (some (9, (gC m 9)))) fun m4 => lt' (sN m4 0 l0 0 l1) fun m5 => lt' (sN m5 0 l0 1 l3) fun m6 => lt' (sN m6 0 l0 2 l4) fun m7 => lt' (sN m7 0 l0 3 l5) fun m8 => newA m8 13 ((2 * l1) * l2) fun m9 => lt' (sR m9 0 l0 5 (some (13, (gC m8 13)))) fun m10 => (lpb (fun s => b_X0_init_52 l0 l1 l2 l3 l4 l5 s.1 s.2) (0, m10)).bind fun z => j_X0_init_0_87 z l0 l1 l2 l5) x0
noncomputable def j_X11_book_0_120 (m : MM) (l0 : Nat) (l1 : Int) (l2 : Int) (l3 : Int) (l4 : Int) (l5 : Int) (s0 : Int) : Option (RV × MM) :=
  bV (f_X11_requireState m s0) (fun m11 => nk 56 (gR m11 11 l0 3) fun i13 => lt' (bC m11 (bump0 (gC m11 0))) fun m14 => lt' (nW m14 0 12) fun m15 => bV (f_X0_init m15 (gC m14 0) l1 l2 l3 l4 l5) (fun m16 => stR m16 56 i13 (gN m11 11 l0 8) (some (0, (gC m14 0))) fun m18 => ck ((gN m18 11 l0 8) + 1) <| lt' (sN m18 11 l0 8 ((gN m18 11 l0 8) + 1)) fun m19 => ck ((gN m19 11 l0 8) - 1) <| some (.inl (some (aI ((gN m19 11 l0 8) - 1))), m19)) x0) xt
noncomputable def j_X11_book_0_104 (m : MM) (l0 : Nat) (l1 : Int) (l2 : Int) (l3 : Int) (l4 : Int) (l5 : Int) (s0 : Int) : Option (RV × MM) :=
  bV (f_X11_requireArgument m s0) (fun m9 => if 3 ≤ (gN m9 11 l0 8) then (j_X11_book_0_120 m9 l0 l1 l2 l3 l4 l5 0) else
  j_X11_book_0_120 m9 l0 l1 l2 l3 l4 l5 1) xt
noncomputable def j_X11_book_0_103 (m : MM) (l0 : Nat) (l1 : Int) (l2 : Int) (l3 : Int) (l4 : Int) (l5 : Int)  : Option (RV × MM) :=
  j_X11_book_0_104 m l0 l1 l2 l3 l4 l5 0
noncomputable def j_X11_book_0_83 (m : MM) (l0 : Nat) (l1 : Int) (l2 : Int) (l3 : Int) (l4 : Int) (l5 : Int) (s0 : Int) : Option (RV × MM) :=
  bV (f_X11_requireArgument m s0) (fun m7 => if l5 < 2 then (j_X11_book_0_103 m7 l0 l1 l2 l3 l4 l5) else
  if 24 < l5 then (j_X11_book_0_103 m7 l0 l1 l2 l3 l4 l5) else
  j_X11_book_0_104 m7 l0 l1 l2 l3 l4 l5 1) xt
noncomputable def j_X11_book_0_82 (m : MM) (l0 : Nat) (l1 : Int) (l2 : Int) (l3 : Int) (l4 : Int) (l5 : Int)  : Option (RV × MM) :=
  j_X11_book_0_83 m l0 l1 l2 l3 l4 l5 0
noncomputable def j_X11_book_0_62 (m : MM) (l0 : Nat) (l1 : Int) (l2 : Int) (l3 : Int) (l4 : Int) (l5 : Int) (s0 : Int) : Option (RV × MM) :=
  bV (f_X11_requireArgument m s0) (fun m5 => if l4 < 1 then (j_X11_book_0_82 m5 l0 l1 l2 l3 l4 l5) else
  if 6 < l4 then (j_X11_book_0_82 m5 l0 l1 l2 l3 l4 l5) else
  j_X11_book_0_83 m5 l0 l1 l2 l3 l4 l5 1) xt
noncomputable def j_X11_book_0_61 (m : MM) (l0 : Nat) (l1 : Int) (l2 : Int) (l3 : Int) (l4 : Int) (l5 : Int)  : Option (RV × MM) :=
  j_X11_book_0_62 m l0 l1 l2 l3 l4 l5 0
noncomputable def j_X11_book_0_42 (m : MM) (l0 : Nat) (l1 : Int) (l2 : Int) (l3 : Int) (l4 : Int) (l5 : Int) (s0 : Int) : Option (RV × MM) :=
  bV (f_X11_requireArgument m s0) (fun m3 => if l3 < 10 then (j_X11_book_0_61 m3 l0 l1 l2 l3 l4 l5) else
  if 24 < l3 then (j_X11_book_0_61 m3 l0 l1 l2 l3 l4 l5) else
  j_X11_book_0_62 m3 l0 l1 l2 l3 l4 l5 1) xt
noncomputable def j_X11_book_0_41 (m : MM) (l0 : Nat) (l1 : Int) (l2 : Int) (l3 : Int) (l4 : Int) (l5 : Int)  : Option (RV × MM) :=
  j_X11_book_0_42 m l0 l1 l2 l3 l4 l5 0
noncomputable def j_X11_book_0_21 (m : MM) (l0 : Nat) (l1 : Int) (l2 : Int) (l3 : Int) (l4 : Int) (l5 : Int) (s0 : Int) : Option (RV × MM) :=
  bV (f_X11_requireArgument m s0) (fun m1 => if l2 < 1 then (j_X11_book_0_41 m1 l0 l1 l2 l3 l4 l5) else
  dv 8 l1 <| if (8 / l1) < l2 then (j_X11_book_0_41 m1 l0 l1 l2 l3 l4 l5) else
  j_X11_book_0_42 m1 l0 l1 l2 l3 l4 l5 1) xt
noncomputable def j_X11_book_0_16 (m : MM) (l0 : Nat) (l1 : Int) (l2 : Int) (l3 : Int) (l4 : Int) (l5 : Int)  : Option (RV × MM) :=
  j_X11_book_0_21 m l0 l1 l2 l3 l4 l5 1
noncomputable def f_X11_book (m : MM) (l0 : Nat) (l1 : Int) (l2 : Int) (l3 : Int) (l4 : Int) (l5 : Int) : Option (RV × MM) :=
  if l1 = 2 then (j_X11_book_0_16 m l0 l1 l2 l3 l4 l5) else
  if l1 = 4 then (j_X11_book_0_16 m l0 l1 l2 l3 l4 l5) else
  if ¬ l1 = 8 then (j_X11_book_0_21 m l0 l1 l2 l3 l4 l5 0) else
  j_X11_book_0_16 m l0 l1 l2 l3 l4 l5
noncomputable def f_L_book (m : MM) (l0 : Nat) (l1 : Int) (l2 : Int) (l3 : Int) (l4 : Int) (l5 : Int) (l6 : Nat) : Option (RV × MM) :=
  bI (f_X11_book m l0 l1 l2 l3 l4 l5) (fun v2 m1 => stL m1 131 l6 0 (i2l v2) fun m3 => some (.inl (some (aI 0)), m3)) (xc xn_ (fun mx => some (.inl (some (aI 1)), mx)) (fun mx => some (.inl (some (aI 2)), mx)))
noncomputable def f_X11_isSort (m : MM) (l0 : Int) : Option (Int) :=
  if l0 < 0 then (some 0) else
  if 28 ≤ l0 then (some 0) else
  some 1
noncomputable def b_X1_pieceUnder_10 (m : MM) (l0 : Nat) (l2 : Int) (l3 : Int) (l4 : Int) : Option ((Int × Int) ⊕ (Int)) :=
  if l2 ≤ l4 then (some (.inr l3)) else
  if l3 = (-1) then (some (.inr l3)) else
  nk 23 (gR m 1 l0 3) fun i3 => ldN m 23 i3 l3 fun v4 => ck (l4 + 1) <| some (.inl (v4, (l4 + 1)))
noncomputable def j_X1_pieceUnder_0_34 (m : MM) (l3 : Int)  : Option (Int) :=
  some l3
noncomputable def f_X1_pieceUnder (m : MM) (l0 : Nat) (l1 : Int) (l2 : Int) : Option (Int) :=
  nk 24 (gR m 1 l0 4) fun i1 => ldN m 24 i1 l1 fun v2 => (lpb (fun s => b_X1_pieceUnder_10 m l0 l2 s.1 s.2) (v2, 0)).bind fun z => j_X1_pieceUnder_0_34 m z
noncomputable def j_X11_box_0_16 (m : MM) (l0 : Nat) (l1 : Int) (l2 : Int) (s0 : Int) : Option (RV × MM) :=
  bV (f_X11_requireIndex m s0) (fun m4 => nk 1 (gR m4 11 l0 1) fun i6 => (f_X1_pieceUnder m4 i6 l1 l2).bind fun v7 => some (.inl (some (aI v7)), m4)) xt
noncomputable def f_X11_box (m : MM) (l0 : Nat) (l1 : Int) (l2 : Int) : Option (RV × MM) :=
  (f_X11_isSort m l1).bind fun v1 => bV (f_X11_requireArgument m v1) (fun m2 => if l2 < 0 then (j_X11_box_0_16 m2 l0 l1 l2 0) else
  j_X11_box_0_16 m2 l0 l1 l2 1) xt
noncomputable def f_L_box (m : MM) (l0 : Nat) (l1 : Int) (l2 : Int) (l3 : Nat) : Option (RV × MM) :=
  bI (f_X11_box m l0 l1 l2) (fun v2 m1 => stL m1 131 l3 0 (i2l v2) fun m3 => some (.inl (some (aI 0)), m3)) (xc (fun mx => some (.inl (some (aI 2)), mx)) (fun mx => some (.inl (some (aI 1)), mx)) xn_)
noncomputable def f_X0_hasLeaf (m : MM) (l0 : Nat) (l1 : Int) : Option (Int) :=
  if l1 < 0 then (some 0) else
  nk 15 (gR m 0 l0 7) fun i1 => ck ((gN m 0 l0 0) * (lenI m 15 i1)) <| if ((gN m 0 l0 0) * (lenI m 15 i1)) ≤ l1 then (some 0) else
  some 1
noncomputable def b_X11_cancel_47 (l3 : Int) (l4 : Nat) (l5 : Int) (l6 : Int) (mm : MM) : Option ((Int × Int × MM) ⊕ ((Int × MM))) :=
  if (gN mm 0 l4 3) ≤ l6 then (some (.inr (l5, mm))) else
  nk 17 (gR mm 0 l4 9) fun i10 => ldR mm 17 i10 l6 fun r11 => nk 18 r11 fun i12 => ldN mm 18 i12 l3 fun v13 => if v13 = (-1) then (ck (l6 + 1) <| some (.inl (l5, (l6 + 1), mm))) else
  nk 17 (gR mm 0 l4 9) fun i14 => ldR mm 17 i14 l6 fun r15 => nk 18 r15 fun i16 => stN mm 18 i16 l3 (-1) fun m17 => ck (l5 + 1) <| ck (l6 + 1) <| some (.inl ((l5 + 1), (l6 + 1), m17))
noncomputable def j_X11_cancel_0_91 (m : MM) (l5 : Int)  : Option (RV × MM) :=
  some (.inl (some (aI l5)), m)
noncomputable def j_X11_cancel_0_30 (m : MM) (l2 : Int) (l3 : Int) (l4 : Nat) (s0 : Int) : Option (RV × MM) :=
  bV (f_X11_requireIndex m s0) (fun m6 => bV (f_X11_requireState m6 (gN m6 0 l4 11)) (fun m8 => (lpb (fun s => b_X11_cancel_47 l3 l4 s.1 s.2.1 s.2.2) (0, l2, m8)).bind fun z => j_X11_cancel_0_91 (z.2) (z.1)) xt) xt
noncomputable def j_X11_cancel_0_29 (m : MM) (l2 : Int) (l3 : Int) (l4 : Nat)  : Option (RV × MM) :=
  j_X11_cancel_0_30 m l2 l3 l4 0
noncomputable def f_X11_cancel (m : MM) (l0 : Nat) (l1 : Int) (l2 : Int) (l3 : Int) : Option (RV × MM) :=
  bR (f_X11_bookAt m l0 l1) (fun r2 m1 => nk 0 r2 fun i3 => (f_X0_hasCopy m1 i3 l2).bind fun v4 => if v4 = 0 then (j_X11_cancel_0_29 m1 l2 l3 i3) else
  (f_X0_hasLeaf m1 i3 l3).bind fun v5 => if v5 = 0 then (j_X11_cancel_0_29 m1 l2 l3 i3) else
  j_X11_cancel_0_30 m1 l2 l3 i3 1) xt
noncomputable def f_L_cancel (m : MM) (l0 : Nat) (l1 : Int) (l2 : Int) (l3 : Int) (l4 : Nat) : Option (RV × MM) :=
  bI (f_X11_cancel m l0 l1 l2 l3) (fun v2 m1 => stL m1 131 l4 0 (i2l v2) fun m3 => some (.inl (some (aI 0)), m3)) (xc (fun mx => some (.inl (some (aI 1)), mx)) xn_ (fun mx => some (.inl (some (aI 2)), mx)))
noncomputable def f_X1_putOn (m : MM) (l0 : Nat) (l1 : Int) (l2 : Int) : Option (RV × MM) :=
  nk 23 (gR m 1 l0 3) fun i1 => nk 24 (gR m 1 l0 4) fun i2 => ldN m 24 i2 l1 fun v3 => stN m 23 i1 l2 v3 fun m4 => nk 24 (gR m4 1 l0 4) fun i5 => stN m4 24 i5 l1 l2 fun m6 => nk 22 (gR m6 1 l0 2) fun i7 => stN m6 22 i7 l2 l1 fun m8 => some (.inl none, m8)
noncomputable def f_X1_add (m : MM) (l0 : Nat) (l1 : Int) : Option (RV × MM) :=
  if 400 ≤ (gN m 1 l0 5) then (some (.inl none, m)) else
  nk 20 (gR m 1 l0 0) fun i1 => stN m 20 i1 (gN m 1 l0 5) l1 fun m2 => ck ((gN m2 1 l0 5) + 1) <| lt' (sN m2 1 l0 5 ((gN m2 1 l0 5) + 1)) fun m3 => ck ((gN m3 1 l0 5) - 1) <| bV (f_X1_putOn m3 l0 l1 ((gN m3 1 l0 5) - 1)) (fun m4 => some (.inl none, m4)) x0
noncomputable def b_X11_cast_51 (l0 : Nat) (l1 : Int) (l2 : Int) (l3 : Int) (mm : MM) : Option ((Int × MM) ⊕ (MM)) :=
  if l2 ≤ l3 then (some (.inr mm)) else
  nk 1 (gR mm 11 l0 1) fun i7 => bV (f_X1_add mm i7 l1) (fun m8 => ck (l3 + 1) <| some (.inl ((l3 + 1), m8))) x0
noncomputable def j_X11_cast_0_70 (m : MM) (l0 : Nat)  : Option (RV × MM) :=
  nk 1 (gR m 11 l0 1) fun i10 => some (.inl (some (aI (gN m 1 i10 5))), m)
noncomputable def j_X11_cast_0_46 (m : MM) (l0 : Nat) (l1 : Int) (l2 : Int) (s0 : Int) : Option (RV × MM) :=
  bV (f_X11_requireState m s0) (fun m5 => (lpb (fun s => b_X11_cast_51 l0 l1 l2 s.1 s.2) (0, m5)).bind fun z => j_X11_cast_0_70 z l0) xt
noncomputable def j_X11_cast_0_23 (m : MM) (l0 : Nat) (l1 : Int) (l2 : Int) (s0 : Int) : Option (RV × MM) :=
  bV (f_X11_requireArgument m s0) (fun m2 => nk 1 (gR m2 11 l0 1) fun i4 => ck ((gN m2 1 i4 5) + l2) <| if 400 < ((gN m2 1 i4 5) + l2) then (j_X11_cast_0_46 m2 l0 l1 l2 0) else
  j_X11_cast_0_46 m2 l0 l1 l2 1) xt
noncomputable def j_X11_cast_0_22 (m : MM) (l0 : Nat) (l1 : Int) (l2 : Int)  : Option (RV × MM) :=
  j_X11_cast_0_23 m l0 l1 l2 0
noncomputable def f_X11_cast (m : MM) (l0 : Nat) (l1 : Int) (l2 : Int) : Option (RV × MM) :=
  (f_X11_isSort m l1).bind fun v1 => if v1 = 0 then (j_X11_cast_0_22 m l0 l1 l2) else
  if l2 < 1 then (j_X11_cast_0_22 m l0 l1 l2) else
  if 40 < l2 then (j_X11_cast_0_22 m l0 l1 l2) else
  j_X11_cast_0_23 m l0 l1 l2 1
noncomputable def f_L_cast (m : MM) (l0 : Nat) (l1 : Int) (l2 : Int) (l3 : Nat) : Option (RV × MM) :=
  bI (f_X11_cast m l0 l1 l2) (fun v2 m1 => stL m1 131 l3 0 (i2l v2) fun m3 => some (.inl (some (aI 0)), m3)) (xc xn_ (fun mx => some (.inl (some (aI 1)), mx)) (fun mx => some (.inl (some (aI 2)), mx)))
noncomputable def f_X4_isSet (m : MM) (l0 : Nat) : Option (Int) :=
  if (gN m 4 l0 9) = (-1) then (some 0) else
  some 1
noncomputable def f_X0_firstWordOfPart (m : MM) (l0 : Nat) (l1 : Int) : Option (Int) :=
  if (gN m 0 l0 10) = 0 then (if ¬ l1 = 0 then (nk 13 (gR m 0 l0 5) fun i1 => ldR m 13 i1 (l1 - 1) fun r2 => nk 4 r2 fun i3 => (f_X4_isSet m i3).bind fun v4 => if v4 = 0 then (some (-1)) else
  nk 13 (gR m 0 l0 5) fun i5 => ldR m 13 i5 (l1 - 1) fun r6 => nk 4 r6 fun i7 => some (gN m 4 i7 12)) else
  some 0) else
  nk 16 (gR m 0 l0 8) fun i8 => ldN m 16 i8 l1 fun v9 => some v9
noncomputable def b_X0_hasSetPage_10 (m : MM) (l1 : Nat) (l2 : Int) (l3 : Int) : Option (Int ⊕ ((Int) ⊕ Unit)) :=
  if l2 ≤ l3 then (some (.inr (.inr ()))) else
  ldR m 13 l1 l3 fun r2 => nk 4 r2 fun i3 => (f_X4_isSet m i3).bind fun v4 => if v4 = 0 then (ck (l3 + 1) <| some (.inl (l3 + 1))) else
  some (.inr (.inl 1))
noncomputable def j_X0_hasSetPage_0_36 (m : MM)   : Option (Int) :=
  some 0
noncomputable def f_X0_hasSetPage (m : MM) (l0 : Nat) : Option (Int) :=
  nk 13 (gR m 0 l0 5) fun i1 => (lpb (fun s => b_X0_hasSetPage_10 m i1 (lenI m 13 i1) s) 0).bind (Sum.elim (fun r => some r) fun z => j_X0_hasSetPage_0_36 m)
noncomputable def f_X11_letterAt (m : MM) (l0 : Int64) (l2 : Int) : Option (Int) :=
  ck (8 * l2) <| some (l2i ((lushr l0 (8 * l2)) &&& 255))
noncomputable def b_X11_letters_4 (m : MM) (l0 : Int64) (l2 : Int) (l3 : Int) : Option ((Int × Int) ⊕ (Int)) :=
  if 8 ≤ l3 then (some (.inr l2)) else
  (f_X11_letterAt m l0 l3).bind fun v1 => if v1 = 0 then (ck (l3 + 1) <| some (.inl (l2, (l3 + 1)))) else
  ck (l2 + 1) <| ck (l3 + 1) <| some (.inl ((l2 + 1), (l3 + 1)))
noncomputable def j_X11_letters_0_27 (m : MM) (l2 : Int)  : Option (Int) :=
  some l2
noncomputable def f_X11_letters (m : MM) (l0 : Int64) : Option (Int) :=
  (lpb (fun s => b_X11_letters_4 m l0 s.1 s.2) (0, 0)).bind fun z => j_X11_letters_0_27 m z
noncomputable def b_X0_partByUnits_37 (m : MM) (l0 : Nat) (l2 : Int) (l5 : Int) (l3 : Int) (l4 : Int) : Option ((Int × Int) ⊕ ((Int × Int))) :=
  nk 9 (gR m 0 l0 4) fun i3 => if (gN m 9 i3 5) ≤ l4 then (some (.inr (l3, l4))) else
  ck (l5 * l2) <| if (l5 * l2) ≤ l3 then (some (.inr (l3, l4))) else
  nk 9 (gR m 0 l0 4) fun i4 => nk 45 (gR m 9 i4 0) fun i5 => ldL m 45 i5 l4 fun v6 => (f_X11_letters m v6).bind fun v7 => ck (l3 + (v7 + 1)) <| ck (l4 + 1) <| some (.inl ((l3 + (v7 + 1)), (l4 + 1)))
noncomputable def j_X0_partByUnits_27_81 (m : MM) (l0 : Nat) (l2 : Int) (l3 : Int) (l4 : Int) (l5 : Int)  : Option ((Int × Int × Int × MM) ⊕ (MM)) :=
  nk 16 (gR m 0 l0 8) fun i8 => stN m 16 i8 l5 l4 fun m9 => ck (l5 + 1) <| some (.inl (l3, l4, (l5 + 1), m9))
noncomputable def b_X0_partByUnits_27 (l0 : Nat) (l2 : Int) (l3 : Int) (l4 : Int) (l5 : Int) (mm : MM) : Option ((Int × Int × Int × MM) ⊕ (MM)) :=
  nk 13 (gR mm 0 l0 5) fun i2 => if (lenI mm 13 i2) ≤ l5 then (some (.inr mm)) else
  (lpb (fun s => b_X0_partByUnits_37 mm l0 l2 l5 s.1 s.2) (l3, l4)).bind fun z => j_X0_partByUnits_27_81 mm l0 l2 (z.1) (z.2) l5
noncomputable def j_X0_partByUnits_0_96 (m : MM) (l0 : Nat)  : Option (RV × MM) :=
  lt' (sN m 0 l0 10 1) fun m10 => some (.inl none, m10)
noncomputable def f_X0_partByUnits (m : MM) (l0 : Nat) (l1 : Int) : Option (RV × MM) :=
  ck (((gN m 0 l0 1) * (gN m 0 l0 2)) * l1) <| dv (((gN m 0 l0 1) * (gN m 0 l0 2)) * l1) 100 <| lt0 (if ((((gN m 0 l0 1) * (gN m 0 l0 2)) * l1) / 100) < 1 then 1 else ((((gN m 0 l0 1) * (gN m 0 l0 2)) * l1) / 100)) fun v1 => (lpb (fun s => b_X0_partByUnits_27 l0 v1 s.1 s.2.1 s.2.2.1 s.2.2.2) (0, 0, 0, m)).bind fun z => j_X0_partByUnits_0_96 z l0
noncomputable def j_X11_castOff_0_56 (m : MM) (l2 : Int) (l3 : Nat) (s0 : Int) : Option (RV × MM) :=
  bV (f_X11_requireState m s0) (fun m8 => bV (f_X0_partByUnits m8 l3 l2) (fun m10 => nk 13 (gR m10 0 l3 5) fun i12 => ck ((lenI m10 13 i12) - 1) <| (f_X0_firstWordOfPart m10 l3 ((lenI m10 13 i12) - 1)).bind fun v13 => some (.inl (some (aI v13)), m10)) x0) xt
noncomputable def j_X11_castOff_0_55 (m : MM) (l2 : Int) (l3 : Nat)  : Option (RV × MM) :=
  j_X11_castOff_0_56 m l2 l3 0
noncomputable def j_X11_castOff_0_24 (m : MM) (l2 : Int) (l3 : Nat) (s0 : Int) : Option (RV × MM) :=
  bV (f_X11_requireArgument m s0) (fun m4 => nk 9 (gR m4 0 l3 4) fun i6 => if (gN m4 9 i6 5) ≤ 0 then (j_X11_castOff_0_55 m4 l2 l3) else
  if ¬ (gN m4 0 l3 10) = 0 then (j_X11_castOff_0_55 m4 l2 l3) else
  (f_X0_hasSetPage m4 l3).bind fun v7 => if ¬ v7 = 0 then (j_X11_castOff_0_55 m4 l2 l3) else
  j_X11_castOff_0_56 m4 l2 l3 1) xt
noncomputable def j_X11_castOff_0_23 (m : MM) (l2 : Int) (l3 : Nat)  : Option (RV × MM) :=
  j_X11_castOff_0_24 m l2 l3 0
noncomputable def f_X11_castOff (m : MM) (l0 : Nat) (l1 : Int) (l2 : Int) : Option (RV × MM) :=
  bR (f_X11_bookAt m l0 l1) (fun r2 m1 => nk 0 r2 fun i3 => if l2 < 50 then (j_X11_castOff_0_23 m1 l2 i3) else
  if 150 < l2 then (j_X11_castOff_0_23 m1 l2 i3) else
  j_X11_castOff_0_24 m1 l2 i3 1) xt
noncomputable def f_L_castOff (m : MM) (l0 : Nat) (l1 : Int) (l2 : Int) (l3 : Nat) : Option (RV × MM) :=
  bI (f_X11_castOff m l0 l1 l2) (fun v2 m1 => stL m1 131 l3 0 (i2l v2) fun m3 => some (.inl (some (aI 0)), m3)) (xc (fun mx => some (.inl (some (aI 1)), mx)) (fun mx => some (.inl (some (aI 2)), mx)) (fun mx => some (.inl (some (aI 3)), mx)))
noncomputable def f_X0_hasPage (m : MM) (l0 : Nat) (l1 : Int) : Option (Int) :=
  if l1 < 0 then (some 0) else
  nk 13 (gR m 0 l0 5) fun i1 => if (lenI m 13 i1) ≤ l1 then (some 0) else
  some 1
noncomputable def f_X4_signOf (m : MM) (l0 : Int) (l1 : Int) : Option (Int) :=
  if ¬ l0 = (-1) then (if 26 ≤ l0 then (if ¬ l1 = 0 then (if ¬ l0 = 26 then (some 108) else
  some 105) else
  some 102) else
  ck (97 + l0) <| some (97 + l0)) else
  some 46
noncomputable def f_X4_wordBehindLine (m : MM) (l0 : Nat) (l1 : Int) : Option (Int) :=
  ck (l1 + 1) <| if (gN m 4 l0 11) ≤ (l1 + 1) then (some (gN m 4 l0 10)) else
  nk 31 (gR m 4 l0 5) fun i1 => ldN m 31 i1 (l1 + 1) fun v2 => some v2
noncomputable def j_X5_printed_0_24 (m : MM) (l0 : Nat) (l1 : Int)  : Option (Int) :=
  nk 34 (gR m 5 l0 0) fun i6 => ldN m 34 i6 l1 fun v7 => some v7
noncomputable def f_X5_printed (m : MM) (l0 : Nat) (l1 : Int) (l2 : Int) : Option (Int) :=
  if l2 < 0 then (j_X5_printed_0_24 m l0 l1) else
  nk 37 (gR m 5 l0 3) fun i1 => if (lenI m 37 i1) ≤ l2 then (j_X5_printed_0_24 m l0 l1) else
  nk 37 (gR m 5 l0 3) fun i2 => ldR m 37 i2 l2 fun r3 => nk 38 r3 fun i4 => ldN m 38 i4 l1 fun v5 => some v5
noncomputable def j_X4_printedSign_44_82 (m : MM) (l0 : Nat) (l3 : Int) (l4 : Int) (l5 : Int) (l6 : Int) (l7 : Int) (l8 : Int) (s0 : Int) : Option ((Int × Int) ⊕ ((Int) ⊕ Int)) :=
  if s0 ≤ l4 then (ck (l4 - s0) <| ck (l7 + 1) <| some (.inl ((l4 - s0), (l7 + 1)))) else
  (f_X4_signOf m l8 l4).bind fun v10 => some (.inr (.inl v10))
noncomputable def b_X4_printedSign_44 (m : MM) (l0 : Nat) (l3 : Int) (l5 : Int) (l6 : Int) (l4 : Int) (l7 : Int) : Option ((Int × Int) ⊕ ((Int) ⊕ Int)) :=
  nk 30 (gR m 4 l0 4) fun i6 => ldN m 30 i6 (l6 + 1) fun v7 => if v7 ≤ l7 then (some (.inr (.inr l4))) else
  nk 5 (gR m 4 l0 8) fun i8 => (f_X5_printed m i8 l7 l3).bind fun v9 => if v9 < 26 then (j_X4_printedSign_44_82 m l0 l3 l4 l5 l6 l7 v9 1) else
  j_X4_printedSign_44_82 m l0 l3 l4 l5 l6 l7 v9 2
noncomputable def j_X4_printedSign_28_132 (m : MM) (l0 : Nat) (l3 : Int) (l4 : Int) (l5 : Int) (l6 : Int) (s0 : Int) : Option ((Int × Int) ⊕ ((Int) ⊕ Unit)) :=
  if s0 ≤ l4 then (ck (l4 - s0) <| ck (l6 + 1) <| some (.inl ((l4 - s0), (l6 + 1)))) else
  some (.inr (.inl 32))
noncomputable def j_X4_printedSign_28_112 (m : MM) (l0 : Nat) (l3 : Int) (l4 : Int) (l5 : Int) (l6 : Int)  : Option ((Int × Int) ⊕ ((Int) ⊕ Unit)) :=
  ck (l6 + 1) <| if l5 ≤ (l6 + 1) then (j_X4_printedSign_28_132 m l0 l3 l4 l5 l6 0) else
  nk 29 (gR m 4 l0 3) fun i11 => ldN m 29 i11 l6 fun v12 => j_X4_printedSign_28_132 m l0 l3 l4 l5 l6 v12
noncomputable def b_X4_printedSign_28 (m : MM) (l0 : Nat) (l3 : Int) (l5 : Int) (l4 : Int) (l6 : Int) : Option ((Int × Int) ⊕ ((Int) ⊕ Unit)) :=
  if l5 ≤ l6 then (some (.inr (.inr ()))) else
  nk 30 (gR m 4 l0 4) fun i4 => ldN m 30 i4 l6 fun v5 => (lpb (fun s => b_X4_printedSign_44 m l0 l3 l5 l6 s.1 s.2) (l4, v5)).bind (Sum.elim (fun r => some (.inr (.inl r))) fun z => j_X4_printedSign_28_112 m l0 l3 z l5 l6)
noncomputable def j_X4_printedSign_0_157 (m : MM)   : Option (Int) :=
  some (-1)
noncomputable def f_X4_printedSign (m : MM) (l0 : Nat) (l1 : Int) (l2 : Int) (l3 : Int) : Option (Int) :=
  if l1 < (gN m 4 l0 11) then ((f_X4_wordBehindLine m l0 l1).bind fun v1 => nk 31 (gR m 4 l0 5) fun i2 => ldN m 31 i2 l1 fun v3 => (lpb (fun s => b_X4_printedSign_28 m l0 l3 v1 s.1 s.2) (l2, v3)).bind (Sum.elim (fun r => some r) fun z => j_X4_printedSign_0_157 m)) else
  some (-1)
noncomputable def j_X11_character_0_48 (m : MM) (l2 : Int) (l3 : Int) (l4 : Int) (l5 : Int) (l6 : Nat) (s0 : Int) : Option (RV × MM) :=
  bV (f_X11_requireIndex m s0) (fun m8 => bV (f_X11_requireState m8 (gN m8 0 l6 11)) (fun m10 => nk 13 (gR m10 0 l6 5) fun i12 => ldR m10 13 i12 l3 fun r13 => nk 4 r13 fun i14 => (f_X0_stateIn m10 l6 l2 l3).bind fun v15 => (f_X4_printedSign m10 i14 l4 l5 v15).bind fun v16 => some (.inl (some (aI v16)), m10)) xt) xt
noncomputable def j_X11_character_0_47 (m : MM) (l2 : Int) (l3 : Int) (l4 : Int) (l5 : Int) (l6 : Nat)  : Option (RV × MM) :=
  j_X11_character_0_48 m l2 l3 l4 l5 l6 0
noncomputable def j_X11_character_0_30 (m : MM) (l2 : Int) (l3 : Int) (l4 : Int) (l5 : Int) (l6 : Nat) (s0 : Int) : Option (RV × MM) :=
  bV (f_X11_requireIndex m s0) (fun m6 => if l4 < 0 then (j_X11_character_0_47 m6 l2 l3 l4 l5 l6) else
  if l5 < 0 then (j_X11_character_0_47 m6 l2 l3 l4 l5 l6) else
  j_X11_character_0_48 m6 l2 l3 l4 l5 l6 1) xt
noncomputable def j_X11_character_0_29 (m : MM) (l2 : Int) (l3 : Int) (l4 : Int) (l5 : Int) (l6 : Nat)  : Option (RV × MM) :=
  j_X11_character_0_30 m l2 l3 l4 l5 l6 0
noncomputable def f_X11_character (m : MM) (l0 : Nat) (l1 : Int) (l2 : Int) (l3 : Int) (l4 : Int) (l5 : Int) : Option (RV × MM) :=
  bR (f_X11_bookAt m l0 l1) (fun r2 m1 => nk 0 r2 fun i3 => (f_X0_hasCopy m1 i3 l2).bind fun v4 => if v4 = 0 then (j_X11_character_0_29 m1 l2 l3 l4 l5 i3) else
  (f_X0_hasPage m1 i3 l3).bind fun v5 => if v5 = 0 then (j_X11_character_0_29 m1 l2 l3 l4 l5 i3) else
  j_X11_character_0_30 m1 l2 l3 l4 l5 i3 1) xt
noncomputable def f_L_character (m : MM) (l0 : Nat) (l1 : Int) (l2 : Int) (l3 : Int) (l4 : Int) (l5 : Int) (l6 : Nat) : Option (RV × MM) :=
  bI (f_X11_character m l0 l1 l2 l3 l4 l5) (fun v2 m1 => stL m1 131 l6 0 (i2l v2) fun m3 => some (.inl (some (aI 0)), m3)) (xc (fun mx => some (.inl (some (aI 1)), mx)) xn_ (fun mx => some (.inl (some (aI 2)), mx)))
noncomputable def f_X11_isLetter (m : MM) (l0 : Int) : Option (Int) :=
  if l0 < 97 then (some 0) else
  if 122 < l0 then (some 0) else
  some 1
noncomputable def j_X10_faultPlace_4_41 (m : MM) (l0 : Nat) (l1 : Int) (l2 : Int) (l3 : Int)  : Option ((Int × Int) ⊕ ((Int) ⊕ Int)) :=
  if l3 = 0 then (ck (l2 + 1) <| some (.inl (0, (l2 + 1)))) else
  ck (l1 + 1) <| ck (l2 + 1) <| some (.inl ((l1 + 1), (l2 + 1)))
noncomputable def b_X10_faultPlace_4 (m : MM) (l0 : Nat) (l1 : Int) (l2 : Int) : Option ((Int × Int) ⊕ ((Int) ⊕ Int)) :=
  if (gN m 10 l0 5) ≤ l2 then (some (.inr (.inr l1))) else
  nk 50 (gR m 10 l0 0) fun i1 => ldN m 50 i1 l2 fun v2 => (f_X11_isLetter m v2).bind fun v3 => if v3 = 0 then (if ¬ l1 = 0 then (j_X10_faultPlace_4_41 m l0 l1 l2 v3) else
  some (.inr (.inl l2))) else
  if ¬ l1 = 8 then (j_X10_faultPlace_4_41 m l0 l1 l2 v3) else
  some (.inr (.inl l2))
noncomputable def j_X10_faultPlace_0_59 (m : MM) (l0 : Nat) (l1 : Int)  : Option (Int) :=
  if ¬ l1 = 0 then (some (-1)) else
  some (gN m 10 l0 5)
noncomputable def f_X10_faultPlace (m : MM) (l0 : Nat) : Option (Int) :=
  (lpb (fun s => b_X10_faultPlace_4 m l0 s.1 s.2) (0, 0)).bind (Sum.elim (fun r => some r) fun z => j_X10_faultPlace_0_59 m l0 z)
noncomputable def f_X10_isText (m : MM) (l0 : Nat) : Option (Int) :=
  (f_X10_faultPlace m l0).bind fun v1 => if ¬ v1 = (-1) then (some 0) else
  some 1
noncomputable def j_X10_splitText_10_111 (m : MM) (l0 : Nat) (l1 : Int) (l5 : Int) (s0 : Nat) (s1 : Int) (s2 : Int) : Option ((Int × Int64 × Int × Int × MM) ⊕ ((Int × MM))) :=
  cb s2 <| stN m 52 s0 s1 s2 fun m13 => ck (l1 + 1) <| ck (l5 + 1) <| some (.inl ((l1 + 1), 0, 0, (l5 + 1), m13))
noncomputable def j_X10_splitText_10_106 (m : MM) (l0 : Nat) (l1 : Int) (l5 : Int) (s0 : Nat) (s1 : Int) : Option ((Int × Int64 × Int × Int × MM) ⊕ ((Int × MM))) :=
  j_X10_splitText_10_111 m l0 l1 l5 s0 s1 1
noncomputable def j_X10_splitText_10_64 (m : MM) (l0 : Nat) (l1 : Int) (l2 : Int64) (l4 : Int) (l5 : Int)  : Option ((Int × Int64 × Int × Int × MM) ⊕ ((Int × MM))) :=
  nk 51 (gR m 10 l0 1) fun i7 => if (lenI m 51 i7) ≤ l1 then (ck (l5 + 1) <| some (.inl (l1, l2, l4, (l5 + 1), m))) else
  nk 51 (gR m 10 l0 1) fun i8 => stL m 51 i8 l1 l2 fun m9 => nk 52 (gR m9 10 l0 2) fun i10 => if l5 = (gN m9 10 l0 5) then (j_X10_splitText_10_106 m9 l0 l1 l5 i10 l1) else
  nk 50 (gR m9 10 l0 0) fun i11 => ldN m9 50 i11 l5 fun v12 => if ¬ v12 = 47 then (j_X10_splitText_10_111 m9 l0 l1 l5 i10 l1 0) else
  j_X10_splitText_10_106 m9 l0 l1 l5 i10 l1
noncomputable def b_X10_splitText_10 (l0 : Nat) (l1 : Int) (l2 : Int64) (l4 : Int) (l5 : Int) (mm : MM) : Option ((Int × Int64 × Int × Int × MM) ⊕ ((Int × MM))) :=
  if (gN mm 10 l0 5) < l5 then (some (.inr (l1, mm))) else
  if (gN mm 10 l0 5) ≤ l5 then (j_X10_splitText_10_64 mm l0 l1 l2 l4 l5) else
  nk 50 (gR mm 10 l0 0) fun i1 => ldN mm 50 i1 l5 fun v2 => (f_X11_isLetter mm v2).bind fun v3 => if v3 = 0 then (j_X10_splitText_10_64 mm l0 l1 l2 l4 l5) else
  nk 50 (gR mm 10 l0 0) fun i4 => ldN mm 50 i4 l5 fun v5 => ck (8 * l4) <| lt1 (l2 ||| (lshl (i2l v5) (8 * l4))) fun v6 => ck (l4 + 1) <| ck (l5 + 1) <| some (.inl (l1, v6, (l4 + 1), (l5 + 1), mm))
noncomputable def j_X10_splitText_0_126 (m : MM) (l1 : Int)  : Option (RV × MM) :=
  some (.inl (some (aI l1)), m)
noncomputable def f_X10_splitText (m : MM) (l0 : Nat) : Option (RV × MM) :=
  (lpb (fun s => b_X10_splitText_10 l0 s.1 s.2.1 s.2.2.1 s.2.2.2.1 s.2.2.2.2) (0, 0, 0, 0, m)).bind fun z => j_X10_splitText_0_126 (z.2) (z.1)
noncomputable def b_X10_spellingOf_2 (m : MM) (l0 : Nat) (l1 : Int64) (l3 : Int) : Option (Int ⊕ ((Int) ⊕ Unit)) :=
  if (gN m 10 l0 6) ≤ l3 then (some (.inr (.inr ()))) else
  nk 53 (gR m 10 l0 3) fun i1 => ldL m 53 i1 l3 fun v2 => if (lcm' v2 l1) = 0 then (some (.inr (.inl l3))) else
  nk 54 (gR m 10 l0 4) fun i3 => ldL m 54 i3 l3 fun v4 => if ¬ (lcm' v4 l1) = 0 then (ck (l3 + 1) <| some (.inl (l3 + 1))) else
  some (.inr (.inl l3))
noncomputable def j_X10_spellingOf_0_40 (m : MM)   : Option (Int) :=
  some (-1)
noncomputable def f_X10_spellingOf (m : MM) (l0 : Nat) (l1 : Int64) : Option (Int) :=
  (lpb (fun s => b_X10_spellingOf_2 m l0 l1 s) 0).bind (Sum.elim (fun r => some r) fun z => j_X10_spellingOf_0_40 m)
noncomputable def j_X9_add_0_92 (m : MM) (l0 : Nat) (l3 : Int) (s0 : Nat) (s1 : Int) (s2 : Int64) : Option (RV × MM) :=
  stL m 47 s0 s1 s2 fun m13 => nk 49 (gR m13 9 l0 4) fun i14 => cb l3 <| stN m13 49 i14 (gN m13 9 l0 5) l3 fun m15 => ck ((gN m15 9 l0 5) + 1) <| lt' (sN m15 9 l0 5 ((gN m15 9 l0 5) + 1)) fun m16 => some (.inl none, m16)
noncomputable def j_X9_add_0_65 (m : MM) (l0 : Nat) (l1 : Int64) (l3 : Int) (l4 : Nat) (l5 : Int) (s0 : Nat) (s1 : Int) (s2 : Int64) : Option (RV × MM) :=
  stL m 46 s0 s1 s2 fun m9 => nk 47 (gR m9 9 l0 2) fun i10 => if ¬ l5 = (-1) then (nk 54 (gR m9 10 l4 4) fun i11 => ldL m9 54 i11 l5 fun v12 => j_X9_add_0_92 m9 l0 l3 i10 (gN m9 9 l0 5) v12) else
  j_X9_add_0_92 m9 l0 l3 i10 (gN m9 9 l0 5) l1
noncomputable def f_X9_add (m : MM) (l0 : Nat) (l1 : Int64) (l3 : Int) (l4 : Nat) : Option (RV × MM) :=
  if (gN m 9 l0 5) < 60 then ((f_X10_spellingOf m l4 l1).bind fun v1 => nk 45 (gR m 9 l0 0) fun i2 => stL m 45 i2 (gN m 9 l0 5) l1 fun m3 => nk 48 (gR m3 9 l0 3) fun i4 => stN m3 48 i4 (gN m3 9 l0 5) v1 fun m5 => nk 46 (gR m5 9 l0 1) fun i6 => if ¬ v1 = (-1) then (nk 53 (gR m5 10 l4 3) fun i7 => ldL m5 53 i7 v1 fun v8 => j_X9_add_0_65 m5 l0 l1 l3 l4 v1 i6 (gN m5 9 l0 5) v8) else
  j_X9_add_0_65 m5 l0 l1 l3 l4 v1 i6 (gN m5 9 l0 5) l1) else
  some (.inl none, m)
noncomputable def b_X11_copy_63 (l0 : Nat) (l2 : Nat) (l3 : Int) (l4 : Int) (mm : MM) : Option ((Int × MM) ⊕ (MM)) :=
  if l3 ≤ l4 then (some (.inr mm)) else
  nk 9 (gR mm 0 l2 4) fun i15 => nk 10 (gR mm 11 l0 0) fun i16 => nk 51 (gR mm 10 i16 1) fun i17 => ldL mm 51 i17 l4 fun v18 => nk 10 (gR mm 11 l0 0) fun i19 => nk 52 (gR mm 10 i19 2) fun i20 => ldN mm 52 i20 l4 fun v21 => nk 10 (gR mm 11 l0 0) fun i22 => bV (f_X9_add mm i15 v18 v21 i22) (fun m23 => ck (l4 + 1) <| some (.inl ((l4 + 1), m23))) x0
noncomputable def j_X11_copy_0_106 (m : MM) (l0 : Nat) (l2 : Nat)  : Option (RV × MM) :=
  nk 10 (gR m 11 l0 0) fun i25 => lt' (sN m 10 i25 5 0) fun m26 => nk 9 (gR m26 0 l2 4) fun i27 => some (.inl (some (aI (gN m26 9 i27 5))), m26)
noncomputable def j_X11_copy_0_57 (m : MM) (l0 : Nat) (l2 : Nat) (l3 : Int) (s0 : Int) : Option (RV × MM) :=
  bV (f_X11_requireState m s0) (fun m13 => (lpb (fun s => b_X11_copy_63 l0 l2 l3 s.1 s.2) (0, m13)).bind fun z => j_X11_copy_0_106 z l0 l2) xt
noncomputable def j_X11_copy_0_56 (m : MM) (l0 : Nat) (l2 : Nat) (l3 : Int)  : Option (RV × MM) :=
  j_X11_copy_0_57 m l0 l2 l3 0
noncomputable def f_X11_copy (m : MM) (l0 : Nat) (l1 : Int) : Option (RV × MM) :=
  bR (f_X11_bookAt m l0 l1) (fun r2 m1 => nk 0 r2 fun i3 => nk 10 (gR m1 11 l0 0) fun i4 => (f_X10_isText m1 i4).bind fun v5 => bV (f_X11_requireArgument m1 v5) (fun m6 => nk 10 (gR m6 11 l0 0) fun i8 => bI (f_X10_splitText m6 i8) (fun v10 m9 => nk 9 (gR m9 0 i3 4) fun i11 => ck ((gN m9 9 i11 5) + v10) <| if 60 < ((gN m9 9 i11 5) + v10) then (j_X11_copy_0_56 m9 l0 i3 v10) else
  if ¬ (gN m9 0 i3 10) = 0 then (j_X11_copy_0_56 m9 l0 i3 v10) else
  (f_X0_hasSetPage m9 i3).bind fun v12 => if ¬ v12 = 0 then (j_X11_copy_0_56 m9 l0 i3 v10) else
  j_X11_copy_0_57 m9 l0 i3 v10 1) x0) xt) xt
noncomputable def f_L_copy (m : MM) (l0 : Nat) (l1 : Int) (l2 : Nat) : Option (RV × MM) :=
  bI (f_X11_copy m l0 l1) (fun v2 m1 => stL m1 131 l2 0 (i2l v2) fun m3 => some (.inl (some (aI 0)), m3)) (xc (fun mx => some (.inl (some (aI 1)), mx)) (fun mx => some (.inl (some (aI 2)), mx)) (fun mx => some (.inl (some (aI 3)), mx)))
noncomputable def f_X11_pageOf (m : MM) (l0 : Nat) (l1 : Int) : Option (RV × MM) :=
  (f_X0_hasPage m l0 l1).bind fun v1 => if ¬ v1 = 0 then (nk 13 (gR m 0 l0 5) fun i2 => ldR m 13 i2 l1 fun r3 => some (.inl (some (aR r3)), m)) else
  some (.inr 0, bX m)
noncomputable def f_X5_beginState (m : MM) (l0 : Nat) (l1 : Int) : Option (RV × MM) :=
  if l1 < 1 then (some (.inl none, m)) else
  nk 37 (gR m 5 l0 3) fun i1 => if (lenI m 37 i1) ≤ l1 then (some (.inl none, m)) else
  nk 37 (gR m 5 l0 3) fun i2 => ldR m 37 i2 (l1 - 1) fun r3 => nk 38 r3 fun i4 => nk 37 (gR m 5 l0 3) fun i5 => ldR m 37 i5 l1 fun r6 => nk 38 r6 fun i7 => cpN m 38 i4 0 i7 0 (gN m 5 l0 4) fun m8 => some (.inl none, m8)
noncomputable def b_X2_beginStateIfPrinted_54 (l0 : Nat) (l1 : Nat) (l2 : Int) (l3 : Int) (mm : MM) : Option ((Int × MM) ⊕ (MM)) :=
  if l2 ≤ l3 then (some (.inr mm)) else
  ldR mm 19 l1 l3 fun r7 => nk 4 r7 fun i8 => nk 5 (gR mm 4 i8 8) fun i9 => bV (f_X5_beginState mm i9 (gN mm 2 l0 7)) (fun m10 => ck (l3 + 1) <| some (.inl ((l3 + 1), m10))) x0
noncomputable def j_X2_beginStateIfPrinted_0_82 (m : MM) (l0 : Nat)  : Option (RV × MM) :=
  ck ((gN m 2 l0 7) + 1) <| lt' (sN m 2 l0 7 ((gN m 2 l0 7) + 1)) fun m12 => some (.inl none, m12)
noncomputable def f_X2_beginStateIfPrinted (m : MM) (l0 : Nat) : Option (RV × MM) :=
  nk 26 (gR m 2 l0 2) fun i1 => ldN m 26 i1 ((gN m 2 l0 7) - 1) fun v2 => if (gN m 2 l0 6) ≤ v2 then (some (.inl none, m)) else
  nk 26 (gR m 2 l0 2) fun i3 => if (gN m 2 l0 7) < (lenI m 26 i3) then (nk 26 (gR m 2 l0 2) fun i4 => stN m 26 i4 (gN m 2 l0 7) (gN m 2 l0 6) fun m5 => nk 19 (gR m5 2 l0 0) fun i6 => (lpb (fun s => b_X2_beginStateIfPrinted_54 l0 i6 (lenI m5 19 i6) s.1 s.2) (0, m5)).bind fun z => j_X2_beginStateIfPrinted_0_82 z l0) else
  some (.inl none, m)
noncomputable def f_X1_take (m : MM) (l0 : Nat) (l1 : Int) (l2 : Int) : Option (RV × MM) :=
  nk 24 (gR m 1 l0 4) fun i1 => ldN m 24 i1 l1 fun v2 => if v2 = (-1) then (some (.inl (some (aI v2)), m)) else
  nk 24 (gR m 1 l0 4) fun i3 => nk 23 (gR m 1 l0 3) fun i4 => ldN m 23 i4 v2 fun v5 => stN m 24 i3 l1 v5 fun m6 => nk 22 (gR m6 1 l0 2) fun i7 => stN m6 22 i7 v2 l2 fun m8 => some (.inl (some (aI v2)), m8)
noncomputable def j_X5_replace_0_48 (m : MM) (l0 : Nat) (l1 : Int) (l2 : Int) (l3 : Nat) (l5 : Int)  : Option (RV × MM) :=
  nk 35 (gR m 5 l0 1) fun i11 => stN m 35 i11 l1 l5 fun m12 => nk 36 (gR m12 5 l0 2) fun i13 => stN m12 36 i13 l1 0 fun m14 => nk 37 (gR m14 5 l0 3) fun i15 => ldR m14 37 i15 l2 fun r16 => nk 38 r16 fun i17 => nk 20 (gR m14 1 l3 0) fun i18 => ldN m14 20 i18 l5 fun v19 => stN m14 38 i17 l1 v19 fun m20 => some (.inl none, m20)
noncomputable def f_X5_replace (m : MM) (l0 : Nat) (l1 : Int) (l2 : Int) (l3 : Nat) (l4 : Int) : Option (RV × MM) :=
  nk 34 (gR m 5 l0 0) fun i1 => ldN m 34 i1 l1 fun v2 => bI (f_X1_take m l3 v2 l4) (fun v4 m3 => nk 35 (gR m3 5 l0 1) fun i5 => ldN m3 35 i5 l1 fun v6 => if ¬ v4 = (-1) then (if v6 = (-1) then (j_X5_replace_0_48 m3 l0 l1 l2 l3 v4) else
  nk 20 (gR m3 1 l3 0) fun i7 => ldN m3 20 i7 v6 fun v8 => bV (f_X1_putOn m3 l3 v8 v6) (fun m9 => j_X5_replace_0_48 m9 l0 l1 l2 l3 v4) x0) else
  some (.inl none, m3)) x0
noncomputable def j_X11_correct_0_103 (m : MM) (l0 : Nat) (l1 : Int) (l2 : Int) (l3 : Int) (l5 : Nat) (l6 : Nat) (s0 : Int) : Option (RV × MM) :=
  bV (f_X11_requireState m s0) (fun m21 => bV (f_X2_beginStateIfPrinted m21 l6) (fun m23 => nk 1 (gR m23 11 l0 1) fun i25 => ck ((gN m23 2 l6 7) - 1) <| ck ((100 + (100 * l1)) + l2) <| bV (f_X5_replace m23 l5 l3 ((gN m23 2 l6 7) - 1) i25 ((100 + (100 * l1)) + l2)) (fun m26 => ck ((gN m26 2 l6 7) - 1) <| some (.inl (some (aI ((gN m26 2 l6 7) - 1))), m26)) x0) x0) xt
noncomputable def j_X11_correct_0_76 (m : MM) (l0 : Nat) (l1 : Int) (l2 : Int) (l3 : Int) (l5 : Nat) (l6 : Nat) (s0 : Int) : Option (RV × MM) :=
  bV (f_X11_requireState m s0) (fun m14 => nk 1 (gR m14 11 l0 1) fun i16 => nk 24 (gR m14 1 i16 4) fun i17 => nk 34 (gR m14 5 l5 0) fun i18 => ldN m14 34 i18 l3 fun v19 => ldN m14 24 i17 v19 fun v20 => if v20 = (-1) then (j_X11_correct_0_103 m14 l0 l1 l2 l3 l5 l6 0) else
  j_X11_correct_0_103 m14 l0 l1 l2 l3 l5 l6 1) xt
noncomputable def j_X11_correct_0_71 (m : MM) (l0 : Nat) (l1 : Int) (l2 : Int) (l3 : Int) (l5 : Nat) (l6 : Nat)  : Option (RV × MM) :=
  j_X11_correct_0_76 m l0 l1 l2 l3 l5 l6 1
noncomputable def j_X11_correct_0_36 (m : MM) (l0 : Nat) (l1 : Int) (l2 : Int) (l3 : Int) (l4 : Nat) (l5 : Nat) (s0 : Int) : Option (RV × MM) :=
  bV (f_X11_requireIndex m s0) (fun m8 => nk 14 (gR m8 0 l4 6) fun i10 => (f_X0_formeNumber m8 l4 l2).bind fun v11 => ldR m8 14 i10 v11 fun r12 => nk 2 r12 fun i13 => if (gN m8 2 i13 4) = 1 then (j_X11_correct_0_71 m8 l0 l1 l2 l3 l5 i13) else
  if ¬ (gN m8 2 i13 4) = 2 then (j_X11_correct_0_76 m8 l0 l1 l2 l3 l5 i13 0) else
  j_X11_correct_0_71 m8 l0 l1 l2 l3 l5 i13) xt
noncomputable def j_X11_correct_0_35 (m : MM) (l0 : Nat) (l1 : Int) (l2 : Int) (l3 : Int) (l4 : Nat) (l5 : Nat)  : Option (RV × MM) :=
  j_X11_correct_0_36 m l0 l1 l2 l3 l4 l5 0
noncomputable def f_X11_correct (m : MM) (l0 : Nat) (l1 : Int) (l2 : Int) (l3 : Int) : Option (RV × MM) :=
  bR (f_X11_bookAt m l0 l1) (fun r2 m1 => nk 0 r2 fun i3 => bR (f_X11_pageOf m1 i3 l2) (fun r5 m4 => nk 4 r5 fun i6 => nk 5 (gR m4 4 i6 8) fun i7 => if l3 < 0 then (j_X11_correct_0_35 m4 l0 l1 l2 l3 i3 i7) else
  if (gN m4 5 i7 4) ≤ l3 then (j_X11_correct_0_35 m4 l0 l1 l2 l3 i3 i7) else
  j_X11_correct_0_36 m4 l0 l1 l2 l3 i3 i7 1) xt) xt
noncomputable def f_L_correct (m : MM) (l0 : Nat) (l1 : Int) (l2 : Int) (l3 : Int) (l4 : Nat) : Option (RV × MM) :=
  bI (f_X11_correct m l0 l1 l2 l3) (fun v2 m1 => stL m1 131 l4 0 (i2l v2) fun m3 => some (.inl (some (aI 0)), m3)) (xc (fun mx => some (.inl (some (aI 1)), mx)) xn_ (fun mx => some (.inl (some (aI 2)), mx)))
noncomputable def j_X11_exchange_0_40 (m : MM) (l2 : Int) (l3 : Int) (l4 : Int) (l5 : Nat) (s0 : Int) : Option (RV × MM) :=
  bV (f_X11_requireIndex m s0) (fun m7 => bV (f_X11_requireState m7 (gN m7 0 l5 11)) (fun m9 => nk 17 (gR m9 0 l5 9) fun i11 => ldR m9 17 i11 l2 fun r12 => nk 18 r12 fun i13 => ldN m9 18 i13 l4 fun v14 => nk 17 (gR m9 0 l5 9) fun i15 => ldR m9 17 i15 l2 fun r16 => nk 18 r16 fun i17 => nk 17 (gR m9 0 l5 9) fun i18 => ldR m9 17 i18 l3 fun r19 => nk 18 r19 fun i20 => ldN m9 18 i20 l4 fun v21 => stN m9 18 i17 l4 v21 fun m22 => nk 17 (gR m22 0 l5 9) fun i23 => ldR m22 17 i23 l3 fun r24 => nk 18 r24 fun i25 => stN m22 18 i25 l4 v14 fun m26 => some (.inl none, m26)) xt) xt
noncomputable def j_X11_exchange_0_39 (m : MM) (l2 : Int) (l3 : Int) (l4 : Int) (l5 : Nat)  : Option (RV × MM) :=
  j_X11_exchange_0_40 m l2 l3 l4 l5 0
noncomputable def f_X11_exchange (m : MM) (l0 : Nat) (l1 : Int) (l2 : Int) (l3 : Int) (l4 : Int) : Option (RV × MM) :=
  bR (f_X11_bookAt m l0 l1) (fun r2 m1 => nk 0 r2 fun i3 => (f_X0_hasCopy m1 i3 l2).bind fun v4 => if v4 = 0 then (j_X11_exchange_0_39 m1 l2 l3 l4 i3) else
  (f_X0_hasCopy m1 i3 l3).bind fun v5 => if v5 = 0 then (j_X11_exchange_0_39 m1 l2 l3 l4 i3) else
  (f_X0_hasLeaf m1 i3 l4).bind fun v6 => if v6 = 0 then (j_X11_exchange_0_39 m1 l2 l3 l4 i3) else
  j_X11_exchange_0_40 m1 l2 l3 l4 i3 1) xt
noncomputable def f_L_exchange (m : MM) (l0 : Nat) (l1 : Int) (l2 : Int) (l3 : Int) (l4 : Int) : Option (RV × MM) :=
  bV (f_X11_exchange m l0 l1 l2 l3 l4) (fun m1 => some (.inl (some (aI 0)), m1)) (xc (fun mx => some (.inl (some (aI 1)), mx)) xn_ (fun mx => some (.inl (some (aI 2)), mx)))
noncomputable def b_X0_wordsOnPages_13 (m : MM) (l2 : Nat) (l3 : Int) (l1 : Int) (l4 : Int) : Option ((Int × Int) ⊕ (Int)) :=
  if l3 ≤ l4 then (some (.inr l1)) else
  ldR m 13 l2 l4 fun r2 => nk 4 r2 fun i3 => ck (l1 + (gN m 4 i3 10)) <| ck (l4 + 1) <| some (.inl ((l1 + (gN m 4 i3 10)), (l4 + 1)))
noncomputable def j_X0_wordsOnPages_0_39 (m : MM) (l1 : Int)  : Option (Int) :=
  some l1
noncomputable def f_X0_wordsOnPages (m : MM) (l0 : Nat) : Option (Int) :=
  nk 13 (gR m 0 l0 5) fun i1 => (lpb (fun s => b_X0_wordsOnPages_13 m i1 (lenI m 13 i1) s.1 s.2) (0, 0)).bind fun z => j_X0_wordsOnPages_0_39 m z
noncomputable def f_X9_form (m : MM) (l0 : Nat) (l1 : Int) (l2 : Int) : Option (Int64) :=
  if l2 = 0 then (nk 46 (gR m 9 l0 1) fun i1 => ldL m 46 i1 l1 fun v2 => some v2) else
  nk 47 (gR m 9 l0 2) fun i3 => ldL m 47 i3 l1 fun v4 => some v4
noncomputable def j_X9_addPage_29_69 (m : MM) (l0 : Nat) (l1 : Nat) (l2 : Nat) (l3 : Nat) (l4 : Int) (l5 : Int) (l6 : Int) (s0 : Nat) (s1 : Int64) (s2 : Int) : Option ((Int × MM) ⊕ (MM)) :=
  bV (f_X9_add m s0 s1 s2 l3) (fun m9 => ck (l6 + 1) <| some (.inl ((l6 + 1), m9))) x0
noncomputable def b_X9_addPage_29 (l0 : Nat) (l1 : Nat) (l2 : Nat) (l3 : Nat) (l4 : Int) (l5 : Int) (l6 : Int) (mm : MM) : Option ((Int × MM) ⊕ (MM)) :=
  if l5 ≤ l6 then (some (.inr mm)) else
  nk 27 (gR mm 4 l1 1) fun i4 => ldN mm 27 i4 l6 fun v5 => nk 28 (gR mm 4 l1 2) fun i6 => ldN mm 28 i6 l6 fun v7 => (f_X9_form mm l2 v5 v7).bind fun v8 => ck (l5 - 1) <| if ¬ l6 = (l5 - 1) then (j_X9_addPage_29_69 mm l0 l1 l2 l3 l4 l5 l6 l0 v8 0) else
  j_X9_addPage_29_69 mm l0 l1 l2 l3 l4 l5 l6 l0 v8 1
noncomputable def j_X9_addPage_3_79 (m : MM) (l0 : Nat) (l1 : Nat) (l2 : Nat) (l3 : Nat) (l4 : Int)  : Option ((Int × MM) ⊕ (MM)) :=
  ck (l4 + 1) <| some (.inl ((l4 + 1), m))
noncomputable def b_X9_addPage_3 (l0 : Nat) (l1 : Nat) (l2 : Nat) (l3 : Nat) (l4 : Int) (mm : MM) : Option ((Int × MM) ⊕ (MM)) :=
  if (gN mm 4 l1 11) ≤ l4 then (some (.inr mm)) else
  (f_X4_wordBehindLine mm l1 l4).bind fun v1 => nk 31 (gR mm 4 l1 5) fun i2 => ldN mm 31 i2 l4 fun v3 => (lpb (fun s => b_X9_addPage_29 l0 l1 l2 l3 l4 v1 s.1 s.2) (v3, mm)).bind fun z => j_X9_addPage_3_79 z l0 l1 l2 l3 l4
noncomputable def j_X9_addPage_0_85 (m : MM)   : Option (RV × MM) :=
  some (.inl none, m)
noncomputable def f_X9_addPage (m : MM) (l0 : Nat) (l1 : Nat) (l2 : Nat) (l3 : Nat) : Option (RV × MM) :=
  (lpb (fun s => b_X9_addPage_3 l0 l1 l2 l3 s.1 s.2) (0, m)).bind fun z => j_X9_addPage_0_85 z
noncomputable def b_X11_follow_67 (l0 : Nat) (l3 : Nat) (l4 : Nat) (l5 : Nat) (l6 : Int) (l7 : Int) (mm : MM) : Option ((Int × MM) ⊕ (MM)) :=
  if l6 ≤ l7 then (some (.inr mm)) else
  ldR mm 13 l5 l7 fun r14 => nk 4 r14 fun i15 => nk 9 (gR mm 0 l3 4) fun i16 => nk 9 (gR mm 0 l4 4) fun i17 => nk 10 (gR mm 11 l0 0) fun i18 => bV (f_X9_addPage mm i16 i15 i17 i18) (fun m19 => ck (l7 + 1) <| some (.inl ((l7 + 1), m19))) x0
noncomputable def j_X11_follow_0_105 (m : MM) (l3 : Nat)  : Option (RV × MM) :=
  nk 9 (gR m 0 l3 4) fun i21 => some (.inl (some (aI (gN m 9 i21 5))), m)
noncomputable def j_X11_follow_0_49 (m : MM) (l0 : Nat) (l3 : Nat) (l4 : Nat) (s0 : Int) : Option (RV × MM) :=
  bV (f_X11_requireState m s0) (fun m11 => nk 13 (gR m11 0 l4 5) fun i13 => (lpb (fun s => b_X11_follow_67 l0 l3 l4 i13 (lenI m11 13 i13) s.1 s.2) (0, m11)).bind fun z => j_X11_follow_0_105 z l3) xt
noncomputable def j_X11_follow_0_48 (m : MM) (l0 : Nat) (l3 : Nat) (l4 : Nat)  : Option (RV × MM) :=
  j_X11_follow_0_49 m l0 l3 l4 0
noncomputable def j_X11_follow_0_23 (m : MM) (l0 : Nat) (l3 : Nat) (l4 : Nat) (s0 : Int) : Option (RV × MM) :=
  bV (f_X11_requireArgument m s0) (fun m7 => nk 9 (gR m7 0 l3 4) fun i9 => if ¬ (gN m7 9 i9 5) = 0 then (j_X11_follow_0_48 m7 l0 l3 l4) else
  (f_X0_wordsOnPages m7 l4).bind fun v10 => if v10 ≤ 0 then (j_X11_follow_0_48 m7 l0 l3 l4) else
  j_X11_follow_0_49 m7 l0 l3 l4 1) xt
noncomputable def f_X11_follow (m : MM) (l0 : Nat) (l1 : Int) (l2 : Int) : Option (RV × MM) :=
  bR (f_X11_bookAt m l0 l1) (fun r2 m1 => nk 0 r2 fun i3 => bR (f_X11_bookAt m1 l0 l2) (fun r5 m4 => nk 0 r5 fun i6 => if l1 = l2 then (j_X11_follow_0_23 m4 l0 i3 i6 0) else
  j_X11_follow_0_23 m4 l0 i3 i6 1) xt) xt
noncomputable def f_L_follow (m : MM) (l0 : Nat) (l1 : Int) (l2 : Int) (l3 : Nat) : Option (RV × MM) :=
  bI (f_X11_follow m l0 l1 l2) (fun v2 m1 => stL m1 131 l3 0 (i2l v2) fun m3 => some (.inl (some (aI 0)), m3)) (xc (fun mx => some (.inl (some (aI 1)), mx)) (fun mx => some (.inl (some (aI 2)), mx)) (fun mx => some (.inl (some (aI 3)), mx)))
noncomputable def f_X4_lastWord (m : MM) (l0 : Nat) (l1 : Int) : Option (Int) :=
  nk 27 (gR m 4 l0 1) fun i1 => (f_X4_wordBehindLine m l0 l1).bind fun v2 => ck (v2 - 1) <| ldN m 27 i1 (if (v2 - 1) < 0 then 0 else (v2 - 1)) fun v3 => some v3
noncomputable def b_X0_lastWordOfLine_14 (m : MM) (l3 : Nat) (l4 : Int) (l2 : Int) (l5 : Int) : Option ((Int × Int) ⊕ ((Int) ⊕ Unit)) :=
  if l4 ≤ l5 then (some (.inr (.inr ()))) else
  ldR m 13 l3 l5 fun r2 => nk 4 r2 fun i3 => if (gN m 4 i3 11) ≤ l2 then (ck (l2 - (gN m 4 i3 11)) <| ck (l5 + 1) <| some (.inl ((l2 - (gN m 4 i3 11)), (l5 + 1)))) else
  (f_X4_lastWord m i3 l2).bind fun v4 => some (.inr (.inl v4))
noncomputable def j_X0_lastWordOfLine_0_57 (m : MM)   : Option (Int) :=
  some (-1)
noncomputable def f_X0_lastWordOfLine (m : MM) (l0 : Nat) (l1 : Int) : Option (Int) :=
  nk 13 (gR m 0 l0 5) fun i1 => (lpb (fun s => b_X0_lastWordOfLine_14 m i1 (lenI m 13 i1) s.1 s.2) (l1, 0)).bind (Sum.elim (fun r => some r) fun z => j_X0_lastWordOfLine_0_57 m)
noncomputable def b_X0_linesOnPages_13 (m : MM) (l2 : Nat) (l3 : Int) (l1 : Int) (l4 : Int) : Option ((Int × Int) ⊕ (Int)) :=
  if l3 ≤ l4 then (some (.inr l1)) else
  ldR m 13 l2 l4 fun r2 => nk 4 r2 fun i3 => ck (l1 + (gN m 4 i3 11)) <| ck (l4 + 1) <| some (.inl ((l1 + (gN m 4 i3 11)), (l4 + 1)))
noncomputable def j_X0_linesOnPages_0_39 (m : MM) (l1 : Int)  : Option (Int) :=
  some l1
noncomputable def f_X0_linesOnPages (m : MM) (l0 : Nat) : Option (Int) :=
  nk 13 (gR m 0 l0 5) fun i1 => (lpb (fun s => b_X0_linesOnPages_13 m i1 (lenI m 13 i1) s.1 s.2) (0, 0)).bind fun z => j_X0_linesOnPages_0_39 m z
noncomputable def f_X9_isLike (m : MM) (l0 : Nat) (l1 : Int) (l2 : Nat) (l3 : Int) : Option (Int) :=
  nk 45 (gR m 9 l0 0) fun i1 => ldL m 45 i1 l1 fun v2 => nk 45 (gR m 9 l2 0) fun i3 => ldL m 45 i3 l3 fun v4 => if ¬ (lcm' v2 v4) = 0 then (nk 48 (gR m 9 l0 3) fun i5 => ldN m 48 i5 l1 fun v6 => if v6 = (-1) then (some 0) else
  nk 48 (gR m 9 l0 3) fun i7 => ldN m 48 i7 l1 fun v8 => nk 48 (gR m 9 l2 3) fun i9 => ldN m 48 i9 l3 fun v10 => if ¬ v8 = v10 then (some 0) else
  some 1) else
  some 1
noncomputable def b_X11_follows_25 (m : MM) (l3 : Nat) (l4 : Nat) (l6 : Int) (l5 : Int) (l7 : Int) : Option ((Int × Int) ⊕ (Int)) :=
  if l6 ≤ l7 then (some (.inr l5)) else
  (f_X0_lastWordOfLine m l3 l7).bind fun v8 => (f_X0_lastWordOfLine m l4 l7).bind fun v9 => if v8 = (-1) then (ck (l7 + 1) <| some (.inl (l5, (l7 + 1)))) else
  if v9 = (-1) then (ck (l7 + 1) <| some (.inl (l5, (l7 + 1)))) else
  nk 9 (gR m 0 l3 4) fun i10 => nk 9 (gR m 0 l4 4) fun i11 => (f_X9_isLike m i10 v8 i11 v9).bind fun v12 => if v12 = 0 then (ck (l7 + 1) <| some (.inl (l5, (l7 + 1)))) else
  ck (l5 + 1) <| ck (l7 + 1) <| some (.inl ((l5 + 1), (l7 + 1)))
noncomputable def j_X11_follows_0_89 (m : MM) (l5 : Int)  : Option (RV × MM) :=
  some (.inl (some (aI l5)), m)
noncomputable def f_X11_follows (m : MM) (l0 : Nat) (l1 : Int) (l2 : Int) : Option (RV × MM) :=
  bR (f_X11_bookAt m l0 l1) (fun r2 m1 => nk 0 r2 fun i3 => bR (f_X11_bookAt m1 l0 l2) (fun r5 m4 => nk 0 r5 fun i6 => (f_X0_linesOnPages m4 i3).bind fun v7 => (lpb (fun s => b_X11_follows_25 m4 i3 i6 v7 s.1 s.2) (0, 0)).bind fun z => j_X11_follows_0_89 m4 z) xt) xt
noncomputable def f_L_follows (m : MM) (l0 : Nat) (l1 : Int) (l2 : Int) (l3 : Nat) : Option (RV × MM) :=
  bI (f_X11_follows m l0 l1 l2) (fun v2 m1 => stL m1 131 l3 0 (i2l v2) fun m3 => some (.inl (some (aI 0)), m3)) (xc (fun mx => some (.inl (some (aI 1)), mx)) xn_ xn_)
noncomputable def f_X11_formeOf (m : MM) (l0 : Nat) (l1 : Int) : Option (RV × MM) :=
  (f_X0_hasForme m l0 l1).bind fun v1 => if ¬ v1 = 0 then (nk 14 (gR m 0 l0 6) fun i2 => ldR m 14 i2 l1 fun r3 => some (.inl (some (aR r3)), m)) else
  some (.inr 0, bX m)
noncomputable def j_X11_forme_0_25 (m : MM) (l3 : Int) (l4 : Nat) (s0 : Int) : Option (RV × MM) :=
  bV (f_X11_requireArgument m s0) (fun m7 => tsw l3 0 [some (.inl (some (aI (gN m7 2 l4 4))), m7),
  some (.inl (some (aI (gN m7 2 l4 5))), m7),
  some (.inl (some (aI (gN m7 2 l4 6))), m7),
  some (.inl (some (aI (gN m7 2 l4 7))), m7)]
  (some (.inl (some (aI (gN m7 2 l4 9))), m7))) xt
noncomputable def j_X11_forme_0_24 (m : MM) (l3 : Int) (l4 : Nat)  : Option (RV × MM) :=
  j_X11_forme_0_25 m l3 l4 0
noncomputable def f_X11_forme (m : MM) (l0 : Nat) (l1 : Int) (l2 : Int) (l3 : Int) : Option (RV × MM) :=
  bR (f_X11_bookAt m l0 l1) (fun r2 m1 => nk 0 r2 fun i3 => bR (f_X11_formeOf m1 i3 l2) (fun r5 m4 => nk 2 r5 fun i6 => if l3 < 0 then (j_X11_forme_0_24 m4 l3 i6) else
  if 4 < l3 then (j_X11_forme_0_24 m4 l3 i6) else
  j_X11_forme_0_25 m4 l3 i6 1) xt) xt
noncomputable def f_L_forme (m : MM) (l0 : Nat) (l1 : Int) (l2 : Int) (l3 : Int) (l4 : Nat) : Option (RV × MM) :=
  bI (f_X11_forme m l0 l1 l2 l3) (fun v2 m1 => stL m1 131 l4 0 (i2l v2) fun m3 => some (.inl (some (aI 0)), m3)) (xc (fun mx => some (.inl (some (aI 1)), mx)) (fun mx => some (.inl (some (aI 2)), mx)) xn_)
noncomputable def f_X3_init (m : MM) (l0 : Nat) (l1 : Int) (l2 : Int) (l3 : Int) : Option (RV × MM) :=
  lt' (sN m 3 l0 0 l1) fun m1 => lt' (sN m1 3 l0 1 l2) fun m2 => lt' (sN m2 3 l0 2 l3) fun m3 => some (.inl none, m3)
noncomputable def j_X11_hand_0_67 (m : MM) (l0 : Nat) (l1 : Int) (l2 : Int) (l3 : Int) (s0 : Int) : Option (RV × MM) :=
  bV (f_X11_requireState m s0) (fun m7 => nk 55 (gR m7 11 l0 2) fun i9 => lt' (nW m7 3 6) fun m10 => bV (f_X3_init m10 (gC m7 3) l1 l2 l3) (fun m11 => stR m11 55 i9 (gN m7 11 l0 7) (some (3, (gC m7 3))) fun m13 => ck ((gN m13 11 l0 7) + 1) <| lt' (sN m13 11 l0 7 ((gN m13 11 l0 7) + 1)) fun m14 => ck ((gN m14 11 l0 7) - 1) <| some (.inl (some (aI ((gN m14 11 l0 7) - 1))), m14)) x0) xt
noncomputable def j_X11_hand_0_51 (m : MM) (l0 : Nat) (l1 : Int) (l2 : Int) (l3 : Int) (s0 : Int) : Option (RV × MM) :=
  bV (f_X11_requireArgument m s0) (fun m5 => if 4 ≤ (gN m5 11 l0 7) then (j_X11_hand_0_67 m5 l0 l1 l2 l3 0) else
  j_X11_hand_0_67 m5 l0 l1 l2 l3 1) xt
noncomputable def j_X11_hand_0_50 (m : MM) (l0 : Nat) (l1 : Int) (l2 : Int) (l3 : Int)  : Option (RV × MM) :=
  j_X11_hand_0_51 m l0 l1 l2 l3 0
noncomputable def j_X11_hand_0_33 (m : MM) (l0 : Nat) (l1 : Int) (l2 : Int) (l3 : Int) (s0 : Int) : Option (RV × MM) :=
  bV (f_X11_requireArgument m s0) (fun m3 => if l3 < 0 then (j_X11_hand_0_50 m3 l0 l1 l2 l3) else
  if 9 < l3 then (j_X11_hand_0_50 m3 l0 l1 l2 l3) else
  j_X11_hand_0_51 m3 l0 l1 l2 l3 1) xt
noncomputable def j_X11_hand_0_32 (m : MM) (l0 : Nat) (l1 : Int) (l2 : Int) (l3 : Int)  : Option (RV × MM) :=
  j_X11_hand_0_33 m l0 l1 l2 l3 0
noncomputable def j_X11_hand_0_15 (m : MM) (l0 : Nat) (l1 : Int) (l2 : Int) (l3 : Int) (s0 : Int) : Option (RV × MM) :=
  bV (f_X11_requireArgument m s0) (fun m1 => if l2 < 0 then (j_X11_hand_0_32 m1 l0 l1 l2 l3) else
  if 9 < l2 then (j_X11_hand_0_32 m1 l0 l1 l2 l3) else
  j_X11_hand_0_33 m1 l0 l1 l2 l3 1) xt
noncomputable def j_X11_hand_0_14 (m : MM) (l0 : Nat) (l1 : Int) (l2 : Int) (l3 : Int)  : Option (RV × MM) :=
  j_X11_hand_0_15 m l0 l1 l2 l3 0
noncomputable def f_X11_hand (m : MM) (l0 : Nat) (l1 : Int) (l2 : Int) (l3 : Int) : Option (RV × MM) :=
  if l1 < 0 then (j_X11_hand_0_14 m l0 l1 l2 l3) else
  if 63 < l1 then (j_X11_hand_0_14 m l0 l1 l2 l3) else
  j_X11_hand_0_15 m l0 l1 l2 l3 1
noncomputable def f_L_hand (m : MM) (l0 : Nat) (l1 : Int) (l2 : Int) (l3 : Int) (l4 : Nat) : Option (RV × MM) :=
  bI (f_X11_hand m l0 l1 l2 l3) (fun v2 m1 => stL m1 131 l4 0 (i2l v2) fun m3 => some (.inl (some (aI 0)), m3)) (xc xn_ (fun mx => some (.inl (some (aI 1)), mx)) (fun mx => some (.inl (some (aI 2)), mx)))
noncomputable def b_X7_canPart_34 (rec : MM → Nat → Int → Int → Int → Int → MO) (l0 : Nat) (l1 : Int) (l2 : Int) (l3 : Int) (l4 : Int) (l5 : Int) (l6 : Int) (mm : MM) : Option ((Int × Int × MM) ⊕ ((Int × MM))) :=
  if l2 < l6 then (some (.inr (l5, mm))) else
  if l4 ≤ l6 then (some (.inr (l5, mm))) else
  if ¬ l5 = 0 then (some (.inr (l5, mm))) else
  nk 44 (gR mm 7 l0 5) fun i1 => ldN mm 44 i1 l6 fun v2 => nk 41 (gR mm 7 l0 2) fun i3 => ldN mm 41 i3 l1 fun v4 => if ¬ (iand v2 v4) = 0 then (ck (l6 + 1) <| some (.inl (l5, (l6 + 1), mm))) else
  nk 44 (gR mm 7 l0 5) fun i5 => ldN mm 44 i5 l6 fun v6 => stN mm 44 i5 l6 (ior' v6 (ishl 1 l1)) fun m7 => ck (l6 + 1) <| ck (l1 + 1) <| bI (rec m7 l0 (l1 + 1) (if l2 < (l6 + 1) then (l6 + 1) else l2) l3 l4) (fun v9 m8 => nk 44 (gR m8 7 l0 5) fun i10 => ldN m8 44 i10 l6 fun v11 => stN m8 44 i10 l6 (iand v11 (ixor' (ishl 1 l1) (-1))) fun m12 => ck (l6 + 1) <| some (.inl (v9, (l6 + 1), m12))) x0
noncomputable def j_X7_canPart_0_123 (rec : MM → Nat → Int → Int → Int → Int → MO) (m : MM) (l5 : Int)  : Option (RV × MM) :=
  cb l5 <| some (.inl (some (aI l5)), m)
noncomputable def fb_X7_canPart (rec : MM → Nat → Int → Int → Int → Int → MO) (m : MM) (l0 : Nat) (l1 : Int) (l2 : Int) (l3 : Int) (l4 : Int) : Option (RV × MM) :=
  if l1 < 16 then (if ¬ (iand l3 (ishl 1 l1)) = 0 then ((lpb (fun s => b_X7_canPart_34 rec l0 l1 l2 l3 l4 s.1 s.2.1 s.2.2) (0, 0, m)).bind fun z => j_X7_canPart_0_123 rec (z.2) (z.1)) else
  ck (l1 + 1) <| bI (rec m l0 (l1 + 1) l2 l3 l4) (fun v14 m13 => cb v14 <| some (.inl (some (aI v14)), m13)) x0) else
  some (.inl (some (aI 1)), m)
noncomputable def f_X7_canPart : Nat → MM → Nat → Int → Int → Int → Int → MO
  | 0, _, _, _, _, _, _ => none
  | d + 1, m, l0, l1, l2, l3, l4 => fb_X7_canPart (f_X7_canPart d) m l0 l1 l2 l3 l4
noncomputable def f_X4_isLoose (m : MM) (l0 : Nat) (l1 : Int) : Option (Int) :=
  nk 33 (gR m 4 l0 7) fun i1 => ldN m 33 i1 l1 fun v2 => if ¬ v2 = 0 then (some 0) else
  nk 32 (gR m 4 l0 6) fun i3 => ldN m 32 i3 l1 fun v4 => if v4 < 3 then (some 0) else
  if ¬ (gN m 4 l0 14) = 0 then (some 0) else
  some 1
noncomputable def b_X4_spellingsOf_18 (m : MM) (l0 : Nat) (l1 : Nat) (l3 : Int) (l5 : Int) (l4 : Int) (l6 : Int) : Option ((Int × Int) ⊕ (Int)) :=
  if l5 ≤ l6 then (some (.inr l4)) else
  nk 48 (gR m 9 l1 3) fun i4 => nk 27 (gR m 4 l0 1) fun i5 => ldN m 27 i5 l6 fun v6 => ldN m 48 i4 v6 fun v7 => if v7 = (-1) then (ck (l6 + 1) <| some (.inl (l4, (l6 + 1)))) else
  nk 28 (gR m 4 l0 2) fun i8 => ldN m 28 i8 l6 fun v9 => if ¬ v9 = l3 then (ck (l6 + 1) <| some (.inl (l4, (l6 + 1)))) else
  ck (l6 + 1) <| some (.inl ((ior' l4 (ishl 1 v7)), (l6 + 1)))
noncomputable def j_X4_spellingsOf_0_71 (m : MM) (l4 : Int)  : Option (Int) :=
  some l4
noncomputable def f_X4_spellingsOf (m : MM) (l0 : Nat) (l1 : Nat) (l2 : Int) (l3 : Int) : Option (Int) :=
  (f_X4_wordBehindLine m l0 l2).bind fun v1 => nk 31 (gR m 4 l0 5) fun i2 => ldN m 31 i2 l2 fun v3 => (lpb (fun s => b_X4_spellingsOf_18 m l0 l1 l3 v1 s.1 s.2) (0, v3)).bind fun z => j_X4_spellingsOf_0_71 m z
noncomputable def b_X4_looseSpellings_5 (m : MM) (l0 : Nat) (l1 : Nat) (l2 : Int) (l3 : Int) (l4 : Int) : Option ((Int × Int) ⊕ (Int)) :=
  if (gN m 4 l0 11) ≤ l4 then (some (.inr l3)) else
  (f_X4_isLoose m l0 l4).bind fun v1 => if v1 = 0 then (ck (l4 + 1) <| some (.inl (l3, (l4 + 1)))) else
  (f_X4_spellingsOf m l0 l1 l4 l2).bind fun v2 => ck (l4 + 1) <| some (.inl ((ior' l3 v2), (l4 + 1)))
noncomputable def j_X4_looseSpellings_0_40 (m : MM) (l3 : Int)  : Option (Int) :=
  some l3
noncomputable def f_X4_looseSpellings (m : MM) (l0 : Nat) (l1 : Nat) (l2 : Int) : Option (Int) :=
  (lpb (fun s => b_X4_looseSpellings_5 m l0 l1 l2 s.1 s.2) (0, 0)).bind fun z => j_X4_looseSpellings_0_40 m z
noncomputable def b_X7_readPages_14 (l0 : Nat) (l1 : Nat) (l3 : Nat) (l4 : Int) (l2 : Int) (l5 : Int) (mm : MM) : Option ((Int × Int × MM) ⊕ ((Int × MM))) :=
  if l4 ≤ l5 then (some (.inr (l2, mm))) else
  ldR mm 13 l3 l5 fun r2 => nk 4 r2 fun i3 => (f_X4_isSet mm i3).bind fun v4 => if v4 = 0 then (ck (l5 + 1) <| some (.inl (l2, (l5 + 1), mm))) else
  nk 42 (gR mm 7 l0 3) fun i5 => nk 9 (gR mm 0 l1 4) fun i6 => (f_X4_looseSpellings mm i3 i6 0).bind fun v7 => stN mm 42 i5 l2 v7 fun m8 => nk 43 (gR m8 7 l0 4) fun i9 => nk 9 (gR m8 0 l1 4) fun i10 => (f_X4_looseSpellings m8 i3 i10 1).bind fun v11 => stN m8 43 i9 l2 v11 fun m12 => ck (l2 + 1) <| ck (l5 + 1) <| some (.inl ((l2 + 1), (l5 + 1), m12))
noncomputable def b_X7_readPages_93 (l0 : Nat) (l2 : Int) (l3 : Int) (l4 : Int) (mm : MM) : Option ((Int × MM) ⊕ (MM)) :=
  if l2 ≤ l4 then (some (.inr mm)) else
  if l4 = l3 then (ck (l4 + 1) <| some (.inl ((l4 + 1), mm))) else
  nk 42 (gR mm 7 l0 3) fun i15 => ldN mm 42 i15 l3 fun v16 => nk 43 (gR mm 7 l0 4) fun i17 => ldN mm 43 i17 l4 fun v18 => nk 43 (gR mm 7 l0 4) fun i19 => ldN mm 43 i19 l3 fun v20 => nk 42 (gR mm 7 l0 3) fun i21 => ldN mm 42 i21 l4 fun v22 => if (ior' (iand v16 v18) (iand v20 v22)) = 0 then (ck (l4 + 1) <| some (.inl ((l4 + 1), mm))) else
  nk 41 (gR mm 7 l0 2) fun i23 => ldN mm 41 i23 l3 fun v24 => stN mm 41 i23 l3 (ior' v24 (ishl 1 l4)) fun m25 => ck (l4 + 1) <| some (.inl ((l4 + 1), m25))
noncomputable def j_X7_readPages_78_156 (m : MM) (l0 : Nat) (l2 : Int) (l3 : Int)  : Option ((Int × MM) ⊕ (MM)) :=
  ck (l3 + 1) <| some (.inl ((l3 + 1), m))
noncomputable def b_X7_readPages_78 (l0 : Nat) (l2 : Int) (l3 : Int) (mm : MM) : Option ((Int × MM) ⊕ (MM)) :=
  if l2 ≤ l3 then (some (.inr mm)) else
  nk 41 (gR mm 7 l0 2) fun i13 => stN mm 41 i13 l3 0 fun m14 => (lpb (fun s => b_X7_readPages_93 l0 l2 l3 s.1 s.2) (0, m14)).bind fun z => j_X7_readPages_78_156 z l0 l2 l3
noncomputable def j_X7_readPages_0_162 (m : MM) (l2 : Int)  : Option (RV × MM) :=
  some (.inl (some (aI l2)), m)
noncomputable def j_X7_readPages_0_76 (m : MM) (l0 : Nat) (l2 : Int)  : Option (RV × MM) :=
  (lpb (fun s => b_X7_readPages_78 l0 l2 s.1 s.2) (0, m)).bind fun z => j_X7_readPages_0_162 z l2
noncomputable def f_X7_readPages (m : MM) (l0 : Nat) (l1 : Nat) : Option (RV × MM) :=
  nk 13 (gR m 0 l1 5) fun i1 => (lpb (fun s => b_X7_readPages_14 l0 l1 i1 (lenI m 13 i1) s.1 s.2.1 s.2.2) (0, 0, m)).bind fun z => j_X7_readPages_0_76 (z.2) l0 (z.1)
noncomputable def f_J_bitCount (m : MM) (l0 : Int) : Option (Int) :=
  ck (l0 - (iand (iushr l0 1) 1431655765)) <| lt0 (l0 - (iand (iushr l0 1) 1431655765)) fun v1 => ck ((iand v1 858993459) + (iand (iushr v1 2) 858993459)) <| lt0 ((iand v1 858993459) + (iand (iushr v1 2) 858993459)) fun v2 => ck (v2 + (iushr v2 4)) <| lt0 (iand (v2 + (iushr v2 4)) 252645135) fun v3 => ck (v3 + (iushr v3 8)) <| ck ((v3 + (iushr v3 8)) + (iushr (v3 + (iushr v3 8)) 16)) <| lt0 ((v3 + (iushr v3 8)) + (iushr (v3 + (iushr v3 8)) 16)) fun v4 => some (iand v4 63)
noncomputable def b_X7_tightPages_18 (m : MM) (l0 : Nat) (l1 : Int) (l2 : Int) (l4 : Int) (l3 : Int) (l5 : Int) : Option ((Int × Int) ⊕ (Int)) :=
  if l1 ≤ l5 then (some (.inr l3)) else
  nk 41 (gR m 7 l0 2) fun i1 => ldN m 41 i1 l5 fun v2 => (f_J_bitCount m (iand v2 l3)).bind fun v3 => if l2 ≤ v3 then (ck (l5 + 1) <| some (.inl (l3, (l5 + 1)))) else
  lt0 (iand l3 (ixor' (ishl 1 l5) (-1))) fun v4 => ck (l5 + 1) <| some (.inl (v4, (l5 + 1)))
noncomputable def j_X7_tightPages_9_55 (m : MM) (l0 : Nat) (l1 : Int) (l2 : Int) (l3 : Int) (l4 : Int)  : Option ((Int × Int) ⊕ (Int)) :=
  ck (l4 + 1) <| some (.inl (l3, (l4 + 1)))
noncomputable def b_X7_tightPages_9 (m : MM) (l0 : Nat) (l1 : Int) (l2 : Int) (l3 : Int) (l4 : Int) : Option ((Int × Int) ⊕ (Int)) :=
  if l1 ≤ l4 then (some (.inr l3)) else
  (lpb (fun s => b_X7_tightPages_18 m l0 l1 l2 l4 s.1 s.2) (l3, 0)).bind fun z => j_X7_tightPages_9_55 m l0 l1 l2 z l4
noncomputable def j_X7_tightPages_0_61 (m : MM) (l3 : Int)  : Option (Int) :=
  some l3
noncomputable def f_X7_tightPages (m : MM) (l0 : Nat) (l1 : Int) (l2 : Int) : Option (Int) :=
  ck ((ishl 1 l1) - 1) <| (lpb (fun s => b_X7_tightPages_9 m l0 l1 l2 s.1 s.2) (((ishl 1 l1) - 1), 0)).bind fun z => j_X7_tightPages_0_61 m z
noncomputable def b_X7_fewestHands_16 (l0 : Nat) (l2 : Int) (l3 : Int) (mm : MM) : Option ((Int × MM) ⊕ ((Int × MM))) :=
  if l2 ≤ l3 then (some (.inr (l3, mm))) else
  (f_X7_tightPages mm l0 l2 l3).bind fun v3 => bI (f_X7_canPart 18 mm l0 0 0 v3 l3) (fun v5 m4 => if ¬ v5 = 0 then (some (.inr (l3, m4))) else
  ck (l3 + 1) <| some (.inl ((l3 + 1), m4))) x0
noncomputable def j_X7_fewestHands_0_43 (m : MM) (l3 : Int)  : Option (RV × MM) :=
  some (.inl (some (aI l3)), m)
noncomputable def j_X7_fewestHands_0_15 (m : MM) (l0 : Nat) (l2 : Int) (s0 : Int) : Option (RV × MM) :=
  (lpb (fun s => b_X7_fewestHands_16 l0 l2 s.1 s.2) (s0, m)).bind fun z => j_X7_fewestHands_0_43 (z.2) (z.1)
noncomputable def f_X7_fewestHands (m : MM) (l0 : Nat) (l1 : Nat) : Option (RV × MM) :=
  bI (f_X7_readPages m l0 l1) (fun v2 m1 => if ¬ v2 = 0 then (j_X7_fewestHands_0_15 m1 l0 v2 1) else
  j_X7_fewestHands_0_15 m1 l0 v2 0) x0
noncomputable def f_X11_hands (m : MM) (l0 : Nat) (l1 : Int) : Option (RV × MM) :=
  nk 7 (gR m 11 l0 6) fun i1 => bR (f_X11_bookAt m l0 l1) (fun r3 m2 => nk 0 r3 fun i4 => bI (f_X7_fewestHands m2 i1 i4) (fun v6 m5 => some (.inl (some (aI v6)), m5)) x0) xt
noncomputable def f_L_hands (m : MM) (l0 : Nat) (l1 : Int) (l2 : Nat) : Option (RV × MM) :=
  bI (f_X11_hands m l0 l1) (fun v2 m1 => stL m1 131 l2 0 (i2l v2) fun m3 => some (.inl (some (aI 0)), m3)) (xc (fun mx => some (.inl (some (aI 1)), mx)) xn_ xn_)
noncomputable def j_X11_lay_0_63 (m : MM) (l2 : Int) (l3 : Int) (l4 : Nat) (s0 : Int) : Option (RV × MM) :=
  bV (f_X11_requireState m s0) (fun m9 => nk 15 (gR m9 0 l4 7) fun i11 => ldR m9 15 i11 l2 fun r12 => nk 8 r12 fun i13 => lt' (sN m9 8 i13 5 l3) fun m14 => some (.inl none, m14)) xt
noncomputable def j_X11_lay_0_47 (m : MM) (l2 : Int) (l3 : Int) (l4 : Nat) (s0 : Int) : Option (RV × MM) :=
  bV (f_X11_requireArgument m s0) (fun m7 => if ¬ (gN m7 0 l4 11) = 0 then (j_X11_lay_0_63 m7 l2 l3 l4 0) else
  j_X11_lay_0_63 m7 l2 l3 l4 1) xt
noncomputable def j_X11_lay_0_46 (m : MM) (l2 : Int) (l3 : Int) (l4 : Nat)  : Option (RV × MM) :=
  j_X11_lay_0_47 m l2 l3 l4 0
noncomputable def j_X11_lay_0_26 (m : MM) (l2 : Int) (l3 : Int) (l4 : Nat) (s0 : Int) : Option (RV × MM) :=
  bV (f_X11_requireIndex m s0) (fun m5 => if l3 < 0 then (j_X11_lay_0_46 m5 l2 l3 l4) else
  if (gN m5 0 l4 3) ≤ l3 then (j_X11_lay_0_46 m5 l2 l3 l4) else
  j_X11_lay_0_47 m5 l2 l3 l4 1) xt
noncomputable def j_X11_lay_0_25 (m : MM) (l2 : Int) (l3 : Int) (l4 : Nat)  : Option (RV × MM) :=
  j_X11_lay_0_26 m l2 l3 l4 0
noncomputable def f_X11_lay (m : MM) (l0 : Nat) (l1 : Int) (l2 : Int) (l3 : Int) : Option (RV × MM) :=
  bR (f_X11_bookAt m l0 l1) (fun r2 m1 => nk 0 r2 fun i3 => if l2 < 0 then (j_X11_lay_0_25 m1 l2 l3 i3) else
  nk 15 (gR m1 0 i3 7) fun i4 => if (lenI m1 15 i4) ≤ l2 then (j_X11_lay_0_25 m1 l2 l3 i3) else
  j_X11_lay_0_26 m1 l2 l3 i3 1) xt
noncomputable def f_L_lay (m : MM) (l0 : Nat) (l1 : Int) (l2 : Int) (l3 : Int) : Option (RV × MM) :=
  bV (f_X11_lay m l0 l1 l2 l3) (fun m1 => some (.inl (some (aI 0)), m1)) (xc (fun mx => some (.inl (some (aI 1)), mx)) (fun mx => some (.inl (some (aI 2)), mx)) (fun mx => some (.inl (some (aI 3)), mx)))
noncomputable def j_X11_line_0_43 (m : MM) (l3 : Int) (l4 : Int) (l5 : Nat) (l6 : Nat) (s0 : Int) : Option (RV × MM) :=
  bV (f_X11_requireArgument m s0) (fun m9 => if l3 < (gN m9 4 l6 11) then (tsw l4 0 [(f_X4_wordBehindLine m9 l6 l3).bind fun v11 => nk 31 (gR m9 4 l6 5) fun i12 => ldN m9 31 i12 l3 fun v13 => ck (v11 - v13) <| some (.inl (some (aI (v11 - v13))), m9),
  (f_X4_lastWord m9 l6 l3).bind fun v14 => some (.inl (some (aI v14)), m9),
  nk 32 (gR m9 4 l6 6) fun i15 => ldN m9 32 i15 l3 fun v16 => some (.inl (some (aI v16)), m9),
  nk 33 (gR m9 4 l6 7) fun i17 => ldN m9 33 i17 l3 fun v18 => if v18 = 0 then (some (.inl (some (aI 0)), m9)) else
  some (.inl (some (aI 1)), m9)]
  (nk 9 (gR m9 0 l5 4) fun i19 => (f_X4_spellingsOf m9 l6 i19 l3 1).bind fun v20 => some (.inl (some (aI v20)), m9))) else
  some (.inl (some (aI (-1))), m9)) xt
noncomputable def j_X11_line_0_42 (m : MM) (l3 : Int) (l4 : Int) (l5 : Nat) (l6 : Nat)  : Option (RV × MM) :=
  j_X11_line_0_43 m l3 l4 l5 l6 0
noncomputable def j_X11_line_0_24 (m : MM) (l3 : Int) (l4 : Int) (l5 : Nat) (l6 : Nat) (s0 : Int) : Option (RV × MM) :=
  bV (f_X11_requireIndex m s0) (fun m7 => if l4 < 0 then (j_X11_line_0_42 m7 l3 l4 l5 l6) else
  if 4 < l4 then (j_X11_line_0_42 m7 l3 l4 l5 l6) else
  j_X11_line_0_43 m7 l3 l4 l5 l6 1) xt
noncomputable def f_X11_line (m : MM) (l0 : Nat) (l1 : Int) (l2 : Int) (l3 : Int) (l4 : Int) : Option (RV × MM) :=
  bR (f_X11_bookAt m l0 l1) (fun r2 m1 => nk 0 r2 fun i3 => bR (f_X11_pageOf m1 i3 l2) (fun r5 m4 => nk 4 r5 fun i6 => if l3 < 0 then (j_X11_line_0_24 m4 l3 l4 i3 i6 0) else
  j_X11_line_0_24 m4 l3 l4 i3 i6 1) xt) xt
noncomputable def f_L_line (m : MM) (l0 : Nat) (l1 : Int) (l2 : Int) (l3 : Int) (l4 : Int) (l5 : Nat) : Option (RV × MM) :=
  bI (f_X11_line m l0 l1 l2 l3 l4) (fun v2 m1 => stL m1 131 l5 0 (i2l v2) fun m3 => some (.inl (some (aI 0)), m3)) (xc (fun mx => some (.inl (some (aI 1)), mx)) (fun mx => some (.inl (some (aI 2)), mx)) xn_)
noncomputable def b_X0_holdsSkeleton_11 (m : MM) (l1 : Int) (l2 : Nat) (l3 : Int) (l4 : Int) : Option (Int ⊕ ((Int) ⊕ Unit)) :=
  if l3 ≤ l4 then (some (.inr (.inr ()))) else
  ldR m 14 l2 l4 fun r2 => nk 2 r2 fun i3 => if ¬ (gN m 2 i3 5) = l1 then (ck (l4 + 1) <| some (.inl (l4 + 1))) else
  if (gN m 2 i3 4) = 4 then (ck (l4 + 1) <| some (.inl (l4 + 1))) else
  some (.inr (.inl 1))
noncomputable def j_X0_holdsSkeleton_0_49 (m : MM)   : Option (Int) :=
  some 0
noncomputable def f_X0_holdsSkeleton (m : MM) (l0 : Nat) (l1 : Int) : Option (Int) :=
  nk 14 (gR m 0 l0 6) fun i1 => (lpb (fun s => b_X0_holdsSkeleton_11 m l1 i1 (lenI m 14 i1) s) 0).bind (Sum.elim (fun r => some r) fun z => j_X0_holdsSkeleton_0_49 m)
noncomputable def b_X11_isInUse_11 (m : MM) (l1 : Int) (l2 : Nat) (l3 : Int) (l4 : Int) : Option (Int ⊕ ((Int) ⊕ Unit)) :=
  if l3 ≤ l4 then (some (.inr (.inr ()))) else
  ldR m 56 l2 l4 fun r2 => if r2 = none then (ck (l4 + 1) <| some (.inl (l4 + 1))) else
  nk 0 r2 fun i3 => (f_X0_holdsSkeleton m i3 l1).bind fun v4 => if v4 = 0 then (ck (l4 + 1) <| some (.inl (l4 + 1))) else
  some (.inr (.inl 1))
noncomputable def j_X11_isInUse_0_45 (m : MM)   : Option (Int) :=
  some 0
noncomputable def f_X11_isInUse (m : MM) (l0 : Nat) (l1 : Int) : Option (Int) :=
  nk 56 (gR m 11 l0 3) fun i1 => (lpb (fun s => b_X11_isInUse_11 m l1 i1 (lenI m 56 i1) s) 0).bind (Sum.elim (fun r => some r) fun z => j_X11_isInUse_0_45 m)
noncomputable def b_X2_allPagesSet_10 (m : MM) (l1 : Nat) (l2 : Int) (l3 : Int) : Option (Int ⊕ ((Int) ⊕ Unit)) :=
  if l2 ≤ l3 then (some (.inr (.inr ()))) else
  ldR m 19 l1 l3 fun r2 => nk 4 r2 fun i3 => (f_X4_isSet m i3).bind fun v4 => if ¬ v4 = 0 then (ck (l3 + 1) <| some (.inl (l3 + 1))) else
  some (.inr (.inl 0))
noncomputable def j_X2_allPagesSet_0_36 (m : MM)   : Option (Int) :=
  some 1
noncomputable def f_X2_allPagesSet (m : MM) (l0 : Nat) : Option (Int) :=
  nk 19 (gR m 2 l0 0) fun i1 => (lpb (fun s => b_X2_allPagesSet_10 m i1 (lenI m 19 i1) s) 0).bind (Sum.elim (fun r => some r) fun z => j_X2_allPagesSet_0_36 m)
noncomputable def j_X11_lock_0_58 (m : MM) (l3 : Int) (l4 : Nat) (s0 : Int) : Option (RV × MM) :=
  bV (f_X11_requireState m s0) (fun m11 => lt' (sN m11 2 l4 5 l3) fun m13 => lt' (sN m13 2 l4 4 1) fun m14 => some (.inl none, m14)) xt
noncomputable def j_X11_lock_0_57 (m : MM) (l3 : Int) (l4 : Nat)  : Option (RV × MM) :=
  j_X11_lock_0_58 m l3 l4 0
noncomputable def j_X11_lock_0_26 (m : MM) (l0 : Nat) (l3 : Int) (l4 : Nat) (s0 : Int) : Option (RV × MM) :=
  bV (f_X11_requireArgument m s0) (fun m7 => if ¬ (gN m7 2 l4 4) = 0 then (j_X11_lock_0_57 m7 l3 l4) else
  (f_X2_allPagesSet m7 l4).bind fun v9 => if v9 = 0 then (j_X11_lock_0_57 m7 l3 l4) else
  (f_X11_isInUse m7 l0 l3).bind fun v10 => if ¬ v10 = 0 then (j_X11_lock_0_57 m7 l3 l4) else
  j_X11_lock_0_58 m7 l3 l4 1) xt
noncomputable def j_X11_lock_0_25 (m : MM) (l0 : Nat) (l3 : Int) (l4 : Nat)  : Option (RV × MM) :=
  j_X11_lock_0_26 m l0 l3 l4 0
noncomputable def f_X11_lock (m : MM) (l0 : Nat) (l1 : Int) (l2 : Int) (l3 : Int) : Option (RV × MM) :=
  bR (f_X11_bookAt m l0 l1) (fun r2 m1 => nk 0 r2 fun i3 => bR (f_X11_formeOf m1 i3 l2) (fun r5 m4 => nk 2 r5 fun i6 => if l3 < 0 then (j_X11_lock_0_25 m4 l0 l3 i6) else
  if 6 ≤ l3 then (j_X11_lock_0_25 m4 l0 l3 i6) else
  j_X11_lock_0_26 m4 l0 l3 i6 1) xt) xt
noncomputable def f_L_lock (m : MM) (l0 : Nat) (l1 : Int) (l2 : Int) (l3 : Int) : Option (RV × MM) :=
  bV (f_X11_lock m l0 l1 l2 l3) (fun m1 => some (.inl (some (aI 0)), m1)) (xc (fun mx => some (.inl (some (aI 1)), mx)) (fun mx => some (.inl (some (aI 2)), mx)) (fun mx => some (.inl (some (aI 3)), mx)))
noncomputable def j_X0_isMixed_10_53 (m : MM) (l0 : Nat) (l1 : Int) (l2 : Int) (l3 : Int) (l4 : Int) (l5 : Int)  : Option ((Int × Int) ⊕ ((Int) ⊕ Unit)) :=
  if ¬ l5 = (-1) then (ck (l4 + 1) <| some (.inl (l5, (l4 + 1)))) else
  ck (l4 + 1) <| some (.inl (l3, (l4 + 1)))
noncomputable def b_X0_isMixed_10 (m : MM) (l0 : Nat) (l1 : Int) (l2 : Int) (l3 : Int) (l4 : Int) : Option ((Int × Int) ⊕ ((Int) ⊕ Unit)) :=
  ck ((l2 + 1) * (gN m 0 l0 0)) <| if ((l2 + 1) * (gN m 0 l0 0)) ≤ l4 then (some (.inr (.inr ()))) else
  nk 17 (gR m 0 l0 9) fun i1 => ldR m 17 i1 l1 fun r2 => nk 18 r2 fun i3 => ldN m 18 i3 l4 fun v4 => if v4 = (-1) then (j_X0_isMixed_10_53 m l0 l1 l2 l3 l4 v4) else
  if l3 = (-1) then (j_X0_isMixed_10_53 m l0 l1 l2 l3 l4 v4) else
  if v4 = l3 then (j_X0_isMixed_10_53 m l0 l1 l2 l3 l4 v4) else
  some (.inr (.inl 1))
noncomputable def j_X0_isMixed_0_72 (m : MM)   : Option (Int) :=
  some 0
noncomputable def f_X0_isMixed (m : MM) (l0 : Nat) (l1 : Int) (l2 : Int) : Option (Int) :=
  ck (l2 * (gN m 0 l0 0)) <| (lpb (fun s => b_X0_isMixed_10 m l0 l1 l2 s.1 s.2) ((-1), (l2 * (gN m 0 l0 0)))).bind (Sum.elim (fun r => some r) fun z => j_X0_isMixed_0_72 m)
noncomputable def b_X11_madeUp_27 (m : MM) (l2 : Int) (l3 : Nat) (l4 : Int) (l5 : Int) : Option ((Int × Int) ⊕ (Int)) :=
  nk 15 (gR m 0 l3 7) fun i9 => if (lenI m 15 i9) ≤ l5 then (some (.inr l4)) else
  (f_X0_isMixed m l3 l2 l5).bind fun v10 => if v10 = 0 then (ck (l5 + 1) <| some (.inl (l4, (l5 + 1)))) else
  ck (l4 + 1) <| ck (l5 + 1) <| some (.inl ((l4 + 1), (l5 + 1)))
noncomputable def j_X11_madeUp_0_56 (m : MM) (l4 : Int)  : Option (RV × MM) :=
  some (.inl (some (aI l4)), m)
noncomputable def f_X11_madeUp (m : MM) (l0 : Nat) (l1 : Int) (l2 : Int) : Option (RV × MM) :=
  bR (f_X11_bookAt m l0 l1) (fun r2 m1 => nk 0 r2 fun i3 => (f_X0_hasCopy m1 i3 l2).bind fun v4 => bV (f_X11_requireIndex m1 v4) (fun m5 => bV (f_X11_requireState m5 (gN m5 0 i3 11)) (fun m7 => (lpb (fun s => b_X11_madeUp_27 m7 l2 i3 s.1 s.2) (0, 0)).bind fun z => j_X11_madeUp_0_56 m7 z) xt) xt) xt
noncomputable def f_L_madeUp (m : MM) (l0 : Nat) (l1 : Int) (l2 : Int) (l3 : Nat) : Option (RV × MM) :=
  bI (f_X11_madeUp m l0 l1 l2) (fun v2 m1 => stL m1 131 l3 0 (i2l v2) fun m3 => some (.inl (some (aI 0)), m3)) (xc (fun mx => some (.inl (some (aI 1)), mx)) xn_ (fun mx => some (.inl (some (aI 2)), mx)))
noncomputable def f_X8_moldOf (m : MM) (l0 : Nat) (l1 : Int) : Option (Int) :=
  ck ((gN m 8 l0 4) + l1) <| dv ((gN m 8 l0 4) + l1) 2 <| ck ((2 * (gN m 8 l0 3)) + (((gN m 8 l0 4) + l1) % 2)) <| some ((2 * (gN m 8 l0 3)) + (((gN m 8 l0 4) + l1) % 2))
noncomputable def j_X11_mark_0_30 (m : MM) (l2 : Int) (l3 : Int) (l4 : Nat) (s0 : Int) : Option (RV × MM) :=
  bV (f_X11_requireIndex m s0) (fun m6 => bV (f_X11_requireState m6 (gN m6 0 l4 11)) (fun m8 => nk 17 (gR m8 0 l4 9) fun i10 => ldR m8 17 i10 l2 fun r11 => nk 18 r11 fun i12 => ldN m8 18 i12 l3 fun v13 => if ¬ v13 = (-1) then (nk 15 (gR m8 0 l4 7) fun i14 => dv l3 (gN m8 0 l4 0) <| ldR m8 15 i14 (l3 / (gN m8 0 l4 0)) fun r15 => nk 8 r15 fun i16 => (f_X8_moldOf m8 i16 v13).bind fun v17 => some (.inl (some (aI v17)), m8)) else
  some (.inl (some (aI (-1))), m8)) xt) xt
noncomputable def j_X11_mark_0_29 (m : MM) (l2 : Int) (l3 : Int) (l4 : Nat)  : Option (RV × MM) :=
  j_X11_mark_0_30 m l2 l3 l4 0
noncomputable def f_X11_mark (m : MM) (l0 : Nat) (l1 : Int) (l2 : Int) (l3 : Int) : Option (RV × MM) :=
  bR (f_X11_bookAt m l0 l1) (fun r2 m1 => nk 0 r2 fun i3 => (f_X0_hasCopy m1 i3 l2).bind fun v4 => if v4 = 0 then (j_X11_mark_0_29 m1 l2 l3 i3) else
  (f_X0_hasLeaf m1 i3 l3).bind fun v5 => if v5 = 0 then (j_X11_mark_0_29 m1 l2 l3 i3) else
  j_X11_mark_0_30 m1 l2 l3 i3 1) xt
noncomputable def f_L_mark (m : MM) (l0 : Nat) (l1 : Int) (l2 : Int) (l3 : Int) (l4 : Nat) : Option (RV × MM) :=
  bI (f_X11_mark m l0 l1 l2 l3) (fun v2 m1 => stL m1 131 l4 0 (i2l v2) fun m3 => some (.inl (some (aI 0)), m3)) (xc (fun mx => some (.inl (some (aI 1)), mx)) xn_ (fun mx => some (.inl (some (aI 2)), mx)))
noncomputable def j_X11_men_0_20 (m : MM) (l2 : Int) (l3 : Nat) (s0 : Int) : Option (RV × MM) :=
  bV (f_X11_requireArgument m s0) (fun m4 => lt' (sN m4 6 l3 1 l2) fun m6 => some (.inl (some (aI (gN m4 6 l3 1))), m6)) xt
noncomputable def j_X11_men_0_19 (m : MM) (l2 : Int) (l3 : Nat)  : Option (RV × MM) :=
  j_X11_men_0_20 m l2 l3 0
noncomputable def f_X11_men (m : MM) (l0 : Nat) (l1 : Int) (l2 : Int) : Option (RV × MM) :=
  bR (f_X11_pressAt m l0 l1) (fun r2 m1 => nk 6 r2 fun i3 => if l2 < 0 then (j_X11_men_0_19 m1 l2 i3) else
  if 2 < l2 then (j_X11_men_0_19 m1 l2 i3) else
  j_X11_men_0_20 m1 l2 i3 1) xt
noncomputable def f_L_men (m : MM) (l0 : Nat) (l1 : Int) (l2 : Int) (l3 : Nat) : Option (RV × MM) :=
  bI (f_X11_men m l0 l1 l2) (fun v2 m1 => stL m1 131 l3 0 (i2l v2) fun m3 => some (.inl (some (aI 0)), m3)) (xc (fun mx => some (.inl (some (aI 1)), mx)) (fun mx => some (.inl (some (aI 2)), mx)) xn_)
noncomputable def b_X7_countByLast_30 (l0 : Nat) (l1 : Int) (l2 : Int) (l3 : Int) (l4 : Int) (mm : MM) : Option ((Int × MM) ⊕ (MM)) :=
  if l1 ≤ l4 then (some (.inr mm)) else
  lt0 (iand l3 (ixor' (ishl 1 l4) (-1))) fun v5 => if v5 = l3 then (ck (l4 + 1) <| some (.inl ((l4 + 1), mm))) else
  nk 39 (gR mm 7 l0 0) fun i6 => ldN mm 39 i6 l4 fun v7 => if ¬ (iand v7 (ixor' v5 (-1))) = 0 then (ck (l4 + 1) <| some (.inl ((l4 + 1), mm))) else
  nk 40 (gR mm 7 l0 1) fun i8 => ldN mm 40 i8 l3 fun v9 => nk 40 (gR mm 7 l0 1) fun i10 => ldN mm 40 i10 v5 fun v11 => ck (v9 + v11) <| stN mm 40 i8 l3 (v9 + v11) fun m12 => ck (l4 + 1) <| some (.inl ((l4 + 1), m12))
noncomputable def j_X7_countByLast_15_89 (m : MM) (l0 : Nat) (l1 : Int) (l2 : Int) (l3 : Int)  : Option ((Int × MM) ⊕ (MM)) :=
  ck (l3 + 1) <| some (.inl ((l3 + 1), m))
noncomputable def b_X7_countByLast_15 (l0 : Nat) (l1 : Int) (l2 : Int) (l3 : Int) (mm : MM) : Option ((Int × MM) ⊕ (MM)) :=
  if l2 < l3 then (some (.inr mm)) else
  nk 40 (gR mm 7 l0 1) fun i3 => stN mm 40 i3 l3 0 fun m4 => (lpb (fun s => b_X7_countByLast_30 l0 l1 l2 l3 s.1 s.2) (0, m4)).bind fun z => j_X7_countByLast_15_89 z l0 l1 l2 l3
noncomputable def j_X7_countByLast_0_95 (m : MM) (l0 : Nat) (l2 : Int)  : Option (RV × MM) :=
  nk 40 (gR m 7 l0 1) fun i13 => ldN m 40 i13 l2 fun v14 => some (.inl (some (aI v14)), m)
noncomputable def f_X7_countByLast (m : MM) (l0 : Nat) (l1 : Int) : Option (RV × MM) :=
  ck ((ishl 1 l1) - 1) <| nk 40 (gR m 7 l0 1) fun i1 => stN m 40 i1 0 1 fun m2 => (lpb (fun s => b_X7_countByLast_15 l0 l1 ((ishl 1 l1) - 1) s.1 s.2) (1, m2)).bind fun z => j_X7_countByLast_0_95 z l0 ((ishl 1 l1) - 1)
noncomputable def f_X11_orders (m : MM) (l0 : Nat) (l1 : Int) : Option (RV × MM) :=
  bR (f_X11_bookAt m l0 l1) (fun r2 m1 => nk 0 r2 fun i3 => nk 7 (gR m1 11 l0 6) fun i4 => nk 1 (gR m1 11 l0 1) fun i5 => bV (f_X7_readFormes m1 i4 i3 i5) (fun m6 => nk 7 (gR m6 11 l0 6) fun i8 => nk 14 (gR m6 0 i3 6) fun i9 => bI (f_X7_countByLast m6 i8 (lenI m6 14 i9)) (fun v11 m10 => some (.inl (some (aI v11)), m10)) x0) x0) xt
noncomputable def f_L_orders (m : MM) (l0 : Nat) (l1 : Int) (l2 : Nat) : Option (RV × MM) :=
  bI (f_X11_orders m l0 l1) (fun v2 m1 => stL m1 131 l2 0 (i2l v2) fun m3 => some (.inl (some (aI 0)), m3)) (xc (fun mx => some (.inl (some (aI 1)), mx)) xn_ xn_)
noncomputable def j_X7_countByPlace_8_27 (m : MM) (l0 : Nat) (l1 : Int) (l2 : Int) (l3 : Int) (s0 : Nat) (s1 : Int) (s2 : Int) : Option ((Int × MM) ⊕ (MM)) :=
  stN m 40 s0 s1 s2 fun m2 => ck (l3 + 1) <| some (.inl ((l3 + 1), m2))
noncomputable def b_X7_countByPlace_8 (l0 : Nat) (l1 : Int) (l2 : Int) (l3 : Int) (mm : MM) : Option ((Int × MM) ⊕ (MM)) :=
  if l2 < l3 then (some (.inr mm)) else
  nk 40 (gR mm 7 l0 1) fun i1 => if ¬ l3 = 0 then (j_X7_countByPlace_8_27 mm l0 l1 l2 l3 i1 l3 0) else
  j_X7_countByPlace_8_27 mm l0 l1 l2 l3 i1 l3 1
noncomputable def j_X7_countByPlace_44_78 (m : MM) (l0 : Nat) (l1 : Int) (l2 : Int) (l3 : Int) (l4 : Int) (s0 : Int) : Option ((Int × MM) ⊕ (MM)) :=
  if s0 = 0 then (ck (l4 + 1) <| some (.inl ((l4 + 1), m))) else
  nk 40 (gR m 7 l0 1) fun i5 => ldN m 40 i5 (ior' l3 (ishl 1 l4)) fun v6 => nk 40 (gR m 7 l0 1) fun i7 => ldN m 40 i7 l3 fun v8 => ck (v6 + v8) <| stN m 40 i5 (ior' l3 (ishl 1 l4)) (v6 + v8) fun m9 => ck (l4 + 1) <| some (.inl ((l4 + 1), m9))
noncomputable def j_X7_countByPlace_44_77 (m : MM) (l0 : Nat) (l1 : Int) (l2 : Int) (l3 : Int) (l4 : Int)  : Option ((Int × MM) ⊕ (MM)) :=
  j_X7_countByPlace_44_78 m l0 l1 l2 l3 l4 0
noncomputable def b_X7_countByPlace_44 (l0 : Nat) (l1 : Int) (l2 : Int) (l3 : Int) (l4 : Int) (mm : MM) : Option ((Int × MM) ⊕ (MM)) :=
  if l1 ≤ l4 then (some (.inr mm)) else
  if ¬ (iand l3 (ishl 1 l4)) = 0 then (j_X7_countByPlace_44_77 mm l0 l1 l2 l3 l4) else
  nk 39 (gR mm 7 l0 0) fun i3 => ldN mm 39 i3 l4 fun v4 => if ¬ (iand v4 (ixor' l3 (-1))) = 0 then (j_X7_countByPlace_44_77 mm l0 l1 l2 l3 l4) else
  j_X7_countByPlace_44_78 mm l0 l1 l2 l3 l4 1
noncomputable def j_X7_countByPlace_36_111 (m : MM) (l0 : Nat) (l1 : Int) (l2 : Int) (l3 : Int)  : Option ((Int × MM) ⊕ (MM)) :=
  ck (l3 + 1) <| some (.inl ((l3 + 1), m))
noncomputable def b_X7_countByPlace_36 (l0 : Nat) (l1 : Int) (l2 : Int) (l3 : Int) (mm : MM) : Option ((Int × MM) ⊕ (MM)) :=
  if l2 ≤ l3 then (some (.inr mm)) else
  (lpb (fun s => b_X7_countByPlace_44 l0 l1 l2 l3 s.1 s.2) (0, mm)).bind fun z => j_X7_countByPlace_36_111 z l0 l1 l2 l3
noncomputable def j_X7_countByPlace_0_117 (m : MM) (l0 : Nat) (l2 : Int)  : Option (RV × MM) :=
  nk 40 (gR m 7 l0 1) fun i10 => ldN m 40 i10 l2 fun v11 => some (.inl (some (aI v11)), m)
noncomputable def j_X7_countByPlace_0_34 (m : MM) (l0 : Nat) (l1 : Int) (l2 : Int)  : Option (RV × MM) :=
  (lpb (fun s => b_X7_countByPlace_36 l0 l1 l2 s.1 s.2) (0, m)).bind fun z => j_X7_countByPlace_0_117 z l0 l2
noncomputable def f_X7_countByPlace (m : MM) (l0 : Nat) (l1 : Int) : Option (RV × MM) :=
  ck ((ishl 1 l1) - 1) <| (lpb (fun s => b_X7_countByPlace_8 l0 l1 ((ishl 1 l1) - 1) s.1 s.2) (0, m)).bind fun z => j_X7_countByPlace_0_34 z l0 l1 ((ishl 1 l1) - 1)
noncomputable def f_X11_ordersAnew (m : MM) (l0 : Nat) (l1 : Int) : Option (RV × MM) :=
  bR (f_X11_bookAt m l0 l1) (fun r2 m1 => nk 0 r2 fun i3 => nk 7 (gR m1 11 l0 6) fun i4 => nk 1 (gR m1 11 l0 1) fun i5 => bV (f_X7_readFormes m1 i4 i3 i5) (fun m6 => nk 7 (gR m6 11 l0 6) fun i8 => nk 14 (gR m6 0 i3 6) fun i9 => bI (f_X7_countByPlace m6 i8 (lenI m6 14 i9)) (fun v11 m10 => some (.inl (some (aI v11)), m10)) x0) x0) xt
noncomputable def f_L_ordersAnew (m : MM) (l0 : Nat) (l1 : Int) (l2 : Nat) : Option (RV × MM) :=
  bI (f_X11_ordersAnew m l0 l1) (fun v2 m1 => stL m1 131 l2 0 (i2l v2) fun m3 => some (.inl (some (aI 0)), m3)) (xc (fun mx => some (.inl (some (aI 1)), mx)) xn_ xn_)
noncomputable def f_X0_runningTitle (m : MM) (l0 : Nat) (l1 : Int) : Option (Int) :=
  nk 14 (gR m 0 l0 6) fun i1 => (f_X0_formeNumber m l0 l1).bind fun v2 => ldR m 14 i1 v2 fun r3 => nk 2 r3 fun i4 => if ¬ (gN m 2 i4 5) = (-1) then ((f_X0_placeInForme m l1 (gN m 0 l0 0)).bind fun v5 => ck ((8 * (gN m 2 i4 5)) + v5) <| some ((8 * (gN m 2 i4 5)) + v5)) else
  some (-1)
noncomputable def f_X4_told (m : MM) (l0 : Nat) (l1 : Int) : Option (Int) :=
  (f_X4_isSet m l0).bind fun v1 => if ¬ v1 = 0 then (tsw l1 1 [some (gN m 4 l0 9),
  some (gN m 4 l0 10),
  some (gN m 4 l0 12),
  if (gN m 4 l0 14) = 0 then (some 0) else
  some 1,
  some (gN m 4 l0 13),
  nk 5 (gR m 4 l0 8) fun i2 => some (gN m 5 i2 4)]
  (some (gN m 4 l0 11))) else
  some (-1)
noncomputable def j_X11_page_0_30 (m : MM) (l2 : Int) (l3 : Int) (l4 : Nat) (l5 : Nat) (s0 : Int) : Option (RV × MM) :=
  bV (f_X11_requireArgument m s0) (fun m7 => if ¬ l3 = 0 then (if ¬ l3 = 8 then ((f_X4_told m7 l5 l3).bind fun v9 => some (.inl (some (aI v9)), m7)) else
  (f_X0_runningTitle m7 l4 l2).bind fun v10 => some (.inl (some (aI v10)), m7)) else
  (f_X0_formeNumber m7 l4 l2).bind fun v11 => some (.inl (some (aI v11)), m7)) xt
noncomputable def j_X11_page_0_29 (m : MM) (l2 : Int) (l3 : Int) (l4 : Nat) (l5 : Nat)  : Option (RV × MM) :=
  j_X11_page_0_30 m l2 l3 l4 l5 0
noncomputable def f_X11_page (m : MM) (l0 : Nat) (l1 : Int) (l2 : Int) (l3 : Int) : Option (RV × MM) :=
  bR (f_X11_bookAt m l0 l1) (fun r2 m1 => nk 0 r2 fun i3 => bR (f_X11_pageOf m1 i3 l2) (fun r5 m4 => nk 4 r5 fun i6 => if l3 < 0 then (j_X11_page_0_29 m4 l2 l3 i3 i6) else
  if 8 < l3 then (j_X11_page_0_29 m4 l2 l3 i3 i6) else
  j_X11_page_0_30 m4 l2 l3 i3 i6 1) xt) xt
noncomputable def f_L_page (m : MM) (l0 : Nat) (l1 : Int) (l2 : Int) (l3 : Int) (l4 : Nat) : Option (RV × MM) :=
  bI (f_X11_page m l0 l1 l2 l3) (fun v2 m1 => stL m1 131 l4 0 (i2l v2) fun m3 => some (.inl (some (aI 0)), m3)) (xc (fun mx => some (.inl (some (aI 1)), mx)) (fun mx => some (.inl (some (aI 2)), mx)) xn_)
noncomputable def j_X11_paper_0_14 (m : MM) (l0 : Nat) (l1 : Int) (s0 : Int) : Option (RV × MM) :=
  bV (f_X11_requireIndex m s0) (fun m1 => lt' (sN m1 11 l0 9 l1) fun m3 => nk 58 (gR m3 11 l0 5) fun i4 => ldN m3 58 i4 l1 fun v5 => some (.inl (some (aI v5)), m3)) xt
noncomputable def j_X11_paper_0_13 (m : MM) (l0 : Nat) (l1 : Int)  : Option (RV × MM) :=
  j_X11_paper_0_14 m l0 l1 0
noncomputable def f_X11_paper (m : MM) (l0 : Nat) (l1 : Int) : Option (RV × MM) :=
  if l1 < 0 then (j_X11_paper_0_13 m l0 l1) else
  if 4 ≤ l1 then (j_X11_paper_0_13 m l0 l1) else
  j_X11_paper_0_14 m l0 l1 1
noncomputable def f_L_paper (m : MM) (l0 : Nat) (l1 : Int) (l2 : Nat) : Option (RV × MM) :=
  bI (f_X11_paper m l0 l1) (fun v2 m1 => stL m1 131 l2 0 (i2l v2) fun m3 => some (.inl (some (aI 0)), m3)) (xc (fun mx => some (.inl (some (aI 1)), mx)) xn_ xn_)
noncomputable def f_X11_isHoliday (m : MM) (l0 : Int) : Option (Int) :=
  dv l0 70 <| if (l0 % 70) < 60 then (some 0) else
  some 1
noncomputable def b_X2_finish_45 (l0 : Nat) (l2 : Nat) (l3 : Nat) (l4 : Int) (l5 : Int) (l7 : Nat) (l8 : Int) (mm : MM) : Option ((Int × MM) ⊕ (MM)) :=
  if (gN mm 5 l7 4) ≤ l8 then (some (.inr mm)) else
  nk 35 (gR mm 5 l7 1) fun i7 => ldN mm 35 i7 l8 fun v8 => if v8 = (-1) then (ck (l8 + 1) <| some (.inl ((l8 + 1), mm))) else
  nk 25 (gR mm 2 l0 3) fun i9 => nk 21 (gR mm 1 l2 1) fun i10 => ldN mm 21 i10 v8 fun v11 => stN mm 25 i9 v8 v11 fun m12 => ck (l8 + 1) <| some (.inl ((l8 + 1), m12))
noncomputable def j_X2_finish_22_91 (m : MM) (l0 : Nat) (l2 : Nat) (l3 : Nat) (l4 : Int) (l5 : Int)  : Option ((Int × MM) ⊕ (MM)) :=
  ck (l5 + 1) <| some (.inl ((l5 + 1), m))
noncomputable def b_X2_finish_22 (l0 : Nat) (l2 : Nat) (l3 : Nat) (l4 : Int) (l5 : Int) (mm : MM) : Option ((Int × MM) ⊕ (MM)) :=
  if l4 ≤ l5 then (some (.inr mm)) else
  ldR mm 19 l3 l5 fun r4 => nk 4 r4 fun i5 => nk 5 (gR mm 4 i5 8) fun i6 => (lpb (fun s => b_X2_finish_45 l0 l2 l3 l4 l5 i6 s.1 s.2) (0, mm)).bind fun z => j_X2_finish_22_91 z l0 l2 l3 l4 l5
noncomputable def j_X2_finish_0_97 (m : MM)   : Option (RV × MM) :=
  some (.inl none, m)
noncomputable def f_X2_finish (m : MM) (l0 : Nat) (l1 : Int) (l2 : Nat) : Option (RV × MM) :=
  lt' (sN m 2 l0 4 3) fun m1 => lt' (sN m1 2 l0 9 l1) fun m2 => nk 19 (gR m2 2 l0 0) fun i3 => (lpb (fun s => b_X2_finish_22 l0 l2 i3 (lenI m2 19 i3) s.1 s.2) (0, m2)).bind fun z => j_X2_finish_0_97 z
noncomputable def f_X6_work (m : MM) (l0 : Nat) (l1 : Int) (l2 : Nat) : Option (RV × MM) :=
  if (gR m 6 l0 0) = none then (some (.inl (some (aI 0)), m)) else
  if ¬ (gN m 6 l0 1) = 0 then (ck ((gN m 6 l0 3) + 1) <| lt' (sN m 6 l0 3 ((gN m 6 l0 3) + 1)) fun m1 => nk 2 (gR m1 6 l0 0) fun i2 => if ¬ (gN m1 2 i2 10) = 0 then (nk 2 (gR m1 6 l0 0) fun i3 => nk 2 (gR m1 6 l0 0) fun i4 => ck ((gN m1 2 i3 1) - (gN m1 2 i4 6)) <| lt0 (if ((gN m1 2 i3 1) - (gN m1 2 i4 6)) < (gN m1 6 l0 1) then ((gN m1 2 i3 1) - (gN m1 2 i4 6)) else (gN m1 6 l0 1)) fun v5 => nk 2 (gR m1 6 l0 0) fun i6 => ck ((gN m1 2 i6 6) + v5) <| lt' (sN m1 2 i6 6 ((gN m1 2 i6 6) + v5)) fun m7 => ck ((gN m7 6 l0 2) + v5) <| lt' (sN m7 6 l0 2 ((gN m7 6 l0 2) + v5)) fun m8 => nk 2 (gR m8 6 l0 0) fun i9 => nk 2 (gR m8 6 l0 0) fun i10 => if (gN m8 2 i10 1) ≤ (gN m8 2 i9 6) then (nk 2 (gR m8 6 l0 0) fun i11 => bV (f_X2_finish m8 i11 l1 l2) (fun m12 => lt' (sR m12 6 l0 0 none) fun m14 => some (.inl (some (aI 1)), m14)) x0) else
  some (.inl (some (aI 0)), m8)) else
  nk 2 (gR m1 6 l0 0) fun i15 => lt' (sN m1 2 i15 10 1) fun m16 => some (.inl (some (aI 0)), m16)) else
  some (.inl (some (aI 0)), m)
noncomputable def b_X11_workAnHour_25 (l0 : Nat) (l2 : Nat) (l3 : Int) (l1 : Int) (l4 : Int) (mm : MM) : Option ((Int × Int × MM) ⊕ ((Int × MM))) :=
  if l3 ≤ l4 then (some (.inr (l1, mm))) else
  ldR mm 57 l2 l4 fun r3 => nk 6 r3 fun i4 => nk 1 (gR mm 11 l0 1) fun i5 => bI (f_X6_work mm i4 (gN mm 11 l0 10) i5) (fun v7 m6 => if v7 = 0 then (ck (l4 + 1) <| some (.inl (l1, (l4 + 1), m6))) else
  ck (l1 + 1) <| ck (l4 + 1) <| some (.inl ((l1 + 1), (l4 + 1), m6))) x0
noncomputable def j_X11_workAnHour_0_62 (m : MM) (l1 : Int)  : Option (RV × MM) :=
  some (.inl (some (aI l1)), m)
noncomputable def f_X11_workAnHour (m : MM) (l0 : Nat) : Option (RV × MM) :=
  (f_X11_isHoliday m (gN m 11 l0 10)).bind fun v1 => if v1 = 0 then (nk 57 (gR m 11 l0 4) fun i2 => (lpb (fun s => b_X11_workAnHour_25 l0 i2 (lenI m 57 i2) s.1 s.2.1 s.2.2) (0, 0, m)).bind fun z => j_X11_workAnHour_0_62 (z.2) (z.1)) else
  some (.inl (some (aI 0)), m)
noncomputable def b_X11_pass_43 (l0 : Nat) (l1 : Int) (l2 : Int) (l3 : Int) (mm : MM) : Option ((Int × Int × MM) ⊕ ((Int × MM))) :=
  if l1 ≤ l3 then (some (.inr (l2, mm))) else
  bI (f_X11_workAnHour mm l0) (fun v6 m5 => ck (l2 + v6) <| ck ((gN m5 11 l0 10) + 1) <| lt' (sN m5 11 l0 10 ((gN m5 11 l0 10) + 1)) fun m7 => ck (l3 + 1) <| some (.inl ((l2 + v6), (l3 + 1), m7))) x0
noncomputable def j_X11_pass_0_71 (m : MM) (l2 : Int)  : Option (RV × MM) :=
  some (.inl (some (aI l2)), m)
noncomputable def j_X11_pass_0_36 (m : MM) (l0 : Nat) (l1 : Int) (s0 : Int) : Option (RV × MM) :=
  bV (f_X11_requireState m s0) (fun m3 => (lpb (fun s => b_X11_pass_43 l0 l1 s.1 s.2.1 s.2.2) (0, 0, m3)).bind fun z => j_X11_pass_0_71 (z.2) (z.1)) xt
noncomputable def j_X11_pass_0_16 (m : MM) (l0 : Nat) (l1 : Int) (s0 : Int) : Option (RV × MM) :=
  bV (f_X11_requireArgument m s0) (fun m1 => ck ((gN m1 11 l0 10) + l1) <| if 5000 < ((gN m1 11 l0 10) + l1) then (j_X11_pass_0_36 m1 l0 l1 0) else
  j_X11_pass_0_36 m1 l0 l1 1) xt
noncomputable def j_X11_pass_0_15 (m : MM) (l0 : Nat) (l1 : Int)  : Option (RV × MM) :=
  j_X11_pass_0_16 m l0 l1 0
noncomputable def f_X11_pass (m : MM) (l0 : Nat) (l1 : Int) : Option (RV × MM) :=
  if l1 < 1 then (j_X11_pass_0_15 m l0 l1) else
  if 70 < l1 then (j_X11_pass_0_15 m l0 l1) else
  j_X11_pass_0_16 m l0 l1 1
noncomputable def f_L_pass (m : MM) (l0 : Nat) (l1 : Int) (l2 : Nat) : Option (RV × MM) :=
  bI (f_X11_pass m l0 l1) (fun v2 m1 => stL m1 131 l2 0 (i2l v2) fun m3 => some (.inl (some (aI 0)), m3)) (xc xn_ (fun mx => some (.inl (some (aI 1)), mx)) (fun mx => some (.inl (some (aI 2)), mx)))
noncomputable def f_X1_has (m : MM) (l0 : Nat) (l1 : Int) : Option (Int) :=
  if l1 < 0 then (some 0) else
  if (gN m 1 l0 5) ≤ l1 then (some 0) else
  some 1
noncomputable def j_X11_piece_0_25 (m : MM) (l0 : Nat) (l1 : Int) (l2 : Int) (s0 : Int) : Option (RV × MM) :=
  bV (f_X11_requireArgument m s0) (fun m5 => if 0 = l2 then (nk 1 (gR m5 11 l0 1) fun i7 => nk 20 (gR m5 1 i7 0) fun i8 => ldN m5 20 i8 l1 fun v9 => some (.inl (some (aI v9)), m5)) else
  if 1 = l2 then (nk 1 (gR m5 11 l0 1) fun i10 => nk 21 (gR m5 1 i10 1) fun i11 => ldN m5 21 i11 l1 fun v12 => some (.inl (some (aI v12)), m5)) else
  nk 1 (gR m5 11 l0 1) fun i13 => nk 22 (gR m5 1 i13 2) fun i14 => ldN m5 22 i14 l1 fun v15 => some (.inl (some (aI v15)), m5)) xt
noncomputable def j_X11_piece_0_24 (m : MM) (l0 : Nat) (l1 : Int) (l2 : Int)  : Option (RV × MM) :=
  j_X11_piece_0_25 m l0 l1 l2 0
noncomputable def f_X11_piece (m : MM) (l0 : Nat) (l1 : Int) (l2 : Int) : Option (RV × MM) :=
  nk 1 (gR m 11 l0 1) fun i1 => (f_X1_has m i1 l1).bind fun v2 => bV (f_X11_requireIndex m v2) (fun m3 => if l2 < 0 then (j_X11_piece_0_24 m3 l0 l1 l2) else
  if 2 < l2 then (j_X11_piece_0_24 m3 l0 l1 l2) else
  j_X11_piece_0_25 m3 l0 l1 l2 1) xt
noncomputable def f_L_piece (m : MM) (l0 : Nat) (l1 : Int) (l2 : Int) (l3 : Nat) : Option (RV × MM) :=
  bI (f_X11_piece m l0 l1 l2) (fun v2 m1 => stL m1 131 l3 0 (i2l v2) fun m3 => some (.inl (some (aI 0)), m3)) (xc (fun mx => some (.inl (some (aI 1)), mx)) (fun mx => some (.inl (some (aI 2)), mx)) xn_)
noncomputable def j_X11_place_0_42 (m : MM) (l3 : Int) (l4 : Int) (l5 : Nat) (s0 : Int) : Option (RV × MM) :=
  bV (f_X11_requireArgument m s0) (fun m10 => if l3 < (gN m10 5 l5 4) then (if 0 = l4 then (nk 35 (gR m10 5 l5 1) fun i12 => ldN m10 35 i12 l3 fun v13 => some (.inl (some (aI v13)), m10)) else
  if 1 = l4 then (nk 34 (gR m10 5 l5 0) fun i14 => ldN m10 34 i14 l3 fun v15 => some (.inl (some (aI v15)), m10)) else
  nk 36 (gR m10 5 l5 2) fun i16 => ldN m10 36 i16 l3 fun v17 => if v17 = 0 then (some (.inl (some (aI 0)), m10)) else
  some (.inl (some (aI 1)), m10)) else
  some (.inl (some (aI (-1))), m10)) xt
noncomputable def j_X11_place_0_41 (m : MM) (l3 : Int) (l4 : Int) (l5 : Nat)  : Option (RV × MM) :=
  j_X11_place_0_42 m l3 l4 l5 0
noncomputable def j_X11_place_0_23 (m : MM) (l3 : Int) (l4 : Int) (l5 : Nat) (s0 : Int) : Option (RV × MM) :=
  bV (f_X11_requireIndex m s0) (fun m8 => if l4 < 0 then (j_X11_place_0_41 m8 l3 l4 l5) else
  if 2 < l4 then (j_X11_place_0_41 m8 l3 l4 l5) else
  j_X11_place_0_42 m8 l3 l4 l5 1) xt
noncomputable def f_X11_place (m : MM) (l0 : Nat) (l1 : Int) (l2 : Int) (l3 : Int) (l4 : Int) : Option (RV × MM) :=
  bR (f_X11_bookAt m l0 l1) (fun r2 m1 => nk 0 r2 fun i3 => bR (f_X11_pageOf m1 i3 l2) (fun r5 m4 => nk 4 r5 fun i6 => nk 5 (gR m4 4 i6 8) fun i7 => if l3 < 0 then (j_X11_place_0_23 m4 l3 l4 i7 0) else
  j_X11_place_0_23 m4 l3 l4 i7 1) xt) xt
noncomputable def f_L_place (m : MM) (l0 : Nat) (l1 : Int) (l2 : Int) (l3 : Int) (l4 : Int) (l5 : Nat) : Option (RV × MM) :=
  bI (f_X11_place m l0 l1 l2 l3 l4) (fun v2 m1 => stL m1 131 l5 0 (i2l v2) fun m3 => some (.inl (some (aI 0)), m3)) (xc (fun mx => some (.inl (some (aI 1)), mx)) (fun mx => some (.inl (some (aI 2)), mx)) xn_)
noncomputable def f_X11_workingHoursAhead (m : MM) (l0 : Int) : Option (Int) :=
  dv l0 70 <| dv l0 70 <| ck (((l0 / 70) * 60) + (if 60 < (l0 % 70) then 60 else (l0 % 70))) <| some (((l0 / 70) * 60) + (if 60 < (l0 % 70) then 60 else (l0 % 70)))
noncomputable def b_X7_fewestPresses_22 (m : MM) (l0 : Nat) (l4 : Nat) (l5 : Int) (l1 : Int) (l2 : Int) (l3 : Int) (l6 : Int) : Option ((Int × Int × Int × Int) ⊕ ((Int × Int × Int))) :=
  if l5 ≤ l6 then (some (.inr (l1, l2, l3))) else
  ldR m 14 l4 l6 fun r2 => nk 2 r2 fun i3 => (f_X2_wasDone m i3).bind fun v4 => if v4 = 0 then (ck (l6 + 1) <| some (.inl (l1, l2, l3, (l6 + 1)))) else
  lt0 (if (gN m 2 i3 8) < l1 then (gN m 2 i3 8) else l1) fun v5 => lt0 (if l2 < (gN m 2 i3 9) then (gN m 2 i3 9) else l2) fun v6 => ck ((gN m 0 l0 3) + 1) <| dv ((gN m 0 l0 3) + 1) 2 <| ck (l3 + (1 + (((gN m 0 l0 3) + 1) / 2))) <| lt0 (l3 + (1 + (((gN m 0 l0 3) + 1) / 2))) fun v7 => ck (l6 + 1) <| some (.inl (v5, v6, v7, (l6 + 1)))
noncomputable def j_X7_fewestPresses_0_83 (m : MM) (l1 : Int) (l2 : Int) (l3 : Int)  : Option (Int) :=
  ck (l2 + 1) <| (f_X11_workingHoursAhead m (l2 + 1)).bind fun v8 => (f_X11_workingHoursAhead m l1).bind fun v9 => ck (v8 - v9) <| if l3 = 0 then (some 0) else
  if 0 < (v8 - v9) then (ck ((l3 + (v8 - v9)) - 1) <| dv ((l3 + (v8 - v9)) - 1) (v8 - v9) <| some (((l3 + (v8 - v9)) - 1) / (v8 - v9))) else
  some 0
noncomputable def f_X7_fewestPresses (m : MM) (l0 : Nat) : Option (Int) :=
  nk 14 (gR m 0 l0 6) fun i1 => (lpb (fun s => b_X7_fewestPresses_22 m l0 i1 (lenI m 14 i1) s.1 s.2.1 s.2.2.1 s.2.2.2) (5000, (-1), 0, 0)).bind fun z => j_X7_fewestPresses_0_83 m (z.1) (z.2.1) (z.2.2)
noncomputable def f_X11_presses (m : MM) (l0 : Nat) (l1 : Int) : Option (RV × MM) :=
  bR (f_X11_bookAt m l0 l1) (fun r2 m1 => nk 0 r2 fun i3 => (f_X7_fewestPresses m1 i3).bind fun v4 => some (.inl (some (aI v4)), m1)) xt
noncomputable def f_L_presses (m : MM) (l0 : Nat) (l1 : Int) (l2 : Nat) : Option (RV × MM) :=
  bI (f_X11_presses m l0 l1) (fun v2 m1 => stL m1 131 l2 0 (i2l v2) fun m3 => some (.inl (some (aI 0)), m3)) (xc (fun mx => some (.inl (some (aI 1)), mx)) xn_ xn_)
noncomputable def f_X8_isOnPress (m : MM) (l0 : Nat) : Option (Int) :=
  nk 2 (gR m 8 l0 0) fun i1 => if (gN m 2 i1 4) = 2 then (some 1) else
  nk 2 (gR m 8 l0 1) fun i2 => if ¬ (gN m 2 i2 4) = 2 then (some 0) else
  some 1
noncomputable def f_X8_isWhite (m : MM) (l0 : Nat) : Option (Int) :=
  if ¬ (gR m 8 l0 2) = none then (some 0) else
  some 1
noncomputable def f_X8_takeHeap (m : MM) (l0 : Nat) (l1 : Nat) (l2 : Int) (l3 : Int) : Option (RV × MM) :=
  lt' (sR m 8 l0 2 (some (2, l1))) fun m1 => lt' (sN m1 8 l0 3 l2) fun m2 => lt' (sN m2 8 l0 4 l3) fun m3 => some (.inl none, m3)
noncomputable def j_X11_print_0_111 (m : MM) (l0 : Nat) (l4 : Nat) (l6 : Nat)  : Option (RV × MM) :=
  lt' (sN m 2 l6 4 2) fun m24 => lt' (sN m24 2 l6 8 (gN m24 11 l0 10)) fun m25 => lt' (sR m25 6 l4 0 (some (2, l6))) fun m26 => some (.inl none, m26)
noncomputable def j_X11_print_0_63 (m : MM) (l0 : Nat) (l4 : Nat) (l5 : Nat) (l6 : Nat) (l7 : Nat) (s0 : Int) : Option (RV × MM) :=
  bV (f_X11_requireState m s0) (fun m14 => (f_X8_isWhite m14 l7).bind fun v16 => if v16 = 0 then (j_X11_print_0_111 m14 l0 l4 l6) else
  nk 58 (gR m14 11 l0 5) fun i17 => ldN m14 58 i17 (gN m14 11 l0 9) fun v18 => bV (f_X8_takeHeap m14 l7 l6 (gN m14 11 l0 9) v18) (fun m19 => nk 58 (gR m19 11 l0 5) fun i21 => ldN m19 58 i21 (gN m19 11 l0 9) fun v22 => ck (v22 + (gN m19 0 l5 3)) <| stN m19 58 i21 (gN m19 11 l0 9) (v22 + (gN m19 0 l5 3)) fun m23 => j_X11_print_0_111 m23 l0 l4 l6) x0) xt
noncomputable def j_X11_print_0_62 (m : MM) (l0 : Nat) (l4 : Nat) (l5 : Nat) (l6 : Nat) (l7 : Nat)  : Option (RV × MM) :=
  j_X11_print_0_63 m l0 l4 l5 l6 l7 0
noncomputable def f_X11_print (m : MM) (l0 : Nat) (l1 : Int) (l2 : Int) (l3 : Int) : Option (RV × MM) :=
  bR (f_X11_pressAt m l0 l1) (fun r2 m1 => nk 6 r2 fun i3 => bR (f_X11_bookAt m1 l0 l2) (fun r5 m4 => nk 0 r5 fun i6 => bR (f_X11_formeOf m4 i6 l3) (fun r8 m7 => nk 2 r8 fun i9 => nk 15 (gR m7 0 i6 7) fun i10 => dv l3 2 <| ldR m7 15 i10 (l3 / 2) fun r11 => nk 8 r11 fun i12 => if ¬ (gR m7 6 i3 0) = none then (j_X11_print_0_62 m7 l0 i3 i6 i9 i12) else
  if ¬ (gN m7 2 i9 4) = 1 then (j_X11_print_0_62 m7 l0 i3 i6 i9 i12) else
  (f_X8_isOnPress m7 i12).bind fun v13 => if ¬ v13 = 0 then (j_X11_print_0_62 m7 l0 i3 i6 i9 i12) else
  j_X11_print_0_63 m7 l0 i3 i6 i9 i12 1) xt) xt) xt
noncomputable def f_L_print (m : MM) (l0 : Nat) (l1 : Int) (l2 : Int) (l3 : Int) : Option (RV × MM) :=
  bV (f_X11_print m l0 l1 l2 l3) (fun m1 => some (.inl (some (aI 0)), m1)) (xc (fun mx => some (.inl (some (aI 1)), mx)) xn_ (fun mx => some (.inl (some (aI 2)), mx)))
noncomputable def f_X3_boxForNext (m : MM) (l0 : Nat) (l1 : Int) : Option (RV × MM) :=
  ck ((gN m 3 l0 5) + 1) <| lt' (sN m 3 l0 5 ((gN m 3 l0 5) + 1)) fun m1 => if (gN m1 3 l0 1) ≤ 0 then (some (.inl (some (aI l1)), m1)) else
  dv (gN m1 3 l0 5) (gN m1 3 l0 1) <| if ¬ ((gN m1 3 l0 5) % (gN m1 3 l0 1)) = 0 then (some (.inl (some (aI l1)), m1)) else
  ck (l1 + 1) <| dv (l1 + 1) 28 <| some (.inl (some (aI ((l1 + 1) % 28))), m1)
noncomputable def j_X5_clear_5_49 (m : MM) (l0 : Nat) (l1 : Nat) (l2 : Nat) (l3 : Int) (l4 : Int)  : Option ((Int × Int × MM) ⊕ ((Int × MM))) :=
  nk 35 (gR m 5 l0 1) fun i9 => stN m 35 i9 l4 (-1) fun m10 => nk 36 (gR m10 5 l0 2) fun i11 => stN m10 36 i11 l4 0 fun m12 => ck (l4 + 1) <| some (.inl (l3, (l4 + 1), m12))
noncomputable def b_X5_clear_5 (l0 : Nat) (l1 : Nat) (l2 : Nat) (l3 : Int) (l4 : Int) (mm : MM) : Option ((Int × Int × MM) ⊕ ((Int × MM))) :=
  if (gN mm 5 l0 4) ≤ l4 then (some (.inr (l3, mm))) else
  nk 35 (gR mm 5 l0 1) fun i1 => ldN mm 35 i1 l4 fun v2 => if v2 = (-1) then (j_X5_clear_5_49 mm l0 l1 l2 l3 l4) else
  nk 20 (gR mm 1 l1 0) fun i3 => ldN mm 20 i3 v2 fun v4 => bI (f_X3_boxForNext mm l2 v4) (fun v6 m5 => bV (f_X1_putOn m5 l1 v6 v2) (fun m7 => ck (l3 + 1) <| j_X5_clear_5_49 m7 l0 l1 l2 (l3 + 1) l4) x0) x0
noncomputable def j_X5_clear_0_71 (m : MM) (l3 : Int)  : Option (RV × MM) :=
  some (.inl (some (aI l3)), m)
noncomputable def f_X5_clear (m : MM) (l0 : Nat) (l1 : Nat) (l2 : Nat) : Option (RV × MM) :=
  (lpb (fun s => b_X5_clear_5 l0 l1 l2 s.1 s.2.1 s.2.2) (0, 0, m)).bind fun z => j_X5_clear_0_71 (z.2) (z.1)
noncomputable def b_X11_putAway_53 (l0 : Nat) (l4 : Nat) (l5 : Nat) (l7 : Nat) (l8 : Int) (l6 : Int) (l9 : Int) (mm : MM) : Option ((Int × Int × MM) ⊕ ((Int × MM))) :=
  if l8 ≤ l9 then (some (.inr (l6, mm))) else
  ldR mm 19 l7 l9 fun r13 => nk 4 r13 fun i14 => nk 5 (gR mm 4 i14 8) fun i15 => nk 1 (gR mm 11 l0 1) fun i16 => bI (f_X5_clear mm i15 i16 l5) (fun v18 m17 => ck (l6 + v18) <| ck (l9 + 1) <| some (.inl ((l6 + v18), (l9 + 1), m17))) x0
noncomputable def j_X11_putAway_0_92 (m : MM) (l4 : Nat) (l6 : Int)  : Option (RV × MM) :=
  lt' (sN m 2 l4 4 4) fun m19 => some (.inl (some (aI l6)), m19)
noncomputable def j_X11_putAway_0_32 (m : MM) (l0 : Nat) (l4 : Nat) (l5 : Nat) (s0 : Int) : Option (RV × MM) :=
  bV (f_X11_requireState m s0) (fun m10 => nk 19 (gR m10 2 l4 0) fun i12 => (lpb (fun s => b_X11_putAway_53 l0 l4 l5 i12 (lenI m10 19 i12) s.1 s.2.1 s.2.2) (0, 0, m10)).bind fun z => j_X11_putAway_0_92 (z.2) l4 (z.1)) xt
noncomputable def f_X11_putAway (m : MM) (l0 : Nat) (l1 : Int) (l2 : Int) (l3 : Int) : Option (RV × MM) :=
  bR (f_X11_bookAt m l0 l1) (fun r2 m1 => nk 0 r2 fun i3 => bR (f_X11_formeOf m1 i3 l2) (fun r5 m4 => nk 2 r5 fun i6 => bR (f_X11_handAt m4 l0 l3) (fun r8 m7 => nk 3 r8 fun i9 => if ¬ (gN m7 2 i6 4) = 3 then (j_X11_putAway_0_32 m7 l0 i6 i9 0) else
  j_X11_putAway_0_32 m7 l0 i6 i9 1) xt) xt) xt
noncomputable def f_L_putAway (m : MM) (l0 : Nat) (l1 : Int) (l2 : Int) (l3 : Int) (l4 : Nat) : Option (RV × MM) :=
  bI (f_X11_putAway m l0 l1 l2 l3) (fun v2 m1 => stL m1 131 l4 0 (i2l v2) fun m3 => some (.inl (some (aI 0)), m3)) (xc (fun mx => some (.inl (some (aI 1)), mx)) xn_ (fun mx => some (.inl (some (aI 2)), mx)))
noncomputable def j_X0_wordBehindPart_0_29 (m : MM) (l0 : Nat)  : Option (Int) :=
  nk 9 (gR m 0 l0 4) fun i4 => some (gN m 9 i4 5)
noncomputable def f_X0_wordBehindPart (m : MM) (l0 : Nat) (l1 : Int) : Option (Int) :=
  if (gN m 0 l0 10) = 0 then (j_X0_wordBehindPart_0_29 m l0) else
  nk 13 (gR m 0 l0 5) fun i1 => ck (l1 + 1) <| if (lenI m 13 i1) ≤ (l1 + 1) then (j_X0_wordBehindPart_0_29 m l0) else
  nk 16 (gR m 0 l0 8) fun i2 => ldN m 16 i2 (l1 + 1) fun v3 => some v3
noncomputable def f_X9_growth (m : MM) (l0 : Nat) (l1 : Int) : Option (Int) :=
  nk 47 (gR m 9 l0 2) fun i1 => ldL m 47 i1 l1 fun v2 => (f_X11_letters m v2).bind fun v3 => nk 46 (gR m 9 l0 1) fun i4 => ldL m 46 i4 l1 fun v5 => (f_X11_letters m v5).bind fun v6 => ck (v3 - v6) <| some (v3 - v6)
noncomputable def b_X4_fillOut_41 (l0 : Nat) (l1 : Nat) (l2 : Int) (l4 : Int) (l5 : Int) (l3 : Int) (l6 : Int) (mm : MM) : Option ((Int × Int × MM) ⊕ ((Int × MM))) :=
  ck (l4 - 1) <| if (l4 - 1) ≤ l6 then (some (.inr (l3, mm))) else
  if l3 ≤ 0 then (some (.inr (l3, mm))) else
  nk 29 (gR mm 4 l0 3) fun i8 => ldN mm 29 i8 l6 fun v9 => ck (v9 + 1) <| stN mm 29 i8 l6 (v9 + 1) fun m10 => ck (l3 + (-1)) <| ck (l6 + 1) <| some (.inl ((l3 + (-1)), (l6 + 1), m10))
noncomputable def j_X4_fillOut_27_74 (m : MM) (l0 : Nat) (l1 : Nat) (l2 : Int) (l3 : Int) (l4 : Int) (l5 : Int)  : Option ((Int × Int × MM) ⊕ ((Int × MM))) :=
  ck (l5 + 1) <| some (.inl (l3, (l5 + 1), m))
noncomputable def b_X4_fillOut_27 (l0 : Nat) (l1 : Nat) (l2 : Int) (l4 : Int) (l3 : Int) (l5 : Int) (mm : MM) : Option ((Int × Int × MM) ⊕ ((Int × MM))) :=
  if 3 ≤ l5 then (some (.inr (l3, mm))) else
  nk 31 (gR mm 4 l0 5) fun i6 => ldN mm 31 i6 l2 fun v7 => (lpb (fun s => b_X4_fillOut_41 l0 l1 l2 l4 l5 s.1 s.2.1 s.2.2) (l3, v7, mm)).bind fun z => j_X4_fillOut_27_74 (z.2) l0 l1 l2 (z.1) l4 l5
noncomputable def b_X4_fillOut_88 (l0 : Nat) (l1 : Nat) (l2 : Int) (l4 : Int) (l3 : Int) (l5 : Int) (mm : MM) : Option ((Int × Int × MM) ⊕ ((Int × MM))) :=
  if l4 ≤ l5 then (some (.inr (l3, mm))) else
  if ¬ (gN mm 4 l0 14) = 0 then (some (.inr (l3, mm))) else
  nk 27 (gR mm 4 l0 1) fun i13 => ldN mm 27 i13 l5 fun v14 => (f_X9_growth mm l1 v14).bind fun v15 => if v15 ≤ 0 then (ck (l5 + 1) <| some (.inl (l3, (l5 + 1), mm))) else
  nk 28 (gR mm 4 l0 2) fun i16 => ldN mm 28 i16 l5 fun v17 => if ¬ v17 = 0 then (ck (l5 + 1) <| some (.inl (l3, (l5 + 1), mm))) else
  if l3 < v15 then (ck (l5 + 1) <| some (.inl (l3, (l5 + 1), mm))) else
  nk 28 (gR mm 4 l0 2) fun i18 => stN mm 28 i18 l5 1 fun m19 => ck (l3 - v15) <| ck (l5 + 1) <| some (.inl ((l3 - v15), (l5 + 1), m19))
noncomputable def j_X4_fillOut_0_155 (m : MM) (l0 : Nat) (l2 : Int) (l3 : Int)  : Option (RV × MM) :=
  nk 32 (gR m 4 l0 6) fun i20 => stN m 32 i20 l2 l3 fun m21 => some (.inl none, m21)
noncomputable def j_X4_fillOut_0_80 (m : MM) (l0 : Nat) (l1 : Nat) (l2 : Int) (l3 : Int) (l4 : Int)  : Option (RV × MM) :=
  nk 31 (gR m 4 l0 5) fun i11 => ldN m 31 i11 l2 fun v12 => (lpb (fun s => b_X4_fillOut_88 l0 l1 l2 l4 s.1 s.2.1 s.2.2) (l3, v12, m)).bind fun z => j_X4_fillOut_0_155 (z.2) l0 l2 (z.1)
noncomputable def f_X4_fillOut (m : MM) (l0 : Nat) (l1 : Nat) (l2 : Int) : Option (RV × MM) :=
  nk 33 (gR m 4 l0 7) fun i1 => ldN m 33 i1 l2 fun v2 => if ¬ v2 = 0 then (nk 32 (gR m 4 l0 6) fun i3 => ldN m 32 i3 l2 fun v4 => (f_X4_wordBehindLine m l0 l2).bind fun v5 => (lpb (fun s => b_X4_fillOut_27 l0 l1 l2 v5 s.1 s.2.1 s.2.2) (v4, 1, m)).bind fun z => j_X4_fillOut_0_80 (z.2) l0 l1 l2 (z.1) v5) else
  some (.inl none, m)
noncomputable def f_X4_addWord (m : MM) (l0 : Nat) (l1 : Int) (l2 : Int) : Option (RV × MM) :=
  nk 27 (gR m 4 l0 1) fun i1 => stN m 27 i1 (gN m 4 l0 10) l1 fun m2 => nk 28 (gR m2 4 l0 2) fun i3 => cb l2 <| stN m2 28 i3 (gN m2 4 l0 10) l2 fun m4 => nk 29 (gR m4 4 l0 3) fun i5 => stN m4 29 i5 (gN m4 4 l0 10) 1 fun m6 => ck ((gN m6 4 l0 10) + 1) <| lt' (sN m6 4 l0 10 ((gN m6 4 l0 10) + 1)) fun m7 => some (.inl none, m7)
noncomputable def f_X3_skipsNow (m : MM) (l0 : Nat) : Option (RV × MM) :=
  ck ((gN m 3 l0 3) + 1) <| lt' (sN m 3 l0 3 ((gN m 3 l0 3) + 1)) fun m1 => if (gN m1 3 l0 2) ≤ 0 then (some (.inl (some (aI 0)), m1)) else
  dv (gN m1 3 l0 3) (gN m1 3 l0 2) <| if ¬ ((gN m1 3 l0 3) % (gN m1 3 l0 2)) = 0 then (some (.inl (some (aI 0)), m1)) else
  some (.inl (some (aI 1)), m1)
noncomputable def b_X9_sameSoon_4 (m : MM) (l0 : Nat) (l1 : Int) (l2 : Int) (l3 : Int) : Option (Int ⊕ ((Int) ⊕ Unit)) :=
  ck (l1 + 4) <| if (l1 + 4) < l3 then (some (.inr (.inr ()))) else
  if l2 ≤ l3 then (some (.inr (.inr ()))) else
  nk 45 (gR m 9 l0 0) fun i1 => ldL m 45 i1 l3 fun v2 => nk 45 (gR m 9 l0 0) fun i3 => ldL m 45 i3 l1 fun v4 => if ¬ (lcm' v2 v4) = 0 then (ck (l3 + 1) <| some (.inl (l3 + 1))) else
  some (.inr (.inl l3))
noncomputable def j_X9_sameSoon_0_40 (m : MM)   : Option (Int) :=
  some (-1)
noncomputable def f_X9_sameSoon (m : MM) (l0 : Nat) (l1 : Int) (l2 : Int) : Option (Int) :=
  ck (l1 + 1) <| (lpb (fun s => b_X9_sameSoon_4 m l0 l1 l2 s) (l1 + 1)).bind (Sum.elim (fun r => some r) fun z => j_X9_sameSoon_0_40 m)
noncomputable def j_X4_goOnBehind_0_50 (m : MM)  (s0 : Nat) (s1 : Int) : Option (RV × MM) :=
  lt' (sN m 4 s0 12 s1) fun m4 => some (.inl none, m4)
noncomputable def j_X4_goOnBehind_0_29 (m : MM) (l0 : Nat) (l4 : Int) (s0 : Int) : Option (RV × MM) :=
  if s0 = 0 then (ck ((gN m 4 l0 12) + 1) <| j_X4_goOnBehind_0_50 m l0 ((gN m 4 l0 12) + 1)) else
  ck (l4 + 1) <| j_X4_goOnBehind_0_50 m l0 (l4 + 1)
noncomputable def j_X4_goOnBehind_0_28 (m : MM) (l0 : Nat) (l4 : Int)  : Option (RV × MM) :=
  j_X4_goOnBehind_0_29 m l0 l4 0
noncomputable def f_X4_goOnBehind (m : MM) (l0 : Nat) (l1 : Nat) (l2 : Nat) (l3 : Int) : Option (RV × MM) :=
  (f_X9_sameSoon m l1 (gN m 4 l0 12) l3).bind fun v1 => if v1 = (-1) then (j_X4_goOnBehind_0_28 m l0 v1) else
  bI (f_X3_skipsNow m l2) (fun v3 m2 => if v3 = 0 then (j_X4_goOnBehind_0_28 m2 l0 v1) else
  j_X4_goOnBehind_0_29 m2 l0 v1 1) x0
noncomputable def f_X3_likesLong (m : MM) (l0 : Nat) (l1 : Int) : Option (Int) :=
  if l1 = (-1) then (some 0) else
  if ¬ (iand (ishr (gN m 3 l0 0) l1) 1) = 1 then (some 0) else
  some 1
noncomputable def f_X4_prefersLong (m : MM) (l0 : Nat) (l1 : Nat) (l2 : Nat) (l3 : Int) (l4 : Int) : Option (Int) :=
  if ¬ (gN m 4 l0 14) = 0 then (some 0) else
  nk 48 (gR m 9 l1 3) fun i1 => ldN m 48 i1 l3 fun v2 => (f_X3_likesLong m l2 v2).bind fun v3 => if v3 = 0 then (some 0) else
  nk 47 (gR m 9 l1 2) fun i4 => ldL m 47 i4 l3 fun v5 => (f_X11_letters m v5).bind fun v6 => if l4 < v6 then (some 0) else
  some 1
noncomputable def j_X4_takeLine_29_171 (m : MM) (l0 : Nat) (l1 : Nat) (l2 : Nat) (l3 : Int) (l4 : Int) (l5 : Int) (l7 : Int) (s0 : Int) : Option ((Int × Int × Int × MM) ⊕ ((Int × MM))) :=
  bV (f_X4_goOnBehind m l0 l1 l2 l4) (fun m16 => ck (l7 + 1) <| some (.inl (l5, s0, (l7 + 1), m16))) x0
noncomputable def j_X4_takeLine_29_121 (m : MM) (l0 : Nat) (l1 : Nat) (l2 : Nat) (l3 : Int) (l4 : Int) (l5 : Int) (l7 : Int) (l8 : Int) (l9 : Int) (l10 : Int) (s0 : Nat) (s1 : Int) (s2 : Int) : Option ((Int × Int × Int × MM) ⊕ ((Int × MM))) :=
  cb s2 <| stN m 33 s0 s1 s2 fun m9 => nk 33 (gR m9 4 l0 7) fun i10 => ldN m9 33 i10 l3 fun v11 => if v11 = 0 then (ck (l8 - l10) <| bV (f_X4_addWord m9 l0 (gN m9 4 l0 12) l9) (fun m12 => nk 49 (gR m12 9 l1 4) fun i14 => ldN m12 49 i14 (gN m12 4 l0 12) fun v15 => if ¬ v15 = 0 then (j_X4_takeLine_29_171 m12 l0 l1 l2 l3 l4 (l8 - l10) l7 0) else
  j_X4_takeLine_29_171 m12 l0 l1 l2 l3 l4 (l8 - l10) l7 1) x0) else
  ck (l7 + 1) <| some (.inl (l5, 0, (l7 + 1), m9))
noncomputable def j_X4_takeLine_29_73 (m : MM) (l0 : Nat) (l1 : Nat) (l2 : Nat) (l3 : Int) (l4 : Int) (l5 : Int) (l7 : Int) (s0 : Int) : Option ((Int × Int × Int × MM) ⊕ ((Int × MM))) :=
  (f_X4_prefersLong m l0 l1 l2 (gN m 4 l0 12) s0).bind fun v5 => (f_X9_form m l1 (gN m 4 l0 12) v5).bind fun v6 => (f_X11_letters m v6).bind fun v7 => nk 33 (gR m 4 l0 7) fun i8 => if v7 ≤ s0 then (j_X4_takeLine_29_121 m l0 l1 l2 l3 l4 l5 l7 s0 v5 v7 i8 l3 0) else
  j_X4_takeLine_29_121 m l0 l1 l2 l3 l4 l5 l7 s0 v5 v7 i8 l3 1
noncomputable def b_X4_takeLine_29 (l0 : Nat) (l1 : Nat) (l2 : Nat) (l3 : Int) (l4 : Int) (l5 : Int) (l6 : Int) (l7 : Int) (mm : MM) : Option ((Int × Int × Int × MM) ⊕ ((Int × MM))) :=
  if 60 ≤ l7 then (some (.inr (l5, mm))) else
  if l6 = 0 then (some (.inr (l5, mm))) else
  if l4 ≤ (gN mm 4 l0 12) then (some (.inr (l5, mm))) else
  if 60 ≤ (gN mm 4 l0 10) then (some (.inr (l5, mm))) else
  if ¬ l7 = 0 then (ck (l5 - 1) <| j_X4_takeLine_29_73 mm l0 l1 l2 l3 l4 l5 l7 (l5 - 1)) else
  j_X4_takeLine_29_73 mm l0 l1 l2 l3 l4 l5 l7 l5
noncomputable def j_X4_takeLine_0_187 (m : MM) (l0 : Nat) (l3 : Int) (l5 : Int)  : Option (RV × MM) :=
  nk 32 (gR m 4 l0 6) fun i18 => stN m 32 i18 l3 l5 fun m19 => some (.inl none, m19)
noncomputable def f_X4_takeLine (m : MM) (l0 : Nat) (l1 : Nat) (l2 : Nat) (l3 : Int) (l4 : Int) : Option (RV × MM) :=
  nk 31 (gR m 4 l0 5) fun i1 => stN m 31 i1 l3 (gN m 4 l0 10) fun m2 => nk 33 (gR m2 4 l0 7) fun i3 => stN m2 33 i3 l3 0 fun m4 => (lpb (fun s => b_X4_takeLine_29 l0 l1 l2 l3 l4 s.1 s.2.1 s.2.2.1 s.2.2.2) ((gN m 4 l0 0), 1, 0, m4)).bind fun z => j_X4_takeLine_0_187 (z.2) l0 l3 (z.1)
noncomputable def b_X4_takeLines_18 (l0 : Nat) (l1 : Nat) (l2 : Nat) (l4 : Int) (l5 : Int) (mm : MM) : Option ((Int × MM) ⊕ (MM)) :=
  nk 31 (gR mm 4 l0 5) fun i4 => if (lenI mm 31 i4) ≤ l5 then (some (.inr mm)) else
  if l4 ≤ (gN mm 4 l0 12) then (some (.inr mm)) else
  bV (f_X4_takeLine mm l0 l1 l2 l5 l4) (fun m5 => ck ((gN m5 4 l0 11) + 1) <| lt' (sN m5 4 l0 11 ((gN m5 4 l0 11) + 1)) fun m7 => ck (l5 + 1) <| some (.inl ((l5 + 1), m7))) x0
noncomputable def j_X4_takeLines_0_63 (m : MM)   : Option (RV × MM) :=
  some (.inl none, m)
noncomputable def f_X4_takeLines (m : MM) (l0 : Nat) (l1 : Nat) (l2 : Nat) (l3 : Int) (l4 : Int) : Option (RV × MM) :=
  lt' (sN m 4 l0 10 0) fun m1 => lt' (sN m1 4 l0 11 0) fun m2 => lt' (sN m2 4 l0 12 l3) fun m3 => (lpb (fun s => b_X4_takeLines_18 l0 l1 l2 l4 s.1 s.2) (0, m3)).bind fun z => j_X4_takeLines_0_63 z
noncomputable def b_X4_compose_63 (l0 : Nat) (l1 : Nat) (l7 : Int) (mm : MM) : Option ((Int × MM) ⊕ (MM)) :=
  if (gN mm 4 l0 11) ≤ l7 then (some (.inr mm)) else
  bV (f_X4_fillOut mm l0 l1 l7) (fun m8 => ck (l7 + 1) <| some (.inl ((l7 + 1), m8))) x0
noncomputable def j_X4_compose_0_85 (m : MM)   : Option (RV × MM) :=
  some (.inl none, m)
noncomputable def j_X4_compose_0_60 (m : MM) (l0 : Nat) (l1 : Nat)  : Option (RV × MM) :=
  (lpb (fun s => b_X4_compose_63 l0 l1 s.1 s.2) (0, m)).bind fun z => j_X4_compose_0_85 z
noncomputable def f_X4_compose (m : MM) (l0 : Nat) (l1 : Nat) (l2 : Nat) (l3 : Int) (l4 : Int) (l5 : Int) : Option (RV × MM) :=
  bV (f_X4_takeLines m l0 l1 l2 l3 l4) (fun m1 => if l5 = 0 then (j_X4_compose_0_60 m1 l0 l1) else
  if l4 ≤ (gN m1 4 l0 12) then (j_X4_compose_0_60 m1 l0 l1) else
  lt' (sN m1 3 l2 3 (gN m 3 l2 3)) fun m3 => lt' (sN m3 4 l0 14 1) fun m4 => bV (f_X4_takeLines m4 l0 l1 l2 l3 l4) (fun m5 => ck (l4 - (gN m5 4 l0 12)) <| lt' (sN m5 4 l0 13 (l4 - (gN m5 4 l0 12))) fun m7 => j_X4_compose_0_60 m7 l0 l1) x0) x0
noncomputable def f_X4_joined (m : MM) (l0 : Int) (l1 : Int) : Option (Int) :=
  if l0 = 102 then (if ¬ l1 = 105 then (if ¬ l1 = 108 then (some (-1)) else
  some 27) else
  some 26) else
  some (-1)
noncomputable def f_X1_turnedBox (m : MM) (l0 : Int) : Option (Int) :=
  tsw l0 1 [some 16,
  some (-1),
  some 15,
  some (-1),
  some (-1),
  some (-1),
  some (-1),
  some (-1),
  some (-1),
  some (-1),
  some (-1),
  some (-1),
  some 20,
  some (-1),
  some 3,
  some 1,
  some (-1),
  some (-1),
  some (-1),
  some 13]
  (some (-1))
noncomputable def j_X5_fillNext_0_159 (m : MM) (l0 : Nat) (l5 : Int) (s0 : Nat) (s1 : Int) (s2 : Int) : Option (RV × MM) :=
  stN m 38 s0 s1 s2 fun m20 => ck ((gN m20 5 l0 4) + 1) <| lt' (sN m20 5 l0 4 ((gN m20 5 l0 4) + 1)) fun m21 => if l5 = (-1) then (some (.inl (some (aI 0)), m21)) else
  some (.inl (some (aI 1)), m21)
noncomputable def j_X5_fillNext_0_157 (m : MM) (l0 : Nat) (l5 : Int) (l8 : Int) (s0 : Nat) (s1 : Int) : Option (RV × MM) :=
  j_X5_fillNext_0_159 m l0 l5 s0 s1 l8
noncomputable def j_X5_fillNext_0_129 (m : MM) (l0 : Nat) (l1 : Int) (l4 : Int) (l5 : Int) (l7 : Int) (s0 : Int) : Option (RV × MM) :=
  nk 37 (gR m 5 l0 3) fun i17 => ldR m 37 i17 0 fun r18 => nk 38 r18 fun i19 => if l7 = 0 then (j_X5_fillNext_0_157 m l0 l5 s0 i19 (gN m 5 l0 4)) else
  if ¬ s0 = l4 then (j_X5_fillNext_0_157 m l0 l5 s0 i19 (gN m 5 l0 4)) else
  j_X5_fillNext_0_159 m l0 l5 i19 (gN m 5 l0 4) l1
noncomputable def j_X5_fillNext_0_80 (m : MM) (l0 : Nat) (l1 : Int) (l2 : Nat) (l4 : Int) (l5 : Int) (l7 : Int)  : Option (RV × MM) :=
  nk 34 (gR m 5 l0 0) fun i9 => stN m 34 i9 (gN m 5 l0 4) l1 fun m10 => nk 35 (gR m10 5 l0 1) fun i11 => stN m10 35 i11 (gN m10 5 l0 4) l5 fun m12 => nk 36 (gR m12 5 l0 2) fun i13 => cb l7 <| stN m12 36 i13 (gN m12 5 l0 4) l7 fun m14 => if ¬ l5 = (-1) then (nk 20 (gR m14 1 l2 0) fun i15 => ldN m14 20 i15 l5 fun v16 => j_X5_fillNext_0_129 m14 l0 l1 l4 l5 l7 v16) else
  j_X5_fillNext_0_129 m14 l0 l1 l4 l5 l7 (-1)
noncomputable def j_X5_fillNext_0_60 (m : MM) (l0 : Nat) (l1 : Int) (l2 : Nat) (l3 : Int) (l4 : Int) (l5 : Int) (l6 : Int) (s0 : Int) : Option (RV × MM) :=
  if s0 = 0 then (j_X5_fillNext_0_80 m l0 l1 l2 l4 l5 s0) else
  bI (f_X1_take m l2 l6 l3) (fun v8 m7 => j_X5_fillNext_0_80 m7 l0 l1 l2 l6 v8 s0) x0
noncomputable def j_X5_fillNext_0_59 (m : MM) (l0 : Nat) (l1 : Int) (l2 : Nat) (l3 : Int) (l4 : Int) (l5 : Int) (l6 : Int)  : Option (RV × MM) :=
  j_X5_fillNext_0_60 m l0 l1 l2 l3 l4 l5 l6 0
noncomputable def f_X5_fillNext (m : MM) (l0 : Nat) (l1 : Int) (l2 : Nat) (l3 : Int) : Option (RV × MM) :=
  nk 34 (gR m 5 l0 0) fun i1 => if (gN m 5 l0 4) < (lenI m 34 i1) then (bI (f_X1_take m l2 l1 l3) (fun v3 m2 => (f_X1_turnedBox m2 l1).bind fun v4 => if ¬ v3 = (-1) then (j_X5_fillNext_0_59 m2 l0 l1 l2 l3 l1 v3 v4) else
  if v4 = (-1) then (j_X5_fillNext_0_59 m2 l0 l1 l2 l3 l1 v3 v4) else
  nk 24 (gR m2 1 l2 4) fun i5 => ldN m2 24 i5 v4 fun v6 => if v6 = (-1) then (j_X5_fillNext_0_59 m2 l0 l1 l2 l3 l1 v3 v4) else
  j_X5_fillNext_0_60 m2 l0 l1 l2 l3 l1 v3 v4 1) x0) else
  some (.inl (some (aI 0)), m)
noncomputable def j_X4_fillWord_12_114 (m : MM) (l0 : Nat) (l1 : Int64) (l3 : Nat) (l4 : Int) (l5 : Int) (l6 : Int) (l7 : Int) (l9 : Int)  : Option ((Int × Int × MM) ⊕ ((Int × MM))) :=
  if l9 = 0 then (ck (l7 + 1) <| some (.inl (l5, (l7 + 1), m))) else
  ck (l7 + 1) <| ck ((l7 + 1) + 1) <| some (.inl (l5, ((l7 + 1) + 1), m))
noncomputable def j_X4_fillWord_12_94 (m : MM) (l0 : Nat) (l1 : Int64) (l3 : Nat) (l4 : Int) (l5 : Int) (l6 : Int) (l7 : Int) (l9 : Int) (s0 : Int) : Option ((Int × Int × MM) ⊕ ((Int × MM))) :=
  nk 5 (gR m 4 l0 8) fun i8 => bI (f_X5_fillNext m i8 s0 l3 l4) (fun v10 m9 => if ¬ v10 = 0 then (j_X4_fillWord_12_114 m9 l0 l1 l3 l4 l5 l6 l7 l9) else
  ck (l5 + 1) <| j_X4_fillWord_12_114 m9 l0 l1 l3 l4 (l5 + 1) l6 l7 l9) x0
noncomputable def j_X4_fillWord_12_73 (m : MM) (l0 : Nat) (l1 : Int64) (l3 : Nat) (l4 : Int) (l5 : Int) (l6 : Int) (l7 : Int) (l8 : Int) (s0 : Int) : Option ((Int × Int × MM) ⊕ ((Int × MM))) :=
  if s0 = 0 then ((f_X11_letterAt m l1 l7).bind fun v7 => ck (v7 - 97) <| j_X4_fillWord_12_94 m l0 l1 l3 l4 l5 l6 l7 s0 (v7 - 97)) else
  j_X4_fillWord_12_94 m l0 l1 l3 l4 l5 l6 l7 s0 l8
noncomputable def j_X4_fillWord_12_72 (m : MM) (l0 : Nat) (l1 : Int64) (l3 : Nat) (l4 : Int) (l5 : Int) (l6 : Int) (l7 : Int) (l8 : Int)  : Option ((Int × Int × MM) ⊕ ((Int × MM))) :=
  j_X4_fillWord_12_73 m l0 l1 l3 l4 l5 l6 l7 l8 0
noncomputable def j_X4_fillWord_12_49 (m : MM) (l0 : Nat) (l1 : Int64) (l3 : Nat) (l4 : Int) (l5 : Int) (l6 : Int) (l7 : Int) (s0 : Int) : Option ((Int × Int × MM) ⊕ ((Int × MM))) :=
  if s0 = (-1) then (j_X4_fillWord_12_72 m l0 l1 l3 l4 l5 l6 l7 s0) else
  nk 24 (gR m 1 l3 4) fun i5 => ldN m 24 i5 s0 fun v6 => if v6 = (-1) then (j_X4_fillWord_12_72 m l0 l1 l3 l4 l5 l6 l7 s0) else
  j_X4_fillWord_12_73 m l0 l1 l3 l4 l5 l6 l7 s0 1
noncomputable def b_X4_fillWord_12 (l0 : Nat) (l1 : Int64) (l3 : Nat) (l4 : Int) (l6 : Int) (l5 : Int) (l7 : Int) (mm : MM) : Option ((Int × Int × MM) ⊕ ((Int × MM))) :=
  if l6 ≤ l7 then (some (.inr (l5, mm))) else
  ck (l7 + 1) <| if l6 ≤ (l7 + 1) then (j_X4_fillWord_12_49 mm l0 l1 l3 l4 l5 l6 l7 (-1)) else
  (f_X11_letterAt mm l1 l7).bind fun v2 => ck (l7 + 1) <| (f_X11_letterAt mm l1 (l7 + 1)).bind fun v3 => (f_X4_joined mm v2 v3).bind fun v4 => j_X4_fillWord_12_49 mm l0 l1 l3 l4 l5 l6 l7 v4
noncomputable def j_X4_fillWord_0_128 (m : MM) (l5 : Int)  : Option (RV × MM) :=
  some (.inl (some (aI l5)), m)
noncomputable def f_X4_fillWord (m : MM) (l0 : Nat) (l1 : Int64) (l3 : Nat) (l4 : Int) : Option (RV × MM) :=
  (f_X11_letters m l1).bind fun v1 => (lpb (fun s => b_X4_fillWord_12 l0 l1 l3 l4 v1 s.1 s.2.1 s.2.2) (0, 0, m)).bind fun z => j_X4_fillWord_0_128 (z.2) (z.1)
noncomputable def b_X4_fillPlaces_6 (l0 : Nat) (l1 : Nat) (l2 : Nat) (l3 : Int) (l4 : Int) (l5 : Int) (mm : MM) : Option ((Int × Int × MM) ⊕ ((Int × MM))) :=
  if (gN mm 4 l0 10) ≤ l5 then (some (.inr (l4, mm))) else
  nk 30 (gR mm 4 l0 4) fun i1 => nk 5 (gR mm 4 l0 8) fun i2 => stN mm 30 i1 l5 (gN mm 5 i2 4) fun m3 => nk 27 (gR m3 4 l0 1) fun i4 => ldN m3 27 i4 l5 fun v5 => nk 28 (gR m3 4 l0 2) fun i6 => ldN m3 28 i6 l5 fun v7 => (f_X9_form m3 l1 v5 v7).bind fun v8 => bI (f_X4_fillWord m3 l0 v8 l2 l3) (fun v10 m9 => ck (l4 + v10) <| ck (l5 + 1) <| some (.inl ((l4 + v10), (l5 + 1), m9))) x0
noncomputable def j_X4_fillPlaces_0_64 (m : MM) (l0 : Nat) (l4 : Int)  : Option (RV × MM) :=
  nk 30 (gR m 4 l0 4) fun i11 => nk 5 (gR m 4 l0 8) fun i12 => stN m 30 i11 (gN m 4 l0 10) (gN m 5 i12 4) fun m13 => some (.inl (some (aI l4)), m13)
noncomputable def f_X4_fillPlaces (m : MM) (l0 : Nat) (l1 : Nat) (l2 : Nat) (l3 : Int) : Option (RV × MM) :=
  (lpb (fun s => b_X4_fillPlaces_6 l0 l1 l2 l3 s.1 s.2.1 s.2.2) (0, 0, m)).bind fun z => j_X4_fillPlaces_0_64 (z.2) l0 (z.1)
noncomputable def j_X11_set_0_68 (m : MM) (l0 : Nat) (l1 : Int) (l2 : Int) (l3 : Int) (l4 : Nat) (l5 : Nat) (l6 : Nat) (l7 : Int) (s0 : Int) : Option (RV × MM) :=
  bV (f_X11_requireState m s0) (fun m15 => nk 9 (gR m15 0 l4 4) fun i17 => (f_X0_wordBehindPart m15 l4 l2).bind fun v18 => bV (f_X4_compose m15 l5 i17 l6 l7 v18 (gN m15 0 l4 10)) (fun m19 => lt' (sN m19 4 l5 9 l3) fun m21 => nk 9 (gR m21 0 l4 4) fun i22 => nk 1 (gR m21 11 l0 1) fun i23 => ck ((100 + (100 * l1)) + l2) <| bI (f_X4_fillPlaces m21 l5 i22 i23 ((100 + (100 * l1)) + l2)) (fun v25 m24 => nk 5 (gR m24 4 l5 8) fun i26 => ck ((gN m24 3 l6 4) + ((gN m24 5 i26 4) - v25)) <| lt' (sN m24 3 l6 4 ((gN m24 3 l6 4) + ((gN m24 5 i26 4) - v25))) fun m27 => some (.inl (some (aI v25)), m27)) x0) x0) xt
noncomputable def j_X11_set_0_46 (m : MM) (l0 : Nat) (l1 : Int) (l2 : Int) (l3 : Int) (l4 : Nat) (l5 : Nat) (l6 : Nat) (s0 : Int) : Option (RV × MM) :=
  bV (f_X11_requireState m s0) (fun m12 => (f_X0_firstWordOfPart m12 l4 l2).bind fun v14 => if v14 = (-1) then (j_X11_set_0_68 m12 l0 l1 l2 l3 l4 l5 l6 v14 0) else
  j_X11_set_0_68 m12 l0 l1 l2 l3 l4 l5 l6 v14 1) xt
noncomputable def j_X11_set_0_45 (m : MM) (l0 : Nat) (l1 : Int) (l2 : Int) (l3 : Int) (l4 : Nat) (l5 : Nat) (l6 : Nat)  : Option (RV × MM) :=
  j_X11_set_0_46 m l0 l1 l2 l3 l4 l5 l6 0
noncomputable def f_X11_set (m : MM) (l0 : Nat) (l1 : Int) (l2 : Int) (l3 : Int) : Option (RV × MM) :=
  bR (f_X11_bookAt m l0 l1) (fun r2 m1 => nk 0 r2 fun i3 => bR (f_X11_pageOf m1 i3 l2) (fun r5 m4 => nk 4 r5 fun i6 => bR (f_X11_handAt m4 l0 l3) (fun r8 m7 => nk 3 r8 fun i9 => nk 9 (gR m7 0 i3 4) fun i10 => if (gN m7 9 i10 5) ≤ 0 then (j_X11_set_0_45 m7 l0 l1 l2 l3 i3 i6 i9) else
  (f_X4_isSet m7 i6).bind fun v11 => if ¬ v11 = 0 then (j_X11_set_0_45 m7 l0 l1 l2 l3 i3 i6 i9) else
  j_X11_set_0_46 m7 l0 l1 l2 l3 i3 i6 i9 1) xt) xt) xt
noncomputable def f_L_set (m : MM) (l0 : Nat) (l1 : Int) (l2 : Int) (l3 : Int) (l4 : Nat) : Option (RV × MM) :=
  bI (f_X11_set m l0 l1 l2 l3) (fun v2 m1 => stL m1 131 l4 0 (i2l v2) fun m3 => some (.inl (some (aI 0)), m3)) (xc (fun mx => some (.inl (some (aI 1)), mx)) xn_ (fun mx => some (.inl (some (aI 2)), mx)))
noncomputable def b_X11_shared_42 (m : MM) (l0 : Nat) (l5 : Nat) (l6 : Nat) (l7 : Int) (l8 : Int) : Option ((Int × Int) ⊕ (Int)) :=
  nk 1 (gR m 11 l0 1) fun i12 => if (gN m 1 i12 5) ≤ l8 then (some (.inr l7)) else
  nk 25 (gR m 2 l5 3) fun i13 => ldN m 25 i13 l8 fun v14 => if v14 ≤ 0 then (ck (l8 + 1) <| some (.inl (l7, (l8 + 1)))) else
  nk 25 (gR m 2 l6 3) fun i15 => ldN m 25 i15 l8 fun v16 => if v16 ≤ 0 then (ck (l8 + 1) <| some (.inl (l7, (l8 + 1)))) else
  ck (l7 + 1) <| ck (l8 + 1) <| some (.inl ((l7 + 1), (l8 + 1)))
noncomputable def j_X11_shared_0_112 (m : MM) (l7 : Int) (s0 : Int) : Option (RV × MM) :=
  if s0 = 0 then (some (.inl (some (aI l7)), m)) else
  ck (l7 + 1000) <| some (.inl (some (aI (l7 + 1000))), m)
noncomputable def j_X11_shared_0_111 (m : MM) (l7 : Int)  : Option (RV × MM) :=
  j_X11_shared_0_112 m l7 0
noncomputable def j_X11_shared_0_85 (m : MM) (l5 : Nat) (l6 : Nat) (l7 : Int)  : Option (RV × MM) :=
  if (gN m 2 l5 5) = (-1) then (j_X11_shared_0_111 m l7) else
  if ¬ (gN m 2 l5 5) = (gN m 2 l6 5) then (j_X11_shared_0_111 m l7) else
  j_X11_shared_0_112 m l7 1
noncomputable def j_X11_shared_0_33 (m : MM) (l0 : Nat) (l5 : Nat) (l6 : Nat) (s0 : Int) : Option (RV × MM) :=
  bV (f_X11_requireArgument m s0) (fun m10 => (lpb (fun s => b_X11_shared_42 m10 l0 l5 l6 s.1 s.2) (0, 0)).bind fun z => j_X11_shared_0_85 m10 l5 l6 z) xt
noncomputable def f_X11_shared (m : MM) (l0 : Nat) (l1 : Int) (l2 : Int) (l3 : Int) : Option (RV × MM) :=
  bR (f_X11_bookAt m l0 l1) (fun r2 m1 => nk 0 r2 fun i3 => bR (f_X11_formeOf m1 i3 l2) (fun r5 m4 => nk 2 r5 fun i6 => bR (f_X11_formeOf m4 i3 l3) (fun r8 m7 => nk 2 r8 fun i9 => if l2 = l3 then (j_X11_shared_0_33 m7 l0 i6 i9 0) else
  j_X11_shared_0_33 m7 l0 i6 i9 1) xt) xt) xt
noncomputable def f_L_shared (m : MM) (l0 : Nat) (l1 : Int) (l2 : Int) (l3 : Int) (l4 : Nat) : Option (RV × MM) :=
  bI (f_X11_shared m l0 l1 l2 l3) (fun v2 m1 => stL m1 131 l4 0 (i2l v2) fun m3 => some (.inl (some (aI 0)), m3)) (xc (fun mx => some (.inl (some (aI 1)), mx)) (fun mx => some (.inl (some (aI 2)), mx)) xn_)
noncomputable def j_X10_addSpelling_0_42 (m : MM) (l0 : Nat)  : Option (RV × MM) :=
  ck ((gN m 10 l0 6) - 1) <| some (.inl (some (aI ((gN m 10 l0 6) - 1))), m)
noncomputable def f_X10_addSpelling (m : MM) (l0 : Nat) (l1 : Int64) (l3 : Int64) : Option (RV × MM) :=
  nk 53 (gR m 10 l0 3) fun i1 => if (lenI m 53 i1) ≤ (gN m 10 l0 6) then (j_X10_addSpelling_0_42 m l0) else
  nk 53 (gR m 10 l0 3) fun i2 => stL m 53 i2 (gN m 10 l0 6) l1 fun m3 => nk 54 (gR m3 10 l0 4) fun i4 => stL m3 54 i4 (gN m3 10 l0 6) l3 fun m5 => ck ((gN m5 10 l0 6) + 1) <| lt' (sN m5 10 l0 6 ((gN m5 10 l0 6) + 1)) fun m6 => j_X10_addSpelling_0_42 m6 l0
noncomputable def f_X10_isPair (m : MM) (l0 : Nat) : Option (RV × MM) :=
  (f_X10_isText m l0).bind fun v1 => if v1 = 0 then (some (.inl (some (aI 0)), m)) else
  bI (f_X10_splitText m l0) (fun v3 m2 => if ¬ v3 = 2 then (some (.inl (some (aI 0)), m2)) else
  nk 52 (gR m2 10 l0 2) fun i4 => ldN m2 52 i4 0 fun v5 => if ¬ v5 = 0 then (some (.inl (some (aI 0)), m2)) else
  some (.inl (some (aI 1)), m2)) x0
noncomputable def b_X11_someBookHasCopy_10 (m : MM) (l1 : Nat) (l2 : Int) (l3 : Int) : Option (Int ⊕ ((Int) ⊕ Unit)) :=
  if l2 ≤ l3 then (some (.inr (.inr ()))) else
  ldR m 56 l1 l3 fun r2 => if r2 = none then (ck (l3 + 1) <| some (.inl (l3 + 1))) else
  nk 0 r2 fun i3 => nk 9 (gR m 0 i3 4) fun i4 => if (gN m 9 i4 5) ≤ 0 then (ck (l3 + 1) <| some (.inl (l3 + 1))) else
  some (.inr (.inl 1))
noncomputable def j_X11_someBookHasCopy_0_44 (m : MM)   : Option (Int) :=
  some 0
noncomputable def f_X11_someBookHasCopy (m : MM) (l0 : Nat) : Option (Int) :=
  nk 56 (gR m 11 l0 3) fun i1 => (lpb (fun s => b_X11_someBookHasCopy_10 m i1 (lenI m 56 i1) s) 0).bind (Sum.elim (fun r => some r) fun z => j_X11_someBookHasCopy_0_44 m)
noncomputable def j_X11_spelling_0_117 (m : MM) (l0 : Nat) (l1 : Int64) (l3 : Int64) (s0 : Int) : Option (RV × MM) :=
  bV (f_X11_requireState m s0) (fun m24 => nk 10 (gR m24 11 l0 0) fun i26 => lt' (sN m24 10 i26 5 0) fun m27 => nk 10 (gR m27 11 l0 0) fun i28 => bI (f_X10_addSpelling m27 i28 l1 l3) (fun v30 m29 => some (.inl (some (aI v30)), m29)) x0) xt
noncomputable def j_X11_spelling_0_116 (m : MM) (l0 : Nat) (l1 : Int64) (l3 : Int64)  : Option (RV × MM) :=
  j_X11_spelling_0_117 m l0 l1 l3 0
noncomputable def j_X11_spelling_0_90 (m : MM) (l0 : Nat) (l1 : Int64) (l3 : Int64) (s0 : Int) : Option (RV × MM) :=
  bV (f_X11_requireArgument m s0) (fun m20 => nk 10 (gR m20 11 l0 0) fun i22 => if 6 ≤ (gN m20 10 i22 6) then (j_X11_spelling_0_116 m20 l0 l1 l3) else
  (f_X11_someBookHasCopy m20 l0).bind fun v23 => if ¬ v23 = 0 then (j_X11_spelling_0_116 m20 l0 l1 l3) else
  j_X11_spelling_0_117 m20 l0 l1 l3 1) xt
noncomputable def j_X11_spelling_0_89 (m : MM) (l0 : Nat) (l1 : Int64) (l3 : Int64)  : Option (RV × MM) :=
  j_X11_spelling_0_90 m l0 l1 l3 0
noncomputable def j_X11_spelling_0_58 (m : MM) (l0 : Nat) (l1 : Int64) (l3 : Int64) (s0 : Int) : Option (RV × MM) :=
  bV (f_X11_requireArgument m s0) (fun m14 => nk 10 (gR m14 11 l0 0) fun i16 => (f_X10_spellingOf m14 i16 l1).bind fun v17 => if ¬ v17 = (-1) then (j_X11_spelling_0_89 m14 l0 l1 l3) else
  nk 10 (gR m14 11 l0 0) fun i18 => (f_X10_spellingOf m14 i18 l3).bind fun v19 => if ¬ v19 = (-1) then (j_X11_spelling_0_89 m14 l0 l1 l3) else
  j_X11_spelling_0_90 m14 l0 l1 l3 1) xt
noncomputable def j_X11_spelling_0_57 (m : MM) (l0 : Nat) (l1 : Int64) (l3 : Int64)  : Option (RV × MM) :=
  j_X11_spelling_0_58 m l0 l1 l3 0
noncomputable def f_X11_spelling (m : MM) (l0 : Nat) : Option (RV × MM) :=
  nk 10 (gR m 11 l0 0) fun i1 => bI (f_X10_isPair m i1) (fun v3 m2 => bV (f_X11_requireArgument m2 v3) (fun m4 => nk 10 (gR m4 11 l0 0) fun i6 => nk 51 (gR m4 10 i6 1) fun i7 => ldL m4 51 i7 0 fun v8 => nk 10 (gR m4 11 l0 0) fun i9 => nk 51 (gR m4 10 i9 1) fun i10 => ldL m4 51 i10 1 fun v11 => (f_X11_letters m4 v11).bind fun v12 => (f_X11_letters m4 v8).bind fun v13 => ck (v12 - v13) <| if (v12 - v13) < 1 then (j_X11_spelling_0_57 m4 l0 v8 v11) else
  if 3 < (v12 - v13) then (j_X11_spelling_0_57 m4 l0 v8 v11) else
  j_X11_spelling_0_58 m4 l0 v8 v11 1) xt) x0
noncomputable def f_L_spelling (m : MM) (l0 : Nat) (l1 : Nat) : Option (RV × MM) :=
  bI (f_X11_spelling m l0) (fun v2 m1 => stL m1 131 l1 0 (i2l v2) fun m3 => some (.inl (some (aI 0)), m3)) (xc xn_ (fun mx => some (.inl (some (aI 1)), mx)) (fun mx => some (.inl (some (aI 2)), mx)))
noncomputable def j_X11_state_0_30 (m : MM) (l2 : Int) (l3 : Int) (l4 : Nat) (s0 : Int) : Option (RV × MM) :=
  bV (f_X11_requireIndex m s0) (fun m6 => bV (f_X11_requireState m6 (gN m6 0 l4 11)) (fun m8 => (f_X0_stateIn m8 l4 l2 l3).bind fun v10 => some (.inl (some (aI v10)), m8)) xt) xt
noncomputable def j_X11_state_0_29 (m : MM) (l2 : Int) (l3 : Int) (l4 : Nat)  : Option (RV × MM) :=
  j_X11_state_0_30 m l2 l3 l4 0
noncomputable def f_X11_state (m : MM) (l0 : Nat) (l1 : Int) (l2 : Int) (l3 : Int) : Option (RV × MM) :=
  bR (f_X11_bookAt m l0 l1) (fun r2 m1 => nk 0 r2 fun i3 => (f_X0_hasCopy m1 i3 l2).bind fun v4 => if v4 = 0 then (j_X11_state_0_29 m1 l2 l3 i3) else
  (f_X0_hasPage m1 i3 l3).bind fun v5 => if v5 = 0 then (j_X11_state_0_29 m1 l2 l3 i3) else
  j_X11_state_0_30 m1 l2 l3 i3 1) xt
noncomputable def f_L_state (m : MM) (l0 : Nat) (l1 : Int) (l2 : Int) (l3 : Int) (l4 : Nat) : Option (RV × MM) :=
  bI (f_X11_state m l0 l1 l2 l3) (fun v2 m1 => stL m1 131 l4 0 (i2l v2) fun m3 => some (.inl (some (aI 0)), m3)) (xc (fun mx => some (.inl (some (aI 1)), mx)) xn_ (fun mx => some (.inl (some (aI 2)), mx)))
noncomputable def f_X10_add (m : MM) (l0 : Nat) (l1 : Int) : Option (RV × MM) :=
  nk 50 (gR m 10 l0 0) fun i1 => if (lenI m 50 i1) ≤ (gN m 10 l0 5) then (some (.inl none, m)) else
  nk 50 (gR m 10 l0 0) fun i2 => stN m 50 i2 (gN m 10 l0 5) l1 fun m3 => ck ((gN m3 10 l0 5) + 1) <| lt' (sN m3 10 l0 5 ((gN m3 10 l0 5) + 1)) fun m4 => some (.inl none, m4)
noncomputable def f_X11_isSign (m : MM) (l0 : Int) : Option (Int) :=
  (f_X11_isLetter m l0).bind fun v1 => if ¬ v1 = 0 then (some 1) else
  if l0 = 32 then (some 1) else
  if ¬ l0 = 47 then (some 0) else
  some 1
noncomputable def b_X11_type_22 (l0 : Nat) (l1 : Int64) (l3 : Int) (l4 : Int) (mm : MM) : Option ((Int × MM) ⊕ ((RV × MM) ⊕ MM)) :=
  if l3 ≤ l4 then (some (.inr (.inr mm))) else
  (f_X11_letterAt mm l1 l4).bind fun v3 => (f_X11_isSign mm v3).bind fun v4 => bV (f_X11_requireArgument mm v4) (fun m5 => ck (l4 + 1) <| some (.inl ((l4 + 1), m5))) xr
noncomputable def b_X11_type_71 (l0 : Nat) (l1 : Int64) (l3 : Int) (l4 : Int) (mm : MM) : Option ((Int × MM) ⊕ (MM)) :=
  if l3 ≤ l4 then (some (.inr mm)) else
  nk 10 (gR mm 11 l0 0) fun i10 => (f_X11_letterAt mm l1 l4).bind fun v11 => bV (f_X10_add mm i10 v11) (fun m12 => ck (l4 + 1) <| some (.inl ((l4 + 1), m12))) x0
noncomputable def j_X11_type_0_96 (m : MM) (l0 : Nat)  : Option (RV × MM) :=
  nk 10 (gR m 11 l0 0) fun i14 => some (.inl (some (aI (gN m 10 i14 5))), m)
noncomputable def j_X11_type_0_65 (m : MM) (l0 : Nat) (l1 : Int64) (l3 : Int) (s0 : Int) : Option (RV × MM) :=
  bV (f_X11_requireState m s0) (fun m8 => (lpb (fun s => b_X11_type_71 l0 l1 l3 s.1 s.2) (0, m8)).bind fun z => j_X11_type_0_96 z l0) xt
noncomputable def j_X11_type_0_46 (m : MM) (l0 : Nat) (l1 : Int64) (l3 : Int)  : Option (RV × MM) :=
  nk 10 (gR m 11 l0 0) fun i7 => ck ((gN m 10 i7 5) + l3) <| if 40 < ((gN m 10 i7 5) + l3) then (j_X11_type_0_65 m l0 l1 l3 0) else
  j_X11_type_0_65 m l0 l1 l3 1
noncomputable def j_X11_type_0_16 (m : MM) (l0 : Nat) (l1 : Int64) (l3 : Int) (s0 : Int) : Option (RV × MM) :=
  bV (f_X11_requireArgument m s0) (fun m1 => (lpb (fun s => b_X11_type_22 l0 l1 l3 s.1 s.2) (0, m1)).bind (Sum.elim (fun r => some r) fun z => j_X11_type_0_46 z l0 l1 l3)) xt
noncomputable def j_X11_type_0_15 (m : MM) (l0 : Nat) (l1 : Int64) (l3 : Int)  : Option (RV × MM) :=
  j_X11_type_0_16 m l0 l1 l3 0
noncomputable def f_X11_type (m : MM) (l0 : Nat) (l1 : Int64) (l3 : Int) : Option (RV × MM) :=
  if l3 < 1 then (j_X11_type_0_15 m l0 l1 l3) else
  if 8 < l3 then (j_X11_type_0_15 m l0 l1 l3) else
  j_X11_type_0_16 m l0 l1 l3 1
noncomputable def f_L_type (m : MM) (l0 : Nat) (l1 : Int64) (l3 : Int) (l4 : Nat) : Option (RV × MM) :=
  bI (f_X11_type m l0 l1 l3) (fun v2 m1 => stL m1 131 l4 0 (i2l v2) fun m3 => some (.inl (some (aI 0)), m3)) (xc xn_ (fun mx => some (.inl (some (aI 1)), mx)) (fun mx => some (.inl (some (aI 2)), mx)))
noncomputable def j_X11_wear_0_29 (m : MM) (l0 : Nat) (l1 : Int) (s0 : Int) : Option (RV × MM) :=
  bV (f_X11_requireState m s0) (fun m8 => nk 1 (gR m8 11 l0 1) fun i10 => nk 21 (gR m8 1 i10 1) fun i11 => ldN m8 21 i11 l1 fun v12 => ck (v12 + 1) <| stN m8 21 i11 l1 (v12 + 1) fun m13 => nk 1 (gR m13 11 l0 1) fun i14 => nk 21 (gR m13 1 i14 1) fun i15 => ldN m13 21 i15 l1 fun v16 => some (.inl (some (aI v16)), m13)) xt
noncomputable def f_X11_wear (m : MM) (l0 : Nat) (l1 : Int) : Option (RV × MM) :=
  nk 1 (gR m 11 l0 1) fun i1 => (f_X1_has m i1 l1).bind fun v2 => bV (f_X11_requireIndex m v2) (fun m3 => nk 1 (gR m3 11 l0 1) fun i5 => nk 21 (gR m3 1 i5 1) fun i6 => ldN m3 21 i6 l1 fun v7 => if 3 ≤ v7 then (j_X11_wear_0_29 m3 l0 l1 0) else
  j_X11_wear_0_29 m3 l0 l1 1) xt
noncomputable def f_L_wear (m : MM) (l0 : Nat) (l1 : Int) (l2 : Nat) : Option (RV × MM) :=
  bI (f_X11_wear m l0 l1) (fun v2 m1 => stL m1 131 l2 0 (i2l v2) fun m3 => some (.inl (some (aI 0)), m3)) (xc (fun mx => some (.inl (some (aI 1)), mx)) xn_ (fun mx => some (.inl (some (aI 2)), mx)))
noncomputable def f_X11_fault (m : MM) (l0 : Nat) : Option (Int) :=
  nk 10 (gR m 11 l0 0) fun i1 => (f_X10_faultPlace m i1).bind fun v2 => some v2
noncomputable def f_X11_hour (m : MM) (l0 : Nat) : Option (Int) :=
  some (gN m 11 l0 10)
noncomputable def f_X10_init (m : MM) (l0 : Nat) : Option (RV × MM) :=
  newA m 50 40 fun m1 => lt' (sR m1 10 l0 0 (some (50, (gC m 50)))) fun m2 => newA m2 51 40 fun m3 => lt' (sR m3 10 l0 1 (some (51, (gC m2 51)))) fun m4 => newA m4 52 40 fun m5 => lt' (sR m5 10 l0 2 (some (52, (gC m4 52)))) fun m6 => newA m6 53 6 fun m7 => lt' (sR m7 10 l0 3 (some (53, (gC m6 53)))) fun m8 => newA m8 54 6 fun m9 => lt' (sR m9 10 l0 4 (some (54, (gC m8 54)))) fun m10 => some (.inl none, m10)
noncomputable def b_X1_init_50 (l0 : Nat) (l1 : Int) (mm : MM) : Option ((Int × MM) ⊕ (MM)) :=
  if 28 ≤ l1 then (some (.inr mm)) else
  nk 24 (gR mm 1 l0 4) fun i11 => stN mm 24 i11 l1 (-1) fun m12 => ck (l1 + 1) <| some (.inl ((l1 + 1), m12))
noncomputable def j_X1_init_0_69 (m : MM)   : Option (RV × MM) :=
  some (.inl none, m)
noncomputable def f_X1_init (m : MM) (l0 : Nat) : Option (RV × MM) :=
  newA m 20 400 fun m1 => lt' (sR m1 1 l0 0 (some (20, (gC m 20)))) fun m2 => newA m2 21 400 fun m3 => lt' (sR m3 1 l0 1 (some (21, (gC m2 21)))) fun m4 => newA m4 22 400 fun m5 => lt' (sR m5 1 l0 2 (some (22, (gC m4 22)))) fun m6 => newA m6 23 400 fun m7 => lt' (sR m7 1 l0 3 (some (23, (gC m6 23)))) fun m8 => newA m8 24 28 fun m9 => lt' (sR m9 1 l0 4 (some (24, (gC m8 24)))) fun m10 => (lpb (fun s => b_X1_init_50 l0 s.1 s.2) (0, m10)).bind fun z => j_X1_init_0_69 z
noncomputable def f_X6_init (m : MM) (l0 : Nat) : Option (RV × MM) :=
  lt' (sN m 6 l0 1 1) fun m1 => some (.inl none, m1)
noncomputable def f_X7_init (m : MM) (l0 : Nat) : Option (RV × MM) :=
  newA m 39 8 fun m1 => lt' (sR m1 7 l0 0 (some (39, (gC m 39)))) fun m2 => newA m2 40 256 fun m3 => lt' (sR m3 7 l0 1 (some (40, (gC m2 40)))) fun m4 => newA m4 41 16 fun m5 => lt' (sR m5 7 l0 2 (some (41, (gC m4 41)))) fun m6 => newA m6 42 16 fun m7 => lt' (sR m7 7 l0 3 (some (42, (gC m6 42)))) fun m8 => newA m8 43 16 fun m9 => lt' (sR m9 7 l0 4 (some (43, (gC m8 43)))) fun m10 => newA m10 44 16 fun m11 => lt' (sR m11 7 l0 5 (some (44, (gC m10 44)))) fun m12 => some (.inl none, m12)
noncomputable def b_X11_init_52 (l0 : Nat) (l1 : Int) (mm : MM) : Option ((Int × MM) ⊕ (MM)) :=
  if 3 ≤ l1 then (some (.inr mm)) else
  nk 57 (gR mm 11 l0 4) fun i15 => lt' (nW mm 6 4) fun m16 => bV (f_X6_init m16 (gC mm 6)) (fun m17 => stR m17 57 i15 l1 (some (6, (gC mm 6))) fun m19 => ck (l1 + 1) <| some (.inl ((l1 + 1), m19))) x0
noncomputable def j_X11_init_0_76 (m : MM) (l0 : Nat)  : Option (RV × MM) :=
  newA m 58 4 fun m20 => lt' (sR m20 11 l0 5 (some (58, (gC m 58)))) fun m21 => lt' (nW m21 7 6) fun m22 => bV (f_X7_init m22 (gC m21 7)) (fun m23 => lt' (sR m23 11 l0 6 (some (7, (gC m21 7)))) fun m25 => some (.inl none, m25)) x0
noncomputable def f_X11_init (m : MM) (l0 : Nat) : Option (RV × MM) :=
  lt' (nW m 10 7) fun m1 => bV (f_X10_init m1 (gC m 10)) (fun m2 => lt' (sR m2 11 l0 0 (some (10, (gC m 10)))) fun m4 => lt' (nW m4 1 6) fun m5 => bV (f_X1_init m5 (gC m4 1)) (fun m6 => lt' (sR m6 11 l0 1 (some (1, (gC m4 1)))) fun m8 => newA m8 55 4 fun m9 => lt' (sR m9 11 l0 2 (some (55, (gC m8 55)))) fun m10 => newA m10 56 3 fun m11 => lt' (sR m11 11 l0 3 (some (56, (gC m10 56)))) fun m12 => newA m12 57 3 fun m13 => lt' (sR m13 11 l0 4 (some (57, (gC m12 57)))) fun m14 => (lpb (fun s => b_X11_init_52 l0 s.1 s.2) (0, m14)).bind fun z => j_X11_init_0_76 z l0) x0) x0
noncomputable def f_X11_wipe (m : MM) (l0 : Nat) : Option (RV × MM) :=
  nk 10 (gR m 11 l0 0) fun i1 => nk 10 (gR m 11 l0 0) fun i2 => lt' (sN m 10 i2 5 0) fun m3 => some (.inl (some (aI (gN m 10 i1 5))), m3)
noncomputable def f_X12_holds (m : MM) (l0 : Nat) (l1 : Int) : Option (RV × MM) :=
  lt' (sN m 12 l0 0 l1) fun m1 => if ¬ l1 = 0 then (some (.inl (some (aI 0)), m1)) else
  some (.inl (some (aI 1)), m1)
noncomputable def f_X12_isIn (m : MM) (l0 : Int) (l1 : Int) (l2 : Int) : Option (Int) :=
  if l0 < l1 then (some 0) else
  if l2 < l0 then (some 0) else
  some 1
noncomputable def f_X12_isHand (m : MM) (l0 : Nat) (l1 : Int) : Option (Int) :=
  ck ((gN m 12 l0 12) - 1) <| (f_X12_isIn m l1 0 ((gN m 12 l0 12) - 1)).bind fun v1 => cb v1 <| some v1
noncomputable def j_X12_account_0_56 (m : MM) (l0 : Nat) (l1 : Int) (l2 : Int) (s0 : Nat) (s1 : Int) : Option (RV × MM) :=
  bI (f_X12_holds m s0 s1) (fun v5 m4 => if ¬ v5 = 0 then (if ¬ l1 = 0 then (if ¬ l1 = 1 then (if ¬ l1 = 2 then (if ¬ l1 = 3 then (nk 125 (gR m4 12 l0 75) fun i6 => ldN m4 125 i6 l2 fun v7 => some (.inl (some (aI v7)), m4)) else
  nk 124 (gR m4 12 l0 73) fun i8 => ldN m4 124 i8 l2 fun v9 => some (.inl (some (aI v9)), m4)) else
  nk 123 (gR m4 12 l0 72) fun i10 => ldN m4 123 i10 l2 fun v11 => some (.inl (some (aI v11)), m4)) else
  nk 72 (gR m4 12 l0 18) fun i12 => ldN m4 72 i12 l2 fun v13 => some (.inl (some (aI v13)), m4)) else
  nk 71 (gR m4 12 l0 17) fun i14 => ldN m4 71 i14 l2 fun v15 => some (.inl (some (aI v15)), m4)) else
  some (.inl (some (aI 0)), m4)) x0
noncomputable def j_X12_account_0_35 (m : MM) (l0 : Nat) (l1 : Int) (l2 : Int) (l3 : Int) (s0 : Int) : Option (RV × MM) :=
  if ¬ l3 = 0 then (if s0 = 0 then (j_X12_account_0_56 m l0 l1 l2 l0 2) else
  j_X12_account_0_56 m l0 l1 l2 l0 0) else
  j_X12_account_0_56 m l0 l1 l2 l0 1
noncomputable def j_X12_account_0_32 (m : MM) (l0 : Nat) (l1 : Int) (l2 : Int) (l3 : Int) (s0 : Int) (s1 : Int) (s2 : Int) : Option (RV × MM) :=
  (f_X12_isIn m s0 s1 s2).bind fun v3 => j_X12_account_0_35 m l0 l1 l2 l3 v3
noncomputable def f_X12_account (m : MM) (l0 : Nat) (l1 : Int) (l2 : Int) : Option (RV × MM) :=
  (f_X12_isIn m l1 0 4).bind fun v1 => if 2 ≤ l1 then (if 4 ≤ l1 then (j_X12_account_0_32 m l0 l1 l2 v1 l2 0 3) else
  j_X12_account_0_32 m l0 l1 l2 v1 l2 0 2) else
  (f_X12_isHand m l0 l2).bind fun v2 => j_X12_account_0_35 m l0 l1 l2 v1 v2
noncomputable def f_X12_formeOf (m : MM) (l0 : Nat) (l1 : Int) (l2 : Int) : Option (Int) :=
  nk 73 (gR m 12 l0 20) fun i1 => ldN m 73 i1 l1 fun v2 => ck (2 * v2) <| dv l2 (2 * v2) <| ck ((l2 % (2 * v2)) + 1) <| nk 73 (gR m 12 l0 20) fun i3 => ldN m 73 i3 l1 fun v4 => ck (2 * v4) <| dv l2 (2 * v4) <| dv ((l2 % (2 * v2)) + 1) 4 <| if 2 ≤ (((l2 % (2 * v2)) + 1) % 4) then (ck ((2 * (l2 / (2 * v4))) + 1) <| some ((2 * (l2 / (2 * v4))) + 1)) else
  ck ((2 * (l2 / (2 * v4))) + 0) <| some ((2 * (l2 / (2 * v4))) + 0)
noncomputable def f_X12_pagesOf (m : MM) (l0 : Nat) (l1 : Int) : Option (Int) :=
  nk 73 (gR m 12 l0 20) fun i1 => ldN m 73 i1 l1 fun v2 => nk 74 (gR m 12 l0 21) fun i3 => ldN m 74 i3 l1 fun v4 => ck ((2 * v2) * v4) <| some ((2 * v2) * v4)
noncomputable def b_X12_seenIn_47 (m : MM) (l0 : Nat) (l1 : Int) (l2 : Int) (l3 : Int) (l4 : Int) (l5 : Int) (l6 : Int) : Option (Int ⊕ ((Int) ⊕ Unit)) :=
  nk 90 (gR m 12 l0 37) fun i4 => ldN m 90 i4 l5 fun v5 => ck ((150 * l5) + v5) <| if ((150 * l5) + v5) ≤ l6 then (some (.inr (.inr ()))) else
  (f_X12_formeOf m l0 l1 l4).bind fun v6 => if ¬ v6 = l2 then (some (.inr (.inr ()))) else
  nk 103 (gR m 12 l0 50) fun i7 => ldN m 103 i7 l6 fun v8 => if ¬ v8 = l3 then (ck (l6 + 1) <| some (.inl (l6 + 1))) else
  nk 104 (gR m 12 l0 51) fun i9 => ldN m 104 i9 l6 fun v10 => some (.inr (.inl v10))
noncomputable def j_X12_seenIn_20_102 (m : MM) (l0 : Nat) (l1 : Int) (l2 : Int) (l3 : Int) (l4 : Int)  : Option (Int ⊕ ((Int) ⊕ Unit)) :=
  ck (l4 + 1) <| some (.inl (l4 + 1))
noncomputable def b_X12_seenIn_20 (m : MM) (l0 : Nat) (l1 : Int) (l2 : Int) (l3 : Int) (l4 : Int) : Option (Int ⊕ ((Int) ⊕ Unit)) :=
  (f_X12_pagesOf m l0 l1).bind fun v3 => if v3 ≤ l4 then (some (.inr (.inr ()))) else
  ck ((16 * l1) + l4) <| ck (150 * ((16 * l1) + l4)) <| (lpb (fun s => b_X12_seenIn_47 m l0 l1 l2 l3 l4 ((16 * l1) + l4) s) (150 * ((16 * l1) + l4))).bind (Sum.elim (fun r => some (.inr (.inl r))) fun z => j_X12_seenIn_20_102 m l0 l1 l2 l3 l4)
noncomputable def j_X12_seenIn_0_108 (m : MM)   : Option (Int) :=
  some 0
noncomputable def f_X12_seenIn (m : MM) (l0 : Nat) (l1 : Int) (l2 : Int) (l3 : Int) : Option (Int) :=
  nk 108 (gR m 12 l0 56) fun i1 => ldN m 108 i1 ((8 * l1) + l2) fun v2 => if 3 ≤ v2 then ((lpb (fun s => b_X12_seenIn_20 m l0 l1 l2 l3 s) 0).bind (Sum.elim (fun r => some r) fun z => j_X12_seenIn_0_108 m)) else
  some 0
noncomputable def b_X12_findSure_11 (l0 : Nat) (l1 : Int) (l2 : Int) (l3 : Int) (mm : MM) : Option ((Int × MM) ⊕ (MM)) :=
  if l2 ≤ l3 then (some (.inr mm)) else
  nk 127 (gR mm 12 l0 77) fun i3 => stN mm 127 i3 l3 0 fun m4 => ck (l3 + 1) <| some (.inl ((l3 + 1), m4))
noncomputable def j_X12_findSure_71_118 (m : MM) (l0 : Nat) (l1 : Int) (l2 : Int) (l3 : Int) (l4 : Int) (l5 : Int) (l6 : Int) (s0 : Nat) (s1 : Int) (s2 : Int) (s3 : Int) : Option ((Int × MM) ⊕ (MM)) :=
  stN m 127 s0 s1 (ior' s2 s3) fun m11 => ck (l6 + 1) <| some (.inl ((l6 + 1), m11))
noncomputable def j_X12_findSure_71_117 (m : MM) (l0 : Nat) (l1 : Int) (l2 : Int) (l3 : Int) (l4 : Int) (l5 : Int) (l6 : Int) (s0 : Nat) (s1 : Int) (s2 : Int) : Option ((Int × MM) ⊕ (MM)) :=
  j_X12_findSure_71_118 m l0 l1 l2 l3 l4 l5 l6 s0 s1 s2 0
noncomputable def b_X12_findSure_71 (l0 : Nat) (l1 : Int) (l2 : Int) (l3 : Int) (l4 : Int) (l5 : Int) (l6 : Int) (mm : MM) : Option ((Int × MM) ⊕ (MM)) :=
  if l2 ≤ l6 then (some (.inr mm)) else
  if l5 ≤ 0 then (some (.inr mm)) else
  nk 127 (gR mm 12 l0 77) fun i8 => ldN mm 127 i8 l4 fun v9 => if l6 = l4 then (j_X12_findSure_71_117 mm l0 l1 l2 l3 l4 l5 l6 i8 l4 v9) else
  (f_X12_seenIn mm l0 l1 l6 l3).bind fun v10 => if v10 ≤ l5 then (j_X12_findSure_71_117 mm l0 l1 l2 l3 l4 l5 l6 i8 l4 v9) else
  j_X12_findSure_71_118 mm l0 l1 l2 l3 l4 l5 l6 i8 l4 v9 (ishl 1 l6)
noncomputable def j_X12_findSure_42_126 (m : MM) (l0 : Nat) (l1 : Int) (l2 : Int) (l3 : Int) (l4 : Int)  : Option ((Int × MM) ⊕ (MM)) :=
  ck (l4 + 1) <| some (.inl ((l4 + 1), m))
noncomputable def b_X12_findSure_42 (l0 : Nat) (l1 : Int) (l2 : Int) (l3 : Int) (l4 : Int) (mm : MM) : Option ((Int × MM) ⊕ (MM)) :=
  if l2 ≤ l4 then (some (.inr mm)) else
  nk 63 (gR mm 12 l0 8) fun i5 => ldN mm 63 i5 l3 fun v6 => if v6 ≤ 1 then (some (.inr mm)) else
  (f_X12_seenIn mm l0 l1 l4 l3).bind fun v7 => (lpb (fun s => b_X12_findSure_71 l0 l1 l2 l3 l4 v7 s.1 s.2) (0, mm)).bind fun z => j_X12_findSure_42_126 z l0 l1 l2 l3 l4
noncomputable def j_X12_findSure_31_132 (m : MM) (l0 : Nat) (l1 : Int) (l2 : Int) (l3 : Int)  : Option ((Int × MM) ⊕ (MM)) :=
  ck (l3 + 1) <| some (.inl ((l3 + 1), m))
noncomputable def b_X12_findSure_31 (l0 : Nat) (l1 : Int) (l2 : Int) (l3 : Int) (mm : MM) : Option ((Int × MM) ⊕ (MM)) :=
  if (gN mm 12 l0 6) ≤ l3 then (some (.inr mm)) else
  (lpb (fun s => b_X12_findSure_42 l0 l1 l2 l3 s.1 s.2) (0, mm)).bind fun z => j_X12_findSure_31_132 z l0 l1 l2 l3
noncomputable def j_X12_findSure_0_138 (m : MM)   : Option (RV × MM) :=
  some (.inl none, m)
noncomputable def j_X12_findSure_0_29 (m : MM) (l0 : Nat) (l1 : Int) (l2 : Int)  : Option (RV × MM) :=
  (lpb (fun s => b_X12_findSure_31 l0 l1 l2 s.1 s.2) (0, m)).bind fun z => j_X12_findSure_0_138 z
noncomputable def f_X12_findSure (m : MM) (l0 : Nat) (l1 : Int) : Option (RV × MM) :=
  nk 74 (gR m 12 l0 21) fun i1 => ldN m 74 i1 l1 fun v2 => ck (2 * v2) <| (lpb (fun s => b_X12_findSure_11 l0 l1 (2 * v2) s.1 s.2) (0, m)).bind fun z => j_X12_findSure_0_29 z l0 l1 (2 * v2)
noncomputable def f_X12_isBook (m : MM) (l0 : Nat) (l1 : Int) : Option (Int) :=
  ck ((gN m 12 l0 19) - 1) <| (f_X12_isIn m l1 0 ((gN m 12 l0 19) - 1)).bind fun v1 => cb v1 <| some v1
noncomputable def f_X12_isForme (m : MM) (l0 : Nat) (l1 : Int) (l2 : Int) : Option (Int) :=
  (f_X12_isBook m l0 l1).bind fun v1 => if v1 = 0 then (some 0) else
  nk 74 (gR m 12 l0 21) fun i2 => ldN m 74 i2 l1 fun v3 => ck ((2 * v3) - 1) <| (f_X12_isIn m l2 0 ((2 * v3) - 1)).bind fun v4 => if v4 = 0 then (some 0) else
  some 1
noncomputable def j_X12_ahead_81_123 (m : MM) (l0 : Nat) (l2 : Int) (l3 : Int) (l5 : Int) (l6 : Int) (l7 : Int) (s0 : Nat) (s1 : Int) (s2 : Int) (s3 : Int) : Option ((Int × MM) ⊕ (MM)) :=
  stN m 127 s0 s1 (ior' s2 s3) fun m15 => ck (l7 + 1) <| some (.inl ((l7 + 1), m15))
noncomputable def b_X12_ahead_81 (l0 : Nat) (l2 : Int) (l3 : Int) (l5 : Int) (l6 : Int) (l7 : Int) (mm : MM) : Option ((Int × MM) ⊕ (MM)) :=
  if l5 ≤ l7 then (some (.inr mm)) else
  nk 127 (gR mm 12 l0 77) fun i9 => ldN mm 127 i9 l7 fun v10 => nk 127 (gR mm 12 l0 77) fun i11 => ldN mm 127 i11 l7 fun v12 => if ¬ (iand (ishr v12 l6) 1) = 1 then (j_X12_ahead_81_123 mm l0 l2 l3 l5 l6 l7 i9 l7 v10 0) else
  nk 127 (gR mm 12 l0 77) fun i13 => ldN mm 127 i13 l6 fun v14 => j_X12_ahead_81_123 mm l0 l2 l3 l5 l6 l7 i9 l7 v10 v14
noncomputable def j_X12_ahead_71_131 (m : MM) (l0 : Nat) (l2 : Int) (l3 : Int) (l5 : Int) (l6 : Int)  : Option ((Int × MM) ⊕ (MM)) :=
  ck (l6 + 1) <| some (.inl ((l6 + 1), m))
noncomputable def b_X12_ahead_71 (l0 : Nat) (l2 : Int) (l3 : Int) (l5 : Int) (l6 : Int) (mm : MM) : Option ((Int × MM) ⊕ (MM)) :=
  if l5 ≤ l6 then (some (.inr mm)) else
  (lpb (fun s => b_X12_ahead_81 l0 l2 l3 l5 l6 s.1 s.2) (0, mm)).bind fun z => j_X12_ahead_71_131 z l0 l2 l3 l5 l6
noncomputable def j_X12_ahead_0_137 (m : MM) (l0 : Nat) (l2 : Int) (l3 : Int)  : Option (RV × MM) :=
  nk 127 (gR m 12 l0 77) fun i16 => ldN m 127 i16 l2 fun v17 => if ¬ (iand (ishr v17 l3) 1) = 1 then (nk 127 (gR m 12 l0 77) fun i18 => ldN m 127 i18 l3 fun v19 => if ¬ (iand (ishr v19 l2) 1) = 1 then (some (.inl (some (aI 0)), m)) else
  some (.inl (some (aI (-1))), m)) else
  some (.inl (some (aI 1)), m)
noncomputable def j_X12_ahead_0_45 (m : MM) (l0 : Nat) (l1 : Int) (l2 : Int) (l3 : Int) (s0 : Nat) (s1 : Int) : Option (RV × MM) :=
  bI (f_X12_holds m s0 s1) (fun v4 m3 => if ¬ v4 = 0 then (nk 74 (gR m3 12 l0 21) fun i5 => ldN m3 74 i5 l1 fun v6 => ck (2 * v6) <| bV (f_X12_findSure m3 l0 l1) (fun m7 => (lpb (fun s => b_X12_ahead_71 l0 l2 l3 (2 * v6) s.1 s.2) (0, m7)).bind fun z => j_X12_ahead_0_137 z l0 l2 l3) x0) else
  some (.inl (some (aI 0)), m3)) x0
noncomputable def j_X12_ahead_0_23 (m : MM) (l0 : Nat) (l1 : Int) (l2 : Int) (l3 : Int) (s0 : Int) : Option (RV × MM) :=
  if ¬ s0 = 0 then (if ¬ l2 = l3 then (j_X12_ahead_0_45 m l0 l1 l2 l3 l0 0) else
  j_X12_ahead_0_45 m l0 l1 l2 l3 l0 2) else
  j_X12_ahead_0_45 m l0 l1 l2 l3 l0 1
noncomputable def j_X12_ahead_0_22 (m : MM) (l0 : Nat) (l1 : Int) (l2 : Int) (l3 : Int)  : Option (RV × MM) :=
  j_X12_ahead_0_23 m l0 l1 l2 l3 0
noncomputable def f_X12_ahead (m : MM) (l0 : Nat) (l1 : Int) (l2 : Int) (l3 : Int) : Option (RV × MM) :=
  (f_X12_isForme m l0 l1 l2).bind fun v1 => if v1 = 0 then (j_X12_ahead_0_22 m l0 l1 l2 l3) else
  (f_X12_isForme m l0 l1 l3).bind fun v2 => if v2 = 0 then (j_X12_ahead_0_22 m l0 l1 l2 l3) else
  j_X12_ahead_0_23 m l0 l1 l2 l3 1
noncomputable def f_X12_isCopy (m : MM) (l0 : Nat) (l1 : Int) (l2 : Int) : Option (Int) :=
  (f_X12_isBook m l0 l1).bind fun v1 => if v1 = 0 then (some 0) else
  nk 77 (gR m 12 l0 24) fun i2 => ldN m 77 i2 l1 fun v3 => ck (v3 - 1) <| (f_X12_isIn m l2 0 (v3 - 1)).bind fun v4 => if v4 = 0 then (some 0) else
  some 1
noncomputable def f_X12_leafAt (m : MM) (l0 : Int) (l1 : Int) (l2 : Int) : Option (Int) :=
  ck ((8 * ((24 * l0) + l1)) + l2) <| some ((8 * ((24 * l0) + l1)) + l2)
noncomputable def b_X12_stateIn_70 (m : MM) (l0 : Nat) (l5 : Int) (l6 : Int) (l7 : Int) (l8 : Int) : Option ((Int × Int) ⊕ (Int)) :=
  nk 111 (gR m 12 l0 59) fun i9 => ldN m 111 i9 l5 fun v10 => if v10 ≤ l8 then (some (.inr l7)) else
  nk 112 (gR m 12 l0 60) fun i11 => ldN m 112 i11 ((26 * l5) + l8) fun v12 => if l6 < v12 then (ck (l8 + 1) <| some (.inl (l7, (l8 + 1)))) else
  ck (l8 + 1) <| some (.inl (l8, (l8 + 1)))
noncomputable def j_X12_stateIn_0_115 (m : MM) (l7 : Int)  : Option (Int) :=
  some l7
noncomputable def j_X12_stateIn_0_62 (m : MM) (l0 : Nat) (l5 : Int) (s0 : Int) : Option (Int) :=
  (lpb (fun s => b_X12_stateIn_70 m l0 l5 s0 s.1 s.2) (0, 1)).bind fun z => j_X12_stateIn_0_115 m z
noncomputable def f_X12_stateIn (m : MM) (l0 : Nat) (l1 : Int) (l2 : Int) (l3 : Int) : Option (Int) :=
  nk 126 (gR m 12 l0 76) fun i1 => dv l3 2 <| (f_X12_leafAt m l1 l2 (l3 / 2)).bind fun v2 => ldN m 126 i1 v2 fun v3 => if ¬ v3 = (-1) then ((f_X12_formeOf m l0 l1 l3).bind fun v4 => ck ((8 * l1) + v4) <| nk 116 (gR m 12 l0 64) fun i5 => ldN m 116 i5 ((8 * l1) + v4) fun v6 => if v6 = 0 then (nk 77 (gR m 12 l0 24) fun i7 => ldN m 77 i7 l1 fun v8 => ck ((v8 - 1) - v3) <| j_X12_stateIn_0_62 m l0 ((8 * l1) + v4) ((v8 - 1) - v3)) else
  j_X12_stateIn_0_62 m l0 ((8 * l1) + v4) v3) else
  some (-1)
noncomputable def b_X12_alike_58 (m : MM) (l0 : Nat) (l1 : Int) (l2 : Int) (l3 : Int) (l4 : Int) (l5 : Int) (l6 : Int) : Option ((Int × Int) ⊕ (Int)) :=
  (f_X12_pagesOf m l0 l1).bind fun v8 => if v8 ≤ l6 then (some (.inr l5)) else
  if l5 = 0 then (some (.inr l5)) else
  (f_X12_stateIn m l0 l1 l4 l6).bind fun v9 => (f_X12_stateIn m l0 l1 l2 l6).bind fun v10 => if ¬ v9 = v10 then (ck (l6 + 1) <| some (.inl (0, (l6 + 1)))) else
  ck (l6 + 1) <| some (.inl (1, (l6 + 1)))
noncomputable def j_X12_alike_41_106 (m : MM) (l0 : Nat) (l1 : Int) (l2 : Int) (l3 : Int) (l4 : Int) (l5 : Int)  : Option ((Int × Int) ⊕ (Int)) :=
  if l5 = 0 then (ck (l3 + 0) <| ck (l4 + 1) <| some (.inl ((l3 + 0), (l4 + 1)))) else
  ck (l3 + 1) <| ck (l4 + 1) <| some (.inl ((l3 + 1), (l4 + 1)))
noncomputable def b_X12_alike_41 (m : MM) (l0 : Nat) (l1 : Int) (l2 : Int) (l3 : Int) (l4 : Int) : Option ((Int × Int) ⊕ (Int)) :=
  nk 77 (gR m 12 l0 24) fun i6 => ldN m 77 i6 l1 fun v7 => if v7 ≤ l4 then (some (.inr l3)) else
  (lpb (fun s => b_X12_alike_58 m l0 l1 l2 l3 l4 s.1 s.2) (1, 0)).bind fun z => j_X12_alike_41_106 m l0 l1 l2 l3 l4 z
noncomputable def j_X12_alike_0_125 (m : MM) (l3 : Int)  : Option (RV × MM) :=
  some (.inl (some (aI l3)), m)
noncomputable def j_X12_alike_0_28 (m : MM) (l0 : Nat) (l1 : Int) (l2 : Int) (s0 : Nat) (s1 : Int) : Option (RV × MM) :=
  bI (f_X12_holds m s0 s1) (fun v5 m4 => if ¬ v5 = 0 then ((lpb (fun s => b_X12_alike_41 m4 l0 l1 l2 s.1 s.2) (0, 0)).bind fun z => j_X12_alike_0_125 m4 z) else
  some (.inl (some (aI 0)), m4)) x0
noncomputable def f_X12_alike (m : MM) (l0 : Nat) (l1 : Int) (l2 : Int) : Option (RV × MM) :=
  (f_X12_isCopy m l0 l1 l2).bind fun v1 => if ¬ v1 = 0 then (nk 79 (gR m 12 l0 26) fun i2 => ldN m 79 i2 l1 fun v3 => if v3 = 0 then (j_X12_alike_0_28 m l0 l1 l2 l0 2) else
  j_X12_alike_0_28 m l0 l1 l2 l0 0) else
  j_X12_alike_0_28 m l0 l1 l2 l0 1
noncomputable def b_X12_bind_28 (m : MM) (l0 : Nat) (l1 : Int) (l2 : Int) (l3 : Int) (l4 : Int) : Option ((Int × Int) ⊕ (Int)) :=
  if l2 = 0 then (some (.inr l3)) else
  nk 74 (gR m 12 l0 21) fun i4 => ldN m 74 i4 l1 fun v5 => ck (2 * v5) <| if (2 * v5) ≤ l4 then (some (.inr l3)) else
  if l3 = 0 then (ck (l4 + 1) <| some (.inl (0, (l4 + 1)))) else
  nk 108 (gR m 12 l0 56) fun i6 => ldN m 108 i6 ((8 * l1) + l4) fun v7 => if v7 < 3 then (ck (l4 + 1) <| some (.inl (0, (l4 + 1)))) else
  ck (l4 + 1) <| some (.inl (1, (l4 + 1)))
noncomputable def b_X12_bind_127 (l0 : Nat) (l1 : Int) (l4 : Int) (l5 : Int) (mm : MM) : Option ((Int × MM) ⊕ (MM)) :=
  (f_X12_pagesOf mm l0 l1).bind fun v14 => dv v14 2 <| if (v14 / 2) ≤ l5 then (some (.inr mm)) else
  nk 126 (gR mm 12 l0 76) fun i15 => (f_X12_leafAt mm l1 l4 l5).bind fun v16 => nk 120 (gR mm 12 l0 68) fun i17 => nk 73 (gR mm 12 l0 20) fun i18 => ldN mm 73 i18 l1 fun v19 => dv l5 v19 <| ldN mm 120 i17 ((4 * l1) + (l5 / v19)) fun v20 => nk 77 (gR mm 12 l0 24) fun i21 => ldN mm 77 i21 l1 fun v22 => ck (l4 + v20) <| dv (l4 + v20) v22 <| stN mm 126 i15 v16 ((l4 + v20) % v22) fun m23 => ck (l5 + 1) <| some (.inl ((l5 + 1), m23))
noncomputable def j_X12_bind_113_186 (m : MM) (l0 : Nat) (l1 : Int) (l4 : Int)  : Option ((Int × MM) ⊕ (MM)) :=
  ck (l4 + 1) <| some (.inl ((l4 + 1), m))
noncomputable def b_X12_bind_113 (l0 : Nat) (l1 : Int) (l4 : Int) (mm : MM) : Option ((Int × MM) ⊕ (MM)) :=
  nk 77 (gR mm 12 l0 24) fun i12 => ldN mm 77 i12 l1 fun v13 => if v13 ≤ l4 then (some (.inr mm)) else
  (lpb (fun s => b_X12_bind_127 l0 l1 l4 s.1 s.2) (0, mm)).bind fun z => j_X12_bind_113_186 z l0 l1 l4
noncomputable def j_X12_bind_0_192 (m : MM) (l0 : Nat) (l1 : Int)  : Option (RV × MM) :=
  nk 77 (gR m 12 l0 24) fun i24 => ldN m 77 i24 l1 fun v25 => some (.inl (some (aI v25)), m)
noncomputable def j_X12_bind_0_95 (m : MM) (l0 : Nat) (l1 : Int) (s0 : Nat) (s1 : Int) : Option (RV × MM) :=
  bI (f_X12_holds m s0 s1) (fun v9 m8 => if ¬ v9 = 0 then (nk 79 (gR m8 12 l0 26) fun i10 => stN m8 79 i10 l1 1 fun m11 => (lpb (fun s => b_X12_bind_113 l0 l1 s.1 s.2) (0, m11)).bind fun z => j_X12_bind_0_192 z l0 l1) else
  some (.inl (some (aI 0)), m8)) x0
noncomputable def j_X12_bind_0_77 (m : MM) (l0 : Nat) (l1 : Int) (l2 : Int) (l3 : Int)  : Option (RV × MM) :=
  if ¬ l2 = 0 then (if l3 = 0 then (j_X12_bind_0_95 m l0 l1 l0 2) else
  j_X12_bind_0_95 m l0 l1 l0 0) else
  j_X12_bind_0_95 m l0 l1 l0 1
noncomputable def j_X12_bind_0_24 (m : MM) (l0 : Nat) (l1 : Int) (l2 : Int) (s0 : Int) : Option (RV × MM) :=
  (lpb (fun s => b_X12_bind_28 m l0 l1 l2 s.1 s.2) (s0, 0)).bind fun z => j_X12_bind_0_77 m l0 l1 l2 z
noncomputable def j_X12_bind_0_23 (m : MM) (l0 : Nat) (l1 : Int) (l2 : Int)  : Option (RV × MM) :=
  j_X12_bind_0_24 m l0 l1 l2 0
noncomputable def f_X12_bind (m : MM) (l0 : Nat) (l1 : Int) : Option (RV × MM) :=
  (f_X12_isBook m l0 l1).bind fun v1 => if v1 = 0 then (j_X12_bind_0_23 m l0 l1 v1) else
  nk 79 (gR m 12 l0 26) fun i2 => ldN m 79 i2 l1 fun v3 => if ¬ v3 = 0 then (j_X12_bind_0_23 m l0 l1 v1) else
  j_X12_bind_0_24 m l0 l1 v1 1
noncomputable def j_X12_book_0_103 (m : MM) (l0 : Nat) (l1 : Int) (l2 : Int) (l3 : Int) (l4 : Int) (l5 : Int) (s0 : Nat) (s1 : Int) : Option (RV × MM) :=
  bI (f_X12_holds m s0 s1) (fun v6 m5 => if ¬ v6 = 0 then (nk 73 (gR m5 12 l0 20) fun i7 => stN m5 73 i7 (gN m5 12 l0 19) l1 fun m8 => nk 74 (gR m8 12 l0 21) fun i9 => stN m8 74 i9 (gN m8 12 l0 19) l2 fun m10 => nk 75 (gR m10 12 l0 22) fun i11 => stN m10 75 i11 (gN m10 12 l0 19) l3 fun m12 => nk 76 (gR m12 12 l0 23) fun i13 => stN m12 76 i13 (gN m12 12 l0 19) l4 fun m14 => nk 77 (gR m14 12 l0 24) fun i15 => stN m14 77 i15 (gN m14 12 l0 19) l5 fun m16 => ck ((gN m16 12 l0 19) + 1) <| lt' (sN m16 12 l0 19 ((gN m16 12 l0 19) + 1)) fun m17 => ck ((gN m17 12 l0 19) - 1) <| some (.inl (some (aI ((gN m17 12 l0 19) - 1))), m17)) else
  some (.inl (some (aI 0)), m5)) x0
noncomputable def j_X12_book_0_78 (m : MM) (l0 : Nat) (l1 : Int) (l2 : Int) (l3 : Int) (l4 : Int) (l5 : Int) (s0 : Int) : Option (RV × MM) :=
  if ¬ s0 = 0 then (if ¬ (gN m 12 l0 19) = 3 then (j_X12_book_0_103 m l0 l1 l2 l3 l4 l5 l0 0) else
  j_X12_book_0_103 m l0 l1 l2 l3 l4 l5 l0 2) else
  j_X12_book_0_103 m l0 l1 l2 l3 l4 l5 l0 1
noncomputable def j_X12_book_0_77 (m : MM) (l0 : Nat) (l1 : Int) (l2 : Int) (l3 : Int) (l4 : Int) (l5 : Int)  : Option (RV × MM) :=
  j_X12_book_0_78 m l0 l1 l2 l3 l4 l5 0
noncomputable def j_X12_book_0_21 (m : MM) (l0 : Nat) (l1 : Int) (l2 : Int) (l3 : Int) (l4 : Int) (l5 : Int) (s0 : Int) : Option (RV × MM) :=
  if s0 = 0 then (j_X12_book_0_77 m l0 l1 l2 l3 l4 l5) else
  dv 8 l1 <| (f_X12_isIn m l2 1 (8 / l1)).bind fun v1 => if v1 = 0 then (j_X12_book_0_77 m l0 l1 l2 l3 l4 l5) else
  (f_X12_isIn m l3 10 24).bind fun v2 => if v2 = 0 then (j_X12_book_0_77 m l0 l1 l2 l3 l4 l5) else
  (f_X12_isIn m l4 1 6).bind fun v3 => if v3 = 0 then (j_X12_book_0_77 m l0 l1 l2 l3 l4 l5) else
  (f_X12_isIn m l5 2 24).bind fun v4 => if v4 = 0 then (j_X12_book_0_77 m l0 l1 l2 l3 l4 l5) else
  j_X12_book_0_78 m l0 l1 l2 l3 l4 l5 1
noncomputable def j_X12_book_0_16 (m : MM) (l0 : Nat) (l1 : Int) (l2 : Int) (l3 : Int) (l4 : Int) (l5 : Int)  : Option (RV × MM) :=
  j_X12_book_0_21 m l0 l1 l2 l3 l4 l5 1
noncomputable def f_X12_book (m : MM) (l0 : Nat) (l1 : Int) (l2 : Int) (l3 : Int) (l4 : Int) (l5 : Int) : Option (RV × MM) :=
  if l1 = 2 then (j_X12_book_0_16 m l0 l1 l2 l3 l4 l5) else
  if l1 = 4 then (j_X12_book_0_16 m l0 l1 l2 l3 l4 l5) else
  if ¬ l1 = 8 then (j_X12_book_0_21 m l0 l1 l2 l3 l4 l5 0) else
  j_X12_book_0_16 m l0 l1 l2 l3 l4 l5
noncomputable def b_X12_box_42 (m : MM) (l0 : Nat) (l2 : Int) (l3 : Int) (l4 : Int) : Option ((Int × Int) ⊕ (Int)) :=
  if l2 ≤ l4 then (some (.inr l3)) else
  if l3 = (-1) then (some (.inr l3)) else
  nk 65 (gR m 12 l0 10) fun i6 => ldN m 65 i6 l3 fun v7 => ck (l4 + 1) <| some (.inl (v7, (l4 + 1)))
noncomputable def j_X12_box_0_66 (m : MM) (l3 : Int)  : Option (RV × MM) :=
  some (.inl (some (aI l3)), m)
noncomputable def j_X12_box_0_24 (m : MM) (l0 : Nat) (l1 : Int) (l2 : Int) (s0 : Nat) (s1 : Int) : Option (RV × MM) :=
  bI (f_X12_holds m s0 s1) (fun v3 m2 => if ¬ v3 = 0 then (nk 66 (gR m2 12 l0 11) fun i4 => ldN m2 66 i4 l1 fun v5 => (lpb (fun s => b_X12_box_42 m2 l0 l2 s.1 s.2) (v5, 0)).bind fun z => j_X12_box_0_66 m2 z) else
  some (.inl (some (aI 0)), m2)) x0
noncomputable def f_X12_box (m : MM) (l0 : Nat) (l1 : Int) (l2 : Int) : Option (RV × MM) :=
  (f_X12_isIn m l1 0 27).bind fun v1 => if ¬ v1 = 0 then (if 0 ≤ l2 then (j_X12_box_0_24 m l0 l1 l2 l0 0) else
  j_X12_box_0_24 m l0 l1 l2 l0 2) else
  j_X12_box_0_24 m l0 l1 l2 l0 1
noncomputable def f_X12_isLeaf (m : MM) (l0 : Nat) (l1 : Int) (l2 : Int) : Option (Int) :=
  (f_X12_isBook m l0 l1).bind fun v1 => if v1 = 0 then (some 0) else
  (f_X12_pagesOf m l0 l1).bind fun v2 => dv v2 2 <| ck ((v2 / 2) - 1) <| (f_X12_isIn m l2 0 ((v2 / 2) - 1)).bind fun v3 => if v3 = 0 then (some 0) else
  some 1
noncomputable def j_X12_cancel_63_97 (m : MM) (l0 : Nat) (l1 : Int) (l3 : Int) (l6 : Int) (s0 : Int) (s1 : Int) : Option ((Int × Int × MM) ⊕ ((Int × MM))) :=
  ck (s0 + s1) <| nk 126 (gR m 12 l0 76) fun i12 => (f_X12_leafAt m l1 l6 l3).bind fun v13 => stN m 126 i12 v13 (-1) fun m14 => ck (l6 + 1) <| some (.inl ((s0 + s1), (l6 + 1), m14))
noncomputable def b_X12_cancel_63 (l0 : Nat) (l1 : Int) (l3 : Int) (l5 : Int) (l6 : Int) (mm : MM) : Option ((Int × Int × MM) ⊕ ((Int × MM))) :=
  nk 77 (gR mm 12 l0 24) fun i7 => ldN mm 77 i7 l1 fun v8 => if v8 ≤ l6 then (some (.inr (l5, mm))) else
  nk 126 (gR mm 12 l0 76) fun i9 => (f_X12_leafAt mm l1 l6 l3).bind fun v10 => ldN mm 126 i9 v10 fun v11 => if ¬ v11 = (-1) then (j_X12_cancel_63_97 mm l0 l1 l3 l6 l5 1) else
  j_X12_cancel_63_97 mm l0 l1 l3 l6 l5 0
noncomputable def j_X12_cancel_0_119 (m : MM) (l5 : Int)  : Option (RV × MM) :=
  some (.inl (some (aI l5)), m)
noncomputable def j_X12_cancel_0_49 (m : MM) (l0 : Nat) (l1 : Int) (l2 : Int) (l3 : Int) (s0 : Nat) (s1 : Int) : Option (RV × MM) :=
  bI (f_X12_holds m s0 s1) (fun v6 m5 => if ¬ v6 = 0 then ((lpb (fun s => b_X12_cancel_63 l0 l1 l3 s.1 s.2.1 s.2.2) (0, l2, m5)).bind fun z => j_X12_cancel_0_119 (z.2) (z.1)) else
  some (.inl (some (aI 0)), m5)) x0
noncomputable def j_X12_cancel_0_23 (m : MM) (l0 : Nat) (l1 : Int) (l2 : Int) (l3 : Int) (s0 : Int) : Option (RV × MM) :=
  if ¬ s0 = 0 then (nk 79 (gR m 12 l0 26) fun i3 => ldN m 79 i3 l1 fun v4 => if v4 = 0 then (j_X12_cancel_0_49 m l0 l1 l2 l3 l0 2) else
  j_X12_cancel_0_49 m l0 l1 l2 l3 l0 0) else
  j_X12_cancel_0_49 m l0 l1 l2 l3 l0 1
noncomputable def j_X12_cancel_0_22 (m : MM) (l0 : Nat) (l1 : Int) (l2 : Int) (l3 : Int)  : Option (RV × MM) :=
  j_X12_cancel_0_23 m l0 l1 l2 l3 0
noncomputable def f_X12_cancel (m : MM) (l0 : Nat) (l1 : Int) (l2 : Int) (l3 : Int) : Option (RV × MM) :=
  (f_X12_isCopy m l0 l1 l2).bind fun v1 => if v1 = 0 then (j_X12_cancel_0_22 m l0 l1 l2 l3) else
  (f_X12_isLeaf m l0 l1 l3).bind fun v2 => if v2 = 0 then (j_X12_cancel_0_22 m l0 l1 l2 l3) else
  j_X12_cancel_0_23 m l0 l1 l2 l3 1
noncomputable def f_X12_puts (m : MM) (l0 : Nat) (l1 : Int) (l2 : Int) : Option (RV × MM) :=
  nk 65 (gR m 12 l0 10) fun i1 => nk 66 (gR m 12 l0 11) fun i2 => ldN m 66 i2 l1 fun v3 => stN m 65 i1 l2 v3 fun m4 => nk 66 (gR m4 12 l0 11) fun i5 => stN m4 66 i5 l1 l2 fun m6 => nk 64 (gR m6 12 l0 9) fun i7 => stN m6 64 i7 l2 l1 fun m8 => some (.inl none, m8)
noncomputable def b_X12_cast_52 (l0 : Nat) (l1 : Int) (l2 : Int) (l3 : Int) (mm : MM) : Option ((Int × MM) ⊕ (MM)) :=
  if l2 ≤ l3 then (some (.inr mm)) else
  nk 62 (gR mm 12 l0 7) fun i5 => stN mm 62 i5 (gN mm 12 l0 6) l1 fun m6 => nk 63 (gR m6 12 l0 8) fun i7 => stN m6 63 i7 (gN m6 12 l0 6) 0 fun m8 => bV (f_X12_puts m8 l0 l1 (gN m8 12 l0 6)) (fun m9 => ck ((gN m9 12 l0 6) + 1) <| lt' (sN m9 12 l0 6 ((gN m9 12 l0 6) + 1)) fun m11 => ck (l3 + 1) <| some (.inl ((l3 + 1), m11))) x0
noncomputable def j_X12_cast_0_102 (m : MM) (l0 : Nat)  : Option (RV × MM) :=
  some (.inl (some (aI (gN m 12 l0 6))), m)
noncomputable def j_X12_cast_0_42 (m : MM) (l0 : Nat) (l1 : Int) (l2 : Int) (s0 : Nat) (s1 : Int) : Option (RV × MM) :=
  bI (f_X12_holds m s0 s1) (fun v4 m3 => if ¬ v4 = 0 then ((lpb (fun s => b_X12_cast_52 l0 l1 l2 s.1 s.2) (0, m3)).bind fun z => j_X12_cast_0_102 z l0) else
  some (.inl (some (aI 0)), m3)) x0
noncomputable def j_X12_cast_0_21 (m : MM) (l0 : Nat) (l1 : Int) (l2 : Int) (s0 : Nat) : Option (RV × MM) :=
  j_X12_cast_0_42 m l0 l1 l2 s0 1
noncomputable def f_X12_cast (m : MM) (l0 : Nat) (l1 : Int) (l2 : Int) : Option (RV × MM) :=
  (f_X12_isIn m l1 0 27).bind fun v1 => if v1 = 0 then (j_X12_cast_0_21 m l0 l1 l2 l0) else
  (f_X12_isIn m l2 1 40).bind fun v2 => if ¬ v2 = 0 then (ck ((gN m 12 l0 6) + l2) <| if ((gN m 12 l0 6) + l2) ≤ 400 then (j_X12_cast_0_42 m l0 l1 l2 l0 0) else
  j_X12_cast_0_42 m l0 l1 l2 l0 2) else
  j_X12_cast_0_21 m l0 l1 l2 l0
noncomputable def b_X12_letters_2 (m : MM) (l0 : Int64) (l2 : Int) : Option (Int ⊕ (Int)) :=
  ck (5 * l2) <| if (lcm' (lshr l0 (5 * l2)) 0) ≤ 0 then (some (.inr l2)) else
  ck (l2 + 1) <| some (.inl (l2 + 1))
noncomputable def j_X12_letters_0_18 (m : MM) (l2 : Int)  : Option (Int) :=
  some l2
noncomputable def f_X12_letters (m : MM) (l0 : Int64) : Option (Int) :=
  (lpb (fun s => b_X12_letters_2 m l0 s) 0).bind fun z => j_X12_letters_0_18 m z
noncomputable def j_X12_castFrom_30_54 (m : MM) (l0 : Nat) (l1 : Int) (l2 : Int) (l3 : Int) (l4 : Int) (l5 : Int) (s0 : Int) (s1 : Int) (s2 : Int) : Option ((Int × Int) ⊕ (Int)) :=
  ck (s1 * s2) <| if (s1 * s2) ≤ s0 then (some (.inr l5)) else
  nk 81 (gR m 12 l0 28) fun i9 => ldL m 81 i9 ((60 * l1) + l5) fun v10 => (f_X12_letters m v10).bind fun v11 => ck (l4 + (v11 + 1)) <| ck (l5 + 1) <| some (.inl ((l4 + (v11 + 1)), (l5 + 1)))
noncomputable def b_X12_castFrom_30 (m : MM) (l0 : Nat) (l1 : Int) (l2 : Int) (l3 : Int) (l4 : Int) (l5 : Int) : Option ((Int × Int) ⊕ (Int)) :=
  nk 80 (gR m 12 l0 27) fun i7 => ldN m 80 i7 l1 fun v8 => if v8 ≤ l5 then (some (.inr l5)) else
  if l3 ≤ 1 then (j_X12_castFrom_30_54 m l0 l1 l2 l3 l4 l5 l4 l2 1) else
  j_X12_castFrom_30_54 m l0 l1 l2 l3 l4 l5 l4 l2 l3
noncomputable def j_X12_castFrom_0_86 (m : MM) (l5 : Int)  : Option (Int) :=
  some l5
noncomputable def f_X12_castFrom (m : MM) (l0 : Nat) (l1 : Int) (l2 : Int) : Option (Int) :=
  nk 75 (gR m 12 l0 22) fun i1 => ldN m 75 i1 l1 fun v2 => nk 76 (gR m 12 l0 23) fun i3 => ldN m 76 i3 l1 fun v4 => nk 78 (gR m 12 l0 25) fun i5 => ldN m 78 i5 l1 fun v6 => ck ((v2 * v4) * v6) <| dv ((v2 * v4) * v6) 100 <| (lpb (fun s => b_X12_castFrom_30 m l0 l1 l2 (((v2 * v4) * v6) / 100) s.1 s.2) (0, 0)).bind fun z => j_X12_castFrom_0_86 m z
noncomputable def b_X12_hasSet_4 (m : MM) (l0 : Nat) (l1 : Int) (l2 : Int) (l3 : Int) : Option ((Int × Int) ⊕ (Int)) :=
  (f_X12_pagesOf m l0 l1).bind fun v1 => if v1 ≤ l3 then (some (.inr l2)) else
  if ¬ l2 = 0 then (ck (l3 + 1) <| some (.inl (1, (l3 + 1)))) else
  nk 83 (gR m 12 l0 30) fun i2 => ldN m 83 i2 ((16 * l1) + l3) fun v3 => if v3 = 0 then (ck (l3 + 1) <| some (.inl (0, (l3 + 1)))) else
  ck (l3 + 1) <| some (.inl (1, (l3 + 1)))
noncomputable def j_X12_hasSet_0_43 (m : MM) (l2 : Int)  : Option (Int) :=
  cb l2 <| some l2
noncomputable def f_X12_hasSet (m : MM) (l0 : Nat) (l1 : Int) : Option (Int) :=
  (lpb (fun s => b_X12_hasSet_4 m l0 l1 s.1 s.2) (0, 0)).bind fun z => j_X12_hasSet_0_43 m z
noncomputable def j_X12_castOff_0_78 (m : MM) (l0 : Nat) (l1 : Int) (l2 : Int) (s0 : Nat) (s1 : Int) : Option (RV × MM) :=
  bI (f_X12_holds m s0 s1) (fun v9 m8 => if ¬ v9 = 0 then (nk 78 (gR m8 12 l0 25) fun i10 => stN m8 78 i10 l1 l2 fun m11 => (f_X12_pagesOf m11 l0 l1).bind fun v12 => ck (v12 - 1) <| (f_X12_castFrom m11 l0 l1 (v12 - 1)).bind fun v13 => some (.inl (some (aI v13)), m11)) else
  some (.inl (some (aI 0)), m8)) x0
noncomputable def j_X12_castOff_0_41 (m : MM) (l0 : Nat) (l1 : Int) (l2 : Int) (l3 : Int) (s0 : Int) : Option (RV × MM) :=
  if ¬ l3 = 0 then ((f_X12_isIn m l2 50 150).bind fun v7 => if ¬ v7 = 0 then (if s0 = 0 then (j_X12_castOff_0_78 m l0 l1 l2 l0 3) else
  j_X12_castOff_0_78 m l0 l1 l2 l0 0) else
  j_X12_castOff_0_78 m l0 l1 l2 l0 2) else
  j_X12_castOff_0_78 m l0 l1 l2 l0 1
noncomputable def j_X12_castOff_0_40 (m : MM) (l0 : Nat) (l1 : Int) (l2 : Int) (l3 : Int)  : Option (RV × MM) :=
  j_X12_castOff_0_41 m l0 l1 l2 l3 0
noncomputable def f_X12_castOff (m : MM) (l0 : Nat) (l1 : Int) (l2 : Int) : Option (RV × MM) :=
  (f_X12_isBook m l0 l1).bind fun v1 => if v1 = 0 then (j_X12_castOff_0_40 m l0 l1 l2 v1) else
  nk 80 (gR m 12 l0 27) fun i2 => ldN m 80 i2 l1 fun v3 => if v3 ≤ 0 then (j_X12_castOff_0_40 m l0 l1 l2 v1) else
  nk 78 (gR m 12 l0 25) fun i4 => ldN m 78 i4 l1 fun v5 => if ¬ v5 = 0 then (j_X12_castOff_0_40 m l0 l1 l2 v1) else
  (f_X12_hasSet m l0 l1).bind fun v6 => if ¬ v6 = 0 then (j_X12_castOff_0_40 m l0 l1 l2 v1) else
  j_X12_castOff_0_41 m l0 l1 l2 v1 1
noncomputable def b_X12_glyphIn_22 (m : MM) (l0 : Nat) (l1 : Int) (l2 : Int) (l3 : Int) (l4 : Int) : Option ((Int × Int) ⊕ (Int)) :=
  if (gN m 12 l0 52) ≤ l4 then (some (.inr l3)) else
  nk 105 (gR m 12 l0 53) fun i3 => ldN m 105 i3 l4 fun v4 => if ¬ v4 = l1 then (ck (l4 + 1) <| some (.inl (l3, (l4 + 1)))) else
  nk 106 (gR m 12 l0 54) fun i5 => ldN m 106 i5 l4 fun v6 => if l2 < v6 then (ck (l4 + 1) <| some (.inl (l3, (l4 + 1)))) else
  nk 107 (gR m 12 l0 55) fun i7 => ldN m 107 i7 l4 fun v8 => ck (l4 + 1) <| some (.inl (v8, (l4 + 1)))
noncomputable def j_X12_glyphIn_0_71 (m : MM) (l3 : Int)  : Option (Int) :=
  some l3
noncomputable def f_X12_glyphIn (m : MM) (l0 : Nat) (l1 : Int) (l2 : Int) : Option (Int) :=
  if ¬ l2 = (-1) then (nk 102 (gR m 12 l0 49) fun i1 => ldN m 102 i1 l1 fun v2 => (lpb (fun s => b_X12_glyphIn_22 m l0 l1 l2 s.1 s.2) (v2, 0)).bind fun z => j_X12_glyphIn_0_71 m z) else
  nk 99 (gR m 12 l0 46) fun i9 => ldN m 99 i9 l1 fun v10 => some v10
noncomputable def f_X12_isPage (m : MM) (l0 : Nat) (l1 : Int) (l2 : Int) : Option (Int) :=
  (f_X12_isBook m l0 l1).bind fun v1 => if v1 = 0 then (some 0) else
  (f_X12_pagesOf m l0 l1).bind fun v2 => ck (v2 - 1) <| (f_X12_isIn m l2 0 (v2 - 1)).bind fun v3 => if v3 = 0 then (some 0) else
  some 1
noncomputable def j_X12_character_236_279 (m : MM) (l0 : Nat) (l7 : Int) (l8 : Int) (l9 : Int) (l10 : Int) (l11 : Int) (l12 : Int) (l13 : Int) (l14 : Int) (s0 : Int) : Option ((Int × Int) ⊕ ((RV × MM) ⊕ Int)) :=
  if s0 ≤ l10 then (ck (l10 - s0) <| ck (l13 + 1) <| some (.inl ((l10 - s0), (l13 + 1)))) else
  if ¬ s0 = 2 then (if ¬ l14 = 28 then (ck (97 + l14) <| some (.inr (.inl (.inl (some (aI (97 + l14))), m)))) else
  some (.inr (.inl (.inl (some (aI 46)), m)))) else
  if ¬ l10 = 0 then (if ¬ l14 = 26 then (some (.inr (.inl (.inl (some (aI 108)), m)))) else
  some (.inr (.inl (.inl (some (aI 105)), m)))) else
  some (.inr (.inl (.inl (some (aI 102)), m)))
noncomputable def j_X12_character_236_274 (m : MM) (l0 : Nat) (l7 : Int) (l8 : Int) (l9 : Int) (l10 : Int) (l11 : Int) (l12 : Int) (l13 : Int) (l14 : Int)  : Option ((Int × Int) ⊕ ((RV × MM) ⊕ Int)) :=
  j_X12_character_236_279 m l0 l7 l8 l9 l10 l11 l12 l13 l14 2
noncomputable def b_X12_character_236 (m : MM) (l0 : Nat) (l7 : Int) (l8 : Int) (l9 : Int) (l11 : Int) (l12 : Int) (l10 : Int) (l13 : Int) : Option ((Int × Int) ⊕ ((RV × MM) ⊕ Int)) :=
  if l12 ≤ l13 then (some (.inr (.inr l10))) else
  ck ((150 * l7) + l13) <| (f_X12_glyphIn m l0 ((150 * l7) + l13) l8).bind fun v29 => if v29 = 26 then (j_X12_character_236_274 m l0 l7 l8 l9 l10 l11 l12 l13 v29) else
  if ¬ v29 = 27 then (j_X12_character_236_279 m l0 l7 l8 l9 l10 l11 l12 l13 v29 1) else
  j_X12_character_236_274 m l0 l7 l8 l9 l10 l11 l12 l13 v29
noncomputable def j_X12_character_121_352 (m : MM) (l0 : Nat) (l7 : Int) (l8 : Int) (l9 : Int) (l10 : Int) (l11 : Int)  : Option ((Int × Int) ⊕ ((RV × MM) ⊕ Unit)) :=
  ck (l11 + 1) <| some (.inl (l10, (l11 + 1)))
noncomputable def j_X12_character_121_219 (m : MM) (l0 : Nat) (l7 : Int) (l8 : Int) (l9 : Int) (l10 : Int) (l11 : Int) (s0 : Int) : Option ((Int × Int) ⊕ ((RV × MM) ⊕ Unit)) :=
  nk 98 (gR m 12 l0 45) fun i27 => ldN m 98 i27 ((60 * l7) + l11) fun v28 => (lpb (fun s => b_X12_character_236 m l0 l7 l8 l9 l11 s0 s.1 s.2) (l10, v28)).bind (Sum.elim (fun r => some (.inr (.inl r))) fun z => j_X12_character_121_352 m l0 l7 l8 l9 z l11)
noncomputable def b_X12_character_121 (m : MM) (l0 : Nat) (l7 : Int) (l8 : Int) (l9 : Int) (l10 : Int) (l11 : Int) : Option ((Int × Int) ⊕ ((RV × MM) ⊕ Unit)) :=
  nk 91 (gR m 12 l0 38) fun i13 => ldN m 91 i13 l9 fun v14 => nk 92 (gR m 12 l0 39) fun i15 => ldN m 92 i15 l9 fun v16 => ck (v14 + v16) <| if (v14 + v16) ≤ l11 then (some (.inr (.inr ()))) else
  nk 97 (gR m 12 l0 44) fun i17 => ldN m 97 i17 ((60 * l7) + l11) fun v18 => if v18 ≤ l10 then (nk 97 (gR m 12 l0 44) fun i19 => ldN m 97 i19 ((60 * l7) + l11) fun v20 => ck (l10 - v20) <| nk 89 (gR m 12 l0 36) fun i21 => ldN m 89 i21 l7 fun v22 => ck (l11 + 1) <| if v22 ≤ (l11 + 1) then (nk 90 (gR m 12 l0 37) fun i23 => ldN m 90 i23 l7 fun v24 => j_X12_character_121_219 m l0 l7 l8 l9 (l10 - v20) l11 v24) else
  nk 98 (gR m 12 l0 45) fun i25 => ldN m 98 i25 (((60 * l7) + l11) + 1) fun v26 => j_X12_character_121_219 m l0 l7 l8 l9 (l10 - v20) l11 v26) else
  some (.inr (.inl (.inl (some (aI 32)), m)))
noncomputable def j_X12_character_0_358 (m : MM)   : Option (RV × MM) :=
  some (.inl (some (aI (-1))), m)
noncomputable def j_X12_character_0_59 (m : MM) (l0 : Nat) (l1 : Int) (l2 : Int) (l3 : Int) (l4 : Int) (l5 : Int) (s0 : Nat) (s1 : Int) : Option (RV × MM) :=
  bI (f_X12_holds m s0 s1) (fun v6 m5 => if ¬ v6 = 0 then (ck ((16 * l1) + l3) <| nk 88 (gR m5 12 l0 35) fun i7 => ldN m5 88 i7 ((16 * l1) + l3) fun v8 => if l4 < v8 then ((f_X12_stateIn m5 l0 l1 l2 l3).bind fun v9 => ck ((6 * ((16 * l1) + l3)) + l4) <| lt0 ((6 * ((16 * l1) + l3)) + l4) fun v10 => nk 91 (gR m5 12 l0 38) fun i11 => ldN m5 91 i11 v10 fun v12 => (lpb (fun s => b_X12_character_121 m5 l0 ((16 * l1) + l3) v9 v10 s.1 s.2) (l5, v12)).bind (Sum.elim (fun r => some r) fun z => j_X12_character_0_358 m5)) else
  some (.inl (some (aI (-1))), m5)) else
  some (.inl (some (aI 0)), m5)) x0
noncomputable def j_X12_character_0_33 (m : MM) (l0 : Nat) (l1 : Int) (l2 : Int) (l3 : Int) (l4 : Int) (l5 : Int) (s0 : Int) : Option (RV × MM) :=
  if ¬ s0 = 0 then (nk 79 (gR m 12 l0 26) fun i3 => ldN m 79 i3 l1 fun v4 => if v4 = 0 then (j_X12_character_0_59 m l0 l1 l2 l3 l4 l5 l0 2) else
  j_X12_character_0_59 m l0 l1 l2 l3 l4 l5 l0 0) else
  j_X12_character_0_59 m l0 l1 l2 l3 l4 l5 l0 1
noncomputable def j_X12_character_0_32 (m : MM) (l0 : Nat) (l1 : Int) (l2 : Int) (l3 : Int) (l4 : Int) (l5 : Int)  : Option (RV × MM) :=
  j_X12_character_0_33 m l0 l1 l2 l3 l4 l5 0
noncomputable def f_X12_character (m : MM) (l0 : Nat) (l1 : Int) (l2 : Int) (l3 : Int) (l4 : Int) (l5 : Int) : Option (RV × MM) :=
  (f_X12_isCopy m l0 l1 l2).bind fun v1 => if v1 = 0 then (j_X12_character_0_32 m l0 l1 l2 l3 l4 l5) else
  (f_X12_isPage m l0 l1 l3).bind fun v2 => if v2 = 0 then (j_X12_character_0_32 m l0 l1 l2 l3 l4 l5) else
  if l4 < 0 then (j_X12_character_0_32 m l0 l1 l2 l3 l4 l5) else
  if l5 < 0 then (j_X12_character_0_32 m l0 l1 l2 l3 l4 l5) else
  j_X12_character_0_33 m l0 l1 l2 l3 l4 l5 1
noncomputable def b_X12_tapeFrom_4 (m : MM) (l0 : Nat) (l1 : Int) (l2 : Int) (l3 : Int) : Option ((Int × Int) ⊕ (Int)) :=
  if l1 ≤ l2 then (some (.inr l3)) else
  nk 59 (gR m 12 l0 2) fun i1 => ldN m 59 i1 l3 fun v2 => (f_X12_isIn m v2 97 122).bind fun v3 => if v3 = 0 then (ck (l2 + 1) <| ck (l3 + 1) <| some (.inl ((l2 + 1), (l3 + 1)))) else
  ck (l2 + 0) <| ck (l3 + 1) <| some (.inl ((l2 + 0), (l3 + 1)))
noncomputable def j_X12_tapeFrom_0_39 (m : MM) (l3 : Int)  : Option (Int) :=
  some l3
noncomputable def f_X12_tapeFrom (m : MM) (l0 : Nat) (l1 : Int) : Option (Int) :=
  (lpb (fun s => b_X12_tapeFrom_4 m l0 l1 s.1 s.2) (0, 0)).bind fun z => j_X12_tapeFrom_0_39 m z
noncomputable def b_X12_tapeEnds_6 (m : MM) (l0 : Nat) (l2 : Int) : Option (Int ⊕ (Int)) :=
  if (gN m 12 l0 1) ≤ l2 then (some (.inr l2)) else
  nk 59 (gR m 12 l0 2) fun i2 => ldN m 59 i2 l2 fun v3 => (f_X12_isIn m v3 97 122).bind fun v4 => if v4 = 0 then (some (.inr l2)) else
  ck (l2 + 1) <| some (.inl (l2 + 1))
noncomputable def j_X12_tapeEnds_0_36 (m : MM) (l0 : Nat) (l2 : Int)  : Option (Int) :=
  if l2 = (gN m 12 l0 1) then (some 1) else
  nk 59 (gR m 12 l0 2) fun i5 => ldN m 59 i5 l2 fun v6 => if ¬ v6 = 47 then (some 0) else
  some 1
noncomputable def f_X12_tapeEnds (m : MM) (l0 : Nat) (l1 : Int) : Option (Int) :=
  (f_X12_tapeFrom m l0 l1).bind fun v1 => (lpb (fun s => b_X12_tapeEnds_6 m l0 s) v1).bind fun z => j_X12_tapeEnds_0_36 m l0 z
noncomputable def j_X12_tapeFault_4_45 (m : MM) (l0 : Nat) (l1 : Int) (l2 : Int) (l3 : Int)  : Option ((Int × Int) ⊕ ((Int) ⊕ Int)) :=
  if l3 = 0 then (ck (l2 + 1) <| some (.inl (0, (l2 + 1)))) else
  ck (l1 + 1) <| ck (l2 + 1) <| some (.inl ((l1 + 1), (l2 + 1)))
noncomputable def b_X12_tapeFault_4 (m : MM) (l0 : Nat) (l1 : Int) (l2 : Int) : Option ((Int × Int) ⊕ ((Int) ⊕ Int)) :=
  if (gN m 12 l0 1) ≤ l2 then (some (.inr (.inr l1))) else
  nk 59 (gR m 12 l0 2) fun i1 => ldN m 59 i1 l2 fun v2 => (f_X12_isIn m v2 97 122).bind fun v3 => if v3 = 0 then (if ¬ l1 = 0 then (j_X12_tapeFault_4_45 m l0 l1 l2 v3) else
  some (.inr (.inl l2))) else
  if ¬ l1 = 8 then (j_X12_tapeFault_4_45 m l0 l1 l2 v3) else
  some (.inr (.inl l2))
noncomputable def j_X12_tapeFault_0_63 (m : MM) (l0 : Nat) (l1 : Int)  : Option (Int) :=
  if ¬ l1 = 0 then (some (-1)) else
  some (gN m 12 l0 1)
noncomputable def f_X12_tapeFault (m : MM) (l0 : Nat) : Option (Int) :=
  (lpb (fun s => b_X12_tapeFault_4 m l0 s.1 s.2) (0, 0)).bind (Sum.elim (fun r => some r) fun z => j_X12_tapeFault_0_63 m l0 z)
noncomputable def b_X12_tapeWord_13 (m : MM) (l0 : Nat) (l4 : Int) (l2 : Int64) (l5 : Int) : Option ((Int64 × Int) ⊕ (Int64)) :=
  if (gN m 12 l0 1) ≤ l5 then (some (.inr l2)) else
  nk 59 (gR m 12 l0 2) fun i2 => ldN m 59 i2 l5 fun v3 => (f_X12_isIn m v3 97 122).bind fun v4 => if v4 = 0 then (some (.inr l2)) else
  nk 59 (gR m 12 l0 2) fun i5 => ldN m 59 i5 l5 fun v6 => ck ((v6 - 97) + 1) <| ck (5 * (l5 - l4)) <| lt1 (l2 ||| (lshl (i2l ((v6 - 97) + 1)) (5 * (l5 - l4)))) fun v7 => ck (l5 + 1) <| some (.inl (v7, (l5 + 1)))
noncomputable def j_X12_tapeWord_0_69 (m : MM) (l2 : Int64)  : Option (Int64) :=
  some l2
noncomputable def f_X12_tapeWord (m : MM) (l0 : Nat) (l1 : Int) : Option (Int64) :=
  (f_X12_tapeFrom m l0 l1).bind fun v1 => (lpb (fun s => b_X12_tapeWord_13 m l0 v1 s.1 s.2) (0, v1)).bind fun z => j_X12_tapeWord_0_69 m z
noncomputable def b_X12_tapeWords_4 (m : MM) (l0 : Nat) (l1 : Int) (l2 : Int) : Option ((Int × Int) ⊕ (Int)) :=
  if (gN m 12 l0 1) ≤ l2 then (some (.inr l1)) else
  nk 59 (gR m 12 l0 2) fun i1 => ldN m 59 i1 l2 fun v2 => (f_X12_isIn m v2 97 122).bind fun v3 => if v3 = 0 then (ck (l1 + 1) <| ck (l2 + 1) <| some (.inl ((l1 + 1), (l2 + 1)))) else
  ck (l1 + 0) <| ck (l2 + 1) <| some (.inl ((l1 + 0), (l2 + 1)))
noncomputable def j_X12_tapeWords_0_42 (m : MM) (l1 : Int)  : Option (Int) :=
  some l1
noncomputable def f_X12_tapeWords (m : MM) (l0 : Nat) : Option (Int) :=
  (lpb (fun s => b_X12_tapeWords_4 m l0 s.1 s.2) (1, 0)).bind fun z => j_X12_tapeWords_0_42 m z
noncomputable def b_X12_copy_112 (l0 : Nat) (l1 : Int) (l5 : Int) (l6 : Int) (mm : MM) : Option ((Int × MM) ⊕ (MM)) :=
  if l5 ≤ l6 then (some (.inr mm)) else
  nk 81 (gR mm 12 l0 28) fun i12 => nk 80 (gR mm 12 l0 27) fun i13 => ldN mm 80 i13 l1 fun v14 => (f_X12_tapeWord mm l0 l6).bind fun v15 => stL mm 81 i12 ((60 * l1) + v14) v15 fun m16 => nk 82 (gR m16 12 l0 29) fun i17 => nk 80 (gR m16 12 l0 27) fun i18 => ldN m16 80 i18 l1 fun v19 => (f_X12_tapeEnds m16 l0 l6).bind fun v20 => cb v20 <| stN m16 82 i17 ((60 * l1) + v19) v20 fun m21 => nk 80 (gR m21 12 l0 27) fun i22 => ldN m21 80 i22 l1 fun v23 => ck (v23 + 1) <| stN m21 80 i22 l1 (v23 + 1) fun m24 => ck (l6 + 1) <| some (.inl ((l6 + 1), m24))
noncomputable def j_X12_copy_0_179 (m : MM) (l0 : Nat) (l1 : Int)  : Option (RV × MM) :=
  lt' (sN m 12 l0 1 0) fun m25 => nk 80 (gR m25 12 l0 27) fun i26 => ldN m25 80 i26 l1 fun v27 => some (.inl (some (aI v27)), m25)
noncomputable def j_X12_copy_0_95 (m : MM) (l0 : Nat) (l1 : Int) (s0 : Nat) (s1 : Int) : Option (RV × MM) :=
  bI (f_X12_holds m s0 s1) (fun v10 m9 => if ¬ v10 = 0 then ((f_X12_tapeWords m9 l0).bind fun v11 => (lpb (fun s => b_X12_copy_112 l0 l1 v11 s.1 s.2) (0, m9)).bind fun z => j_X12_copy_0_179 z l0 l1) else
  some (.inl (some (aI 0)), m9)) x0
noncomputable def j_X12_copy_0_66 (m : MM) (l0 : Nat) (l1 : Int) (l2 : Int) (l3 : Int) (s0 : Int) : Option (RV × MM) :=
  if ¬ l2 = 0 then (if ¬ l3 = 0 then (if s0 = 0 then (j_X12_copy_0_95 m l0 l1 l0 3) else
  j_X12_copy_0_95 m l0 l1 l0 0) else
  j_X12_copy_0_95 m l0 l1 l0 2) else
  j_X12_copy_0_95 m l0 l1 l0 1
noncomputable def j_X12_copy_0_65 (m : MM) (l0 : Nat) (l1 : Int) (l2 : Int) (l3 : Int)  : Option (RV × MM) :=
  j_X12_copy_0_66 m l0 l1 l2 l3 0
noncomputable def j_X12_copy_0_19 (m : MM) (l0 : Nat) (l1 : Int) (l2 : Int) (s0 : Int) : Option (RV × MM) :=
  if l2 = 0 then (j_X12_copy_0_65 m l0 l1 l2 s0) else
  if s0 = 0 then (j_X12_copy_0_65 m l0 l1 l2 s0) else
  nk 80 (gR m 12 l0 27) fun i3 => ldN m 80 i3 l1 fun v4 => (f_X12_tapeWords m l0).bind fun v5 => ck (v4 + v5) <| if 60 < (v4 + v5) then (j_X12_copy_0_65 m l0 l1 l2 s0) else
  nk 78 (gR m 12 l0 25) fun i6 => ldN m 78 i6 l1 fun v7 => if ¬ v7 = 0 then (j_X12_copy_0_65 m l0 l1 l2 s0) else
  (f_X12_hasSet m l0 l1).bind fun v8 => if ¬ v8 = 0 then (j_X12_copy_0_65 m l0 l1 l2 s0) else
  j_X12_copy_0_66 m l0 l1 l2 s0 1
noncomputable def f_X12_copy (m : MM) (l0 : Nat) (l1 : Int) : Option (RV × MM) :=
  (f_X12_isBook m l0 l1).bind fun v1 => (f_X12_tapeFault m l0).bind fun v2 => if ¬ v2 = (-1) then (j_X12_copy_0_19 m l0 l1 v1 0) else
  j_X12_copy_0_19 m l0 l1 v1 1
noncomputable def j_X12_turnedOf_0_72 (m : MM)  (s0 : Int) : Option (Int) :=
  if ¬ s0 = 0 then (ck (s0 - 97) <| some (s0 - 97)) else
  some (-1)
noncomputable def f_X12_turnedOf (m : MM) (l0 : Int) : Option (Int) :=
  ck (97 + l0) <| if ¬ (97 + l0) = 110 then (if ¬ (97 + l0) = 117 then (if ¬ (97 + l0) = 98 then (if ¬ (97 + l0) = 113 then (if ¬ (97 + l0) = 100 then (if ¬ (97 + l0) = 112 then (j_X12_turnedOf_0_72 m 0) else
  j_X12_turnedOf_0_72 m 100) else
  j_X12_turnedOf_0_72 m 112) else
  j_X12_turnedOf_0_72 m 98) else
  j_X12_turnedOf_0_72 m 113) else
  j_X12_turnedOf_0_72 m 110) else
  j_X12_turnedOf_0_72 m 117
noncomputable def j_X12_printOf_0_30 (m : MM) (l0 : Nat) (l1 : Int)  : Option (Int) :=
  nk 62 (gR m 12 l0 7) fun i4 => ldN m 62 i4 l1 fun v5 => some v5
noncomputable def f_X12_printOf (m : MM) (l0 : Nat) (l1 : Int) (l2 : Int) (l3 : Int) : Option (Int) :=
  if ¬ l1 = (-1) then (if ¬ l3 = 1 then (j_X12_printOf_0_30 m l0 l1) else
  nk 62 (gR m 12 l0 7) fun i1 => ldN m 62 i1 l1 fun v2 => (f_X12_turnedOf m l2).bind fun v3 => if ¬ v2 = v3 then (j_X12_printOf_0_30 m l0 l1) else
  some l2) else
  some 28
noncomputable def f_X12_takes (m : MM) (l0 : Nat) (l1 : Int) : Option (RV × MM) :=
  nk 66 (gR m 12 l0 11) fun i1 => ldN m 66 i1 l1 fun v2 => nk 66 (gR m 12 l0 11) fun i3 => nk 65 (gR m 12 l0 10) fun i4 => ldN m 65 i4 v2 fun v5 => stN m 66 i3 l1 v5 fun m6 => some (.inl (some (aI v2)), m6)
noncomputable def j_X12_correct_0_333 (m : MM) (l0 : Nat) (l6 : Int) (l7 : Int) (l9 : Int)  : Option (RV × MM) :=
  nk 105 (gR m 12 l0 53) fun i53 => stN m 105 i53 (gN m 12 l0 52) l6 fun m54 => nk 106 (gR m54 12 l0 54) fun i55 => nk 111 (gR m54 12 l0 59) fun i56 => ldN m54 111 i56 l7 fun v57 => ck (v57 - 1) <| stN m54 106 i55 (gN m54 12 l0 52) (v57 - 1) fun m58 => nk 107 (gR m58 12 l0 55) fun i59 => nk 99 (gR m58 12 l0 46) fun i60 => ldN m58 99 i60 l6 fun v61 => (f_X12_printOf m58 l0 l9 v61 0).bind fun v62 => stN m58 107 i59 (gN m58 12 l0 52) v62 fun m63 => ck ((gN m63 12 l0 52) + 1) <| lt' (sN m63 12 l0 52 ((gN m63 12 l0 52) + 1)) fun m64 => nk 111 (gR m64 12 l0 59) fun i65 => ldN m64 111 i65 l7 fun v66 => ck (v66 - 1) <| some (.inl (some (aI (v66 - 1))), m64)
noncomputable def j_X12_correct_0_234 (m : MM) (l0 : Nat) (l1 : Int) (l2 : Int) (l6 : Int) (l7 : Int) (l9 : Int)  : Option (RV × MM) :=
  nk 100 (gR m 12 l0 47) fun i32 => stN m 100 i32 l6 l9 fun m33 => nk 101 (gR m33 12 l0 48) fun i34 => stN m33 101 i34 l6 0 fun m35 => nk 64 (gR m35 12 l0 9) fun i36 => ck ((100 + (100 * l1)) + l2) <| stN m35 64 i36 l9 ((100 + (100 * l1)) + l2) fun m37 => nk 110 (gR m37 12 l0 58) fun i38 => ldN m37 110 i38 l7 fun v39 => nk 112 (gR m37 12 l0 60) fun i40 => nk 111 (gR m37 12 l0 59) fun i41 => ldN m37 111 i41 l7 fun v42 => ldN m37 112 i40 (((26 * l7) + v42) - 1) fun v43 => if v39 ≤ v43 then (j_X12_correct_0_333 m37 l0 l6 l7 l9) else
  nk 112 (gR m37 12 l0 60) fun i44 => nk 111 (gR m37 12 l0 59) fun i45 => ldN m37 111 i45 l7 fun v46 => nk 110 (gR m37 12 l0 58) fun i47 => ldN m37 110 i47 l7 fun v48 => stN m37 112 i44 ((26 * l7) + v46) v48 fun m49 => nk 111 (gR m49 12 l0 59) fun i50 => ldN m49 111 i50 l7 fun v51 => ck (v51 + 1) <| stN m49 111 i50 l7 (v51 + 1) fun m52 => j_X12_correct_0_333 m52 l0 l6 l7 l9
noncomputable def j_X12_correct_0_179 (m : MM) (l0 : Nat) (l1 : Int) (l2 : Int) (l6 : Int) (l7 : Int) (s0 : Nat) (s1 : Int) : Option (RV × MM) :=
  bI (f_X12_holds m s0 s1) (fun v17 m16 => if ¬ v17 = 0 then (nk 99 (gR m16 12 l0 46) fun i18 => ldN m16 99 i18 l6 fun v19 => bI (f_X12_takes m16 l0 v19) (fun v21 m20 => nk 100 (gR m20 12 l0 47) fun i22 => ldN m20 100 i22 l6 fun v23 => if v23 = (-1) then (j_X12_correct_0_234 m20 l0 l1 l2 l6 l7 v21) else
  nk 62 (gR m20 12 l0 7) fun i24 => nk 100 (gR m20 12 l0 47) fun i25 => ldN m20 100 i25 l6 fun v26 => ldN m20 62 i24 v26 fun v27 => nk 100 (gR m20 12 l0 47) fun i28 => ldN m20 100 i28 l6 fun v29 => bV (f_X12_puts m20 l0 v27 v29) (fun m30 => j_X12_correct_0_234 m30 l0 l1 l2 l6 l7 v21) x0) x0) else
  some (.inl (some (aI 0)), m16)) x0
noncomputable def j_X12_correct_0_157 (m : MM) (l0 : Nat) (l1 : Int) (l2 : Int) (l4 : Int) (l6 : Int) (l7 : Int) (s0 : Int) : Option (RV × MM) :=
  if ¬ l4 = 0 then (if s0 = 0 then (j_X12_correct_0_179 m l0 l1 l2 l6 l7 l0 2) else
  j_X12_correct_0_179 m l0 l1 l2 l6 l7 l0 0) else
  j_X12_correct_0_179 m l0 l1 l2 l6 l7 l0 1
noncomputable def j_X12_correct_0_156 (m : MM) (l0 : Nat) (l1 : Int) (l2 : Int) (l4 : Int) (l6 : Int) (l7 : Int)  : Option (RV × MM) :=
  j_X12_correct_0_157 m l0 l1 l2 l4 l6 l7 0
noncomputable def j_X12_correct_0_136 (m : MM) (l0 : Nat) (l1 : Int) (l2 : Int) (l4 : Int) (l6 : Int) (l7 : Int)  : Option (RV × MM) :=
  nk 66 (gR m 12 l0 11) fun i12 => nk 99 (gR m 12 l0 46) fun i13 => ldN m 99 i13 l6 fun v14 => ldN m 66 i12 v14 fun v15 => if v15 = (-1) then (j_X12_correct_0_156 m l0 l1 l2 l4 l6 l7) else
  j_X12_correct_0_157 m l0 l1 l2 l4 l6 l7 1
noncomputable def j_X12_correct_0_107 (m : MM) (l0 : Nat) (l1 : Int) (l2 : Int) (l4 : Int) (l6 : Int) (s0 : Int) : Option (RV × MM) :=
  if l4 = 0 then (j_X12_correct_0_156 m l0 l1 l2 l4 l6 s0) else
  nk 108 (gR m 12 l0 56) fun i8 => ldN m 108 i8 s0 fun v9 => if v9 = 1 then (j_X12_correct_0_136 m l0 l1 l2 l4 l6 s0) else
  nk 108 (gR m 12 l0 56) fun i10 => ldN m 108 i10 s0 fun v11 => if ¬ v11 = 2 then (j_X12_correct_0_156 m l0 l1 l2 l4 l6 s0) else
  j_X12_correct_0_136 m l0 l1 l2 l4 l6 s0
noncomputable def j_X12_correct_0_85 (m : MM) (l0 : Nat) (l1 : Int) (l2 : Int) (l4 : Int) (s0 : Int) : Option (RV × MM) :=
  if l4 = 0 then (j_X12_correct_0_107 m l0 l1 l2 l4 s0 0) else
  (f_X12_formeOf m l0 l1 l2).bind fun v7 => ck ((8 * l1) + v7) <| j_X12_correct_0_107 m l0 l1 l2 l4 s0 ((8 * l1) + v7)
noncomputable def j_X12_correct_0_66 (m : MM) (l0 : Nat) (l1 : Int) (l2 : Int) (l3 : Int) (l4 : Int) (s0 : Int) : Option (RV × MM) :=
  if l4 = 0 then (j_X12_correct_0_85 m l0 l1 l2 l4 0) else
  ck ((150 * s0) + l3) <| j_X12_correct_0_85 m l0 l1 l2 l4 ((150 * s0) + l3)
noncomputable def j_X12_correct_0_49 (m : MM) (l0 : Nat) (l1 : Int) (l2 : Int) (l3 : Int) (s0 : Int) : Option (RV × MM) :=
  if s0 = 0 then (j_X12_correct_0_66 m l0 l1 l2 l3 s0 0) else
  ck ((16 * l1) + l2) <| j_X12_correct_0_66 m l0 l1 l2 l3 s0 ((16 * l1) + l2)
noncomputable def j_X12_correct_0_48 (m : MM) (l0 : Nat) (l1 : Int) (l2 : Int) (l3 : Int)  : Option (RV × MM) :=
  j_X12_correct_0_49 m l0 l1 l2 l3 0
noncomputable def f_X12_correct (m : MM) (l0 : Nat) (l1 : Int) (l2 : Int) (l3 : Int) : Option (RV × MM) :=
  (f_X12_isPage m l0 l1 l2).bind fun v1 => if v1 = 0 then (j_X12_correct_0_48 m l0 l1 l2 l3) else
  nk 83 (gR m 12 l0 30) fun i2 => ldN m 83 i2 ((16 * l1) + l2) fun v3 => if v3 = 0 then (j_X12_correct_0_48 m l0 l1 l2 l3) else
  nk 90 (gR m 12 l0 37) fun i4 => ldN m 90 i4 ((16 * l1) + l2) fun v5 => ck (v5 - 1) <| (f_X12_isIn m l3 0 (v5 - 1)).bind fun v6 => if v6 = 0 then (j_X12_correct_0_48 m l0 l1 l2 l3) else
  j_X12_correct_0_49 m l0 l1 l2 l3 1
noncomputable def j_X12_exchange_0_59 (m : MM) (l0 : Nat) (l1 : Int) (l2 : Int) (l3 : Int) (l4 : Int) (s0 : Nat) (s1 : Int) : Option (RV × MM) :=
  bI (f_X12_holds m s0 s1) (fun v7 m6 => if v7 = 0 then (some (.inl none, m6)) else
  nk 126 (gR m6 12 l0 76) fun i8 => (f_X12_leafAt m6 l1 l2 l4).bind fun v9 => ldN m6 126 i8 v9 fun v10 => nk 126 (gR m6 12 l0 76) fun i11 => (f_X12_leafAt m6 l1 l2 l4).bind fun v12 => nk 126 (gR m6 12 l0 76) fun i13 => (f_X12_leafAt m6 l1 l3 l4).bind fun v14 => ldN m6 126 i13 v14 fun v15 => stN m6 126 i11 v12 v15 fun m16 => nk 126 (gR m16 12 l0 76) fun i17 => (f_X12_leafAt m16 l1 l3 l4).bind fun v18 => stN m16 126 i17 v18 v10 fun m19 => some (.inl none, m19)) x0
noncomputable def j_X12_exchange_0_33 (m : MM) (l0 : Nat) (l1 : Int) (l2 : Int) (l3 : Int) (l4 : Int) (s0 : Int) : Option (RV × MM) :=
  if ¬ s0 = 0 then (nk 79 (gR m 12 l0 26) fun i4 => ldN m 79 i4 l1 fun v5 => if v5 = 0 then (j_X12_exchange_0_59 m l0 l1 l2 l3 l4 l0 2) else
  j_X12_exchange_0_59 m l0 l1 l2 l3 l4 l0 0) else
  j_X12_exchange_0_59 m l0 l1 l2 l3 l4 l0 1
noncomputable def j_X12_exchange_0_32 (m : MM) (l0 : Nat) (l1 : Int) (l2 : Int) (l3 : Int) (l4 : Int)  : Option (RV × MM) :=
  j_X12_exchange_0_33 m l0 l1 l2 l3 l4 0
noncomputable def f_X12_exchange (m : MM) (l0 : Nat) (l1 : Int) (l2 : Int) (l3 : Int) (l4 : Int) : Option (RV × MM) :=
  (f_X12_isCopy m l0 l1 l2).bind fun v1 => if v1 = 0 then (j_X12_exchange_0_32 m l0 l1 l2 l3 l4) else
  (f_X12_isCopy m l0 l1 l3).bind fun v2 => if v2 = 0 then (j_X12_exchange_0_32 m l0 l1 l2 l3 l4) else
  (f_X12_isLeaf m l0 l1 l4).bind fun v3 => if v3 = 0 then (j_X12_exchange_0_32 m l0 l1 l2 l3 l4) else
  j_X12_exchange_0_33 m l0 l1 l2 l3 l4 1
noncomputable def f_X12_fault (m : MM) (l0 : Nat) : Option (RV × MM) :=
  lt' (sN m 12 l0 0 0) fun m1 => (f_X12_tapeFault m1 l0).bind fun v2 => some (.inl (some (aI v2)), m1)
noncomputable def b_X12_wordsOn_4 (m : MM) (l0 : Nat) (l1 : Int) (l2 : Int) (l3 : Int) : Option ((Int × Int) ⊕ (Int)) :=
  (f_X12_pagesOf m l0 l1).bind fun v1 => if v1 ≤ l3 then (some (.inr l2)) else
  nk 83 (gR m 12 l0 30) fun i2 => ldN m 83 i2 ((16 * l1) + l3) fun v3 => if v3 = 0 then (ck (l2 + 0) <| ck (l3 + 1) <| some (.inl ((l2 + 0), (l3 + 1)))) else
  nk 89 (gR m 12 l0 36) fun i4 => ldN m 89 i4 ((16 * l1) + l3) fun v5 => ck (l2 + v5) <| ck (l3 + 1) <| some (.inl ((l2 + v5), (l3 + 1)))
noncomputable def j_X12_wordsOn_0_51 (m : MM) (l2 : Int)  : Option (Int) :=
  some l2
noncomputable def f_X12_wordsOn (m : MM) (l0 : Nat) (l1 : Int) : Option (Int) :=
  (lpb (fun s => b_X12_wordsOn_4 m l0 l1 s.1 s.2) (0, 0)).bind fun z => j_X12_wordsOn_0_51 m z
noncomputable def j_X12_follow_179_242 (m : MM) (l0 : Nat) (l1 : Int) (l2 : Int) (l5 : Int) (l6 : Int) (l7 : Int) (l8 : Int) (l9 : Int) (s0 : Nat) (s1 : Int) (s2 : Int) : Option ((Int × MM) ⊕ (MM)) :=
  cb s2 <| stN m 82 s0 s1 s2 fun m28 => nk 80 (gR m28 12 l0 27) fun i29 => ldN m28 80 i29 l1 fun v30 => ck (v30 + 1) <| stN m28 80 i29 l1 (v30 + 1) fun m31 => ck (l9 + 1) <| some (.inl ((l9 + 1), m31))
noncomputable def b_X12_follow_179 (l0 : Nat) (l1 : Int) (l2 : Int) (l5 : Int) (l6 : Int) (l7 : Int) (l8 : Int) (l9 : Int) (mm : MM) : Option ((Int × MM) ⊕ (MM)) :=
  if l8 < l9 then (some (.inr mm)) else
  nk 81 (gR mm 12 l0 28) fun i19 => nk 80 (gR mm 12 l0 27) fun i20 => ldN mm 80 i20 l1 fun v21 => nk 96 (gR mm 12 l0 43) fun i22 => ldL mm 96 i22 ((60 * l6) + l9) fun v23 => stL mm 81 i19 ((60 * l1) + v21) v23 fun m24 => nk 82 (gR m24 12 l0 29) fun i25 => nk 80 (gR m24 12 l0 27) fun i26 => ldN m24 80 i26 l1 fun v27 => if ¬ l9 = l8 then (ck ((60 * l1) + v27) <| j_X12_follow_179_242 m24 l0 l1 l2 l5 l6 l7 l8 l9 i25 ((60 * l1) + v27) 0) else
  ck ((60 * l1) + v27) <| j_X12_follow_179_242 m24 l0 l1 l2 l5 l6 l7 l8 l9 i25 ((60 * l1) + v27) 1
noncomputable def j_X12_follow_111_259 (m : MM) (l0 : Nat) (l1 : Int) (l2 : Int) (l5 : Int) (l6 : Int) (l7 : Int)  : Option ((Int × MM) ⊕ (MM)) :=
  ck (l7 + 1) <| some (.inl ((l7 + 1), m))
noncomputable def b_X12_follow_111 (l0 : Nat) (l1 : Int) (l2 : Int) (l5 : Int) (l6 : Int) (l7 : Int) (mm : MM) : Option ((Int × MM) ⊕ (MM)) :=
  nk 83 (gR mm 12 l0 30) fun i9 => ldN mm 83 i9 l6 fun v10 => if v10 = 0 then (some (.inr mm)) else
  nk 88 (gR mm 12 l0 35) fun i11 => ldN mm 88 i11 l6 fun v12 => if v12 ≤ l7 then (some (.inr mm)) else
  nk 91 (gR mm 12 l0 38) fun i13 => ldN mm 91 i13 ((6 * l6) + l7) fun v14 => nk 92 (gR mm 12 l0 39) fun i15 => ldN mm 92 i15 ((6 * l6) + l7) fun v16 => ck ((v14 + v16) - 1) <| nk 91 (gR mm 12 l0 38) fun i17 => ldN mm 91 i17 ((6 * l6) + l7) fun v18 => (lpb (fun s => b_X12_follow_179 l0 l1 l2 l5 l6 l7 ((v14 + v16) - 1) s.1 s.2) (v18, mm)).bind fun z => j_X12_follow_111_259 z l0 l1 l2 l5 l6 l7
noncomputable def j_X12_follow_89_265 (m : MM) (l0 : Nat) (l1 : Int) (l2 : Int) (l5 : Int)  : Option ((Int × MM) ⊕ (MM)) :=
  ck (l5 + 1) <| some (.inl ((l5 + 1), m))
noncomputable def b_X12_follow_89 (l0 : Nat) (l1 : Int) (l2 : Int) (l5 : Int) (mm : MM) : Option ((Int × MM) ⊕ (MM)) :=
  (f_X12_pagesOf mm l0 l2).bind fun v8 => if v8 ≤ l5 then (some (.inr mm)) else
  ck ((16 * l2) + l5) <| (lpb (fun s => b_X12_follow_111 l0 l1 l2 l5 ((16 * l2) + l5) s.1 s.2) (0, mm)).bind fun z => j_X12_follow_89_265 z l0 l1 l2 l5
noncomputable def j_X12_follow_0_271 (m : MM) (l0 : Nat) (l1 : Int)  : Option (RV × MM) :=
  nk 80 (gR m 12 l0 27) fun i32 => ldN m 80 i32 l1 fun v33 => some (.inl (some (aI v33)), m)
noncomputable def j_X12_follow_0_78 (m : MM) (l0 : Nat) (l1 : Int) (l2 : Int) (s0 : Nat) (s1 : Int) : Option (RV × MM) :=
  bI (f_X12_holds m s0 s1) (fun v7 m6 => if ¬ v7 = 0 then ((lpb (fun s => b_X12_follow_89 l0 l1 l2 s.1 s.2) (0, m6)).bind fun z => j_X12_follow_0_271 z l0 l1) else
  some (.inl (some (aI 0)), m6)) x0
noncomputable def j_X12_follow_0_48 (m : MM) (l0 : Nat) (l1 : Int) (l2 : Int) (l3 : Int) (s0 : Int) : Option (RV × MM) :=
  if ¬ l3 = 0 then (if ¬ l1 = l2 then (if s0 = 0 then (j_X12_follow_0_78 m l0 l1 l2 l0 3) else
  j_X12_follow_0_78 m l0 l1 l2 l0 0) else
  j_X12_follow_0_78 m l0 l1 l2 l0 2) else
  j_X12_follow_0_78 m l0 l1 l2 l0 1
noncomputable def j_X12_follow_0_47 (m : MM) (l0 : Nat) (l1 : Int) (l2 : Int) (l3 : Int)  : Option (RV × MM) :=
  j_X12_follow_0_48 m l0 l1 l2 l3 0
noncomputable def j_X12_follow_0_21 (m : MM) (l0 : Nat) (l1 : Int) (l2 : Int) (s0 : Int) : Option (RV × MM) :=
  if s0 = 0 then (j_X12_follow_0_47 m l0 l1 l2 s0) else
  nk 80 (gR m 12 l0 27) fun i3 => ldN m 80 i3 l1 fun v4 => if ¬ v4 = 0 then (j_X12_follow_0_47 m l0 l1 l2 s0) else
  (f_X12_wordsOn m l0 l2).bind fun v5 => if v5 ≤ 0 then (j_X12_follow_0_47 m l0 l1 l2 s0) else
  j_X12_follow_0_48 m l0 l1 l2 s0 1
noncomputable def j_X12_follow_0_20 (m : MM) (l0 : Nat) (l1 : Int) (l2 : Int)  : Option (RV × MM) :=
  j_X12_follow_0_21 m l0 l1 l2 0
noncomputable def f_X12_follow (m : MM) (l0 : Nat) (l1 : Int) (l2 : Int) : Option (RV × MM) :=
  (f_X12_isBook m l0 l1).bind fun v1 => if v1 = 0 then (j_X12_follow_0_20 m l0 l1 l2) else
  (f_X12_isBook m l0 l2).bind fun v2 => if v2 = 0 then (j_X12_follow_0_20 m l0 l1 l2) else
  j_X12_follow_0_21 m l0 l1 l2 1
noncomputable def j_X12_lastWord_5_45 (m : MM) (l0 : Nat) (l1 : Int) (l3 : Int) (l4 : Int) (l5 : Int) (s0 : Int) : Option ((Int × Int) ⊕ ((Int) ⊕ Unit)) :=
  if s0 ≤ l3 then (ck (l3 - s0) <| ck (l4 + 1) <| some (.inl ((l3 - s0), (l4 + 1)))) else
  nk 95 (gR m 12 l0 42) fun i6 => nk 91 (gR m 12 l0 38) fun i7 => ldN m 91 i7 ((6 * l5) + l3) fun v8 => nk 92 (gR m 12 l0 39) fun i9 => ldN m 92 i9 ((6 * l5) + l3) fun v10 => ldN m 95 i6 ((((60 * l5) + v8) + v10) - 1) fun v11 => some (.inr (.inl v11))
noncomputable def b_X12_lastWord_5 (m : MM) (l0 : Nat) (l1 : Int) (l3 : Int) (l4 : Int) : Option ((Int × Int) ⊕ ((Int) ⊕ Unit)) :=
  (f_X12_pagesOf m l0 l1).bind fun v1 => if v1 ≤ l4 then (some (.inr (.inr ()))) else
  ck ((16 * l1) + l4) <| nk 83 (gR m 12 l0 30) fun i2 => ldN m 83 i2 ((16 * l1) + l4) fun v3 => if v3 = 0 then (j_X12_lastWord_5_45 m l0 l1 l3 l4 ((16 * l1) + l4) 0) else
  nk 88 (gR m 12 l0 35) fun i4 => ldN m 88 i4 ((16 * l1) + l4) fun v5 => j_X12_lastWord_5_45 m l0 l1 l3 l4 ((16 * l1) + l4) v5
noncomputable def j_X12_lastWord_0_103 (m : MM)   : Option (Int) :=
  some (-1)
noncomputable def f_X12_lastWord (m : MM) (l0 : Nat) (l1 : Int) (l2 : Int) : Option (Int) :=
  (lpb (fun s => b_X12_lastWord_5 m l0 l1 s.1 s.2) (l2, 0)).bind (Sum.elim (fun r => some r) fun z => j_X12_lastWord_0_103 m)
noncomputable def b_X12_spellingOf_2 (m : MM) (l0 : Nat) (l1 : Int64) (l3 : Int) : Option (Int ⊕ ((Int) ⊕ Unit)) :=
  if (gN m 12 l0 3) ≤ l3 then (some (.inr (.inr ()))) else
  nk 60 (gR m 12 l0 4) fun i1 => ldL m 60 i1 l3 fun v2 => if (lcm' v2 l1) = 0 then (some (.inr (.inl l3))) else
  nk 61 (gR m 12 l0 5) fun i3 => ldL m 61 i3 l3 fun v4 => if ¬ (lcm' v4 l1) = 0 then (ck (l3 + 1) <| some (.inl (l3 + 1))) else
  some (.inr (.inl l3))
noncomputable def j_X12_spellingOf_0_40 (m : MM)   : Option (Int) :=
  some (-1)
noncomputable def f_X12_spellingOf (m : MM) (l0 : Nat) (l1 : Int64) : Option (Int) :=
  (lpb (fun s => b_X12_spellingOf_2 m l0 l1 s) 0).bind (Sum.elim (fun r => some r) fun z => j_X12_spellingOf_0_40 m)
noncomputable def b_X12_follows_35 (m : MM) (l0 : Nat) (l1 : Int) (l2 : Int) (l3 : Int) (l4 : Int) : Option ((Int × Int) ⊕ (Int)) :=
  (f_X12_lastWord m l0 l1 l4).bind fun v5 => if v5 = (-1) then (some (.inr l3)) else
  (f_X12_lastWord m l0 l2 l4).bind fun v6 => if v6 = (-1) then (some (.inr l3)) else
  nk 81 (gR m 12 l0 28) fun i7 => (f_X12_lastWord m l0 l1 l4).bind fun v8 => ldL m 81 i7 ((60 * l1) + v8) fun v9 => nk 81 (gR m 12 l0 28) fun i10 => (f_X12_lastWord m l0 l2 l4).bind fun v11 => ldL m 81 i10 ((60 * l2) + v11) fun v12 => if (lcm' v9 v12) = 0 then (ck (l3 + 1) <| ck (l4 + 1) <| some (.inl ((l3 + 1), (l4 + 1)))) else
  (f_X12_spellingOf m l0 v9).bind fun v13 => if v13 = (-1) then (ck (l3 + 0) <| ck (l4 + 1) <| some (.inl ((l3 + 0), (l4 + 1)))) else
  (f_X12_spellingOf m l0 v9).bind fun v14 => (f_X12_spellingOf m l0 v12).bind fun v15 => if ¬ v14 = v15 then (ck (l3 + 0) <| ck (l4 + 1) <| some (.inl ((l3 + 0), (l4 + 1)))) else
  ck (l3 + 1) <| ck (l4 + 1) <| some (.inl ((l3 + 1), (l4 + 1)))
noncomputable def j_X12_follows_0_142 (m : MM) (l3 : Int)  : Option (RV × MM) :=
  some (.inl (some (aI l3)), m)
noncomputable def j_X12_follows_0_22 (m : MM) (l0 : Nat) (l1 : Int) (l2 : Int) (s0 : Nat) (s1 : Int) : Option (RV × MM) :=
  bI (f_X12_holds m s0 s1) (fun v4 m3 => if ¬ v4 = 0 then ((lpb (fun s => b_X12_follows_35 m3 l0 l1 l2 s.1 s.2) (0, 0)).bind fun z => j_X12_follows_0_142 m3 z) else
  some (.inl (some (aI 0)), m3)) x0
noncomputable def j_X12_follows_0_21 (m : MM) (l0 : Nat) (l1 : Int) (l2 : Int) (s0 : Nat) : Option (RV × MM) :=
  j_X12_follows_0_22 m l0 l1 l2 s0 1
noncomputable def f_X12_follows (m : MM) (l0 : Nat) (l1 : Int) (l2 : Int) : Option (RV × MM) :=
  (f_X12_isBook m l0 l1).bind fun v1 => if v1 = 0 then (j_X12_follows_0_21 m l0 l1 l2 l0) else
  (f_X12_isBook m l0 l2).bind fun v2 => if v2 = 0 then (j_X12_follows_0_21 m l0 l1 l2 l0) else
  j_X12_follows_0_22 m l0 l1 l2 l0 0
noncomputable def f_X12_stateMany (m : MM) (l0 : Nat) (l1 : Int) : Option (Int) :=
  nk 108 (gR m 12 l0 56) fun i1 => ldN m 108 i1 l1 fun v2 => if ¬ v2 = 0 then (nk 111 (gR m 12 l0 59) fun i3 => ldN m 111 i3 l1 fun v4 => some v4) else
  some 1
noncomputable def j_X12_forme_0_28 (m : MM) (l0 : Nat) (l1 : Int) (l2 : Int) (l3 : Int) (s0 : Nat) (s1 : Int) : Option (RV × MM) :=
  bI (f_X12_holds m s0 s1) (fun v4 m3 => if ¬ v4 = 0 then (ck ((8 * l1) + l2) <| if ¬ l3 = 0 then (if ¬ l3 = 1 then (if ¬ l3 = 2 then (if ¬ l3 = 3 then (nk 108 (gR m3 12 l0 56) fun i5 => ldN m3 108 i5 ((8 * l1) + l2) fun v6 => if v6 < 3 then (some (.inl (some (aI (-1))), m3)) else
  nk 114 (gR m3 12 l0 62) fun i7 => ldN m3 114 i7 ((8 * l1) + l2) fun v8 => some (.inl (some (aI v8)), m3)) else
  (f_X12_stateMany m3 l0 ((8 * l1) + l2)).bind fun v9 => some (.inl (some (aI v9)), m3)) else
  nk 110 (gR m3 12 l0 58) fun i10 => ldN m3 110 i10 ((8 * l1) + l2) fun v11 => some (.inl (some (aI v11)), m3)) else
  nk 108 (gR m3 12 l0 56) fun i12 => ldN m3 108 i12 ((8 * l1) + l2) fun v13 => if ¬ v13 = 0 then (nk 109 (gR m3 12 l0 57) fun i14 => ldN m3 109 i14 ((8 * l1) + l2) fun v15 => some (.inl (some (aI v15)), m3)) else
  some (.inl (some (aI (-1))), m3)) else
  nk 108 (gR m3 12 l0 56) fun i16 => ldN m3 108 i16 ((8 * l1) + l2) fun v17 => some (.inl (some (aI v17)), m3)) else
  some (.inl (some (aI 0)), m3)) x0
noncomputable def f_X12_forme (m : MM) (l0 : Nat) (l1 : Int) (l2 : Int) (l3 : Int) : Option (RV × MM) :=
  (f_X12_isForme m l0 l1 l2).bind fun v1 => if ¬ v1 = 0 then ((f_X12_isIn m l3 0 4).bind fun v2 => if v2 = 0 then (j_X12_forme_0_28 m l0 l1 l2 l3 l0 2) else
  j_X12_forme_0_28 m l0 l1 l2 l3 l0 0) else
  j_X12_forme_0_28 m l0 l1 l2 l3 l0 1
noncomputable def j_X12_hand_0_60 (m : MM) (l0 : Nat) (l1 : Int) (l2 : Int) (l3 : Int) (s0 : Nat) (s1 : Int) : Option (RV × MM) :=
  bI (f_X12_holds m s0 s1) (fun v5 m4 => if ¬ v5 = 0 then (nk 67 (gR m4 12 l0 13) fun i6 => stN m4 67 i6 (gN m4 12 l0 12) l1 fun m7 => nk 68 (gR m7 12 l0 14) fun i8 => stN m7 68 i8 (gN m7 12 l0 12) l2 fun m9 => nk 69 (gR m9 12 l0 15) fun i10 => stN m9 69 i10 (gN m9 12 l0 12) l3 fun m11 => ck ((gN m11 12 l0 12) + 1) <| lt' (sN m11 12 l0 12 ((gN m11 12 l0 12) + 1)) fun m12 => ck ((gN m12 12 l0 12) - 1) <| some (.inl (some (aI ((gN m12 12 l0 12) - 1))), m12)) else
  some (.inl (some (aI 0)), m4)) x0
noncomputable def j_X12_hand_0_35 (m : MM) (l0 : Nat) (l1 : Int) (l2 : Int) (l3 : Int) (s0 : Int) : Option (RV × MM) :=
  if ¬ s0 = 0 then (if ¬ (gN m 12 l0 12) = 4 then (j_X12_hand_0_60 m l0 l1 l2 l3 l0 0) else
  j_X12_hand_0_60 m l0 l1 l2 l3 l0 2) else
  j_X12_hand_0_60 m l0 l1 l2 l3 l0 1
noncomputable def j_X12_hand_0_34 (m : MM) (l0 : Nat) (l1 : Int) (l2 : Int) (l3 : Int)  : Option (RV × MM) :=
  j_X12_hand_0_35 m l0 l1 l2 l3 0
noncomputable def f_X12_hand (m : MM) (l0 : Nat) (l1 : Int) (l2 : Int) (l3 : Int) : Option (RV × MM) :=
  (f_X12_isIn m l1 0 63).bind fun v1 => if v1 = 0 then (j_X12_hand_0_34 m l0 l1 l2 l3) else
  (f_X12_isIn m l2 0 9).bind fun v2 => if v2 = 0 then (j_X12_hand_0_34 m l0 l1 l2 l3) else
  (f_X12_isIn m l3 0 9).bind fun v3 => if v3 = 0 then (j_X12_hand_0_34 m l0 l1 l2 l3) else
  j_X12_hand_0_35 m l0 l1 l2 l3 1
noncomputable def b_X12_canPart_4 (l0 : Nat) (l1 : Int) (l2 : Int) (l3 : Int) (mm : MM) : Option ((Int × MM) ⊕ (MM)) :=
  if (gN mm 12 l0 79) ≤ l3 then (some (.inr mm)) else
  nk 130 (gR mm 12 l0 81) fun i1 => stN mm 130 i1 l3 (-1) fun m2 => ck (l3 + 1) <| some (.inl ((l3 + 1), m2))
noncomputable def b_X12_canPart_42 (m : MM) (l0 : Nat) (l1 : Int) (l2 : Int) (l3 : Int) (l4 : Int) : Option ((Int × Int) ⊕ (Int)) :=
  if l2 ≤ l4 then (some (.inr l3)) else
  nk 130 (gR m 12 l0 81) fun i3 => ldN m 130 i3 l4 fun v4 => if v4 ≤ l3 then (ck (l4 + 1) <| some (.inl (l3, (l4 + 1)))) else
  nk 130 (gR m 12 l0 81) fun i5 => ldN m 130 i5 l4 fun v6 => ck (l4 + 1) <| some (.inl (v6, (l4 + 1)))
noncomputable def b_X12_canPart_123 (m : MM) (l0 : Nat) (l1 : Int) (l2 : Int) (l4 : Int) (l5 : Int) (l6 : Int) : Option ((Int × Int) ⊕ (Int)) :=
  if l2 ≤ l6 then (some (.inr l5)) else
  if l5 = 0 then (ck (l6 + 1) <| some (.inl (0, (l6 + 1)))) else
  nk 129 (gR m 12 l0 80) fun i14 => ldN m 129 i14 l2 fun v15 => if (iand (ishr v15 l6) 1) = 0 then (ck (l6 + 1) <| some (.inl (1, (l6 + 1)))) else
  nk 130 (gR m 12 l0 81) fun i16 => ldN m 130 i16 l6 fun v17 => nk 130 (gR m 12 l0 81) fun i18 => ldN m 130 i18 l2 fun v19 => if v17 = v19 then (ck (l6 + 1) <| some (.inl (0, (l6 + 1)))) else
  ck (l6 + 1) <| some (.inl (1, (l6 + 1)))
noncomputable def j_X12_canPart_25_177 (m : MM) (l0 : Nat) (l1 : Int) (l2 : Int) (l4 : Int) (l5 : Int)  : Option ((Int × MM) ⊕ ((Int × MM))) :=
  if ¬ l4 = 0 then (if l5 = 0 then (some (.inl (l2, m))) else
  ck (l2 + 1) <| some (.inl ((l2 + 1), m))) else
  nk 130 (gR m 12 l0 81) fun i20 => stN m 130 i20 l2 (-1) fun m21 => ck (l2 + (-1)) <| some (.inl ((l2 + (-1)), m21))
noncomputable def j_X12_canPart_25_114 (m : MM) (l0 : Nat) (l1 : Int) (l2 : Int) (s0 : Int) : Option ((Int × MM) ⊕ ((Int × MM))) :=
  (lpb (fun s => b_X12_canPart_123 m l0 l1 l2 s0 s.1 s.2) (s0, 0)).bind fun z => j_X12_canPart_25_177 m l0 l1 l2 s0 z
noncomputable def j_X12_canPart_25_113 (m : MM) (l0 : Nat) (l1 : Int) (l2 : Int)  : Option ((Int × MM) ⊕ ((Int × MM))) :=
  j_X12_canPart_25_114 m l0 l1 l2 0
noncomputable def j_X12_canPart_25_77 (m : MM) (l0 : Nat) (l1 : Int) (l2 : Int) (l3 : Int)  : Option ((Int × MM) ⊕ ((Int × MM))) :=
  nk 130 (gR m 12 l0 81) fun i7 => ldN m 130 i7 l2 fun v8 => ck (v8 + 1) <| stN m 130 i7 l2 (v8 + 1) fun m9 => nk 130 (gR m9 12 l0 81) fun i10 => ldN m9 130 i10 l2 fun v11 => if l1 ≤ v11 then (j_X12_canPart_25_113 m9 l0 l1 l2) else
  nk 130 (gR m9 12 l0 81) fun i12 => ldN m9 130 i12 l2 fun v13 => ck (l3 + 1) <| if (l3 + 1) < v13 then (j_X12_canPart_25_113 m9 l0 l1 l2) else
  j_X12_canPart_25_114 m9 l0 l1 l2 1
noncomputable def b_X12_canPart_25 (l0 : Nat) (l1 : Int) (l2 : Int) (mm : MM) : Option ((Int × MM) ⊕ ((Int × MM))) :=
  if l2 < 0 then (some (.inr (l2, mm))) else
  if (gN mm 12 l0 79) ≤ l2 then (some (.inr (l2, mm))) else
  (lpb (fun s => b_X12_canPart_42 mm l0 l1 l2 s.1 s.2) ((-1), 0)).bind fun z => j_X12_canPart_25_77 mm l0 l1 l2 z
noncomputable def j_X12_canPart_0_206 (m : MM) (l0 : Nat) (l2 : Int)  : Option (RV × MM) :=
  if ¬ l2 = (gN m 12 l0 79) then (some (.inl (some (aI 0)), m)) else
  some (.inl (some (aI 1)), m)
noncomputable def j_X12_canPart_0_25 (m : MM) (l0 : Nat) (l1 : Int) (l2 : Int)  : Option (RV × MM) :=
  (lpb (fun s => b_X12_canPart_25 l0 l1 s.1 s.2) (l2, m)).bind fun z => j_X12_canPart_0_206 (z.2) l0 (z.1)
noncomputable def f_X12_canPart (m : MM) (l0 : Nat) (l1 : Int) : Option (RV × MM) :=
  (lpb (fun s => b_X12_canPart_4 l0 l1 0 s.1 s.2) (0, m)).bind fun z => j_X12_canPart_0_25 z l0 l1 0
noncomputable def j_X12_formsIn_25_94 (m : MM) (l0 : Nat) (l1 : Int) (l3 : Int) (l4 : Int) (l6 : Int) (l7 : Int) (s0 : Int) (s1 : Int) : Option ((Int × Int) ⊕ (Int)) :=
  if ¬ s1 = l3 then (ck (l6 + 1) <| some (.inl ((ior' s0 0), (l6 + 1)))) else
  ck (l6 + 1) <| some (.inl ((ior' s0 (ishl 1 l7)), (l6 + 1)))
noncomputable def b_X12_formsIn_25 (m : MM) (l0 : Nat) (l1 : Int) (l3 : Int) (l4 : Int) (l5 : Int) (l6 : Int) : Option ((Int × Int) ⊕ (Int)) :=
  nk 91 (gR m 12 l0 38) fun i3 => ldN m 91 i3 l4 fun v4 => nk 92 (gR m 12 l0 39) fun i5 => ldN m 92 i5 l4 fun v6 => ck (((60 * l1) + v4) + v6) <| if (((60 * l1) + v4) + v6) ≤ l6 then (some (.inr l5)) else
  nk 96 (gR m 12 l0 43) fun i7 => ldL m 96 i7 l6 fun v8 => (f_X12_spellingOf m l0 v8).bind fun v9 => if v9 = (-1) then (ck (l6 + 1) <| some (.inl ((ior' l5 0), (l6 + 1)))) else
  nk 96 (gR m 12 l0 43) fun i10 => ldL m 96 i10 l6 fun v11 => nk 61 (gR m 12 l0 5) fun i12 => ldL m 61 i12 v9 fun v13 => if ¬ (lcm' v11 v13) = 0 then (j_X12_formsIn_25_94 m l0 l1 l3 l4 l6 v9 l5 0) else
  j_X12_formsIn_25_94 m l0 l1 l3 l4 l6 v9 l5 1
noncomputable def j_X12_formsIn_0_115 (m : MM) (l5 : Int)  : Option (Int) :=
  some l5
noncomputable def f_X12_formsIn (m : MM) (l0 : Nat) (l1 : Int) (l2 : Int) (l3 : Int) : Option (Int) :=
  ck ((6 * l1) + l2) <| nk 91 (gR m 12 l0 38) fun i1 => ldN m 91 i1 ((6 * l1) + l2) fun v2 => ck ((60 * l1) + v2) <| (lpb (fun s => b_X12_formsIn_25 m l0 l1 l3 ((6 * l1) + l2) s.1 s.2) (0, ((60 * l1) + v2))).bind fun z => j_X12_formsIn_0_115 m z
noncomputable def j_X12_looseIn_5_61 (m : MM) (l0 : Nat) (l1 : Int) (l2 : Int) (l3 : Int) (l4 : Int) (s0 : Int) : Option ((Int × Int) ⊕ (Int)) :=
  if s0 = 0 then (ck (l4 + 1) <| some (.inl ((ior' l3 0), (l4 + 1)))) else
  (f_X12_formsIn m l0 l1 l4 l2).bind fun v9 => ck (l4 + 1) <| some (.inl ((ior' l3 v9), (l4 + 1)))
noncomputable def j_X12_looseIn_5_60 (m : MM) (l0 : Nat) (l1 : Int) (l2 : Int) (l3 : Int) (l4 : Int)  : Option ((Int × Int) ⊕ (Int)) :=
  j_X12_looseIn_5_61 m l0 l1 l2 l3 l4 0
noncomputable def b_X12_looseIn_5 (m : MM) (l0 : Nat) (l1 : Int) (l2 : Int) (l3 : Int) (l4 : Int) : Option ((Int × Int) ⊕ (Int)) :=
  nk 88 (gR m 12 l0 35) fun i1 => ldN m 88 i1 l1 fun v2 => if v2 ≤ l4 then (some (.inr l3)) else
  nk 86 (gR m 12 l0 33) fun i3 => ldN m 86 i3 l1 fun v4 => if ¬ v4 = 0 then (some (.inr l3)) else
  nk 94 (gR m 12 l0 41) fun i5 => ldN m 94 i5 ((6 * l1) + l4) fun v6 => if ¬ v6 = 0 then (j_X12_looseIn_5_60 m l0 l1 l2 l3 l4) else
  nk 93 (gR m 12 l0 40) fun i7 => ldN m 93 i7 ((6 * l1) + l4) fun v8 => if v8 ≤ 2 then (j_X12_looseIn_5_60 m l0 l1 l2 l3 l4) else
  j_X12_looseIn_5_61 m l0 l1 l2 l3 l4 1
noncomputable def j_X12_looseIn_0_89 (m : MM) (l3 : Int)  : Option (Int) :=
  some l3
noncomputable def f_X12_looseIn (m : MM) (l0 : Nat) (l1 : Int) (l2 : Int) : Option (Int) :=
  (lpb (fun s => b_X12_looseIn_5 m l0 l1 l2 s.1 s.2) (0, 0)).bind fun z => j_X12_looseIn_0_89 m z
noncomputable def f_X12_isUnlike (m : MM) (l0 : Nat) (l1 : Int) (l2 : Int) : Option (Int) :=
  (f_X12_looseIn m l0 l1 0).bind fun v1 => (f_X12_looseIn m l0 l2 1).bind fun v2 => (f_X12_looseIn m l0 l1 1).bind fun v3 => (f_X12_looseIn m l0 l2 0).bind fun v4 => if (ior' (iand v1 v2) (iand v3 v4)) = 0 then (some 0) else
  some 1
noncomputable def b_X12_findUnlike_7 (l0 : Nat) (l1 : Int) (l2 : Int) (mm : MM) : Option ((Int × MM) ⊕ (MM)) :=
  (f_X12_pagesOf mm l0 l1).bind fun v2 => if v2 ≤ l2 then (some (.inr mm)) else
  nk 83 (gR mm 12 l0 30) fun i3 => ldN mm 83 i3 ((16 * l1) + l2) fun v4 => if v4 = 0 then (ck (l2 + 1) <| some (.inl ((l2 + 1), mm))) else
  nk 130 (gR mm 12 l0 81) fun i5 => ck ((16 * l1) + l2) <| stN mm 130 i5 (gN mm 12 l0 79) ((16 * l1) + l2) fun m6 => ck ((gN m6 12 l0 79) + 1) <| lt' (sN m6 12 l0 79 ((gN m6 12 l0 79) + 1)) fun m7 => ck (l2 + 1) <| some (.inl ((l2 + 1), m7))
noncomputable def j_X12_findUnlike_80_126 (m : MM) (l0 : Nat) (l2 : Int) (l3 : Int) (s0 : Nat) (s1 : Int) (s2 : Int) (s3 : Int) : Option ((Int × MM) ⊕ (MM)) :=
  stN m 129 s0 s1 (ior' s2 s3) fun m17 => ck (l3 + 1) <| some (.inl ((l3 + 1), m17))
noncomputable def j_X12_findUnlike_80_125 (m : MM) (l0 : Nat) (l2 : Int) (l3 : Int) (s0 : Nat) (s1 : Int) (s2 : Int) : Option ((Int × MM) ⊕ (MM)) :=
  j_X12_findUnlike_80_126 m l0 l2 l3 s0 s1 s2 0
noncomputable def b_X12_findUnlike_80 (l0 : Nat) (l2 : Int) (l3 : Int) (mm : MM) : Option ((Int × MM) ⊕ (MM)) :=
  if (gN mm 12 l0 79) ≤ l3 then (some (.inr mm)) else
  nk 129 (gR mm 12 l0 80) fun i10 => ldN mm 129 i10 l2 fun v11 => if l3 = l2 then (j_X12_findUnlike_80_125 mm l0 l2 l3 i10 l2 v11) else
  nk 130 (gR mm 12 l0 81) fun i12 => ldN mm 130 i12 l2 fun v13 => nk 130 (gR mm 12 l0 81) fun i14 => ldN mm 130 i14 l3 fun v15 => (f_X12_isUnlike mm l0 v13 v15).bind fun v16 => if v16 = 0 then (j_X12_findUnlike_80_125 mm l0 l2 l3 i10 l2 v11) else
  j_X12_findUnlike_80_126 mm l0 l2 l3 i10 l2 v11 (ishl 1 l3)
noncomputable def j_X12_findUnlike_63_134 (m : MM) (l0 : Nat) (l2 : Int)  : Option ((Int × MM) ⊕ (MM)) :=
  ck (l2 + 1) <| some (.inl ((l2 + 1), m))
noncomputable def b_X12_findUnlike_63 (l0 : Nat) (l2 : Int) (mm : MM) : Option ((Int × MM) ⊕ (MM)) :=
  if (gN mm 12 l0 79) ≤ l2 then (some (.inr mm)) else
  nk 129 (gR mm 12 l0 80) fun i8 => stN mm 129 i8 l2 0 fun m9 => (lpb (fun s => b_X12_findUnlike_80 l0 l2 s.1 s.2) (0, m9)).bind fun z => j_X12_findUnlike_63_134 z l0 l2
noncomputable def j_X12_findUnlike_0_140 (m : MM)   : Option (RV × MM) :=
  some (.inl none, m)
noncomputable def j_X12_findUnlike_0_61 (m : MM) (l0 : Nat)  : Option (RV × MM) :=
  (lpb (fun s => b_X12_findUnlike_63 l0 s.1 s.2) (0, m)).bind fun z => j_X12_findUnlike_0_140 z
noncomputable def f_X12_findUnlike (m : MM) (l0 : Nat) (l1 : Int) : Option (RV × MM) :=
  lt' (sN m 12 l0 79 0) fun m1 => (lpb (fun s => b_X12_findUnlike_7 l0 l1 s.1 s.2) (0, m1)).bind fun z => j_X12_findUnlike_0_61 z l0
noncomputable def b_X12_hands_40 (l0 : Nat) (l2 : Int) (mm : MM) : Option ((Int × MM) ⊕ ((Int × MM))) :=
  if (gN mm 12 l0 79) ≤ 0 then (some (.inr (l2, mm))) else
  bI (f_X12_canPart mm l0 l2) (fun v7 m6 => if ¬ v7 = 0 then (some (.inr (l2, m6))) else
  ck (l2 + 1) <| some (.inl ((l2 + 1), m6))) x0
noncomputable def j_X12_hands_0_61 (m : MM) (l2 : Int)  : Option (RV × MM) :=
  some (.inl (some (aI l2)), m)
noncomputable def j_X12_hands_0_39 (m : MM) (l0 : Nat) (s0 : Int) : Option (RV × MM) :=
  (lpb (fun s => b_X12_hands_40 l0 s.1 s.2) (s0, m)).bind fun z => j_X12_hands_0_61 (z.2) (z.1)
noncomputable def j_X12_hands_0_14 (m : MM) (l0 : Nat) (l1 : Int) (s0 : Nat) (s1 : Int) : Option (RV × MM) :=
  bI (f_X12_holds m s0 s1) (fun v3 m2 => if ¬ v3 = 0 then (bV (f_X12_findUnlike m2 l0 l1) (fun m4 => if ¬ (gN m4 12 l0 79) = 0 then (j_X12_hands_0_39 m4 l0 1) else
  j_X12_hands_0_39 m4 l0 0) x0) else
  some (.inl (some (aI 0)), m2)) x0
noncomputable def f_X12_hands (m : MM) (l0 : Nat) (l1 : Int) : Option (RV × MM) :=
  (f_X12_isBook m l0 l1).bind fun v1 => if v1 = 0 then (j_X12_hands_0_14 m l0 l1 l0 1) else
  j_X12_hands_0_14 m l0 l1 l0 0
noncomputable def f_X12_hour (m : MM) (l0 : Nat) : Option (RV × MM) :=
  lt' (sN m 12 l0 0 0) fun m1 => some (.inl (some (aI (gN m1 12 l0 69))), m1)
noncomputable def b_X12_init_613 (l0 : Nat) (l1 : Int) (mm : MM) : Option ((Int × MM) ⊕ (MM)) :=
  if 28 ≤ l1 then (some (.inr mm)) else
  nk 66 (gR mm 12 l0 11) fun i151 => stN mm 66 i151 l1 (-1) fun m152 => ck (l1 + 1) <| some (.inl ((l1 + 1), m152))
noncomputable def j_X12_init_0_632 (m : MM)   : Option (RV × MM) :=
  some (.inl none, m)
noncomputable def f_X12_init (m : MM) (l0 : Nat) : Option (RV × MM) :=
  newA m 59 40 fun m1 => lt' (sR m1 12 l0 2 (some (59, (gC m 59)))) fun m2 => newA m2 60 6 fun m3 => lt' (sR m3 12 l0 4 (some (60, (gC m2 60)))) fun m4 => newA m4 61 6 fun m5 => lt' (sR m5 12 l0 5 (some (61, (gC m4 61)))) fun m6 => newA m6 62 400 fun m7 => lt' (sR m7 12 l0 7 (some (62, (gC m6 62)))) fun m8 => newA m8 63 400 fun m9 => lt' (sR m9 12 l0 8 (some (63, (gC m8 63)))) fun m10 => newA m10 64 400 fun m11 => lt' (sR m11 12 l0 9 (some (64, (gC m10 64)))) fun m12 => newA m12 65 400 fun m13 => lt' (sR m13 12 l0 10 (some (65, (gC m12 65)))) fun m14 => newA m14 66 28 fun m15 => lt' (sR m15 12 l0 11 (some (66, (gC m14 66)))) fun m16 => newA m16 67 4 fun m17 => lt' (sR m17 12 l0 13 (some (67, (gC m16 67)))) fun m18 => newA m18 68 4 fun m19 => lt' (sR m19 12 l0 14 (some (68, (gC m18 68)))) fun m20 => newA m20 69 4 fun m21 => lt' (sR m21 12 l0 15 (some (69, (gC m20 69)))) fun m22 => newA m22 70 4 fun m23 => lt' (sR m23 12 l0 16 (some (70, (gC m22 70)))) fun m24 => newA m24 71 4 fun m25 => lt' (sR m25 12 l0 17 (some (71, (gC m24 71)))) fun m26 => newA m26 72 4 fun m27 => lt' (sR m27 12 l0 18 (some (72, (gC m26 72)))) fun m28 => newA m28 73 3 fun m29 => lt' (sR m29 12 l0 20 (some (73, (gC m28 73)))) fun m30 => newA m30 74 3 fun m31 => lt' (sR m31 12 l0 21 (some (74, (gC m30 74)))) fun m32 => newA m32 75 3 fun m33 => lt' (sR m33 12 l0 22 (some (75, (gC m32 75)))) fun m34 => newA m34 76 3 fun m35 => lt' (sR m35 12 l0 23 (some (76, (gC m34 76)))) fun m36 => newA m36 77 3 fun m37 => lt' (sR m37 12 l0 24 (some (77, (gC m36 77)))) fun m38 => newA m38 78 3 fun m39 => lt' (sR m39 12 l0 25 (some (78, (gC m38 78)))) fun m40 => newA m40 79 3 fun m41 => lt' (sR m41 12 l0 26 (some (79, (gC m40 79)))) fun m42 => newA m42 80 3 fun m43 => lt' (sR m43 12 l0 27 (some (80, (gC m42 80)))) fun m44 => newA m44 81 180 fun m45 => lt' (sR m45 12 l0 28 (some (81, (gC m44 81)))) fun m46 => newA m46 82 180 fun m47 => lt' (sR m47 12 l0 29 (some (82, (gC m46 82)))) fun m48 => newA m48 83 48 fun m49 => lt' (sR m49 12 l0 30 (some (83, (gC m48 83)))) fun m50 => newA m50 84 48 fun m51 => lt' (sR m51 12 l0 31 (some (84, (gC m50 84)))) fun m52 => newA m52 85 48 fun m53 => lt' (sR m53 12 l0 32 (some (85, (gC m52 85)))) fun m54 => newA m54 86 48 fun m55 => lt' (sR m55 12 l0 33 (some (86, (gC m54 86)))) fun m56 => newA m56 87 48 fun m57 => lt' (sR m57 12 l0 34 (some (87, (gC m56 87)))) fun m58 => newA m58 88 48 fun m59 => lt' (sR m59 12 l0 35 (some (88, (gC m58 88)))) fun m60 => newA m60 89 48 fun m61 => lt' (sR m61 12 l0 36 (some (89, (gC m60 89)))) fun m62 => newA m62 90 48 fun m63 => lt' (sR m63 12 l0 37 (some (90, (gC m62 90)))) fun m64 => newA m64 91 288 fun m65 => lt' (sR m65 12 l0 38 (some (91, (gC m64 91)))) fun m66 => newA m66 92 288 fun m67 => lt' (sR m67 12 l0 39 (some (92, (gC m66 92)))) fun m68 => newA m68 93 288 fun m69 => lt' (sR m69 12 l0 40 (some (93, (gC m68 93)))) fun m70 => newA m70 94 288 fun m71 => lt' (sR m71 12 l0 41 (some (94, (gC m70 94)))) fun m72 => newA m72 95 2880 fun m73 => lt' (sR m73 12 l0 42 (some (95, (gC m72 95)))) fun m74 => newA m74 96 2880 fun m75 => lt' (sR m75 12 l0 43 (some (96, (gC m74 96)))) fun m76 => newA m76 97 2880 fun m77 => lt' (sR m77 12 l0 44 (some (97, (gC m76 97)))) fun m78 => newA m78 98 2880 fun m79 => lt' (sR m79 12 l0 45 (some (98, (gC m78 98)))) fun m80 => newA m80 99 7200 fun m81 => lt' (sR m81 12 l0 46 (some (99, (gC m80 99)))) fun m82 => newA m82 100 7200 fun m83 => lt' (sR m83 12 l0 47 (some (100, (gC m82 100)))) fun m84 => newA m84 101 7200 fun m85 => lt' (sR m85 12 l0 48 (some (101, (gC m84 101)))) fun m86 => newA m86 102 7200 fun m87 => lt' (sR m87 12 l0 49 (some (102, (gC m86 102)))) fun m88 => newA m88 103 7200 fun m89 => lt' (sR m89 12 l0 50 (some (103, (gC m88 103)))) fun m90 => newA m90 104 7200 fun m91 => lt' (sR m91 12 l0 51 (some (104, (gC m90 104)))) fun m92 => newA m92 105 2000 fun m93 => lt' (sR m93 12 l0 53 (some (105, (gC m92 105)))) fun m94 => newA m94 106 2000 fun m95 => lt' (sR m95 12 l0 54 (some (106, (gC m94 106)))) fun m96 => newA m96 107 2000 fun m97 => lt' (sR m97 12 l0 55 (some (107, (gC m96 107)))) fun m98 => newA m98 108 24 fun m99 => lt' (sR m99 12 l0 56 (some (108, (gC m98 108)))) fun m100 => newA m100 109 24 fun m101 => lt' (sR m101 12 l0 57 (some (109, (gC m100 109)))) fun m102 => newA m102 110 24 fun m103 => lt' (sR m103 12 l0 58 (some (110, (gC m102 110)))) fun m104 => newA m104 111 24 fun m105 => lt' (sR m105 12 l0 59 (some (111, (gC m104 111)))) fun m106 => newA m106 112 624 fun m107 => lt' (sR m107 12 l0 60 (some (112, (gC m106 112)))) fun m108 => newA m108 113 24 fun m109 => lt' (sR m109 12 l0 61 (some (113, (gC m108 113)))) fun m110 => newA m110 114 24 fun m111 => lt' (sR m111 12 l0 62 (some (114, (gC m110 114)))) fun m112 => newA m112 115 24 fun m113 => lt' (sR m113 12 l0 63 (some (115, (gC m112 115)))) fun m114 => newA m114 116 24 fun m115 => lt' (sR m115 12 l0 64 (some (116, (gC m114 116)))) fun m116 => newA m116 117 12 fun m117 => lt' (sR m117 12 l0 65 (some (117, (gC m116 117)))) fun m118 => newA m118 118 12 fun m119 => lt' (sR m119 12 l0 66 (some (118, (gC m118 118)))) fun m120 => newA m120 119 12 fun m121 => lt' (sR m121 12 l0 67 (some (119, (gC m120 119)))) fun m122 => newA m122 120 12 fun m123 => lt' (sR m123 12 l0 68 (some (120, (gC m122 120)))) fun m124 => newA m124 121 3 fun m125 => stN m125 121 (gC m124 121) 0 1 fun m126 => stN m126 121 (gC m124 121) 1 1 fun m127 => stN m127 121 (gC m124 121) 2 1 fun m128 => lt' (sR m128 12 l0 70 (some (121, (gC m124 121)))) fun m129 => newA m129 122 3 fun m130 => stN m130 122 (gC m129 122) 0 (-1) fun m131 => stN m131 122 (gC m129 122) 1 (-1) fun m132 => stN m132 122 (gC m129 122) 2 (-1) fun m133 => lt' (sR m133 12 l0 71 (some (122, (gC m129 122)))) fun m134 => newA m134 123 3 fun m135 => lt' (sR m135 12 l0 72 (some (123, (gC m134 123)))) fun m136 => newA m136 124 3 fun m137 => lt' (sR m137 12 l0 73 (some (124, (gC m136 124)))) fun m138 => newA m138 125 4 fun m139 => lt' (sR m139 12 l0 75 (some (125, (gC m138 125)))) fun m140 => newA m140 126 576 fun m141 => lt' (sR m141 12 l0 76 (some (126, (gC m140 126)))) fun m142 => newA m142 127 8 fun m143 => lt' (sR m143 12 l0 77 (some (127, (gC m142 127)))) fun m144 => newA m144 128 256 fun m145 => lt' (sR m145 12 l0 78 (some (128, (gC m144 128)))) fun m146 => newA m146 129 16 fun m147 => lt' (sR m147 12 l0 80 (some (129, (gC m146 129)))) fun m148 => newA m148 130 16 fun m149 => lt' (sR m149 12 l0 81 (some (130, (gC m148 130)))) fun m150 => (lpb (fun s => b_X12_init_613 l0 s.1 s.2) (0, m150)).bind fun z => j_X12_init_0_632 z
noncomputable def j_X12_lay_0_75 (m : MM) (l0 : Nat) (l1 : Int) (l2 : Int) (l3 : Int) (s0 : Nat) (s1 : Int) : Option (RV × MM) :=
  bI (f_X12_holds m s0 s1) (fun v11 m10 => if v11 = 0 then (some (.inl none, m10)) else
  nk 120 (gR m10 12 l0 68) fun i12 => stN m10 120 i12 ((4 * l1) + l2) l3 fun m13 => some (.inl none, m13)) x0
noncomputable def j_X12_lay_0_29 (m : MM) (l0 : Nat) (l1 : Int) (l2 : Int) (l3 : Int) (s0 : Int) : Option (RV × MM) :=
  if ¬ s0 = 0 then (nk 77 (gR m 12 l0 24) fun i5 => ldN m 77 i5 l1 fun v6 => ck (v6 - 1) <| (f_X12_isIn m l3 0 (v6 - 1)).bind fun v7 => if ¬ v7 = 0 then (nk 79 (gR m 12 l0 26) fun i8 => ldN m 79 i8 l1 fun v9 => if v9 = 0 then (j_X12_lay_0_75 m l0 l1 l2 l3 l0 0) else
  j_X12_lay_0_75 m l0 l1 l2 l3 l0 3) else
  j_X12_lay_0_75 m l0 l1 l2 l3 l0 2) else
  j_X12_lay_0_75 m l0 l1 l2 l3 l0 1
noncomputable def j_X12_lay_0_28 (m : MM) (l0 : Nat) (l1 : Int) (l2 : Int) (l3 : Int)  : Option (RV × MM) :=
  j_X12_lay_0_29 m l0 l1 l2 l3 0
noncomputable def f_X12_lay (m : MM) (l0 : Nat) (l1 : Int) (l2 : Int) (l3 : Int) : Option (RV × MM) :=
  (f_X12_isBook m l0 l1).bind fun v1 => if v1 = 0 then (j_X12_lay_0_28 m l0 l1 l2 l3) else
  nk 74 (gR m 12 l0 21) fun i2 => ldN m 74 i2 l1 fun v3 => ck (v3 - 1) <| (f_X12_isIn m l2 0 (v3 - 1)).bind fun v4 => if v4 = 0 then (j_X12_lay_0_28 m l0 l1 l2 l3) else
  j_X12_lay_0_29 m l0 l1 l2 l3 1
noncomputable def j_X12_line_0_33 (m : MM) (l0 : Nat) (l1 : Int) (l2 : Int) (l3 : Int) (l4 : Int) (s0 : Nat) (s1 : Int) : Option (RV × MM) :=
  bI (f_X12_holds m s0 s1) (fun v4 m3 => if ¬ v4 = 0 then (ck ((16 * l1) + l2) <| nk 83 (gR m3 12 l0 30) fun i5 => ldN m3 83 i5 ((16 * l1) + l2) fun v6 => if v6 = 0 then (some (.inl (some (aI (-1))), m3)) else
  nk 88 (gR m3 12 l0 35) fun i7 => ldN m3 88 i7 ((16 * l1) + l2) fun v8 => if l3 < v8 then (ck ((6 * ((16 * l1) + l2)) + l3) <| lt0 ((6 * ((16 * l1) + l2)) + l3) fun v9 => if ¬ l4 = 0 then (if ¬ l4 = 1 then (if ¬ l4 = 2 then (if ¬ l4 = 3 then ((f_X12_formsIn m3 l0 ((16 * l1) + l2) l3 1).bind fun v10 => some (.inl (some (aI v10)), m3)) else
  nk 94 (gR m3 12 l0 41) fun i11 => ldN m3 94 i11 v9 fun v12 => some (.inl (some (aI v12)), m3)) else
  nk 93 (gR m3 12 l0 40) fun i13 => ldN m3 93 i13 v9 fun v14 => some (.inl (some (aI v14)), m3)) else
  nk 95 (gR m3 12 l0 42) fun i15 => nk 91 (gR m3 12 l0 38) fun i16 => ldN m3 91 i16 v9 fun v17 => nk 92 (gR m3 12 l0 39) fun i18 => ldN m3 92 i18 v9 fun v19 => ldN m3 95 i15 ((((60 * ((16 * l1) + l2)) + v17) + v19) - 1) fun v20 => some (.inl (some (aI v20)), m3)) else
  nk 92 (gR m3 12 l0 39) fun i21 => ldN m3 92 i21 v9 fun v22 => some (.inl (some (aI v22)), m3)) else
  some (.inl (some (aI (-1))), m3)) else
  some (.inl (some (aI 0)), m3)) x0
noncomputable def j_X12_line_0_14 (m : MM) (l0 : Nat) (l1 : Int) (l2 : Int) (l3 : Int) (l4 : Int) (s0 : Nat) : Option (RV × MM) :=
  j_X12_line_0_33 m l0 l1 l2 l3 l4 s0 1
noncomputable def f_X12_line (m : MM) (l0 : Nat) (l1 : Int) (l2 : Int) (l3 : Int) (l4 : Int) : Option (RV × MM) :=
  (f_X12_isPage m l0 l1 l2).bind fun v1 => if v1 = 0 then (j_X12_line_0_14 m l0 l1 l2 l3 l4 l0) else
  if 0 ≤ l3 then ((f_X12_isIn m l4 0 4).bind fun v2 => if v2 = 0 then (j_X12_line_0_33 m l0 l1 l2 l3 l4 l0 2) else
  j_X12_line_0_33 m l0 l1 l2 l3 l4 l0 0) else
  j_X12_line_0_14 m l0 l1 l2 l3 l4 l0
noncomputable def b_X12_isUsed_4 (m : MM) (l0 : Nat) (l1 : Int) (l2 : Int) (l3 : Int) : Option ((Int × Int) ⊕ (Int)) :=
  ck (8 * (gN m 12 l0 19)) <| if (8 * (gN m 12 l0 19)) ≤ l3 then (some (.inr l2)) else
  if ¬ l2 = 0 then (ck (l3 + 1) <| some (.inl (1, (l3 + 1)))) else
  nk 108 (gR m 12 l0 56) fun i1 => ldN m 108 i1 l3 fun v2 => (f_X12_isIn m v2 1 3).bind fun v3 => if v3 = 0 then (ck (l3 + 1) <| some (.inl (0, (l3 + 1)))) else
  nk 109 (gR m 12 l0 57) fun i4 => ldN m 109 i4 l3 fun v5 => if ¬ v5 = l1 then (ck (l3 + 1) <| some (.inl (0, (l3 + 1)))) else
  ck (l3 + 1) <| some (.inl (1, (l3 + 1)))
noncomputable def j_X12_isUsed_0_55 (m : MM) (l2 : Int)  : Option (Int) :=
  cb l2 <| some l2
noncomputable def f_X12_isUsed (m : MM) (l0 : Nat) (l1 : Int) : Option (Int) :=
  (lpb (fun s => b_X12_isUsed_4 m l0 l1 s.1 s.2) (0, 0)).bind fun z => j_X12_isUsed_0_55 m z
noncomputable def b_X12_isWhole_5 (m : MM) (l0 : Nat) (l1 : Int) (l2 : Int) (l3 : Int) (l4 : Int) : Option ((Int × Int) ⊕ (Int)) :=
  (f_X12_pagesOf m l0 l1).bind fun v1 => if v1 ≤ l4 then (some (.inr l3)) else
  if l3 = 0 then (ck (l4 + 1) <| some (.inl (0, (l4 + 1)))) else
  (f_X12_formeOf m l0 l1 l4).bind fun v2 => if ¬ v2 = l2 then (ck (l4 + 1) <| some (.inl (1, (l4 + 1)))) else
  nk 83 (gR m 12 l0 30) fun i3 => ldN m 83 i3 ((16 * l1) + l4) fun v4 => if v4 = 0 then (ck (l4 + 1) <| some (.inl (0, (l4 + 1)))) else
  ck (l4 + 1) <| some (.inl (1, (l4 + 1)))
noncomputable def j_X12_isWhole_0_57 (m : MM) (l3 : Int)  : Option (Int) :=
  cb l3 <| some l3
noncomputable def f_X12_isWhole (m : MM) (l0 : Nat) (l1 : Int) (l2 : Int) : Option (Int) :=
  (lpb (fun s => b_X12_isWhole_5 m l0 l1 l2 s.1 s.2) (1, 0)).bind fun z => j_X12_isWhole_0_57 m z
noncomputable def j_X12_lock_0_106 (m : MM) (l0 : Nat) (l3 : Int) (l5 : Int) (s0 : Nat) (s1 : Int) : Option (RV × MM) :=
  bI (f_X12_holds m s0 s1) (fun v8 m7 => if v8 = 0 then (some (.inl none, m7)) else
  nk 108 (gR m7 12 l0 56) fun i9 => stN m7 108 i9 l5 1 fun m10 => nk 109 (gR m10 12 l0 57) fun i11 => stN m10 109 i11 l5 l3 fun m12 => nk 111 (gR m12 12 l0 59) fun i13 => stN m12 111 i13 l5 1 fun m14 => nk 112 (gR m14 12 l0 60) fun i15 => stN m14 112 i15 (26 * l5) 0 fun m16 => some (.inl none, m16)) x0
noncomputable def j_X12_lock_0_75 (m : MM) (l0 : Nat) (l3 : Int) (l4 : Int) (l5 : Int) (l6 : Int) (s0 : Int) : Option (RV × MM) :=
  if ¬ l4 = 0 then (if ¬ l6 = 0 then (if s0 = 0 then (j_X12_lock_0_106 m l0 l3 l5 l0 3) else
  j_X12_lock_0_106 m l0 l3 l5 l0 0) else
  j_X12_lock_0_106 m l0 l3 l5 l0 2) else
  j_X12_lock_0_106 m l0 l3 l5 l0 1
noncomputable def j_X12_lock_0_74 (m : MM) (l0 : Nat) (l3 : Int) (l4 : Int) (l5 : Int) (l6 : Int)  : Option (RV × MM) :=
  j_X12_lock_0_75 m l0 l3 l4 l5 l6 0
noncomputable def j_X12_lock_0_23 (m : MM) (l0 : Nat) (l1 : Int) (l2 : Int) (l3 : Int) (l4 : Int) (s0 : Int) : Option (RV × MM) :=
  (f_X12_isIn m l3 0 5).bind fun v2 => if l4 = 0 then (j_X12_lock_0_74 m l0 l3 l4 s0 v2) else
  if v2 = 0 then (j_X12_lock_0_74 m l0 l3 l4 s0 v2) else
  nk 108 (gR m 12 l0 56) fun i3 => ldN m 108 i3 s0 fun v4 => if ¬ v4 = 0 then (j_X12_lock_0_74 m l0 l3 l4 s0 v2) else
  (f_X12_isWhole m l0 l1 l2).bind fun v5 => if v5 = 0 then (j_X12_lock_0_74 m l0 l3 l4 s0 v2) else
  (f_X12_isUsed m l0 l3).bind fun v6 => if ¬ v6 = 0 then (j_X12_lock_0_74 m l0 l3 l4 s0 v2) else
  j_X12_lock_0_75 m l0 l3 l4 s0 v2 1
noncomputable def f_X12_lock (m : MM) (l0 : Nat) (l1 : Int) (l2 : Int) (l3 : Int) : Option (RV × MM) :=
  (f_X12_isForme m l0 l1 l2).bind fun v1 => if v1 = 0 then (j_X12_lock_0_23 m l0 l1 l2 l3 v1 0) else
  ck ((8 * l1) + l2) <| j_X12_lock_0_23 m l0 l1 l2 l3 v1 ((8 * l1) + l2)
noncomputable def j_X12_madeUp_70_120 (m : MM) (l0 : Nat) (l1 : Int) (l2 : Int) (l3 : Int) (l4 : Int) (l6 : Int) (l7 : Int) (l8 : Int) (s0 : Int) : Option ((Int × Int × Int) ⊕ ((Int × Int))) :=
  if l8 ≤ l6 then (ck (l7 + 1) <| some (.inl (s0, l6, (l7 + 1)))) else
  ck (l7 + 1) <| some (.inl (s0, l8, (l7 + 1)))
noncomputable def j_X12_madeUp_70_118 (m : MM) (l0 : Nat) (l1 : Int) (l2 : Int) (l3 : Int) (l4 : Int) (l5 : Int) (l6 : Int) (l7 : Int) (l8 : Int)  : Option ((Int × Int × Int) ⊕ ((Int × Int))) :=
  j_X12_madeUp_70_120 m l0 l1 l2 l3 l4 l6 l7 l8 l5
noncomputable def b_X12_madeUp_70 (m : MM) (l0 : Nat) (l1 : Int) (l2 : Int) (l3 : Int) (l4 : Int) (l5 : Int) (l6 : Int) (l7 : Int) : Option ((Int × Int × Int) ⊕ ((Int × Int))) :=
  nk 73 (gR m 12 l0 20) fun i10 => ldN m 73 i10 l1 fun v11 => ck (v11 * (l4 + 1)) <| if (v11 * (l4 + 1)) ≤ l7 then (some (.inr (l5, l6))) else
  nk 126 (gR m 12 l0 76) fun i12 => (f_X12_leafAt m l1 l2 l7).bind fun v13 => ldN m 126 i12 v13 fun v14 => if v14 = (-1) then (j_X12_madeUp_70_118 m l0 l1 l2 l3 l4 l5 l6 l7 v14) else
  if l5 ≤ v14 then (j_X12_madeUp_70_118 m l0 l1 l2 l3 l4 l5 l6 l7 v14) else
  j_X12_madeUp_70_120 m l0 l1 l2 l3 l4 l6 l7 v14 v14
noncomputable def j_X12_madeUp_41_144 (m : MM) (l0 : Nat) (l1 : Int) (l2 : Int) (l3 : Int) (l4 : Int) (l5 : Int) (l6 : Int)  : Option ((Int × Int) ⊕ (Int)) :=
  if l6 ≤ l5 then (ck (l3 + 0) <| ck (l4 + 1) <| some (.inl ((l3 + 0), (l4 + 1)))) else
  ck (l3 + 1) <| ck (l4 + 1) <| some (.inl ((l3 + 1), (l4 + 1)))
noncomputable def b_X12_madeUp_41 (m : MM) (l0 : Nat) (l1 : Int) (l2 : Int) (l3 : Int) (l4 : Int) : Option ((Int × Int) ⊕ (Int)) :=
  nk 74 (gR m 12 l0 21) fun i6 => ldN m 74 i6 l1 fun v7 => if v7 ≤ l4 then (some (.inr l3)) else
  nk 73 (gR m 12 l0 20) fun i8 => ldN m 73 i8 l1 fun v9 => ck (v9 * l4) <| (lpb (fun s => b_X12_madeUp_70 m l0 l1 l2 l3 l4 s.1 s.2.1 s.2.2) (24, (-1), (v9 * l4))).bind fun z => j_X12_madeUp_41_144 m l0 l1 l2 l3 l4 (z.1) (z.2)
noncomputable def j_X12_madeUp_0_165 (m : MM) (l3 : Int)  : Option (RV × MM) :=
  some (.inl (some (aI l3)), m)
noncomputable def j_X12_madeUp_0_28 (m : MM) (l0 : Nat) (l1 : Int) (l2 : Int) (s0 : Nat) (s1 : Int) : Option (RV × MM) :=
  bI (f_X12_holds m s0 s1) (fun v5 m4 => if ¬ v5 = 0 then ((lpb (fun s => b_X12_madeUp_41 m4 l0 l1 l2 s.1 s.2) (0, 0)).bind fun z => j_X12_madeUp_0_165 m4 z) else
  some (.inl (some (aI 0)), m4)) x0
noncomputable def f_X12_madeUp (m : MM) (l0 : Nat) (l1 : Int) (l2 : Int) : Option (RV × MM) :=
  (f_X12_isCopy m l0 l1 l2).bind fun v1 => if ¬ v1 = 0 then (nk 79 (gR m 12 l0 26) fun i2 => ldN m 79 i2 l1 fun v3 => if v3 = 0 then (j_X12_madeUp_0_28 m l0 l1 l2 l0 2) else
  j_X12_madeUp_0_28 m l0 l1 l2 l0 0) else
  j_X12_madeUp_0_28 m l0 l1 l2 l0 1
noncomputable def j_X12_mark_0_49 (m : MM) (l0 : Nat) (l1 : Int) (l2 : Int) (l3 : Int) (s0 : Nat) (s1 : Int) : Option (RV × MM) :=
  bI (f_X12_holds m s0 s1) (fun v6 m5 => if ¬ v6 = 0 then (nk 126 (gR m5 12 l0 76) fun i7 => (f_X12_leafAt m5 l1 l2 l3).bind fun v8 => ldN m5 126 i7 v8 fun v9 => nk 73 (gR m5 12 l0 20) fun i10 => ldN m5 73 i10 l1 fun v11 => dv l3 v11 <| ck ((4 * l1) + (l3 / v11)) <| if ¬ v9 = (-1) then (nk 118 (gR m5 12 l0 66) fun i12 => ldN m5 118 i12 ((4 * l1) + (l3 / v11)) fun v13 => nk 119 (gR m5 12 l0 67) fun i14 => ldN m5 119 i14 ((4 * l1) + (l3 / v11)) fun v15 => ck (v15 + v9) <| dv (v15 + v9) 2 <| ck ((2 * v13) + ((v15 + v9) % 2)) <| some (.inl (some (aI ((2 * v13) + ((v15 + v9) % 2)))), m5)) else
  some (.inl (some (aI (-1))), m5)) else
  some (.inl (some (aI 0)), m5)) x0
noncomputable def j_X12_mark_0_23 (m : MM) (l0 : Nat) (l1 : Int) (l2 : Int) (l3 : Int) (s0 : Int) : Option (RV × MM) :=
  if ¬ s0 = 0 then (nk 79 (gR m 12 l0 26) fun i3 => ldN m 79 i3 l1 fun v4 => if v4 = 0 then (j_X12_mark_0_49 m l0 l1 l2 l3 l0 2) else
  j_X12_mark_0_49 m l0 l1 l2 l3 l0 0) else
  j_X12_mark_0_49 m l0 l1 l2 l3 l0 1
noncomputable def j_X12_mark_0_22 (m : MM) (l0 : Nat) (l1 : Int) (l2 : Int) (l3 : Int)  : Option (RV × MM) :=
  j_X12_mark_0_23 m l0 l1 l2 l3 0
noncomputable def f_X12_mark (m : MM) (l0 : Nat) (l1 : Int) (l2 : Int) (l3 : Int) : Option (RV × MM) :=
  (f_X12_isCopy m l0 l1 l2).bind fun v1 => if v1 = 0 then (j_X12_mark_0_22 m l0 l1 l2 l3) else
  (f_X12_isLeaf m l0 l1 l3).bind fun v2 => if v2 = 0 then (j_X12_mark_0_22 m l0 l1 l2 l3) else
  j_X12_mark_0_23 m l0 l1 l2 l3 1
noncomputable def j_X12_men_0_28 (m : MM) (l0 : Nat) (l1 : Int) (l2 : Int) (s0 : Nat) (s1 : Int) : Option (RV × MM) :=
  bI (f_X12_holds m s0 s1) (fun v4 m3 => if ¬ v4 = 0 then (nk 121 (gR m3 12 l0 70) fun i5 => ldN m3 121 i5 l1 fun v6 => nk 121 (gR m3 12 l0 70) fun i7 => stN m3 121 i7 l1 l2 fun m8 => some (.inl (some (aI v6)), m8)) else
  some (.inl (some (aI 0)), m3)) x0
noncomputable def f_X12_men (m : MM) (l0 : Nat) (l1 : Int) (l2 : Int) : Option (RV × MM) :=
  (f_X12_isIn m l1 0 2).bind fun v1 => if ¬ v1 = 0 then ((f_X12_isIn m l2 0 2).bind fun v2 => if v2 = 0 then (j_X12_men_0_28 m l0 l1 l2 l0 2) else
  j_X12_men_0_28 m l0 l1 l2 l0 0) else
  j_X12_men_0_28 m l0 l1 l2 l0 1
noncomputable def j_X12_ordersOf_40_93 (m : MM) (l0 : Nat) (l2 : Int) (l3 : Int) (l4 : Int) (s0 : Nat) (s1 : Int) (s2 : Int) (s3 : Int) : Option ((Int × MM) ⊕ (MM)) :=
  ck (s2 + s3) <| stN m 128 s0 s1 (s2 + s3) fun m16 => ck (l4 + 1) <| some (.inl ((l4 + 1), m16))
noncomputable def j_X12_ordersOf_40_92 (m : MM) (l0 : Nat) (l2 : Int) (l3 : Int) (l4 : Int) (s0 : Nat) (s1 : Int) (s2 : Int) : Option ((Int × MM) ⊕ (MM)) :=
  j_X12_ordersOf_40_93 m l0 l2 l3 l4 s0 s1 s2 0
noncomputable def b_X12_ordersOf_40 (l0 : Nat) (l2 : Int) (l3 : Int) (l4 : Int) (mm : MM) : Option ((Int × MM) ⊕ (MM)) :=
  if l2 ≤ l4 then (some (.inr mm)) else
  lt0 (iand l3 (ixor' (ishl 1 l4) (-1))) fun v9 => nk 128 (gR mm 12 l0 78) fun i10 => ldN mm 128 i10 l3 fun v11 => if v9 = l3 then (j_X12_ordersOf_40_92 mm l0 l2 l3 l4 i10 l3 v11) else
  nk 127 (gR mm 12 l0 77) fun i12 => ldN mm 127 i12 l4 fun v13 => if ¬ (iand v13 v9) = 0 then (j_X12_ordersOf_40_92 mm l0 l2 l3 l4 i10 l3 v11) else
  nk 128 (gR mm 12 l0 78) fun i14 => ldN mm 128 i14 v9 fun v15 => j_X12_ordersOf_40_93 mm l0 l2 l3 l4 i10 l3 v11 v15
noncomputable def j_X12_ordersOf_23_101 (m : MM) (l0 : Nat) (l2 : Int) (l3 : Int)  : Option ((Int × MM) ⊕ (MM)) :=
  ck (l3 + 1) <| some (.inl ((l3 + 1), m))
noncomputable def b_X12_ordersOf_23 (l0 : Nat) (l2 : Int) (l3 : Int) (mm : MM) : Option ((Int × MM) ⊕ (MM)) :=
  if (ishl 1 l2) ≤ l3 then (some (.inr mm)) else
  nk 128 (gR mm 12 l0 78) fun i7 => stN mm 128 i7 l3 0 fun m8 => (lpb (fun s => b_X12_ordersOf_40 l0 l2 l3 s.1 s.2) (0, m8)).bind fun z => j_X12_ordersOf_23_101 z l0 l2 l3
noncomputable def j_X12_ordersOf_0_107 (m : MM) (l0 : Nat) (l2 : Int)  : Option (RV × MM) :=
  nk 128 (gR m 12 l0 78) fun i17 => ldN m 128 i17 ((ishl 1 l2) - 1) fun v18 => some (.inl (some (aI v18)), m)
noncomputable def f_X12_ordersOf (m : MM) (l0 : Nat) (l1 : Int) : Option (RV × MM) :=
  nk 74 (gR m 12 l0 21) fun i1 => ldN m 74 i1 l1 fun v2 => ck (2 * v2) <| bV (f_X12_findSure m l0 l1) (fun m3 => nk 128 (gR m3 12 l0 78) fun i5 => stN m3 128 i5 0 1 fun m6 => (lpb (fun s => b_X12_ordersOf_23 l0 (2 * v2) s.1 s.2) (1, m6)).bind fun z => j_X12_ordersOf_0_107 z l0 (2 * v2)) x0
noncomputable def j_X12_orders_0_14 (m : MM) (l0 : Nat) (l1 : Int) (s0 : Nat) (s1 : Int) : Option (RV × MM) :=
  bI (f_X12_holds m s0 s1) (fun v3 m2 => if v3 = 0 then (some (.inl (some (aI 0)), m2)) else
  bI (f_X12_ordersOf m2 l0 l1) (fun v5 m4 => some (.inl (some (aI v5)), m4)) x0) x0
noncomputable def f_X12_orders (m : MM) (l0 : Nat) (l1 : Int) : Option (RV × MM) :=
  (f_X12_isBook m l0 l1).bind fun v1 => if v1 = 0 then (j_X12_orders_0_14 m l0 l1 l0 1) else
  j_X12_orders_0_14 m l0 l1 l0 0
noncomputable def f_X12_ordersAnew (m : MM) (l0 : Nat) (l1 : Int) : Option (RV × MM) :=
  bI (f_X12_orders m l0 l1) (fun v2 m1 => some (.inl (some (aI v2)), m1)) x0
noncomputable def b_X12_placeInForme_5 (m : MM) (l0 : Nat) (l1 : Int) (l2 : Int) (l3 : Int) (l4 : Int) : Option ((Int × Int) ⊕ (Int)) :=
  if l2 ≤ l4 then (some (.inr l3)) else
  (f_X12_formeOf m l0 l1 l4).bind fun v1 => (f_X12_formeOf m l0 l1 l2).bind fun v2 => if ¬ v1 = v2 then (ck (l3 + 0) <| ck (l4 + 1) <| some (.inl ((l3 + 0), (l4 + 1)))) else
  ck (l3 + 1) <| ck (l4 + 1) <| some (.inl ((l3 + 1), (l4 + 1)))
noncomputable def j_X12_placeInForme_0_41 (m : MM) (l3 : Int)  : Option (Int) :=
  some l3
noncomputable def f_X12_placeInForme (m : MM) (l0 : Nat) (l1 : Int) (l2 : Int) : Option (Int) :=
  (lpb (fun s => b_X12_placeInForme_5 m l0 l1 l2 s.1 s.2) (0, 0)).bind fun z => j_X12_placeInForme_0_41 m z
noncomputable def j_X12_page_0_29 (m : MM) (l0 : Nat) (l1 : Int) (l2 : Int) (l3 : Int) (s0 : Nat) (s1 : Int) : Option (RV × MM) :=
  bI (f_X12_holds m s0 s1) (fun v4 m3 => if ¬ v4 = 0 then (ck ((16 * l1) + l2) <| (f_X12_formeOf m3 l0 l1 l2).bind fun v5 => if ¬ l3 = 0 then (if ¬ l3 = 8 then (nk 83 (gR m3 12 l0 30) fun i6 => ldN m3 83 i6 ((16 * l1) + l2) fun v7 => if ¬ v7 = 0 then (if ¬ l3 = 1 then (if ¬ l3 = 2 then (if ¬ l3 = 3 then (if ¬ l3 = 4 then (if ¬ l3 = 5 then (if ¬ l3 = 6 then (nk 88 (gR m3 12 l0 35) fun i8 => ldN m3 88 i8 ((16 * l1) + l2) fun v9 => some (.inl (some (aI v9)), m3)) else
  nk 90 (gR m3 12 l0 37) fun i10 => ldN m3 90 i10 ((16 * l1) + l2) fun v11 => some (.inl (some (aI v11)), m3)) else
  nk 87 (gR m3 12 l0 34) fun i12 => ldN m3 87 i12 ((16 * l1) + l2) fun v13 => some (.inl (some (aI v13)), m3)) else
  nk 86 (gR m3 12 l0 33) fun i14 => ldN m3 86 i14 ((16 * l1) + l2) fun v15 => some (.inl (some (aI v15)), m3)) else
  nk 85 (gR m3 12 l0 32) fun i16 => ldN m3 85 i16 ((16 * l1) + l2) fun v17 => some (.inl (some (aI v17)), m3)) else
  nk 89 (gR m3 12 l0 36) fun i18 => ldN m3 89 i18 ((16 * l1) + l2) fun v19 => some (.inl (some (aI v19)), m3)) else
  nk 84 (gR m3 12 l0 31) fun i20 => ldN m3 84 i20 ((16 * l1) + l2) fun v21 => some (.inl (some (aI v21)), m3)) else
  some (.inl (some (aI (-1))), m3)) else
  nk 108 (gR m3 12 l0 56) fun i22 => ldN m3 108 i22 ((8 * l1) + v5) fun v23 => if ¬ v23 = 0 then (nk 109 (gR m3 12 l0 57) fun i24 => ldN m3 109 i24 ((8 * l1) + v5) fun v25 => (f_X12_placeInForme m3 l0 l1 l2).bind fun v26 => ck ((8 * v25) + v26) <| some (.inl (some (aI ((8 * v25) + v26))), m3)) else
  some (.inl (some (aI (-1))), m3)) else
  some (.inl (some (aI v5)), m3)) else
  some (.inl (some (aI 0)), m3)) x0
noncomputable def f_X12_page (m : MM) (l0 : Nat) (l1 : Int) (l2 : Int) (l3 : Int) : Option (RV × MM) :=
  (f_X12_isPage m l0 l1 l2).bind fun v1 => if ¬ v1 = 0 then ((f_X12_isIn m l3 0 8).bind fun v2 => if v2 = 0 then (j_X12_page_0_29 m l0 l1 l2 l3 l0 2) else
  j_X12_page_0_29 m l0 l1 l2 l3 l0 0) else
  j_X12_page_0_29 m l0 l1 l2 l3 l0 1
noncomputable def j_X12_paper_0_15 (m : MM) (l0 : Nat) (l1 : Int) (s0 : Nat) (s1 : Int) : Option (RV × MM) :=
  bI (f_X12_holds m s0 s1) (fun v3 m2 => if ¬ v3 = 0 then (lt' (sN m2 12 l0 74 l1) fun m4 => nk 125 (gR m4 12 l0 75) fun i5 => ldN m4 125 i5 l1 fun v6 => some (.inl (some (aI v6)), m4)) else
  some (.inl (some (aI 0)), m2)) x0
noncomputable def f_X12_paper (m : MM) (l0 : Nat) (l1 : Int) : Option (RV × MM) :=
  (f_X12_isIn m l1 0 3).bind fun v1 => if v1 = 0 then (j_X12_paper_0_15 m l0 l1 l0 1) else
  j_X12_paper_0_15 m l0 l1 l0 0
noncomputable def f_X12_isHoliday (m : MM) (l0 : Int) : Option (Int) :=
  dv l0 10 <| dv (l0 / 10) 7 <| if ¬ ((l0 / 10) % 7) = 6 then (some 0) else
  some 1
noncomputable def j_X12_keeps_27_103 (m : MM) (l0 : Nat) (l1 : Int) (l2 : Int) (l3 : Int) (l4 : Int) (l5 : Int) (s0 : Nat) (s1 : Int) (s2 : Int) : Option ((Int × MM) ⊕ (MM)) :=
  stN m 104 s0 s1 s2 fun m16 => ck (l5 + 1) <| some (.inl ((l5 + 1), m16))
noncomputable def b_X12_keeps_27 (l0 : Nat) (l1 : Int) (l2 : Int) (l3 : Int) (l4 : Int) (l5 : Int) (mm : MM) : Option ((Int × MM) ⊕ (MM)) :=
  nk 90 (gR mm 12 l0 37) fun i2 => ldN mm 90 i2 l4 fun v3 => ck ((150 * l4) + v3) <| if ((150 * l4) + v3) ≤ l5 then (some (.inr mm)) else
  (f_X12_formeOf mm l0 l1 l3).bind fun v4 => if ¬ v4 = l2 then (some (.inr mm)) else
  nk 103 (gR mm 12 l0 50) fun i5 => nk 100 (gR mm 12 l0 47) fun i6 => ldN mm 100 i6 l5 fun v7 => stN mm 103 i5 l5 v7 fun m8 => nk 104 (gR m8 12 l0 51) fun i9 => nk 100 (gR m8 12 l0 47) fun i10 => ldN m8 100 i10 l5 fun v11 => if ¬ v11 = (-1) then (nk 63 (gR m8 12 l0 8) fun i12 => nk 100 (gR m8 12 l0 47) fun i13 => ldN m8 100 i13 l5 fun v14 => ldN m8 63 i12 v14 fun v15 => j_X12_keeps_27_103 m8 l0 l1 l2 l3 l4 l5 i9 l5 v15) else
  j_X12_keeps_27_103 m8 l0 l1 l2 l3 l4 l5 i9 l5 0
noncomputable def j_X12_keeps_2_110 (m : MM) (l0 : Nat) (l1 : Int) (l2 : Int) (l3 : Int)  : Option ((Int × MM) ⊕ (MM)) :=
  ck (l3 + 1) <| some (.inl ((l3 + 1), m))
noncomputable def b_X12_keeps_2 (l0 : Nat) (l1 : Int) (l2 : Int) (l3 : Int) (mm : MM) : Option ((Int × MM) ⊕ (MM)) :=
  (f_X12_pagesOf mm l0 l1).bind fun v1 => if v1 ≤ l3 then (some (.inr mm)) else
  ck ((16 * l1) + l3) <| ck (150 * ((16 * l1) + l3)) <| (lpb (fun s => b_X12_keeps_27 l0 l1 l2 l3 ((16 * l1) + l3) s.1 s.2) ((150 * ((16 * l1) + l3)), mm)).bind fun z => j_X12_keeps_2_110 z l0 l1 l2 l3
noncomputable def j_X12_keeps_0_116 (m : MM)   : Option (RV × MM) :=
  some (.inl none, m)
noncomputable def f_X12_keeps (m : MM) (l0 : Nat) (l1 : Int) (l2 : Int) : Option (RV × MM) :=
  (lpb (fun s => b_X12_keeps_2 l0 l1 l2 s.1 s.2) (0, m)).bind fun z => j_X12_keeps_0_116 z
noncomputable def j_X12_works_0_93 (m : MM) (l0 : Nat) (l1 : Int) (l2 : Int) (l3 : Int) (s0 : Int) : Option (RV × MM) :=
  nk 110 (gR m 12 l0 58) fun i20 => ldN m 110 i20 l2 fun v21 => ck (v21 + s0) <| stN m 110 i20 l2 (v21 + s0) fun m22 => nk 123 (gR m22 12 l0 72) fun i23 => ldN m22 123 i23 l1 fun v24 => ck (v24 + s0) <| stN m22 123 i23 l1 (v24 + s0) fun m25 => nk 110 (gR m25 12 l0 58) fun i26 => ldN m25 110 i26 l2 fun v27 => nk 77 (gR m25 12 l0 24) fun i28 => ldN m25 77 i28 l3 fun v29 => if v29 ≤ v27 then (nk 108 (gR m25 12 l0 56) fun i30 => stN m25 108 i30 l2 3 fun m31 => nk 114 (gR m31 12 l0 62) fun i32 => stN m31 114 i32 l2 (gN m31 12 l0 69) fun m33 => nk 122 (gR m33 12 l0 71) fun i34 => stN m33 122 i34 l1 (-1) fun m35 => dv l2 8 <| bV (f_X12_keeps m35 l0 l3 (l2 % 8)) (fun m36 => some (.inl (some (aI 1)), m36)) x0) else
  some (.inl (some (aI 0)), m25)
noncomputable def f_X12_works (m : MM) (l0 : Nat) (l1 : Int) : Option (RV × MM) :=
  nk 122 (gR m 12 l0 71) fun i1 => ldN m 122 i1 l1 fun v2 => if v2 = (-1) then (some (.inl (some (aI 0)), m)) else
  nk 121 (gR m 12 l0 70) fun i3 => ldN m 121 i3 l1 fun v4 => if ¬ v4 = 0 then (dv v2 8 <| nk 124 (gR m 12 l0 73) fun i5 => ldN m 124 i5 l1 fun v6 => ck (v6 + 1) <| stN m 124 i5 l1 (v6 + 1) fun m7 => nk 115 (gR m7 12 l0 63) fun i8 => ldN m7 115 i8 v2 fun v9 => if ¬ v9 = 0 then (nk 77 (gR m7 12 l0 24) fun i10 => ldN m7 77 i10 (v2 / 8) fun v11 => nk 110 (gR m7 12 l0 58) fun i12 => ldN m7 110 i12 v2 fun v13 => ck (v11 - v13) <| nk 121 (gR m7 12 l0 70) fun i14 => ldN m7 121 i14 l1 fun v15 => if (v11 - v13) ≤ v15 then (j_X12_works_0_93 m7 l0 l1 v2 (v2 / 8) (v11 - v13)) else
  nk 121 (gR m7 12 l0 70) fun i16 => ldN m7 121 i16 l1 fun v17 => j_X12_works_0_93 m7 l0 l1 v2 (v2 / 8) v17) else
  nk 115 (gR m7 12 l0 63) fun i18 => stN m7 115 i18 v2 1 fun m19 => some (.inl (some (aI 0)), m19)) else
  some (.inl (some (aI 0)), m)
noncomputable def b_X12_pass_52 (l0 : Nat) (l1 : Int) (l3 : Int) (l2 : Int) (l4 : Int) (mm : MM) : Option ((Int × Int × MM) ⊕ ((Int × MM))) :=
  if 3 ≤ l4 then (some (.inr (l2, mm))) else
  (f_X12_isHoliday mm (gN mm 12 l0 69)).bind fun v4 => if ¬ v4 = 0 then (some (.inr (l2, mm))) else
  bI (f_X12_works mm l0 l4) (fun v6 m5 => ck (l2 + v6) <| ck (l4 + 1) <| some (.inl ((l2 + v6), (l4 + 1), m5))) x0
noncomputable def j_X12_pass_44_83 (m : MM) (l0 : Nat) (l1 : Int) (l2 : Int) (l3 : Int)  : Option ((Int × Int × MM) ⊕ ((Int × MM))) :=
  ck ((gN m 12 l0 69) + 1) <| lt' (sN m 12 l0 69 ((gN m 12 l0 69) + 1)) fun m7 => ck (l3 + 1) <| some (.inl (l2, (l3 + 1), m7))
noncomputable def b_X12_pass_44 (l0 : Nat) (l1 : Int) (l2 : Int) (l3 : Int) (mm : MM) : Option ((Int × Int × MM) ⊕ ((Int × MM))) :=
  if l1 ≤ l3 then (some (.inr (l2, mm))) else
  (lpb (fun s => b_X12_pass_52 l0 l1 l3 s.1 s.2.1 s.2.2) (l2, 0, mm)).bind fun z => j_X12_pass_44_83 (z.2) l0 l1 (z.1) l3
noncomputable def j_X12_pass_0_99 (m : MM) (l2 : Int)  : Option (RV × MM) :=
  some (.inl (some (aI l2)), m)
noncomputable def j_X12_pass_0_32 (m : MM) (l0 : Nat) (l1 : Int) (s0 : Nat) (s1 : Int) : Option (RV × MM) :=
  bI (f_X12_holds m s0 s1) (fun v3 m2 => if ¬ v3 = 0 then ((lpb (fun s => b_X12_pass_44 l0 l1 s.1 s.2.1 s.2.2) (0, 0, m2)).bind fun z => j_X12_pass_0_99 (z.2) (z.1)) else
  some (.inl (some (aI 0)), m2)) x0
noncomputable def f_X12_pass (m : MM) (l0 : Nat) (l1 : Int) : Option (RV × MM) :=
  (f_X12_isIn m l1 1 70).bind fun v1 => if ¬ v1 = 0 then (ck ((gN m 12 l0 69) + l1) <| if ((gN m 12 l0 69) + l1) ≤ 5000 then (j_X12_pass_0_32 m l0 l1 l0 0) else
  j_X12_pass_0_32 m l0 l1 l0 2) else
  j_X12_pass_0_32 m l0 l1 l0 1
noncomputable def j_X12_piece_0_33 (m : MM) (l0 : Nat) (l1 : Int) (l2 : Int) (s0 : Nat) (s1 : Int) : Option (RV × MM) :=
  bI (f_X12_holds m s0 s1) (fun v4 m3 => if ¬ v4 = 0 then (if ¬ l2 = 0 then (if ¬ l2 = 1 then (nk 64 (gR m3 12 l0 9) fun i5 => ldN m3 64 i5 l1 fun v6 => some (.inl (some (aI v6)), m3)) else
  nk 63 (gR m3 12 l0 8) fun i7 => ldN m3 63 i7 l1 fun v8 => some (.inl (some (aI v8)), m3)) else
  nk 62 (gR m3 12 l0 7) fun i9 => ldN m3 62 i9 l1 fun v10 => some (.inl (some (aI v10)), m3)) else
  some (.inl (some (aI 0)), m3)) x0
noncomputable def f_X12_piece (m : MM) (l0 : Nat) (l1 : Int) (l2 : Int) : Option (RV × MM) :=
  ck ((gN m 12 l0 6) - 1) <| (f_X12_isIn m l1 0 ((gN m 12 l0 6) - 1)).bind fun v1 => if ¬ v1 = 0 then ((f_X12_isIn m l2 0 2).bind fun v2 => if v2 = 0 then (j_X12_piece_0_33 m l0 l1 l2 l0 2) else
  j_X12_piece_0_33 m l0 l1 l2 l0 0) else
  j_X12_piece_0_33 m l0 l1 l2 l0 1
noncomputable def j_X12_place_0_33 (m : MM) (l0 : Nat) (l1 : Int) (l2 : Int) (l3 : Int) (l4 : Int) (s0 : Nat) (s1 : Int) : Option (RV × MM) :=
  bI (f_X12_holds m s0 s1) (fun v4 m3 => if ¬ v4 = 0 then (ck ((16 * l1) + l2) <| nk 83 (gR m3 12 l0 30) fun i5 => ldN m3 83 i5 ((16 * l1) + l2) fun v6 => if v6 = 0 then (some (.inl (some (aI (-1))), m3)) else
  nk 90 (gR m3 12 l0 37) fun i7 => ldN m3 90 i7 ((16 * l1) + l2) fun v8 => if l3 < v8 then (ck ((150 * ((16 * l1) + l2)) + l3) <| lt0 ((150 * ((16 * l1) + l2)) + l3) fun v9 => if ¬ l4 = 0 then (if ¬ l4 = 1 then (nk 101 (gR m3 12 l0 48) fun i10 => ldN m3 101 i10 v9 fun v11 => some (.inl (some (aI v11)), m3)) else
  nk 99 (gR m3 12 l0 46) fun i12 => ldN m3 99 i12 v9 fun v13 => some (.inl (some (aI v13)), m3)) else
  nk 100 (gR m3 12 l0 47) fun i14 => ldN m3 100 i14 v9 fun v15 => some (.inl (some (aI v15)), m3)) else
  some (.inl (some (aI (-1))), m3)) else
  some (.inl (some (aI 0)), m3)) x0
noncomputable def j_X12_place_0_14 (m : MM) (l0 : Nat) (l1 : Int) (l2 : Int) (l3 : Int) (l4 : Int) (s0 : Nat) : Option (RV × MM) :=
  j_X12_place_0_33 m l0 l1 l2 l3 l4 s0 1
noncomputable def f_X12_place (m : MM) (l0 : Nat) (l1 : Int) (l2 : Int) (l3 : Int) (l4 : Int) : Option (RV × MM) :=
  (f_X12_isPage m l0 l1 l2).bind fun v1 => if v1 = 0 then (j_X12_place_0_14 m l0 l1 l2 l3 l4 l0) else
  if 0 ≤ l3 then ((f_X12_isIn m l4 0 2).bind fun v2 => if v2 = 0 then (j_X12_place_0_33 m l0 l1 l2 l3 l4 l0 2) else
  j_X12_place_0_33 m l0 l1 l2 l3 l4 l0 0) else
  j_X12_place_0_14 m l0 l1 l2 l3 l4 l0
noncomputable def j_X12_presses_34_104 (m : MM) (l0 : Nat) (l1 : Int) (l2 : Int) (l4 : Int) (l5 : Int) (l6 : Int) (s0 : Int) : Option ((Int × Int × Int × Int) ⊕ ((Int × Int × Int))) :=
  nk 114 (gR m 12 l0 62) fun i15 => ldN m 114 i15 l6 fun v16 => if v16 ≤ l4 then (ck (l5 + 1) <| some (.inl (l2, s0, l4, (l5 + 1)))) else
  nk 114 (gR m 12 l0 62) fun i17 => ldN m 114 i17 l6 fun v18 => ck (l5 + 1) <| some (.inl (l2, s0, v18, (l5 + 1)))
noncomputable def b_X12_presses_34 (m : MM) (l0 : Nat) (l1 : Int) (l2 : Int) (l3 : Int) (l4 : Int) (l5 : Int) : Option ((Int × Int × Int × Int) ⊕ ((Int × Int × Int))) :=
  nk 74 (gR m 12 l0 21) fun i4 => ldN m 74 i4 l1 fun v5 => ck (2 * v5) <| if (2 * v5) ≤ l5 then (some (.inr (l2, l3, l4))) else
  ck ((8 * l1) + l5) <| nk 108 (gR m 12 l0 56) fun i6 => ldN m 108 i6 ((8 * l1) + l5) fun v7 => if v7 < 3 then (ck (l5 + 1) <| some (.inl (l2, l3, l4, (l5 + 1)))) else
  nk 77 (gR m 12 l0 24) fun i8 => ldN m 77 i8 l1 fun v9 => ck (v9 + 1) <| dv (v9 + 1) 2 <| ck (l2 + (1 + ((v9 + 1) / 2))) <| lt0 (l2 + (1 + ((v9 + 1) / 2))) fun v10 => nk 113 (gR m 12 l0 61) fun i11 => ldN m 113 i11 ((8 * l1) + l5) fun v12 => if l3 ≤ v12 then (j_X12_presses_34_104 m l0 l1 v10 l4 l5 ((8 * l1) + l5) l3) else
  nk 113 (gR m 12 l0 61) fun i13 => ldN m 113 i13 ((8 * l1) + l5) fun v14 => j_X12_presses_34_104 m l0 l1 v10 l4 l5 ((8 * l1) + l5) v14
noncomputable def b_X12_presses_143 (m : MM) (l2 : Int) (l4 : Int) (l5 : Int) (l6 : Int) : Option ((Int × Int) ⊕ (Int)) :=
  if l4 < l6 then (some (.inr l5)) else
  (f_X12_isHoliday m l6).bind fun v19 => if v19 = 0 then (ck (l5 + 1) <| ck (l6 + 1) <| some (.inl ((l5 + 1), (l6 + 1)))) else
  ck (l5 + 0) <| ck (l6 + 1) <| some (.inl ((l5 + 0), (l6 + 1)))
noncomputable def j_X12_presses_0_174 (m : MM) (l2 : Int) (l5 : Int)  : Option (RV × MM) :=
  if ¬ l2 = 0 then (ck ((l2 + l5) - 1) <| dv ((l2 + l5) - 1) l5 <| some (.inl (some (aI (((l2 + l5) - 1) / l5))), m)) else
  some (.inl (some (aI 0)), m)
noncomputable def j_X12_presses_0_137 (m : MM) (l2 : Int) (l3 : Int) (l4 : Int)  : Option (RV × MM) :=
  (lpb (fun s => b_X12_presses_143 m l2 l4 s.1 s.2) (0, l3)).bind fun z => j_X12_presses_0_174 m l2 z
noncomputable def j_X12_presses_0_14 (m : MM) (l0 : Nat) (l1 : Int) (s0 : Nat) (s1 : Int) : Option (RV × MM) :=
  bI (f_X12_holds m s0 s1) (fun v3 m2 => if ¬ v3 = 0 then ((lpb (fun s => b_X12_presses_34 m2 l0 l1 s.1 s.2.1 s.2.2.1 s.2.2.2) (0, 5000, (-1), 0)).bind fun z => j_X12_presses_0_137 m2 (z.1) (z.2.1) (z.2.2)) else
  some (.inl (some (aI 0)), m2)) x0
noncomputable def f_X12_presses (m : MM) (l0 : Nat) (l1 : Int) : Option (RV × MM) :=
  (f_X12_isBook m l0 l1).bind fun v1 => if v1 = 0 then (j_X12_presses_0_14 m l0 l1 l0 1) else
  j_X12_presses_0_14 m l0 l1 l0 0
noncomputable def j_X12_print_0_160 (m : MM) (l0 : Nat) (l2 : Int) (l6 : Int) (s0 : Nat) (s1 : Int) (s2 : Int) : Option (RV × MM) :=
  cb s2 <| stN m 116 s0 s1 s2 fun m22 => nk 117 (gR m22 12 l0 65) fun i23 => ldN m22 117 i23 l6 fun v24 => if ¬ v24 = 0 then (some (.inl none, m22)) else
  nk 117 (gR m22 12 l0 65) fun i25 => stN m22 117 i25 l6 1 fun m26 => nk 118 (gR m26 12 l0 66) fun i27 => stN m26 118 i27 l6 (gN m26 12 l0 74) fun m28 => nk 119 (gR m28 12 l0 67) fun i29 => nk 125 (gR m28 12 l0 75) fun i30 => ldN m28 125 i30 (gN m28 12 l0 74) fun v31 => stN m28 119 i29 l6 v31 fun m32 => nk 125 (gR m32 12 l0 75) fun i33 => ldN m32 125 i33 (gN m32 12 l0 74) fun v34 => nk 77 (gR m32 12 l0 24) fun i35 => ldN m32 77 i35 l2 fun v36 => ck (v34 + v36) <| stN m32 125 i33 (gN m32 12 l0 74) (v34 + v36) fun m37 => some (.inl none, m37)
noncomputable def j_X12_print_0_91 (m : MM) (l0 : Nat) (l1 : Int) (l2 : Int) (l5 : Int) (s0 : Nat) (s1 : Int) : Option (RV × MM) :=
  bI (f_X12_holds m s0 s1) (fun v10 m9 => if ¬ v10 = 0 then (nk 108 (gR m9 12 l0 56) fun i11 => stN m9 108 i11 l5 2 fun m12 => nk 115 (gR m12 12 l0 63) fun i13 => stN m12 115 i13 l5 0 fun m14 => nk 113 (gR m14 12 l0 61) fun i15 => stN m14 113 i15 l5 (gN m14 12 l0 69) fun m16 => nk 122 (gR m16 12 l0 71) fun i17 => stN m16 122 i17 l1 l5 fun m18 => dv l5 2 <| nk 116 (gR m18 12 l0 64) fun i19 => nk 117 (gR m18 12 l0 65) fun i20 => ldN m18 117 i20 (l5 / 2) fun v21 => if ¬ v21 = 0 then (j_X12_print_0_160 m18 l0 l2 (l5 / 2) i19 l5 0) else
  j_X12_print_0_160 m18 l0 l2 (l5 / 2) i19 l5 1) else
  some (.inl none, m9)) x0
noncomputable def j_X12_print_0_86 (m : MM) (l0 : Nat) (l1 : Int) (l2 : Int) (l5 : Int) (s0 : Nat) : Option (RV × MM) :=
  j_X12_print_0_91 m l0 l1 l2 l5 s0 2
noncomputable def j_X12_print_0_40 (m : MM) (l0 : Nat) (l1 : Int) (l2 : Int) (l4 : Int) (s0 : Int) : Option (RV × MM) :=
  if ¬ l4 = 0 then (nk 122 (gR m 12 l0 71) fun i3 => ldN m 122 i3 l1 fun v4 => if ¬ v4 = (-1) then (j_X12_print_0_86 m l0 l1 l2 s0 l0) else
  nk 108 (gR m 12 l0 56) fun i5 => ldN m 108 i5 s0 fun v6 => if ¬ v6 = 1 then (j_X12_print_0_86 m l0 l1 l2 s0 l0) else
  nk 108 (gR m 12 l0 56) fun i7 => ldN m 108 i7 (ixor' s0 1) fun v8 => if ¬ v8 = 2 then (j_X12_print_0_91 m l0 l1 l2 s0 l0 0) else
  j_X12_print_0_86 m l0 l1 l2 s0 l0) else
  j_X12_print_0_91 m l0 l1 l2 s0 l0 1
noncomputable def j_X12_print_0_23 (m : MM) (l0 : Nat) (l1 : Int) (l2 : Int) (l3 : Int) (s0 : Int) : Option (RV × MM) :=
  if s0 = 0 then (j_X12_print_0_40 m l0 l1 l2 s0 0) else
  ck ((8 * l2) + l3) <| j_X12_print_0_40 m l0 l1 l2 s0 ((8 * l2) + l3)
noncomputable def j_X12_print_0_22 (m : MM) (l0 : Nat) (l1 : Int) (l2 : Int) (l3 : Int)  : Option (RV × MM) :=
  j_X12_print_0_23 m l0 l1 l2 l3 0
noncomputable def f_X12_print (m : MM) (l0 : Nat) (l1 : Int) (l2 : Int) (l3 : Int) : Option (RV × MM) :=
  (f_X12_isIn m l1 0 2).bind fun v1 => if v1 = 0 then (j_X12_print_0_22 m l0 l1 l2 l3) else
  (f_X12_isForme m l0 l2 l3).bind fun v2 => if v2 = 0 then (j_X12_print_0_22 m l0 l1 l2 l3) else
  j_X12_print_0_23 m l0 l1 l2 l3 1
noncomputable def j_X12_putAway_108_232 (m : MM) (l0 : Nat) (l1 : Int) (l2 : Int) (l3 : Int) (l5 : Int) (l6 : Int) (l7 : Int) (l8 : Int) (l9 : Int) (s0 : Nat) (s1 : Int) : Option ((Int × Int × MM) ⊕ ((Int × MM))) :=
  nk 100 (gR m 12 l0 47) fun i30 => ldN m 100 i30 l9 fun v31 => bV (f_X12_puts m s0 s1 v31) (fun m32 => nk 100 (gR m32 12 l0 47) fun i34 => stN m32 100 i34 l9 (-1) fun m35 => nk 101 (gR m35 12 l0 48) fun i36 => stN m35 101 i36 l9 0 fun m37 => ck (l9 + 1) <| some (.inl (l6, (l9 + 1), m37))) x0
noncomputable def j_X12_putAway_108_192 (m : MM) (l0 : Nat) (l1 : Int) (l2 : Int) (l3 : Int) (l5 : Int) (l6 : Int) (l7 : Int) (l8 : Int) (l9 : Int) (s0 : Int) : Option ((Int × Int × MM) ⊕ ((Int × MM))) :=
  if s0 = 0 then (nk 62 (gR m 12 l0 7) fun i22 => nk 100 (gR m 12 l0 47) fun i23 => ldN m 100 i23 l9 fun v24 => ldN m 62 i22 v24 fun v25 => j_X12_putAway_108_232 m l0 l1 l2 l3 l5 l6 l7 l8 l9 l0 v25) else
  nk 62 (gR m 12 l0 7) fun i26 => nk 100 (gR m 12 l0 47) fun i27 => ldN m 100 i27 l9 fun v28 => ldN m 62 i26 v28 fun v29 => ck (v29 + 1) <| dv (v29 + 1) 28 <| j_X12_putAway_108_232 m l0 l1 l2 l3 l5 l6 l7 l8 l9 l0 ((v29 + 1) % 28)
noncomputable def j_X12_putAway_108_191 (m : MM) (l0 : Nat) (l1 : Int) (l2 : Int) (l3 : Int) (l5 : Int) (l6 : Int) (l7 : Int) (l8 : Int) (l9 : Int)  : Option ((Int × Int × MM) ⊕ ((Int × MM))) :=
  j_X12_putAway_108_192 m l0 l1 l2 l3 l5 l6 l7 l8 l9 0
noncomputable def b_X12_putAway_108 (l0 : Nat) (l1 : Int) (l2 : Int) (l3 : Int) (l5 : Int) (l7 : Int) (l8 : Int) (l6 : Int) (l9 : Int) (mm : MM) : Option ((Int × Int × MM) ⊕ ((Int × MM))) :=
  nk 90 (gR mm 12 l0 37) fun i8 => ldN mm 90 i8 l8 fun v9 => ck ((150 * l8) + v9) <| if ((150 * l8) + v9) ≤ l9 then (some (.inr (l6, mm))) else
  (f_X12_formeOf mm l0 l1 l7).bind fun v10 => if ¬ v10 = l2 then (some (.inr (l6, mm))) else
  nk 100 (gR mm 12 l0 47) fun i11 => ldN mm 100 i11 l9 fun v12 => if v12 = (-1) then (ck (l9 + 1) <| some (.inl (l6, (l9 + 1), mm))) else
  ck (l6 + 1) <| nk 72 (gR mm 12 l0 18) fun i13 => ldN mm 72 i13 l3 fun v14 => ck (v14 + 1) <| stN mm 72 i13 l3 (v14 + 1) fun m15 => nk 68 (gR m15 12 l0 14) fun i16 => ldN m15 68 i16 l3 fun v17 => if v17 ≤ 0 then (j_X12_putAway_108_191 m15 l0 l1 l2 l3 l5 (l6 + 1) l7 l8 l9) else
  nk 72 (gR m15 12 l0 18) fun i18 => ldN m15 72 i18 l3 fun v19 => nk 68 (gR m15 12 l0 14) fun i20 => ldN m15 68 i20 l3 fun v21 => dv v19 v21 <| if ¬ (v19 % v21) = 0 then (j_X12_putAway_108_191 m15 l0 l1 l2 l3 l5 (l6 + 1) l7 l8 l9) else
  j_X12_putAway_108_192 m15 l0 l1 l2 l3 l5 (l6 + 1) l7 l8 l9 1
noncomputable def j_X12_putAway_81_264 (m : MM) (l0 : Nat) (l1 : Int) (l2 : Int) (l3 : Int) (l5 : Int) (l6 : Int) (l7 : Int)  : Option ((Int × Int × MM) ⊕ ((Int × MM))) :=
  ck (l7 + 1) <| some (.inl (l6, (l7 + 1), m))
noncomputable def b_X12_putAway_81 (l0 : Nat) (l1 : Int) (l2 : Int) (l3 : Int) (l5 : Int) (l6 : Int) (l7 : Int) (mm : MM) : Option ((Int × Int × MM) ⊕ ((Int × MM))) :=
  (f_X12_pagesOf mm l0 l1).bind fun v7 => if v7 ≤ l7 then (some (.inr (l6, mm))) else
  ck ((16 * l1) + l7) <| ck (150 * ((16 * l1) + l7)) <| (lpb (fun s => b_X12_putAway_108 l0 l1 l2 l3 l5 l7 ((16 * l1) + l7) s.1 s.2.1 s.2.2) (l6, (150 * ((16 * l1) + l7)), mm)).bind fun z => j_X12_putAway_81_264 (z.2) l0 l1 l2 l3 l5 (z.1) l7
noncomputable def j_X12_putAway_0_270 (m : MM) (l0 : Nat) (l5 : Int) (l6 : Int)  : Option (RV × MM) :=
  nk 108 (gR m 12 l0 56) fun i38 => stN m 108 i38 l5 4 fun m39 => some (.inl (some (aI l6)), m39)
noncomputable def j_X12_putAway_0_67 (m : MM) (l0 : Nat) (l1 : Int) (l2 : Int) (l3 : Int) (l5 : Int) (s0 : Nat) (s1 : Int) : Option (RV × MM) :=
  bI (f_X12_holds m s0 s1) (fun v6 m5 => if ¬ v6 = 0 then ((lpb (fun s => b_X12_putAway_81 l0 l1 l2 l3 l5 s.1 s.2.1 s.2.2) (0, 0, m5)).bind fun z => j_X12_putAway_0_270 (z.2) l0 l5 (z.1)) else
  some (.inl (some (aI 0)), m5)) x0
noncomputable def j_X12_putAway_0_39 (m : MM) (l0 : Nat) (l1 : Int) (l2 : Int) (l3 : Int) (l4 : Int) (s0 : Int) : Option (RV × MM) :=
  if ¬ l4 = 0 then (nk 108 (gR m 12 l0 56) fun i3 => ldN m 108 i3 s0 fun v4 => if ¬ v4 = 3 then (j_X12_putAway_0_67 m l0 l1 l2 l3 s0 l0 2) else
  j_X12_putAway_0_67 m l0 l1 l2 l3 s0 l0 0) else
  j_X12_putAway_0_67 m l0 l1 l2 l3 s0 l0 1
noncomputable def j_X12_putAway_0_22 (m : MM) (l0 : Nat) (l1 : Int) (l2 : Int) (l3 : Int) (s0 : Int) : Option (RV × MM) :=
  if s0 = 0 then (j_X12_putAway_0_39 m l0 l1 l2 l3 s0 0) else
  ck ((8 * l1) + l2) <| j_X12_putAway_0_39 m l0 l1 l2 l3 s0 ((8 * l1) + l2)
noncomputable def j_X12_putAway_0_21 (m : MM) (l0 : Nat) (l1 : Int) (l2 : Int) (l3 : Int)  : Option (RV × MM) :=
  j_X12_putAway_0_22 m l0 l1 l2 l3 0
noncomputable def f_X12_putAway (m : MM) (l0 : Nat) (l1 : Int) (l2 : Int) (l3 : Int) : Option (RV × MM) :=
  (f_X12_isForme m l0 l1 l2).bind fun v1 => if v1 = 0 then (j_X12_putAway_0_21 m l0 l1 l2 l3) else
  (f_X12_isHand m l0 l3).bind fun v2 => if v2 = 0 then (j_X12_putAway_0_21 m l0 l1 l2 l3) else
  j_X12_putAway_0_22 m l0 l1 l2 l3 1
noncomputable def b_X12_fillsOut_39 (l0 : Nat) (l2 : Int) (l3 : Int) (l4 : Int) (l5 : Int) (l6 : Int) (l7 : Int) (mm : MM) : Option ((Int × MM) ⊕ (MM)) :=
  if l5 ≤ l7 then (some (.inr mm)) else
  nk 93 (gR mm 12 l0 40) fun i5 => ldN mm 93 i5 l2 fun v6 => if v6 ≤ 0 then (ck (l7 + 1) <| some (.inl ((l7 + 1), mm))) else
  nk 97 (gR mm 12 l0 44) fun i7 => stN mm 97 i7 l7 l6 fun m8 => nk 93 (gR m8 12 l0 40) fun i9 => ldN m8 93 i9 l2 fun v10 => ck (v10 - 1) <| stN m8 93 i9 l2 (v10 - 1) fun m11 => ck (l7 + 1) <| some (.inl ((l7 + 1), m11))
noncomputable def j_X12_fillsOut_27_80 (m : MM) (l0 : Nat) (l2 : Int) (l3 : Int) (l4 : Int) (l5 : Int) (l6 : Int)  : Option ((Int × MM) ⊕ (MM)) :=
  ck (l6 + 1) <| some (.inl ((l6 + 1), m))
noncomputable def b_X12_fillsOut_27 (l0 : Nat) (l2 : Int) (l3 : Int) (l4 : Int) (l5 : Int) (l6 : Int) (mm : MM) : Option ((Int × MM) ⊕ (MM)) :=
  if 3 < l6 then (some (.inr mm)) else
  ck (l4 + 1) <| (lpb (fun s => b_X12_fillsOut_39 l0 l2 l3 l4 l5 l6 s.1 s.2) ((l4 + 1), mm)).bind fun z => j_X12_fillsOut_27_80 z l0 l2 l3 l4 l5 l6
noncomputable def b_X12_fillsOut_90 (l0 : Nat) (l2 : Int) (l3 : Int) (l5 : Int) (l6 : Int) (mm : MM) : Option ((Int × MM) ⊕ (MM)) :=
  if l5 ≤ l6 then (some (.inr mm)) else
  if ¬ l3 = 0 then (some (.inr mm)) else
  nk 96 (gR mm 12 l0 43) fun i12 => ldL mm 96 i12 l6 fun v13 => (f_X12_spellingOf mm l0 v13).bind fun v14 => if v14 = (-1) then (ck (l6 + 1) <| some (.inl ((l6 + 1), mm))) else
  nk 96 (gR mm 12 l0 43) fun i15 => ldL mm 96 i15 l6 fun v16 => nk 60 (gR mm 12 l0 4) fun i17 => ldL mm 60 i17 v14 fun v18 => if ¬ (lcm' v16 v18) = 0 then (ck (l6 + 1) <| some (.inl ((l6 + 1), mm))) else
  nk 61 (gR mm 12 l0 5) fun i19 => ldL mm 61 i19 v14 fun v20 => (f_X12_letters mm v20).bind fun v21 => nk 60 (gR mm 12 l0 4) fun i22 => ldL mm 60 i22 v14 fun v23 => (f_X12_letters mm v23).bind fun v24 => ck (v21 - v24) <| nk 93 (gR mm 12 l0 40) fun i25 => ldN mm 93 i25 l2 fun v26 => if v26 < (v21 - v24) then (ck (l6 + 1) <| some (.inl ((l6 + 1), mm))) else
  nk 96 (gR mm 12 l0 43) fun i27 => nk 61 (gR mm 12 l0 5) fun i28 => ldL mm 61 i28 v14 fun v29 => stL mm 96 i27 l6 v29 fun m30 => nk 93 (gR m30 12 l0 40) fun i31 => ldN m30 93 i31 l2 fun v32 => ck (v32 - (v21 - v24)) <| stN m30 93 i31 l2 (v32 - (v21 - v24)) fun m33 => ck (l6 + 1) <| some (.inl ((l6 + 1), m33))
noncomputable def j_X12_fillsOut_0_203 (m : MM)   : Option (RV × MM) :=
  some (.inl none, m)
noncomputable def j_X12_fillsOut_0_86 (m : MM) (l0 : Nat) (l2 : Int) (l3 : Int) (l4 : Int) (l5 : Int)  : Option (RV × MM) :=
  (lpb (fun s => b_X12_fillsOut_90 l0 l2 l3 l5 s.1 s.2) (l4, m)).bind fun z => j_X12_fillsOut_0_203 z
noncomputable def f_X12_fillsOut (m : MM) (l0 : Nat) (l1 : Int) (l2 : Int) (l3 : Int) : Option (RV × MM) :=
  nk 91 (gR m 12 l0 38) fun i1 => ldN m 91 i1 l2 fun v2 => ck ((60 * l1) + v2) <| nk 92 (gR m 12 l0 39) fun i3 => ldN m 92 i3 l2 fun v4 => ck (((60 * l1) + v2) + v4) <| (lpb (fun s => b_X12_fillsOut_27 l0 l2 l3 ((60 * l1) + v2) (((60 * l1) + v2) + v4) s.1 s.2) (2, m)).bind fun z => j_X12_fillsOut_0_86 z l0 l2 l3 ((60 * l1) + v2) (((60 * l1) + v2) + v4)
noncomputable def j_X12_fills_0_134 (m : MM) (l0 : Nat) (l1 : Int) (l2 : Int) (l3 : Int) (l4 : Int) (l6 : Int)  : Option (RV × MM) :=
  nk 102 (gR m 12 l0 49) fun i30 => nk 100 (gR m 12 l0 47) fun i31 => ldN m 100 i31 l6 fun v32 => nk 101 (gR m 12 l0 48) fun i33 => ldN m 101 i33 l6 fun v34 => (f_X12_printOf m l0 v32 l4 v34).bind fun v35 => stN m 102 i30 l6 v35 fun m36 => nk 100 (gR m36 12 l0 47) fun i37 => ldN m36 100 i37 l6 fun v38 => if ¬ v38 = (-1) then (nk 64 (gR m36 12 l0 9) fun i39 => nk 100 (gR m36 12 l0 47) fun i40 => ldN m36 100 i40 l6 fun v41 => ck ((100 + (100 * l1)) + l2) <| stN m36 64 i39 v41 ((100 + (100 * l1)) + l2) fun m42 => nk 71 (gR m42 12 l0 17) fun i43 => ldN m42 71 i43 l3 fun v44 => ck (v44 + 1) <| stN m42 71 i43 l3 (v44 + 1) fun m45 => some (.inl (some (aI 0)), m45)) else
  some (.inl (some (aI 1)), m36)
noncomputable def f_X12_fills (m : MM) (l0 : Nat) (l1 : Int) (l2 : Int) (l3 : Int) (l4 : Int) : Option (RV × MM) :=
  ck ((16 * l1) + l2) <| nk 90 (gR m 12 l0 37) fun i1 => ldN m 90 i1 ((16 * l1) + l2) fun v2 => ck ((150 * ((16 * l1) + l2)) + v2) <| lt0 ((150 * ((16 * l1) + l2)) + v2) fun v3 => nk 90 (gR m 12 l0 37) fun i4 => ldN m 90 i4 ((16 * l1) + l2) fun v5 => ck (v5 + 1) <| stN m 90 i4 ((16 * l1) + l2) (v5 + 1) fun m6 => nk 99 (gR m6 12 l0 46) fun i7 => stN m6 99 i7 v3 l4 fun m8 => nk 100 (gR m8 12 l0 47) fun i9 => stN m8 100 i9 v3 (-1) fun m10 => nk 101 (gR m10 12 l0 48) fun i11 => stN m10 101 i11 v3 0 fun m12 => nk 66 (gR m12 12 l0 11) fun i13 => ldN m12 66 i13 l4 fun v14 => if v14 = (-1) then ((f_X12_turnedOf m12 l4).bind fun v15 => if v15 = (-1) then (j_X12_fills_0_134 m12 l0 l1 l2 l3 l4 v3) else
  nk 66 (gR m12 12 l0 11) fun i16 => (f_X12_turnedOf m12 l4).bind fun v17 => ldN m12 66 i16 v17 fun v18 => if v18 = (-1) then (j_X12_fills_0_134 m12 l0 l1 l2 l3 l4 v3) else
  nk 100 (gR m12 12 l0 47) fun i19 => (f_X12_turnedOf m12 l4).bind fun v20 => bI (f_X12_takes m12 l0 v20) (fun v22 m21 => stN m21 100 i19 v3 v22 fun m23 => nk 101 (gR m23 12 l0 48) fun i24 => stN m23 101 i24 v3 1 fun m25 => j_X12_fills_0_134 m25 l0 l1 l2 l3 l4 v3) x0) else
  nk 100 (gR m12 12 l0 47) fun i26 => bI (f_X12_takes m12 l0 l4) (fun v28 m27 => stN m27 100 i26 v3 v28 fun m29 => j_X12_fills_0_134 m29 l0 l1 l2 l3 l4 v3) x0
noncomputable def f_X12_letter (m : MM) (l0 : Int64) (l2 : Int) : Option (Int) :=
  ck (5 * l2) <| ck ((l2i ((lshr l0 (5 * l2)) &&& 31)) - 1) <| some ((l2i ((lshr l0 (5 * l2)) &&& 31)) - 1)
noncomputable def j_X12_fillsPlaces_73_202 (m : MM) (l0 : Nat) (l1 : Int) (l2 : Int) (l3 : Int) (l4 : Int) (l6 : Int) (l7 : Int) (l8 : Int) (l12 : Int) (s0 : Int) (s1 : Nat) (s2 : Int) (s3 : Int) (s4 : Int) (s5 : Int) : Option ((Int × Int × MM) ⊕ ((Int × MM))) :=
  bI (f_X12_fills m s1 s2 s3 s4 s5) (fun v21 m20 => ck (s0 + v21) <| if l12 = 0 then (ck (l8 + 1) <| some (.inl ((s0 + v21), (l8 + 1), m20))) else
  ck (l8 + 2) <| some (.inl ((s0 + v21), (l8 + 2), m20))) x0
noncomputable def j_X12_fillsPlaces_73_182 (m : MM) (l0 : Nat) (l1 : Int) (l2 : Int) (l3 : Int) (l4 : Int) (l5 : Int) (l6 : Int) (l7 : Int) (l8 : Int) (l9 : Int) (l11 : Int) (s0 : Int) : Option ((Int × Int × MM) ⊕ ((Int × MM))) :=
  if s0 = 0 then (j_X12_fillsPlaces_73_202 m l0 l1 l2 l3 l4 l6 l7 l8 s0 l5 l0 l1 l2 l3 l9) else
  j_X12_fillsPlaces_73_202 m l0 l1 l2 l3 l4 l6 l7 l8 s0 l5 l0 l1 l2 l3 l11
noncomputable def j_X12_fillsPlaces_73_181 (m : MM) (l0 : Nat) (l1 : Int) (l2 : Int) (l3 : Int) (l4 : Int) (l5 : Int) (l6 : Int) (l7 : Int) (l8 : Int) (l9 : Int) (l11 : Int)  : Option ((Int × Int × MM) ⊕ ((Int × MM))) :=
  j_X12_fillsPlaces_73_182 m l0 l1 l2 l3 l4 l5 l6 l7 l8 l9 l11 0
noncomputable def j_X12_fillsPlaces_73_158 (m : MM) (l0 : Nat) (l1 : Int) (l2 : Int) (l3 : Int) (l4 : Int) (l5 : Int) (l6 : Int) (l7 : Int) (l8 : Int) (l9 : Int) (s0 : Int) : Option ((Int × Int × MM) ⊕ ((Int × MM))) :=
  if s0 = (-1) then (j_X12_fillsPlaces_73_181 m l0 l1 l2 l3 l4 l5 l6 l7 l8 l9 s0) else
  nk 66 (gR m 12 l0 11) fun i18 => ldN m 66 i18 s0 fun v19 => if v19 = (-1) then (j_X12_fillsPlaces_73_181 m l0 l1 l2 l3 l4 l5 l6 l7 l8 l9 s0) else
  j_X12_fillsPlaces_73_182 m l0 l1 l2 l3 l4 l5 l6 l7 l8 l9 s0 1
noncomputable def j_X12_fillsPlaces_73_121 (m : MM) (l0 : Nat) (l1 : Int) (l2 : Int) (l3 : Int) (l4 : Int) (l5 : Int) (l6 : Int) (l7 : Int) (l8 : Int) (l9 : Int) (s0 : Int) : Option ((Int × Int × MM) ⊕ ((Int × MM))) :=
  if l9 = 5 then (if ¬ s0 = 8 then (if ¬ s0 = 11 then (j_X12_fillsPlaces_73_158 m l0 l1 l2 l3 l4 l5 l6 l7 l8 l9 (-1)) else
  j_X12_fillsPlaces_73_158 m l0 l1 l2 l3 l4 l5 l6 l7 l8 l9 27) else
  j_X12_fillsPlaces_73_158 m l0 l1 l2 l3 l4 l5 l6 l7 l8 l9 26) else
  j_X12_fillsPlaces_73_158 m l0 l1 l2 l3 l4 l5 l6 l7 l8 l9 (-1)
noncomputable def b_X12_fillsPlaces_73 (l0 : Nat) (l1 : Int) (l2 : Int) (l3 : Int) (l4 : Int) (l6 : Int) (l7 : Int) (l5 : Int) (l8 : Int) (mm : MM) : Option ((Int × Int × MM) ⊕ ((Int × MM))) :=
  if l7 ≤ l8 then (some (.inr (l5, mm))) else
  nk 96 (gR mm 12 l0 43) fun i12 => ldL mm 96 i12 l6 fun v13 => (f_X12_letter mm v13 l8).bind fun v14 => ck (l8 + 1) <| if l7 ≤ (l8 + 1) then (j_X12_fillsPlaces_73_121 mm l0 l1 l2 l3 l4 l5 l6 l7 l8 v14 (-1)) else
  nk 96 (gR mm 12 l0 43) fun i15 => ldL mm 96 i15 l6 fun v16 => ck (l8 + 1) <| (f_X12_letter mm v16 (l8 + 1)).bind fun v17 => j_X12_fillsPlaces_73_121 mm l0 l1 l2 l3 l4 l5 l6 l7 l8 v14 v17
noncomputable def j_X12_fillsPlaces_26_226 (m : MM) (l0 : Nat) (l1 : Int) (l2 : Int) (l3 : Int) (l4 : Int) (l5 : Int) (l6 : Int)  : Option ((Int × Int × MM) ⊕ ((Int × MM))) :=
  ck (l6 + 1) <| some (.inl (l5, (l6 + 1), m))
noncomputable def b_X12_fillsPlaces_26 (l0 : Nat) (l1 : Int) (l2 : Int) (l3 : Int) (l4 : Int) (l5 : Int) (l6 : Int) (mm : MM) : Option ((Int × Int × MM) ⊕ ((Int × MM))) :=
  nk 89 (gR mm 12 l0 36) fun i3 => ldN mm 89 i3 l4 fun v4 => ck ((60 * l4) + v4) <| if ((60 * l4) + v4) ≤ l6 then (some (.inr (l5, mm))) else
  nk 98 (gR mm 12 l0 45) fun i5 => nk 90 (gR mm 12 l0 37) fun i6 => ldN mm 90 i6 l4 fun v7 => stN mm 98 i5 l6 v7 fun m8 => nk 96 (gR m8 12 l0 43) fun i9 => ldL m8 96 i9 l6 fun v10 => (f_X12_letters m8 v10).bind fun v11 => (lpb (fun s => b_X12_fillsPlaces_73 l0 l1 l2 l3 l4 l6 v11 s.1 s.2.1 s.2.2) (l5, 0, m8)).bind fun z => j_X12_fillsPlaces_26_226 (z.2) l0 l1 l2 l3 l4 (z.1) l6
noncomputable def j_X12_fillsPlaces_0_232 (m : MM) (l5 : Int)  : Option (RV × MM) :=
  some (.inl (some (aI l5)), m)
noncomputable def f_X12_fillsPlaces (m : MM) (l0 : Nat) (l1 : Int) (l2 : Int) (l3 : Int) : Option (RV × MM) :=
  ck ((16 * l1) + l2) <| nk 90 (gR m 12 l0 37) fun i1 => stN m 90 i1 ((16 * l1) + l2) 0 fun m2 => ck (60 * ((16 * l1) + l2)) <| (lpb (fun s => b_X12_fillsPlaces_26 l0 l1 l2 l3 ((16 * l1) + l2) s.1 s.2.1 s.2.2) (0, (60 * ((16 * l1) + l2)), m2)).bind fun z => j_X12_fillsPlaces_0_232 (z.2) (z.1)
noncomputable def f_X12_hasPart (m : MM) (l0 : Nat) (l1 : Int) (l2 : Int) : Option (Int) :=
  nk 78 (gR m 12 l0 25) fun i1 => ldN m 78 i1 l1 fun v2 => if 0 < v2 then (some 1) else
  if l2 = 0 then (some 1) else
  nk 83 (gR m 12 l0 30) fun i3 => ldN m 83 i3 (((16 * l1) + l2) - 1) fun v4 => if v4 = 0 then (some 0) else
  some 1
noncomputable def j_X12_formOf_0_60 (m : MM) (l0 : Nat) (l7 : Int)  : Option (Int64) :=
  nk 60 (gR m 12 l0 4) fun i8 => ldL m 60 i8 l7 fun v9 => some v9
noncomputable def f_X12_formOf (m : MM) (l0 : Nat) (l1 : Int) (l2 : Int) (l3 : Int) (l4 : Int) : Option (Int64) :=
  nk 81 (gR m 12 l0 28) fun i1 => ldL m 81 i1 ((60 * l1) + l2) fun v2 => (f_X12_spellingOf m l0 v2).bind fun v3 => if ¬ v3 = (-1) then (if ¬ l4 = 0 then (j_X12_formOf_0_60 m l0 v3) else
  nk 67 (gR m 12 l0 13) fun i4 => ldN m 67 i4 l3 fun v5 => if ¬ (iand (ishr v5 v3) 1) = 1 then (j_X12_formOf_0_60 m l0 v3) else
  nk 61 (gR m 12 l0 5) fun i6 => ldL m 61 i6 v3 fun v7 => some v7) else
  some v2
noncomputable def b_X12_sameBehind_5 (m : MM) (l0 : Nat) (l1 : Int) (l2 : Int) (l3 : Int) (l4 : Int) : Option (Int ⊕ ((Int) ⊕ Unit)) :=
  ck (l2 + 4) <| if (l2 + 4) < l4 then (some (.inr (.inr ()))) else
  if l3 ≤ l4 then (some (.inr (.inr ()))) else
  nk 81 (gR m 12 l0 28) fun i1 => ldL m 81 i1 ((60 * l1) + l4) fun v2 => nk 81 (gR m 12 l0 28) fun i3 => ldL m 81 i3 ((60 * l1) + l2) fun v4 => if ¬ (lcm' v2 v4) = 0 then (ck (l4 + 1) <| some (.inl (l4 + 1))) else
  some (.inr (.inl l4))
noncomputable def j_X12_sameBehind_0_55 (m : MM)   : Option (Int) :=
  some (-1)
noncomputable def f_X12_sameBehind (m : MM) (l0 : Nat) (l1 : Int) (l2 : Int) (l3 : Int) : Option (Int) :=
  ck (l2 + 1) <| (lpb (fun s => b_X12_sameBehind_5 m l0 l1 l2 l3 s) (l2 + 1)).bind (Sum.elim (fun r => some r) fun z => j_X12_sameBehind_0_55 m)
noncomputable def j_X12_laysLines_88_330 (m : MM) (l0 : Nat) (l1 : Int) (l2 : Int) (l3 : Int) (l5 : Int) (l6 : Int) (l7 : Int) (l8 : Int) (l9 : Int) (l15 : Int)  : Option ((Int × Int × Int × MM) ⊕ ((Int × Int × MM))) :=
  nk 82 (gR m 12 l0 29) fun i56 => ldN m 82 i56 ((60 * l1) + l7) fun v57 => if ¬ v57 = 0 then (some (.inl (l15, l9, 1, m))) else
  if l15 < l5 then (some (.inl (l15, l9, 0, m))) else
  some (.inl (l15, l9, 1, m))
noncomputable def j_X12_laysLines_88_328 (m : MM) (l0 : Nat) (l1 : Int) (l2 : Int) (l3 : Int) (l5 : Int) (l6 : Int) (l7 : Int) (l8 : Int) (l9 : Int) (s0 : Int) : Option ((Int × Int × Int × MM) ⊕ ((Int × Int × MM))) :=
  j_X12_laysLines_88_330 m l0 l1 l2 l3 l5 l6 l7 l8 l9 s0
noncomputable def j_X12_laysLines_88_326 (m : MM) (l0 : Nat) (l1 : Int) (l2 : Int) (l3 : Int) (l5 : Int) (l6 : Int) (l7 : Int) (l8 : Int) (l9 : Int) (l15 : Int)  : Option ((Int × Int × Int × MM) ⊕ ((Int × Int × MM))) :=
  j_X12_laysLines_88_328 m l0 l1 l2 l3 l5 l6 l7 l8 l9 l15
noncomputable def j_X12_laysLines_88_153 (m : MM) (l0 : Nat) (l1 : Int) (l2 : Int) (l3 : Int) (l5 : Int) (l6 : Int) (l7 : Int) (l8 : Int) (l9 : Int) (l11 : Int) (l12 : Int64)  : Option ((Int × Int × Int × MM) ⊕ ((Int × Int × MM))) :=
  (f_X12_letters m l12).bind fun v26 => nk 75 (gR m 12 l0 22) fun i27 => ldN m 75 i27 l1 fun v28 => ck ((l9 + l11) + v26) <| if ((l9 + l11) + v26) ≤ v28 then (nk 89 (gR m 12 l0 36) fun i29 => ldN m 89 i29 l2 fun v30 => ck ((60 * l2) + v30) <| nk 95 (gR m 12 l0 42) fun i31 => stN m 95 i31 ((60 * l2) + v30) l7 fun m32 => nk 96 (gR m32 12 l0 43) fun i33 => stL m32 96 i33 ((60 * l2) + v30) l12 fun m34 => nk 97 (gR m34 12 l0 44) fun i35 => stN m34 97 i35 ((60 * l2) + v30) l11 fun m36 => (f_X12_letters m36 l12).bind fun v37 => ck (l9 + (l11 + v37)) <| nk 89 (gR m36 12 l0 36) fun i38 => ldN m36 89 i38 l2 fun v39 => ck (v39 + 1) <| stN m36 89 i38 l2 (v39 + 1) fun m40 => nk 92 (gR m40 12 l0 39) fun i41 => ldN m40 92 i41 l8 fun v42 => ck (v42 + 1) <| stN m40 92 i41 l8 (v42 + 1) fun m43 => ck (l7 + 1) <| (f_X12_sameBehind m43 l0 l1 l7 l5).bind fun v44 => if v44 = (-1) then (j_X12_laysLines_88_330 m43 l0 l1 l2 l3 l5 l6 l7 l8 (l9 + (l11 + v37)) (l7 + 1)) else
  nk 70 (gR m43 12 l0 16) fun i45 => ldN m43 70 i45 l3 fun v46 => ck (v46 + 1) <| stN m43 70 i45 l3 (v46 + 1) fun m47 => nk 69 (gR m47 12 l0 15) fun i48 => ldN m47 69 i48 l3 fun v49 => if v49 ≤ 0 then (j_X12_laysLines_88_326 m47 l0 l1 l2 l3 l5 l6 l7 l8 (l9 + (l11 + v37)) (l7 + 1)) else
  nk 70 (gR m47 12 l0 16) fun i50 => ldN m47 70 i50 l3 fun v51 => nk 69 (gR m47 12 l0 15) fun i52 => ldN m47 69 i52 l3 fun v53 => dv v51 v53 <| if ¬ (v51 % v53) = 0 then (j_X12_laysLines_88_326 m47 l0 l1 l2 l3 l5 l6 l7 l8 (l9 + (l11 + v37)) (l7 + 1)) else
  ck (v44 + 1) <| j_X12_laysLines_88_328 m47 l0 l1 l2 l3 l5 l6 l7 l8 (l9 + (l11 + v37)) (v44 + 1)) else
  nk 94 (gR m 12 l0 41) fun i54 => stN m 94 i54 l8 1 fun m55 => some (.inl (l7, l9, 1, m55))
noncomputable def j_X12_laysLines_88_108 (m : MM) (l0 : Nat) (l1 : Int) (l2 : Int) (l3 : Int) (l5 : Int) (l6 : Int) (l7 : Int) (l8 : Int) (l9 : Int) (s0 : Int) : Option ((Int × Int × Int × MM) ⊕ ((Int × Int × MM))) :=
  (f_X12_formOf m l0 l1 l7 l3 l6).bind fun v21 => (f_X12_letters m v21).bind fun v22 => nk 75 (gR m 12 l0 22) fun i23 => ldN m 75 i23 l1 fun v24 => ck ((l9 + s0) + v22) <| if ((l9 + s0) + v22) ≤ v24 then (j_X12_laysLines_88_153 m l0 l1 l2 l3 l5 l6 l7 l8 l9 s0 v21) else
  (f_X12_formOf m l0 l1 l7 l3 1).bind fun v25 => j_X12_laysLines_88_153 m l0 l1 l2 l3 l5 l6 l7 l8 l9 s0 v25
noncomputable def b_X12_laysLines_88 (l0 : Nat) (l1 : Int) (l2 : Int) (l3 : Int) (l5 : Int) (l6 : Int) (l8 : Int) (l7 : Int) (l9 : Int) (l10 : Int) (mm : MM) : Option ((Int × Int × Int × MM) ⊕ ((Int × Int × MM))) :=
  if ¬ l10 = 0 then (some (.inr (l7, l9, mm))) else
  nk 92 (gR mm 12 l0 39) fun i19 => ldN mm 92 i19 l8 fun v20 => if v20 ≤ 0 then (j_X12_laysLines_88_108 mm l0 l1 l2 l3 l5 l6 l7 l8 l9 0) else
  j_X12_laysLines_88_108 mm l0 l1 l2 l3 l5 l6 l7 l8 l9 1
noncomputable def j_X12_laysLines_18_366 (m : MM) (l0 : Nat) (l1 : Int) (l2 : Int) (l3 : Int) (l5 : Int) (l6 : Int) (l7 : Int) (l8 : Int) (l9 : Int)  : Option ((Int × MM) ⊕ ((Int × MM))) :=
  nk 93 (gR m 12 l0 40) fun i58 => nk 75 (gR m 12 l0 22) fun i59 => ldN m 75 i59 l1 fun v60 => ck (v60 - l9) <| stN m 93 i58 l8 (v60 - l9) fun m61 => nk 88 (gR m61 12 l0 35) fun i62 => ldN m61 88 i62 l2 fun v63 => ck (v63 + 1) <| stN m61 88 i62 l2 (v63 + 1) fun m64 => some (.inl (l7, m64))
noncomputable def b_X12_laysLines_18 (l0 : Nat) (l1 : Int) (l2 : Int) (l3 : Int) (l5 : Int) (l6 : Int) (l7 : Int) (mm : MM) : Option ((Int × MM) ⊕ ((Int × MM))) :=
  nk 88 (gR mm 12 l0 35) fun i5 => ldN mm 88 i5 l2 fun v6 => nk 76 (gR mm 12 l0 23) fun i7 => ldN mm 76 i7 l1 fun v8 => if v8 ≤ v6 then (some (.inr (l7, mm))) else
  if l5 ≤ l7 then (some (.inr (l7, mm))) else
  nk 88 (gR mm 12 l0 35) fun i9 => ldN mm 88 i9 l2 fun v10 => ck ((6 * l2) + v10) <| nk 91 (gR mm 12 l0 38) fun i11 => nk 89 (gR mm 12 l0 36) fun i12 => ldN mm 89 i12 l2 fun v13 => stN mm 91 i11 ((6 * l2) + v10) v13 fun m14 => nk 92 (gR m14 12 l0 39) fun i15 => stN m14 92 i15 ((6 * l2) + v10) 0 fun m16 => nk 94 (gR m16 12 l0 41) fun i17 => stN m16 94 i17 ((6 * l2) + v10) 0 fun m18 => (lpb (fun s => b_X12_laysLines_88 l0 l1 l2 l3 l5 l6 ((6 * l2) + v10) s.1 s.2.1 s.2.2.1 s.2.2.2) (l7, 0, 0, m18)).bind fun z => j_X12_laysLines_18_366 (z.2.2) l0 l1 l2 l3 l5 l6 (z.1) ((6 * l2) + v10) (z.2.1)
noncomputable def j_X12_laysLines_0_395 (m : MM) (l7 : Int)  : Option (RV × MM) :=
  some (.inl (some (aI l7)), m)
noncomputable def f_X12_laysLines (m : MM) (l0 : Nat) (l1 : Int) (l2 : Int) (l3 : Int) (l4 : Int) (l5 : Int) (l6 : Int) : Option (RV × MM) :=
  nk 89 (gR m 12 l0 36) fun i1 => stN m 89 i1 l2 0 fun m2 => nk 88 (gR m2 12 l0 35) fun i3 => stN m2 88 i3 l2 0 fun m4 => (lpb (fun s => b_X12_laysLines_18 l0 l1 l2 l3 l5 l6 s.1 s.2) (l4, m4)).bind fun z => j_X12_laysLines_0_395 (z.2) (z.1)
noncomputable def f_X12_partFrom (m : MM) (l0 : Nat) (l1 : Int) (l2 : Int) : Option (Int) :=
  nk 78 (gR m 12 l0 25) fun i1 => ldN m 78 i1 l1 fun v2 => if v2 ≤ 0 then (if ¬ l2 = 0 then (nk 85 (gR m 12 l0 32) fun i3 => ldN m 85 i3 (((16 * l1) + l2) - 1) fun v4 => some v4) else
  some 0) else
  (f_X12_castFrom m l0 l1 l2).bind fun v5 => some v5
noncomputable def j_X12_partTo_0_31 (m : MM) (l0 : Nat) (l1 : Int)  : Option (Int) :=
  nk 80 (gR m 12 l0 27) fun i5 => ldN m 80 i5 l1 fun v6 => some v6
noncomputable def f_X12_partTo (m : MM) (l0 : Nat) (l1 : Int) (l2 : Int) : Option (Int) :=
  nk 78 (gR m 12 l0 25) fun i1 => ldN m 78 i1 l1 fun v2 => if v2 ≤ 0 then (j_X12_partTo_0_31 m l0 l1) else
  (f_X12_pagesOf m l0 l1).bind fun v3 => ck (v3 - 1) <| if (v3 - 1) ≤ l2 then (j_X12_partTo_0_31 m l0 l1) else
  ck (l2 + 1) <| (f_X12_castFrom m l0 l1 (l2 + 1)).bind fun v4 => some v4
noncomputable def b_X12_set_248 (l0 : Nat) (l1 : Int) (l2 : Int) (l3 : Int) (l5 : Int) (l10 : Int) (l11 : Int) (mm : MM) : Option ((Int × MM) ⊕ (MM)) :=
  nk 88 (gR mm 12 l0 35) fun i32 => ldN mm 88 i32 l5 fun v33 => if v33 ≤ l11 then (some (.inr mm)) else
  nk 94 (gR mm 12 l0 41) fun i34 => ldN mm 94 i34 ((6 * l5) + l11) fun v35 => if ¬ v35 = 1 then (ck (l11 + 1) <| some (.inl ((l11 + 1), mm))) else
  ck ((6 * l5) + l11) <| bV (f_X12_fillsOut mm l0 l5 ((6 * l5) + l11) l10) (fun m36 => ck (l11 + 1) <| some (.inl ((l11 + 1), m36))) x0
noncomputable def j_X12_set_0_299 (m : MM) (l0 : Nat) (l1 : Int) (l2 : Int) (l3 : Int)  : Option (RV × MM) :=
  bI (f_X12_fillsPlaces m l0 l1 l2 l3) (fun v39 m38 => some (.inl (some (aI v39)), m38)) x0
noncomputable def j_X12_set_0_244 (m : MM) (l0 : Nat) (l1 : Int) (l2 : Int) (l3 : Int) (l5 : Int) (l10 : Int) (s0 : Nat) (s1 : Int) (s2 : Int) : Option (RV × MM) :=
  stN m 87 s0 s1 s2 fun m31 => (lpb (fun s => b_X12_set_248 l0 l1 l2 l3 l5 l10 s.1 s.2) (0, m31)).bind fun z => j_X12_set_0_299 z l0 l1 l2 l3
noncomputable def j_X12_set_0_223 (m : MM) (l0 : Nat) (l1 : Int) (l2 : Int) (l3 : Int) (l5 : Int) (l7 : Int) (l9 : Int) (l10 : Int) (s0 : Nat) (s1 : Int) (s2 : Int) : Option (RV × MM) :=
  stN m 86 s0 s1 s2 fun m29 => nk 87 (gR m29 12 l0 34) fun i30 => if l10 = 0 then (j_X12_set_0_244 m29 l0 l1 l2 l3 l5 l10 i30 l5 0) else
  ck (l7 - l9) <| j_X12_set_0_244 m29 l0 l1 l2 l3 l5 l10 i30 l5 (l7 - l9)
noncomputable def j_X12_set_0_182 (m : MM) (l0 : Nat) (l1 : Int) (l2 : Int) (l3 : Int) (l5 : Int) (l7 : Int) (l9 : Int) (l10 : Int)  : Option (RV × MM) :=
  nk 83 (gR m 12 l0 30) fun i22 => stN m 83 i22 l5 1 fun m23 => nk 84 (gR m23 12 l0 31) fun i24 => stN m23 84 i24 l5 l3 fun m25 => nk 85 (gR m25 12 l0 32) fun i26 => stN m25 85 i26 l5 l9 fun m27 => nk 86 (gR m27 12 l0 33) fun i28 => if l10 = 0 then (j_X12_set_0_223 m27 l0 l1 l2 l3 l5 l7 l9 l10 i28 l5 0) else
  j_X12_set_0_223 m27 l0 l1 l2 l3 l5 l7 l9 l10 i28 l5 1
noncomputable def j_X12_set_0_152 (m : MM) (l0 : Nat) (l1 : Int) (l2 : Int) (l3 : Int) (l5 : Int) (l6 : Int) (l7 : Int) (l8 : Int) (l9 : Int) (s0 : Int) : Option (RV × MM) :=
  if s0 = 0 then (j_X12_set_0_182 m l0 l1 l2 l3 l5 l7 l9 s0) else
  nk 70 (gR m 12 l0 16) fun i18 => stN m 70 i18 l3 l8 fun m19 => bI (f_X12_laysLines m19 l0 l1 l5 l3 l6 l7 1) (fun v21 m20 => j_X12_set_0_182 m20 l0 l1 l2 l3 l5 l7 v21 s0) x0
noncomputable def j_X12_set_0_151 (m : MM) (l0 : Nat) (l1 : Int) (l2 : Int) (l3 : Int) (l5 : Int) (l6 : Int) (l7 : Int) (l8 : Int) (l9 : Int)  : Option (RV × MM) :=
  j_X12_set_0_152 m l0 l1 l2 l3 l5 l6 l7 l8 l9 0
noncomputable def j_X12_set_0_84 (m : MM) (l0 : Nat) (l1 : Int) (l2 : Int) (l3 : Int) (l5 : Int) (s0 : Nat) (s1 : Int) : Option (RV × MM) :=
  bI (f_X12_holds m s0 s1) (fun v9 m8 => if ¬ v9 = 0 then ((f_X12_partFrom m8 l0 l1 l2).bind fun v10 => (f_X12_partTo m8 l0 l1 l2).bind fun v11 => nk 70 (gR m8 12 l0 16) fun i12 => ldN m8 70 i12 l3 fun v13 => bI (f_X12_laysLines m8 l0 l1 l5 l3 v10 v11 0) (fun v15 m14 => nk 78 (gR m14 12 l0 25) fun i16 => ldN m14 78 i16 l1 fun v17 => if v17 ≤ 0 then (j_X12_set_0_151 m14 l0 l1 l2 l3 l5 v10 v11 v13 v15) else
  if v11 ≤ v15 then (j_X12_set_0_151 m14 l0 l1 l2 l3 l5 v10 v11 v13 v15) else
  j_X12_set_0_152 m14 l0 l1 l2 l3 l5 v10 v11 v13 v15 1) x0) else
  some (.inl (some (aI 0)), m8)) x0
noncomputable def j_X12_set_0_79 (m : MM) (l0 : Nat) (l1 : Int) (l2 : Int) (l3 : Int) (l5 : Int) (s0 : Nat) : Option (RV × MM) :=
  j_X12_set_0_84 m l0 l1 l2 l3 l5 s0 2
noncomputable def j_X12_set_0_39 (m : MM) (l0 : Nat) (l1 : Int) (l2 : Int) (l3 : Int) (l4 : Int) (s0 : Int) : Option (RV × MM) :=
  if ¬ l4 = 0 then (nk 80 (gR m 12 l0 27) fun i3 => ldN m 80 i3 l1 fun v4 => if v4 = 0 then (j_X12_set_0_79 m l0 l1 l2 l3 s0 l0) else
  nk 83 (gR m 12 l0 30) fun i5 => ldN m 83 i5 s0 fun v6 => if ¬ v6 = 0 then (j_X12_set_0_79 m l0 l1 l2 l3 s0 l0) else
  (f_X12_hasPart m l0 l1 l2).bind fun v7 => if ¬ v7 = 0 then (j_X12_set_0_84 m l0 l1 l2 l3 s0 l0 0) else
  j_X12_set_0_79 m l0 l1 l2 l3 s0 l0) else
  j_X12_set_0_84 m l0 l1 l2 l3 s0 l0 1
noncomputable def j_X12_set_0_22 (m : MM) (l0 : Nat) (l1 : Int) (l2 : Int) (l3 : Int) (s0 : Int) : Option (RV × MM) :=
  if s0 = 0 then (j_X12_set_0_39 m l0 l1 l2 l3 s0 0) else
  ck ((16 * l1) + l2) <| j_X12_set_0_39 m l0 l1 l2 l3 s0 ((16 * l1) + l2)
noncomputable def j_X12_set_0_21 (m : MM) (l0 : Nat) (l1 : Int) (l2 : Int) (l3 : Int)  : Option (RV × MM) :=
  j_X12_set_0_22 m l0 l1 l2 l3 0
noncomputable def f_X12_set (m : MM) (l0 : Nat) (l1 : Int) (l2 : Int) (l3 : Int) : Option (RV × MM) :=
  (f_X12_isPage m l0 l1 l2).bind fun v1 => if v1 = 0 then (j_X12_set_0_21 m l0 l1 l2 l3) else
  (f_X12_isHand m l0 l3).bind fun v2 => if v2 = 0 then (j_X12_set_0_21 m l0 l1 l2 l3) else
  j_X12_set_0_22 m l0 l1 l2 l3 1
noncomputable def b_X12_shared_59 (m : MM) (l0 : Nat) (l1 : Int) (l2 : Int) (l3 : Int) (l5 : Int) (l6 : Int) : Option ((Int × Int) ⊕ (Int)) :=
  if (gN m 12 l0 6) ≤ l6 then (some (.inr l5)) else
  nk 63 (gR m 12 l0 8) fun i5 => ldN m 63 i5 l6 fun v6 => if v6 ≤ 0 then (ck (l5 + 0) <| ck (l6 + 1) <| some (.inl ((l5 + 0), (l6 + 1)))) else
  (f_X12_seenIn m l0 l1 l2 l6).bind fun v7 => if v7 ≤ 0 then (ck (l5 + 0) <| ck (l6 + 1) <| some (.inl ((l5 + 0), (l6 + 1)))) else
  (f_X12_seenIn m l0 l1 l3 l6).bind fun v8 => if v8 ≤ 0 then (ck (l5 + 0) <| ck (l6 + 1) <| some (.inl ((l5 + 0), (l6 + 1)))) else
  ck (l5 + 1) <| ck (l6 + 1) <| some (.inl ((l5 + 1), (l6 + 1)))
noncomputable def j_X12_shared_0_116 (m : MM) (l0 : Nat) (l1 : Int) (l2 : Int) (l3 : Int) (l5 : Int)  : Option (RV × MM) :=
  ck ((8 * l1) + l2) <| ck ((8 * l1) + l3) <| nk 108 (gR m 12 l0 56) fun i9 => ldN m 108 i9 ((8 * l1) + l2) fun v10 => if v10 = 0 then (ck (l5 + 0) <| some (.inl (some (aI (l5 + 0))), m)) else
  nk 108 (gR m 12 l0 56) fun i11 => ldN m 108 i11 ((8 * l1) + l3) fun v12 => if v12 = 0 then (ck (l5 + 0) <| some (.inl (some (aI (l5 + 0))), m)) else
  nk 109 (gR m 12 l0 57) fun i13 => ldN m 109 i13 ((8 * l1) + l2) fun v14 => nk 109 (gR m 12 l0 57) fun i15 => ldN m 109 i15 ((8 * l1) + l3) fun v16 => if ¬ v14 = v16 then (ck (l5 + 0) <| some (.inl (some (aI (l5 + 0))), m)) else
  ck (l5 + 1000) <| some (.inl (some (aI (l5 + 1000))), m)
noncomputable def j_X12_shared_0_45 (m : MM) (l0 : Nat) (l1 : Int) (l2 : Int) (l3 : Int) (s0 : Nat) (s1 : Int) : Option (RV × MM) :=
  bI (f_X12_holds m s0 s1) (fun v4 m3 => if ¬ v4 = 0 then ((lpb (fun s => b_X12_shared_59 m3 l0 l1 l2 l3 s.1 s.2) (0, 0)).bind fun z => j_X12_shared_0_116 m3 l0 l1 l2 l3 z) else
  some (.inl (some (aI 0)), m3)) x0
noncomputable def j_X12_shared_0_23 (m : MM) (l0 : Nat) (l1 : Int) (l2 : Int) (l3 : Int) (s0 : Int) : Option (RV × MM) :=
  if ¬ s0 = 0 then (if ¬ l2 = l3 then (j_X12_shared_0_45 m l0 l1 l2 l3 l0 0) else
  j_X12_shared_0_45 m l0 l1 l2 l3 l0 2) else
  j_X12_shared_0_45 m l0 l1 l2 l3 l0 1
noncomputable def j_X12_shared_0_22 (m : MM) (l0 : Nat) (l1 : Int) (l2 : Int) (l3 : Int)  : Option (RV × MM) :=
  j_X12_shared_0_23 m l0 l1 l2 l3 0
noncomputable def f_X12_shared (m : MM) (l0 : Nat) (l1 : Int) (l2 : Int) (l3 : Int) : Option (RV × MM) :=
  (f_X12_isForme m l0 l1 l2).bind fun v1 => if v1 = 0 then (j_X12_shared_0_22 m l0 l1 l2 l3) else
  (f_X12_isForme m l0 l1 l3).bind fun v2 => if v2 = 0 then (j_X12_shared_0_22 m l0 l1 l2 l3) else
  j_X12_shared_0_23 m l0 l1 l2 l3 1
noncomputable def f_X12_isSpelling (m : MM) (l0 : Nat) : Option (Int) :=
  (f_X12_tapeFault m l0).bind fun v1 => if ¬ v1 = (-1) then (some 0) else
  (f_X12_tapeWords m l0).bind fun v2 => if ¬ v2 = 2 then (some 0) else
  (f_X12_tapeEnds m l0 0).bind fun v3 => if v3 = 0 then ((f_X12_tapeWord m l0 1).bind fun v4 => (f_X12_letters m v4).bind fun v5 => (f_X12_tapeWord m l0 0).bind fun v6 => (f_X12_letters m v6).bind fun v7 => ck (v5 - v7) <| (f_X12_isIn m (v5 - v7) 1 3).bind fun v8 => if v8 = 0 then (some 0) else
  (f_X12_tapeWord m l0 0).bind fun v9 => (f_X12_spellingOf m l0 v9).bind fun v10 => if ¬ v10 = (-1) then (some 0) else
  (f_X12_tapeWord m l0 1).bind fun v11 => (f_X12_spellingOf m l0 v11).bind fun v12 => if ¬ v12 = (-1) then (some 0) else
  some 1) else
  some 0
noncomputable def b_X12_spelling_17 (m : MM) (l0 : Nat) (l1 : Int) (l2 : Int) : Option ((Int × Int) ⊕ (Int)) :=
  if (gN m 12 l0 19) ≤ l2 then (some (.inr l1)) else
  if l1 = 0 then (ck (l2 + 1) <| some (.inl (0, (l2 + 1)))) else
  nk 80 (gR m 12 l0 27) fun i1 => ldN m 80 i1 l2 fun v2 => if ¬ v2 = 0 then (ck (l2 + 1) <| some (.inl (0, (l2 + 1)))) else
  ck (l2 + 1) <| some (.inl (1, (l2 + 1)))
noncomputable def j_X12_spelling_0_71 (m : MM) (l0 : Nat) (s0 : Nat) (s1 : Int) : Option (RV × MM) :=
  bI (f_X12_holds m s0 s1) (fun v5 m4 => if ¬ v5 = 0 then (nk 60 (gR m4 12 l0 4) fun i6 => (f_X12_tapeWord m4 l0 0).bind fun v7 => stL m4 60 i6 (gN m4 12 l0 3) v7 fun m8 => nk 61 (gR m8 12 l0 5) fun i9 => (f_X12_tapeWord m8 l0 1).bind fun v10 => stL m8 61 i9 (gN m8 12 l0 3) v10 fun m11 => ck ((gN m11 12 l0 3) + 1) <| lt' (sN m11 12 l0 3 ((gN m11 12 l0 3) + 1)) fun m12 => lt' (sN m12 12 l0 1 0) fun m13 => ck ((gN m13 12 l0 3) - 1) <| some (.inl (some (aI ((gN m13 12 l0 3) - 1))), m13)) else
  some (.inl (some (aI 0)), m4)) x0
noncomputable def j_X12_spelling_0_50 (m : MM) (l0 : Nat) (l1 : Int)  : Option (RV × MM) :=
  (f_X12_isSpelling m l0).bind fun v3 => if ¬ v3 = 0 then (if l1 = 0 then (j_X12_spelling_0_71 m l0 l0 2) else
  j_X12_spelling_0_71 m l0 l0 0) else
  j_X12_spelling_0_71 m l0 l0 1
noncomputable def j_X12_spelling_0_14 (m : MM) (l0 : Nat) (s0 : Int) : Option (RV × MM) :=
  (lpb (fun s => b_X12_spelling_17 m l0 s.1 s.2) (s0, 0)).bind fun z => j_X12_spelling_0_50 m l0 z
noncomputable def f_X12_spelling (m : MM) (l0 : Nat) : Option (RV × MM) :=
  if 6 ≤ (gN m 12 l0 3) then (j_X12_spelling_0_14 m l0 0) else
  j_X12_spelling_0_14 m l0 1
noncomputable def j_X12_state_0_49 (m : MM) (l0 : Nat) (l1 : Int) (l2 : Int) (l3 : Int) (s0 : Nat) (s1 : Int) : Option (RV × MM) :=
  bI (f_X12_holds m s0 s1) (fun v6 m5 => if v6 = 0 then (some (.inl (some (aI 0)), m5)) else
  (f_X12_stateIn m5 l0 l1 l2 l3).bind fun v7 => some (.inl (some (aI v7)), m5)) x0
noncomputable def j_X12_state_0_23 (m : MM) (l0 : Nat) (l1 : Int) (l2 : Int) (l3 : Int) (s0 : Int) : Option (RV × MM) :=
  if ¬ s0 = 0 then (nk 79 (gR m 12 l0 26) fun i3 => ldN m 79 i3 l1 fun v4 => if v4 = 0 then (j_X12_state_0_49 m l0 l1 l2 l3 l0 2) else
  j_X12_state_0_49 m l0 l1 l2 l3 l0 0) else
  j_X12_state_0_49 m l0 l1 l2 l3 l0 1
noncomputable def j_X12_state_0_22 (m : MM) (l0 : Nat) (l1 : Int) (l2 : Int) (l3 : Int)  : Option (RV × MM) :=
  j_X12_state_0_23 m l0 l1 l2 l3 0
noncomputable def f_X12_state (m : MM) (l0 : Nat) (l1 : Int) (l2 : Int) (l3 : Int) : Option (RV × MM) :=
  (f_X12_isCopy m l0 l1 l2).bind fun v1 => if v1 = 0 then (j_X12_state_0_22 m l0 l1 l2 l3) else
  (f_X12_isPage m l0 l1 l3).bind fun v2 => if v2 = 0 then (j_X12_state_0_22 m l0 l1 l2 l3) else
  j_X12_state_0_23 m l0 l1 l2 l3 1
noncomputable def f_X12_thrown (m : MM) (l0 : Nat) : Option (Int) :=
  some (gN m 12 l0 0)
noncomputable def b_X12_type_12 (m : MM) (l0 : Nat) (l1 : Int64) (l3 : Int) (l4 : Int) (l5 : Int) : Option ((Int × Int) ⊕ (Int)) :=
  if l3 ≤ l5 then (some (.inr l4)) else
  if l4 = 0 then (some (.inr l4)) else
  ck (8 * l5) <| lt0 (l2i ((lshr l1 (8 * l5)) &&& 255)) fun v2 => (f_X12_isIn m v2 97 122).bind fun v3 => if ¬ v3 = 0 then (ck (l5 + 1) <| some (.inl (1, (l5 + 1)))) else
  if v2 = 32 then (ck (l5 + 1) <| some (.inl (1, (l5 + 1)))) else
  if ¬ v2 = 47 then (ck (l5 + 1) <| some (.inl (0, (l5 + 1)))) else
  ck (l5 + 1) <| some (.inl (1, (l5 + 1)))
noncomputable def b_X12_type_113 (l0 : Nat) (l1 : Int64) (l3 : Int) (l5 : Int) (mm : MM) : Option ((Int × MM) ⊕ (MM)) :=
  if l3 ≤ l5 then (some (.inr mm)) else
  nk 59 (gR mm 12 l0 2) fun i6 => ck (8 * l5) <| stN mm 59 i6 (gN mm 12 l0 1) (l2i ((lshr l1 (8 * l5)) &&& 255)) fun m7 => ck ((gN m7 12 l0 1) + 1) <| lt' (sN m7 12 l0 1 ((gN m7 12 l0 1) + 1)) fun m8 => ck (l5 + 1) <| some (.inl ((l5 + 1), m8))
noncomputable def j_X12_type_0_156 (m : MM) (l0 : Nat)  : Option (RV × MM) :=
  some (.inl (some (aI (gN m 12 l0 1))), m)
noncomputable def j_X12_type_0_102 (m : MM) (l0 : Nat) (l1 : Int64) (l3 : Int) (s0 : Nat) (s1 : Int) : Option (RV × MM) :=
  bI (f_X12_holds m s0 s1) (fun v5 m4 => if ¬ v5 = 0 then ((lpb (fun s => b_X12_type_113 l0 l1 l3 s.1 s.2) (0, m4)).bind fun z => j_X12_type_0_156 z l0) else
  some (.inl (some (aI 0)), m4)) x0
noncomputable def j_X12_type_0_76 (m : MM) (l0 : Nat) (l1 : Int64) (l3 : Int) (l4 : Int)  : Option (RV × MM) :=
  if ¬ l4 = 0 then (ck ((gN m 12 l0 1) + l3) <| if ((gN m 12 l0 1) + l3) ≤ 40 then (j_X12_type_0_102 m l0 l1 l3 l0 0) else
  j_X12_type_0_102 m l0 l1 l3 l0 2) else
  j_X12_type_0_102 m l0 l1 l3 l0 1
noncomputable def f_X12_type (m : MM) (l0 : Nat) (l1 : Int64) (l3 : Int) : Option (RV × MM) :=
  (f_X12_isIn m l3 1 8).bind fun v1 => (lpb (fun s => b_X12_type_12 m l0 l1 l3 s.1 s.2) (v1, 0)).bind fun z => j_X12_type_0_76 m l0 l1 l3 z
noncomputable def j_X12_wear_0_36 (m : MM) (l0 : Nat) (l1 : Int) (s0 : Nat) (s1 : Int) : Option (RV × MM) :=
  bI (f_X12_holds m s0 s1) (fun v5 m4 => if ¬ v5 = 0 then (nk 63 (gR m4 12 l0 8) fun i6 => ldN m4 63 i6 l1 fun v7 => ck (v7 + 1) <| stN m4 63 i6 l1 (v7 + 1) fun m8 => nk 63 (gR m8 12 l0 8) fun i9 => ldN m8 63 i9 l1 fun v10 => some (.inl (some (aI v10)), m8)) else
  some (.inl (some (aI 0)), m4)) x0
noncomputable def f_X12_wear (m : MM) (l0 : Nat) (l1 : Int) : Option (RV × MM) :=
  ck ((gN m 12 l0 6) - 1) <| (f_X12_isIn m l1 0 ((gN m 12 l0 6) - 1)).bind fun v1 => if ¬ v1 = 0 then (nk 63 (gR m 12 l0 8) fun i2 => ldN m 63 i2 l1 fun v3 => if ¬ v3 = 3 then (j_X12_wear_0_36 m l0 l1 l0 0) else
  j_X12_wear_0_36 m l0 l1 l0 2) else
  j_X12_wear_0_36 m l0 l1 l0 1
noncomputable def f_X12_wipe (m : MM) (l0 : Nat) : Option (RV × MM) :=
  lt' (sN m 12 l0 0 0) fun m1 => lt' (sN m1 12 l0 1 0) fun m2 => some (.inl (some (aI (gN m1 12 l0 1))), m2)
noncomputable def b_L_law_23 (fx : FX) (l1 : Nat) (l2 : Nat) (l3 : Nat) (l4 : Int) (mm : MM) : Option ((Int × MM) ⊕ ((RV × MM) ⊕ MM)) :=
  ck ((xn fx : Int) - 6) <| if ((xn fx : Int) - 6) < l4 then (some (.inr (.inr mm))) else
  sld (xs fx) (xn fx) l4 fun v8 => tsw (iand v8 63) 0 [sld (xs fx) (xn fx) (l4 + 1) fun v9 => sld (xs fx) (xn fx) (l4 + 2) fun v10 => sld (xs fx) (xn fx) (l4 + 3) fun v11 => bI (f_L_type mm l1 ((lshl (i2l v9) 32) ||| ((i2l v10) &&& 4294967295)) v11 l3) (fun v13 m12 => sld (xs fx) (xn fx) (l4 + 1) fun v14 => sld (xs fx) (xn fx) (l4 + 2) fun v15 => sld (xs fx) (xn fx) (l4 + 3) fun v16 => bI (f_X12_type m12 l2 ((lshl (i2l v14) 32) ||| ((i2l v15) &&& 4294967295)) v16) (fun v18 m17 => (f_X12_thrown m17 l2).bind fun v19 => if v19 = v13 then (if ¬ v13 = 0 then (ck (l4 + 6) <| some (.inl ((l4 + 6), m17))) else
  ldL m17 131 l3 0 fun v20 => if (lcm' v20 (i2l v18)) = 0 then (ck (l4 + 6) <| some (.inl ((l4 + 6), m17))) else
  some (.inr (.inl (.inl (some (aI 0)), m17)))) else
  some (.inr (.inl (.inl (some (aI 0)), m17)))) x0) x0,
  bI (f_X11_wipe mm l1) (fun v22 m21 => bI (f_X12_wipe m21 l2) (fun v24 m23 => if v22 = v24 then (ck (l4 + 6) <| some (.inl ((l4 + 6), m23))) else
  some (.inr (.inl (.inl (some (aI 0)), m23)))) x0) x0,
  (f_X11_fault mm l1).bind fun v25 => bI (f_X12_fault mm l2) (fun v27 m26 => if v25 = v27 then (ck (l4 + 6) <| some (.inl ((l4 + 6), m26))) else
  some (.inr (.inl (.inl (some (aI 0)), m26)))) x0,
  bI (f_L_spelling mm l1 l3) (fun v29 m28 => bI (f_X12_spelling m28 l2) (fun v31 m30 => (f_X12_thrown m30 l2).bind fun v32 => if v32 = v29 then (if ¬ v29 = 0 then (ck (l4 + 6) <| some (.inl ((l4 + 6), m30))) else
  ldL m30 131 l3 0 fun v33 => if (lcm' v33 (i2l v31)) = 0 then (ck (l4 + 6) <| some (.inl ((l4 + 6), m30))) else
  some (.inr (.inl (.inl (some (aI 0)), m30)))) else
  some (.inr (.inl (.inl (some (aI 0)), m30)))) x0) x0,
  sld (xs fx) (xn fx) (l4 + 1) fun v34 => sld (xs fx) (xn fx) (l4 + 2) fun v35 => bI (f_L_cast mm l1 v34 v35 l3) (fun v37 m36 => sld (xs fx) (xn fx) (l4 + 1) fun v38 => sld (xs fx) (xn fx) (l4 + 2) fun v39 => bI (f_X12_cast m36 l2 v38 v39) (fun v41 m40 => (f_X12_thrown m40 l2).bind fun v42 => if v42 = v37 then (if ¬ v37 = 0 then (ck (l4 + 6) <| some (.inl ((l4 + 6), m40))) else
  ldL m40 131 l3 0 fun v43 => if (lcm' v43 (i2l v41)) = 0 then (ck (l4 + 6) <| some (.inl ((l4 + 6), m40))) else
  some (.inr (.inl (.inl (some (aI 0)), m40)))) else
  some (.inr (.inl (.inl (some (aI 0)), m40)))) x0) x0,
  sld (xs fx) (xn fx) (l4 + 1) fun v44 => bI (f_L_wear mm l1 v44 l3) (fun v46 m45 => sld (xs fx) (xn fx) (l4 + 1) fun v47 => bI (f_X12_wear m45 l2 v47) (fun v49 m48 => (f_X12_thrown m48 l2).bind fun v50 => if v50 = v46 then (if ¬ v46 = 0 then (ck (l4 + 6) <| some (.inl ((l4 + 6), m48))) else
  ldL m48 131 l3 0 fun v51 => if (lcm' v51 (i2l v49)) = 0 then (ck (l4 + 6) <| some (.inl ((l4 + 6), m48))) else
  some (.inr (.inl (.inl (some (aI 0)), m48)))) else
  some (.inr (.inl (.inl (some (aI 0)), m48)))) x0) x0,
  sld (xs fx) (xn fx) (l4 + 1) fun v52 => sld (xs fx) (xn fx) (l4 + 2) fun v53 => bI (f_L_piece mm l1 v52 v53 l3) (fun v55 m54 => sld (xs fx) (xn fx) (l4 + 1) fun v56 => sld (xs fx) (xn fx) (l4 + 2) fun v57 => bI (f_X12_piece m54 l2 v56 v57) (fun v59 m58 => (f_X12_thrown m58 l2).bind fun v60 => if v60 = v55 then (if ¬ v55 = 0 then (ck (l4 + 6) <| some (.inl ((l4 + 6), m58))) else
  ldL m58 131 l3 0 fun v61 => if (lcm' v61 (i2l v59)) = 0 then (ck (l4 + 6) <| some (.inl ((l4 + 6), m58))) else
  some (.inr (.inl (.inl (some (aI 0)), m58)))) else
  some (.inr (.inl (.inl (some (aI 0)), m58)))) x0) x0,
  sld (xs fx) (xn fx) (l4 + 1) fun v62 => sld (xs fx) (xn fx) (l4 + 2) fun v63 => bI (f_L_box mm l1 v62 v63 l3) (fun v65 m64 => sld (xs fx) (xn fx) (l4 + 1) fun v66 => sld (xs fx) (xn fx) (l4 + 2) fun v67 => bI (f_X12_box m64 l2 v66 v67) (fun v69 m68 => (f_X12_thrown m68 l2).bind fun v70 => if v70 = v65 then (if ¬ v65 = 0 then (ck (l4 + 6) <| some (.inl ((l4 + 6), m68))) else
  ldL m68 131 l3 0 fun v71 => if (lcm' v71 (i2l v69)) = 0 then (ck (l4 + 6) <| some (.inl ((l4 + 6), m68))) else
  some (.inr (.inl (.inl (some (aI 0)), m68)))) else
  some (.inr (.inl (.inl (some (aI 0)), m68)))) x0) x0,
  sld (xs fx) (xn fx) (l4 + 1) fun v72 => sld (xs fx) (xn fx) (l4 + 2) fun v73 => sld (xs fx) (xn fx) (l4 + 3) fun v74 => bI (f_L_hand mm l1 v72 v73 v74 l3) (fun v76 m75 => sld (xs fx) (xn fx) (l4 + 1) fun v77 => sld (xs fx) (xn fx) (l4 + 2) fun v78 => sld (xs fx) (xn fx) (l4 + 3) fun v79 => bI (f_X12_hand m75 l2 v77 v78 v79) (fun v81 m80 => (f_X12_thrown m80 l2).bind fun v82 => if v82 = v76 then (if ¬ v76 = 0 then (ck (l4 + 6) <| some (.inl ((l4 + 6), m80))) else
  ldL m80 131 l3 0 fun v83 => if (lcm' v83 (i2l v81)) = 0 then (ck (l4 + 6) <| some (.inl ((l4 + 6), m80))) else
  some (.inr (.inl (.inl (some (aI 0)), m80)))) else
  some (.inr (.inl (.inl (some (aI 0)), m80)))) x0) x0,
  sld (xs fx) (xn fx) (l4 + 1) fun v84 => sld (xs fx) (xn fx) (l4 + 2) fun v85 => sld (xs fx) (xn fx) (l4 + 3) fun v86 => sld (xs fx) (xn fx) (l4 + 4) fun v87 => sld (xs fx) (xn fx) (l4 + 5) fun v88 => bI (f_L_book mm l1 v84 v85 v86 v87 v88 l3) (fun v90 m89 => sld (xs fx) (xn fx) (l4 + 1) fun v91 => sld (xs fx) (xn fx) (l4 + 2) fun v92 => sld (xs fx) (xn fx) (l4 + 3) fun v93 => sld (xs fx) (xn fx) (l4 + 4) fun v94 => sld (xs fx) (xn fx) (l4 + 5) fun v95 => bI (f_X12_book m89 l2 v91 v92 v93 v94 v95) (fun v97 m96 => (f_X12_thrown m96 l2).bind fun v98 => if v98 = v90 then (if ¬ v90 = 0 then (ck (l4 + 6) <| some (.inl ((l4 + 6), m96))) else
  ldL m96 131 l3 0 fun v99 => if (lcm' v99 (i2l v97)) = 0 then (ck (l4 + 6) <| some (.inl ((l4 + 6), m96))) else
  some (.inr (.inl (.inl (some (aI 0)), m96)))) else
  some (.inr (.inl (.inl (some (aI 0)), m96)))) x0) x0,
  sld (xs fx) (xn fx) (l4 + 1) fun v100 => bI (f_L_copy mm l1 v100 l3) (fun v102 m101 => sld (xs fx) (xn fx) (l4 + 1) fun v103 => bI (f_X12_copy m101 l2 v103) (fun v105 m104 => (f_X12_thrown m104 l2).bind fun v106 => if v106 = v102 then (if ¬ v102 = 0 then (ck (l4 + 6) <| some (.inl ((l4 + 6), m104))) else
  ldL m104 131 l3 0 fun v107 => if (lcm' v107 (i2l v105)) = 0 then (ck (l4 + 6) <| some (.inl ((l4 + 6), m104))) else
  some (.inr (.inl (.inl (some (aI 0)), m104)))) else
  some (.inr (.inl (.inl (some (aI 0)), m104)))) x0) x0,
  sld (xs fx) (xn fx) (l4 + 1) fun v108 => sld (xs fx) (xn fx) (l4 + 2) fun v109 => bI (f_L_follow mm l1 v108 v109 l3) (fun v111 m110 => sld (xs fx) (xn fx) (l4 + 1) fun v112 => sld (xs fx) (xn fx) (l4 + 2) fun v113 => bI (f_X12_follow m110 l2 v112 v113) (fun v115 m114 => (f_X12_thrown m114 l2).bind fun v116 => if v116 = v111 then (if ¬ v111 = 0 then (ck (l4 + 6) <| some (.inl ((l4 + 6), m114))) else
  ldL m114 131 l3 0 fun v117 => if (lcm' v117 (i2l v115)) = 0 then (ck (l4 + 6) <| some (.inl ((l4 + 6), m114))) else
  some (.inr (.inl (.inl (some (aI 0)), m114)))) else
  some (.inr (.inl (.inl (some (aI 0)), m114)))) x0) x0,
  sld (xs fx) (xn fx) (l4 + 1) fun v118 => sld (xs fx) (xn fx) (l4 + 2) fun v119 => bI (f_L_castOff mm l1 v118 v119 l3) (fun v121 m120 => sld (xs fx) (xn fx) (l4 + 1) fun v122 => sld (xs fx) (xn fx) (l4 + 2) fun v123 => bI (f_X12_castOff m120 l2 v122 v123) (fun v125 m124 => (f_X12_thrown m124 l2).bind fun v126 => if v126 = v121 then (if ¬ v121 = 0 then (ck (l4 + 6) <| some (.inl ((l4 + 6), m124))) else
  ldL m124 131 l3 0 fun v127 => if (lcm' v127 (i2l v125)) = 0 then (ck (l4 + 6) <| some (.inl ((l4 + 6), m124))) else
  some (.inr (.inl (.inl (some (aI 0)), m124)))) else
  some (.inr (.inl (.inl (some (aI 0)), m124)))) x0) x0,
  sld (xs fx) (xn fx) (l4 + 1) fun v128 => sld (xs fx) (xn fx) (l4 + 2) fun v129 => sld (xs fx) (xn fx) (l4 + 3) fun v130 => bI (f_L_set mm l1 v128 v129 v130 l3) (fun v132 m131 => sld (xs fx) (xn fx) (l4 + 1) fun v133 => sld (xs fx) (xn fx) (l4 + 2) fun v134 => sld (xs fx) (xn fx) (l4 + 3) fun v135 => bI (f_X12_set m131 l2 v133 v134 v135) (fun v137 m136 => (f_X12_thrown m136 l2).bind fun v138 => if v138 = v132 then (if ¬ v132 = 0 then (ck (l4 + 6) <| some (.inl ((l4 + 6), m136))) else
  ldL m136 131 l3 0 fun v139 => if (lcm' v139 (i2l v137)) = 0 then (ck (l4 + 6) <| some (.inl ((l4 + 6), m136))) else
  some (.inr (.inl (.inl (some (aI 0)), m136)))) else
  some (.inr (.inl (.inl (some (aI 0)), m136)))) x0) x0,
  sld (xs fx) (xn fx) (l4 + 1) fun v140 => sld (xs fx) (xn fx) (l4 + 2) fun v141 => sld (xs fx) (xn fx) (l4 + 3) fun v142 => bI (f_L_page mm l1 v140 v141 v142 l3) (fun v144 m143 => sld (xs fx) (xn fx) (l4 + 1) fun v145 => sld (xs fx) (xn fx) (l4 + 2) fun v146 => sld (xs fx) (xn fx) (l4 + 3) fun v147 => bI (f_X12_page m143 l2 v145 v146 v147) (fun v149 m148 => (f_X12_thrown m148 l2).bind fun v150 => if v150 = v144 then (if ¬ v144 = 0 then (ck (l4 + 6) <| some (.inl ((l4 + 6), m148))) else
  ldL m148 131 l3 0 fun v151 => if (lcm' v151 (i2l v149)) = 0 then (ck (l4 + 6) <| some (.inl ((l4 + 6), m148))) else
  some (.inr (.inl (.inl (some (aI 0)), m148)))) else
  some (.inr (.inl (.inl (some (aI 0)), m148)))) x0) x0,
  sld (xs fx) (xn fx) (l4 + 1) fun v152 => sld (xs fx) (xn fx) (l4 + 2) fun v153 => sld (xs fx) (xn fx) (l4 + 3) fun v154 => sld (xs fx) (xn fx) (l4 + 4) fun v155 => bI (f_L_line mm l1 v152 v153 v154 v155 l3) (fun v157 m156 => sld (xs fx) (xn fx) (l4 + 1) fun v158 => sld (xs fx) (xn fx) (l4 + 2) fun v159 => sld (xs fx) (xn fx) (l4 + 3) fun v160 => sld (xs fx) (xn fx) (l4 + 4) fun v161 => bI (f_X12_line m156 l2 v158 v159 v160 v161) (fun v163 m162 => (f_X12_thrown m162 l2).bind fun v164 => if v164 = v157 then (if ¬ v157 = 0 then (ck (l4 + 6) <| some (.inl ((l4 + 6), m162))) else
  ldL m162 131 l3 0 fun v165 => if (lcm' v165 (i2l v163)) = 0 then (ck (l4 + 6) <| some (.inl ((l4 + 6), m162))) else
  some (.inr (.inl (.inl (some (aI 0)), m162)))) else
  some (.inr (.inl (.inl (some (aI 0)), m162)))) x0) x0,
  sld (xs fx) (xn fx) (l4 + 1) fun v166 => sld (xs fx) (xn fx) (l4 + 2) fun v167 => sld (xs fx) (xn fx) (l4 + 3) fun v168 => sld (xs fx) (xn fx) (l4 + 4) fun v169 => bI (f_L_place mm l1 v166 v167 v168 v169 l3) (fun v171 m170 => sld (xs fx) (xn fx) (l4 + 1) fun v172 => sld (xs fx) (xn fx) (l4 + 2) fun v173 => sld (xs fx) (xn fx) (l4 + 3) fun v174 => sld (xs fx) (xn fx) (l4 + 4) fun v175 => bI (f_X12_place m170 l2 v172 v173 v174 v175) (fun v177 m176 => (f_X12_thrown m176 l2).bind fun v178 => if v178 = v171 then (if ¬ v171 = 0 then (ck (l4 + 6) <| some (.inl ((l4 + 6), m176))) else
  ldL m176 131 l3 0 fun v179 => if (lcm' v179 (i2l v177)) = 0 then (ck (l4 + 6) <| some (.inl ((l4 + 6), m176))) else
  some (.inr (.inl (.inl (some (aI 0)), m176)))) else
  some (.inr (.inl (.inl (some (aI 0)), m176)))) x0) x0,
  sld (xs fx) (xn fx) (l4 + 1) fun v180 => sld (xs fx) (xn fx) (l4 + 2) fun v181 => sld (xs fx) (xn fx) (l4 + 3) fun v182 => bI (f_L_lock mm l1 v180 v181 v182) (fun v184 m183 => sld (xs fx) (xn fx) (l4 + 1) fun v185 => sld (xs fx) (xn fx) (l4 + 2) fun v186 => sld (xs fx) (xn fx) (l4 + 3) fun v187 => bV (f_X12_lock m183 l2 v185 v186 v187) (fun m188 => (f_X12_thrown m188 l2).bind fun v190 => if v190 = v184 then (ck (l4 + 6) <| some (.inl ((l4 + 6), m188))) else
  some (.inr (.inl (.inl (some (aI 0)), m188)))) x0) x0,
  sld (xs fx) (xn fx) (l4 + 1) fun v191 => sld (xs fx) (xn fx) (l4 + 2) fun v192 => sld (xs fx) (xn fx) (l4 + 3) fun v193 => bI (f_L_print mm l1 v191 v192 v193) (fun v195 m194 => sld (xs fx) (xn fx) (l4 + 1) fun v196 => sld (xs fx) (xn fx) (l4 + 2) fun v197 => sld (xs fx) (xn fx) (l4 + 3) fun v198 => bV (f_X12_print m194 l2 v196 v197 v198) (fun m199 => (f_X12_thrown m199 l2).bind fun v201 => if v201 = v195 then (ck (l4 + 6) <| some (.inl ((l4 + 6), m199))) else
  some (.inr (.inl (.inl (some (aI 0)), m199)))) x0) x0,
  sld (xs fx) (xn fx) (l4 + 1) fun v202 => sld (xs fx) (xn fx) (l4 + 2) fun v203 => bI (f_L_men mm l1 v202 v203 l3) (fun v205 m204 => sld (xs fx) (xn fx) (l4 + 1) fun v206 => sld (xs fx) (xn fx) (l4 + 2) fun v207 => bI (f_X12_men m204 l2 v206 v207) (fun v209 m208 => (f_X12_thrown m208 l2).bind fun v210 => if v210 = v205 then (if ¬ v205 = 0 then (ck (l4 + 6) <| some (.inl ((l4 + 6), m208))) else
  ldL m208 131 l3 0 fun v211 => if (lcm' v211 (i2l v209)) = 0 then (ck (l4 + 6) <| some (.inl ((l4 + 6), m208))) else
  some (.inr (.inl (.inl (some (aI 0)), m208)))) else
  some (.inr (.inl (.inl (some (aI 0)), m208)))) x0) x0,
  sld (xs fx) (xn fx) (l4 + 1) fun v212 => bI (f_L_pass mm l1 v212 l3) (fun v214 m213 => sld (xs fx) (xn fx) (l4 + 1) fun v215 => bI (f_X12_pass m213 l2 v215) (fun v217 m216 => (f_X12_thrown m216 l2).bind fun v218 => if v218 = v214 then (if ¬ v214 = 0 then (ck (l4 + 6) <| some (.inl ((l4 + 6), m216))) else
  ldL m216 131 l3 0 fun v219 => if (lcm' v219 (i2l v217)) = 0 then (ck (l4 + 6) <| some (.inl ((l4 + 6), m216))) else
  some (.inr (.inl (.inl (some (aI 0)), m216)))) else
  some (.inr (.inl (.inl (some (aI 0)), m216)))) x0) x0,
  (f_X11_hour mm l1).bind fun v220 => bI (f_X12_hour mm l2) (fun v222 m221 => if v220 = v222 then (ck (l4 + 6) <| some (.inl ((l4 + 6), m221))) else
  some (.inr (.inl (.inl (some (aI 0)), m221)))) x0,
  sld (xs fx) (xn fx) (l4 + 1) fun v223 => sld (xs fx) (xn fx) (l4 + 2) fun v224 => sld (xs fx) (xn fx) (l4 + 3) fun v225 => bI (f_L_forme mm l1 v223 v224 v225 l3) (fun v227 m226 => sld (xs fx) (xn fx) (l4 + 1) fun v228 => sld (xs fx) (xn fx) (l4 + 2) fun v229 => sld (xs fx) (xn fx) (l4 + 3) fun v230 => bI (f_X12_forme m226 l2 v228 v229 v230) (fun v232 m231 => (f_X12_thrown m231 l2).bind fun v233 => if v233 = v227 then (if ¬ v227 = 0 then (ck (l4 + 6) <| some (.inl ((l4 + 6), m231))) else
  ldL m231 131 l3 0 fun v234 => if (lcm' v234 (i2l v232)) = 0 then (ck (l4 + 6) <| some (.inl ((l4 + 6), m231))) else
  some (.inr (.inl (.inl (some (aI 0)), m231)))) else
  some (.inr (.inl (.inl (some (aI 0)), m231)))) x0) x0,
  sld (xs fx) (xn fx) (l4 + 1) fun v235 => sld (xs fx) (xn fx) (l4 + 2) fun v236 => sld (xs fx) (xn fx) (l4 + 3) fun v237 => bI (f_L_correct mm l1 v235 v236 v237 l3) (fun v239 m238 => sld (xs fx) (xn fx) (l4 + 1) fun v240 => sld (xs fx) (xn fx) (l4 + 2) fun v241 => sld (xs fx) (xn fx) (l4 + 3) fun v242 => bI (f_X12_correct m238 l2 v240 v241 v242) (fun v244 m243 => (f_X12_thrown m243 l2).bind fun v245 => if v245 = v239 then (if ¬ v239 = 0 then (ck (l4 + 6) <| some (.inl ((l4 + 6), m243))) else
  ldL m243 131 l3 0 fun v246 => if (lcm' v246 (i2l v244)) = 0 then (ck (l4 + 6) <| some (.inl ((l4 + 6), m243))) else
  some (.inr (.inl (.inl (some (aI 0)), m243)))) else
  some (.inr (.inl (.inl (some (aI 0)), m243)))) x0) x0,
  sld (xs fx) (xn fx) (l4 + 1) fun v247 => sld (xs fx) (xn fx) (l4 + 2) fun v248 => sld (xs fx) (xn fx) (l4 + 3) fun v249 => bI (f_L_putAway mm l1 v247 v248 v249 l3) (fun v251 m250 => sld (xs fx) (xn fx) (l4 + 1) fun v252 => sld (xs fx) (xn fx) (l4 + 2) fun v253 => sld (xs fx) (xn fx) (l4 + 3) fun v254 => bI (f_X12_putAway m250 l2 v252 v253 v254) (fun v256 m255 => (f_X12_thrown m255 l2).bind fun v257 => if v257 = v251 then (if ¬ v251 = 0 then (ck (l4 + 6) <| some (.inl ((l4 + 6), m255))) else
  ldL m255 131 l3 0 fun v258 => if (lcm' v258 (i2l v256)) = 0 then (ck (l4 + 6) <| some (.inl ((l4 + 6), m255))) else
  some (.inr (.inl (.inl (some (aI 0)), m255)))) else
  some (.inr (.inl (.inl (some (aI 0)), m255)))) x0) x0,
  sld (xs fx) (xn fx) (l4 + 1) fun v259 => bI (f_L_paper mm l1 v259 l3) (fun v261 m260 => sld (xs fx) (xn fx) (l4 + 1) fun v262 => bI (f_X12_paper m260 l2 v262) (fun v264 m263 => (f_X12_thrown m263 l2).bind fun v265 => if v265 = v261 then (if ¬ v261 = 0 then (ck (l4 + 6) <| some (.inl ((l4 + 6), m263))) else
  ldL m263 131 l3 0 fun v266 => if (lcm' v266 (i2l v264)) = 0 then (ck (l4 + 6) <| some (.inl ((l4 + 6), m263))) else
  some (.inr (.inl (.inl (some (aI 0)), m263)))) else
  some (.inr (.inl (.inl (some (aI 0)), m263)))) x0) x0,
  sld (xs fx) (xn fx) (l4 + 1) fun v267 => sld (xs fx) (xn fx) (l4 + 2) fun v268 => sld (xs fx) (xn fx) (l4 + 3) fun v269 => bI (f_L_lay mm l1 v267 v268 v269) (fun v271 m270 => sld (xs fx) (xn fx) (l4 + 1) fun v272 => sld (xs fx) (xn fx) (l4 + 2) fun v273 => sld (xs fx) (xn fx) (l4 + 3) fun v274 => bV (f_X12_lay m270 l2 v272 v273 v274) (fun m275 => (f_X12_thrown m275 l2).bind fun v277 => if v277 = v271 then (ck (l4 + 6) <| some (.inl ((l4 + 6), m275))) else
  some (.inr (.inl (.inl (some (aI 0)), m275)))) x0) x0,
  sld (xs fx) (xn fx) (l4 + 1) fun v278 => bI (f_L_bind mm l1 v278 l3) (fun v280 m279 => sld (xs fx) (xn fx) (l4 + 1) fun v281 => bI (f_X12_bind m279 l2 v281) (fun v283 m282 => (f_X12_thrown m282 l2).bind fun v284 => if v284 = v280 then (if ¬ v280 = 0 then (ck (l4 + 6) <| some (.inl ((l4 + 6), m282))) else
  ldL m282 131 l3 0 fun v285 => if (lcm' v285 (i2l v283)) = 0 then (ck (l4 + 6) <| some (.inl ((l4 + 6), m282))) else
  some (.inr (.inl (.inl (some (aI 0)), m282)))) else
  some (.inr (.inl (.inl (some (aI 0)), m282)))) x0) x0,
  sld (xs fx) (xn fx) (l4 + 1) fun v286 => sld (xs fx) (xn fx) (l4 + 2) fun v287 => sld (xs fx) (xn fx) (l4 + 3) fun v288 => sld (xs fx) (xn fx) (l4 + 4) fun v289 => bI (f_L_exchange mm l1 v286 v287 v288 v289) (fun v291 m290 => sld (xs fx) (xn fx) (l4 + 1) fun v292 => sld (xs fx) (xn fx) (l4 + 2) fun v293 => sld (xs fx) (xn fx) (l4 + 3) fun v294 => sld (xs fx) (xn fx) (l4 + 4) fun v295 => bV (f_X12_exchange m290 l2 v292 v293 v294 v295) (fun m296 => (f_X12_thrown m296 l2).bind fun v298 => if v298 = v291 then (ck (l4 + 6) <| some (.inl ((l4 + 6), m296))) else
  some (.inr (.inl (.inl (some (aI 0)), m296)))) x0) x0,
  sld (xs fx) (xn fx) (l4 + 1) fun v299 => sld (xs fx) (xn fx) (l4 + 2) fun v300 => sld (xs fx) (xn fx) (l4 + 3) fun v301 => bI (f_L_cancel mm l1 v299 v300 v301 l3) (fun v303 m302 => sld (xs fx) (xn fx) (l4 + 1) fun v304 => sld (xs fx) (xn fx) (l4 + 2) fun v305 => sld (xs fx) (xn fx) (l4 + 3) fun v306 => bI (f_X12_cancel m302 l2 v304 v305 v306) (fun v308 m307 => (f_X12_thrown m307 l2).bind fun v309 => if v309 = v303 then (if ¬ v303 = 0 then (ck (l4 + 6) <| some (.inl ((l4 + 6), m307))) else
  ldL m307 131 l3 0 fun v310 => if (lcm' v310 (i2l v308)) = 0 then (ck (l4 + 6) <| some (.inl ((l4 + 6), m307))) else
  some (.inr (.inl (.inl (some (aI 0)), m307)))) else
  some (.inr (.inl (.inl (some (aI 0)), m307)))) x0) x0,
  sld (xs fx) (xn fx) (l4 + 1) fun v311 => sld (xs fx) (xn fx) (l4 + 2) fun v312 => sld (xs fx) (xn fx) (l4 + 3) fun v313 => bI (f_L_state mm l1 v311 v312 v313 l3) (fun v315 m314 => sld (xs fx) (xn fx) (l4 + 1) fun v316 => sld (xs fx) (xn fx) (l4 + 2) fun v317 => sld (xs fx) (xn fx) (l4 + 3) fun v318 => bI (f_X12_state m314 l2 v316 v317 v318) (fun v320 m319 => (f_X12_thrown m319 l2).bind fun v321 => if v321 = v315 then (if ¬ v315 = 0 then (ck (l4 + 6) <| some (.inl ((l4 + 6), m319))) else
  ldL m319 131 l3 0 fun v322 => if (lcm' v322 (i2l v320)) = 0 then (ck (l4 + 6) <| some (.inl ((l4 + 6), m319))) else
  some (.inr (.inl (.inl (some (aI 0)), m319)))) else
  some (.inr (.inl (.inl (some (aI 0)), m319)))) x0) x0,
  sld (xs fx) (xn fx) (l4 + 1) fun v323 => sld (xs fx) (xn fx) (l4 + 2) fun v324 => sld (xs fx) (xn fx) (l4 + 3) fun v325 => bI (f_L_mark mm l1 v323 v324 v325 l3) (fun v327 m326 => sld (xs fx) (xn fx) (l4 + 1) fun v328 => sld (xs fx) (xn fx) (l4 + 2) fun v329 => sld (xs fx) (xn fx) (l4 + 3) fun v330 => bI (f_X12_mark m326 l2 v328 v329 v330) (fun v332 m331 => (f_X12_thrown m331 l2).bind fun v333 => if v333 = v327 then (if ¬ v327 = 0 then (ck (l4 + 6) <| some (.inl ((l4 + 6), m331))) else
  ldL m331 131 l3 0 fun v334 => if (lcm' v334 (i2l v332)) = 0 then (ck (l4 + 6) <| some (.inl ((l4 + 6), m331))) else
  some (.inr (.inl (.inl (some (aI 0)), m331)))) else
  some (.inr (.inl (.inl (some (aI 0)), m331)))) x0) x0,
  sld (xs fx) (xn fx) (l4 + 1) fun v335 => sld (xs fx) (xn fx) (l4 + 2) fun v336 => sld (xs fx) (xn fx) (l4 + 3) fun v337 => sld (xs fx) (xn fx) (l4 + 4) fun v338 => sld (xs fx) (xn fx) (l4 + 5) fun v339 => bI (f_L_character mm l1 v335 v336 v337 v338 v339 l3) (fun v341 m340 => sld (xs fx) (xn fx) (l4 + 1) fun v342 => sld (xs fx) (xn fx) (l4 + 2) fun v343 => sld (xs fx) (xn fx) (l4 + 3) fun v344 => sld (xs fx) (xn fx) (l4 + 4) fun v345 => sld (xs fx) (xn fx) (l4 + 5) fun v346 => bI (f_X12_character m340 l2 v342 v343 v344 v345 v346) (fun v348 m347 => (f_X12_thrown m347 l2).bind fun v349 => if v349 = v341 then (if ¬ v341 = 0 then (ck (l4 + 6) <| some (.inl ((l4 + 6), m347))) else
  ldL m347 131 l3 0 fun v350 => if (lcm' v350 (i2l v348)) = 0 then (ck (l4 + 6) <| some (.inl ((l4 + 6), m347))) else
  some (.inr (.inl (.inl (some (aI 0)), m347)))) else
  some (.inr (.inl (.inl (some (aI 0)), m347)))) x0) x0,
  sld (xs fx) (xn fx) (l4 + 1) fun v351 => sld (xs fx) (xn fx) (l4 + 2) fun v352 => bI (f_L_alike mm l1 v351 v352 l3) (fun v354 m353 => sld (xs fx) (xn fx) (l4 + 1) fun v355 => sld (xs fx) (xn fx) (l4 + 2) fun v356 => bI (f_X12_alike m353 l2 v355 v356) (fun v358 m357 => (f_X12_thrown m357 l2).bind fun v359 => if v359 = v354 then (if ¬ v354 = 0 then (ck (l4 + 6) <| some (.inl ((l4 + 6), m357))) else
  ldL m357 131 l3 0 fun v360 => if (lcm' v360 (i2l v358)) = 0 then (ck (l4 + 6) <| some (.inl ((l4 + 6), m357))) else
  some (.inr (.inl (.inl (some (aI 0)), m357)))) else
  some (.inr (.inl (.inl (some (aI 0)), m357)))) x0) x0,
  sld (xs fx) (xn fx) (l4 + 1) fun v361 => sld (xs fx) (xn fx) (l4 + 2) fun v362 => bI (f_L_madeUp mm l1 v361 v362 l3) (fun v364 m363 => sld (xs fx) (xn fx) (l4 + 1) fun v365 => sld (xs fx) (xn fx) (l4 + 2) fun v366 => bI (f_X12_madeUp m363 l2 v365 v366) (fun v368 m367 => (f_X12_thrown m367 l2).bind fun v369 => if v369 = v364 then (if ¬ v364 = 0 then (ck (l4 + 6) <| some (.inl ((l4 + 6), m367))) else
  ldL m367 131 l3 0 fun v370 => if (lcm' v370 (i2l v368)) = 0 then (ck (l4 + 6) <| some (.inl ((l4 + 6), m367))) else
  some (.inr (.inl (.inl (some (aI 0)), m367)))) else
  some (.inr (.inl (.inl (some (aI 0)), m367)))) x0) x0,
  sld (xs fx) (xn fx) (l4 + 1) fun v371 => sld (xs fx) (xn fx) (l4 + 2) fun v372 => sld (xs fx) (xn fx) (l4 + 3) fun v373 => bI (f_L_shared mm l1 v371 v372 v373 l3) (fun v375 m374 => sld (xs fx) (xn fx) (l4 + 1) fun v376 => sld (xs fx) (xn fx) (l4 + 2) fun v377 => sld (xs fx) (xn fx) (l4 + 3) fun v378 => bI (f_X12_shared m374 l2 v376 v377 v378) (fun v380 m379 => (f_X12_thrown m379 l2).bind fun v381 => if v381 = v375 then (if ¬ v375 = 0 then (ck (l4 + 6) <| some (.inl ((l4 + 6), m379))) else
  ldL m379 131 l3 0 fun v382 => if (lcm' v382 (i2l v380)) = 0 then (ck (l4 + 6) <| some (.inl ((l4 + 6), m379))) else
  some (.inr (.inl (.inl (some (aI 0)), m379)))) else
  some (.inr (.inl (.inl (some (aI 0)), m379)))) x0) x0,
  sld (xs fx) (xn fx) (l4 + 1) fun v383 => bI (f_L_orders mm l1 v383 l3) (fun v385 m384 => sld (xs fx) (xn fx) (l4 + 1) fun v386 => bI (f_X12_orders m384 l2 v386) (fun v388 m387 => (f_X12_thrown m387 l2).bind fun v389 => if v389 = v385 then (if ¬ v385 = 0 then (ck (l4 + 6) <| some (.inl ((l4 + 6), m387))) else
  ldL m387 131 l3 0 fun v390 => if (lcm' v390 (i2l v388)) = 0 then (ck (l4 + 6) <| some (.inl ((l4 + 6), m387))) else
  some (.inr (.inl (.inl (some (aI 0)), m387)))) else
  some (.inr (.inl (.inl (some (aI 0)), m387)))) x0) x0,
  sld (xs fx) (xn fx) (l4 + 1) fun v391 => bI (f_L_ordersAnew mm l1 v391 l3) (fun v393 m392 => sld (xs fx) (xn fx) (l4 + 1) fun v394 => bI (f_X12_ordersAnew m392 l2 v394) (fun v396 m395 => (f_X12_thrown m395 l2).bind fun v397 => if v397 = v393 then (if ¬ v393 = 0 then (ck (l4 + 6) <| some (.inl ((l4 + 6), m395))) else
  ldL m395 131 l3 0 fun v398 => if (lcm' v398 (i2l v396)) = 0 then (ck (l4 + 6) <| some (.inl ((l4 + 6), m395))) else
  some (.inr (.inl (.inl (some (aI 0)), m395)))) else
  some (.inr (.inl (.inl (some (aI 0)), m395)))) x0) x0,
  sld (xs fx) (xn fx) (l4 + 1) fun v399 => sld (xs fx) (xn fx) (l4 + 2) fun v400 => sld (xs fx) (xn fx) (l4 + 3) fun v401 => bI (f_L_ahead mm l1 v399 v400 v401 l3) (fun v403 m402 => sld (xs fx) (xn fx) (l4 + 1) fun v404 => sld (xs fx) (xn fx) (l4 + 2) fun v405 => sld (xs fx) (xn fx) (l4 + 3) fun v406 => bI (f_X12_ahead m402 l2 v404 v405 v406) (fun v408 m407 => (f_X12_thrown m407 l2).bind fun v409 => if v409 = v403 then (if ¬ v403 = 0 then (ck (l4 + 6) <| some (.inl ((l4 + 6), m407))) else
  ldL m407 131 l3 0 fun v410 => if (lcm' v410 (i2l v408)) = 0 then (ck (l4 + 6) <| some (.inl ((l4 + 6), m407))) else
  some (.inr (.inl (.inl (some (aI 0)), m407)))) else
  some (.inr (.inl (.inl (some (aI 0)), m407)))) x0) x0,
  sld (xs fx) (xn fx) (l4 + 1) fun v411 => bI (f_L_hands mm l1 v411 l3) (fun v413 m412 => sld (xs fx) (xn fx) (l4 + 1) fun v414 => bI (f_X12_hands m412 l2 v414) (fun v416 m415 => (f_X12_thrown m415 l2).bind fun v417 => if v417 = v413 then (if ¬ v413 = 0 then (ck (l4 + 6) <| some (.inl ((l4 + 6), m415))) else
  ldL m415 131 l3 0 fun v418 => if (lcm' v418 (i2l v416)) = 0 then (ck (l4 + 6) <| some (.inl ((l4 + 6), m415))) else
  some (.inr (.inl (.inl (some (aI 0)), m415)))) else
  some (.inr (.inl (.inl (some (aI 0)), m415)))) x0) x0,
  sld (xs fx) (xn fx) (l4 + 1) fun v419 => bI (f_L_presses mm l1 v419 l3) (fun v421 m420 => sld (xs fx) (xn fx) (l4 + 1) fun v422 => bI (f_X12_presses m420 l2 v422) (fun v424 m423 => (f_X12_thrown m423 l2).bind fun v425 => if v425 = v421 then (if ¬ v421 = 0 then (ck (l4 + 6) <| some (.inl ((l4 + 6), m423))) else
  ldL m423 131 l3 0 fun v426 => if (lcm' v426 (i2l v424)) = 0 then (ck (l4 + 6) <| some (.inl ((l4 + 6), m423))) else
  some (.inr (.inl (.inl (some (aI 0)), m423)))) else
  some (.inr (.inl (.inl (some (aI 0)), m423)))) x0) x0,
  sld (xs fx) (xn fx) (l4 + 1) fun v427 => sld (xs fx) (xn fx) (l4 + 2) fun v428 => bI (f_L_follows mm l1 v427 v428 l3) (fun v430 m429 => sld (xs fx) (xn fx) (l4 + 1) fun v431 => sld (xs fx) (xn fx) (l4 + 2) fun v432 => bI (f_X12_follows m429 l2 v431 v432) (fun v434 m433 => (f_X12_thrown m433 l2).bind fun v435 => if v435 = v430 then (if ¬ v430 = 0 then (ck (l4 + 6) <| some (.inl ((l4 + 6), m433))) else
  ldL m433 131 l3 0 fun v436 => if (lcm' v436 (i2l v434)) = 0 then (ck (l4 + 6) <| some (.inl ((l4 + 6), m433))) else
  some (.inr (.inl (.inl (some (aI 0)), m433)))) else
  some (.inr (.inl (.inl (some (aI 0)), m433)))) x0) x0,
  sld (xs fx) (xn fx) (l4 + 1) fun v437 => sld (xs fx) (xn fx) (l4 + 2) fun v438 => bI (f_L_account mm l1 v437 v438 l3) (fun v440 m439 => sld (xs fx) (xn fx) (l4 + 1) fun v441 => sld (xs fx) (xn fx) (l4 + 2) fun v442 => bI (f_X12_account m439 l2 v441 v442) (fun v444 m443 => (f_X12_thrown m443 l2).bind fun v445 => if v445 = v440 then (if ¬ v440 = 0 then (ck (l4 + 6) <| some (.inl ((l4 + 6), m443))) else
  ldL m443 131 l3 0 fun v446 => if (lcm' v446 (i2l v444)) = 0 then (ck (l4 + 6) <| some (.inl ((l4 + 6), m443))) else
  some (.inr (.inl (.inl (some (aI 0)), m443)))) else
  some (.inr (.inl (.inl (some (aI 0)), m443)))) x0) x0]
  (ck (l4 + 6) <| some (.inl ((l4 + 6), mm)))
noncomputable def j_L_law_0_3125 (fx : FX) (m : MM)   : Option (RV × MM) :=
  some (.inl (some (aI 1)), m)
noncomputable def f_L_law (fx : FX) (m : MM)  : Option (RV × MM) :=
  lt' (nW m 11 11) fun m1 => bV (f_X11_init m1 (gC m 11)) (fun m2 => lt' (nW m2 12 82) fun m4 => bV (f_X12_init m4 (gC m2 12)) (fun m5 => newA m5 131 1 fun m7 => (lpb (fun s => b_L_law_23 fx (gC m 11) (gC m2 12) (gC m5 131) s.1 s.2) (0, m7)).bind (Sum.elim (fun r => some r) fun z => j_L_law_0_3125 fx z)) x0) x0
