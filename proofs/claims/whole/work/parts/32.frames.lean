theorem fr_j_X11_handAt_0_23 {m0 : MM} {m : MM} {s0 : Option (Nat × Nat)} (h : eqF [] m0 m) : Pc (j_X11_handAt_0_23 m s0) (RF [] m0) := by
  unfold j_X11_handAt_0_23
  repeat' first
    | with_reducible exact pc_x0
    | with_reducible exact pc_xt (by assumption)
    | with_reducible exact pc_xr (by assumption)
    | with_reducible refine pc_nk fun _ => ?_
    | with_reducible refine pc_if ?_ ?_
    | with_reducible refine pc_ck ?_
    | with_reducible refine pc_cb ?_
    | with_reducible refine pc_dv ?_
    | with_reducible refine pc_let fun _ => ?_
    | with_reducible refine pc_letL fun _ => ?_
    | with_reducible refine pc_ldN fun _ => ?_
    | with_reducible refine pc_ldL fun _ => ?_
    | with_reducible refine pc_ldR fun _ => ?_
    | with_reducible refine pc_put (eqF.sN (by assumption) (by decide)) fun _ _ => ?_
    | with_reducible refine pc_put (eqF.sL (by assumption) (by decide)) fun _ _ => ?_
    | with_reducible refine pc_put (eqF.sR (by assumption) (by decide)) fun _ _ => ?_
    | with_reducible refine pc_stN (by decide) (by assumption) fun _ _ => ?_
    | with_reducible refine pc_stL (by decide) (by assumption) fun _ _ => ?_
    | with_reducible refine pc_stR (by decide) (by assumption) fun _ _ => ?_
    | with_reducible refine pc_cpN (by decide) (by assumption) fun _ _ => ?_
    | with_reducible refine pc_pure fun _ => ?_
    | exact pc_some (by assumption)
    | exact pc_some (eqF.bX (by assumption))
    | exact pc_some trivial
    | dsimp only
theorem fr_j_X11_handAt_0_22 {m0 : MM} {m : MM} (h : eqF [] m0 m) : Pc (j_X11_handAt_0_22 m) (RF [] m0) := by
  unfold j_X11_handAt_0_22
  repeat' first
    | with_reducible exact pc_x0
    | with_reducible exact pc_xt (by assumption)
    | with_reducible exact pc_xr (by assumption)
    | with_reducible exact fr_j_X11_handAt_0_23 (by assumption)
    | with_reducible refine pc_nk fun _ => ?_
    | with_reducible refine pc_if ?_ ?_
    | with_reducible refine pc_ck ?_
    | with_reducible refine pc_cb ?_
    | with_reducible refine pc_dv ?_
    | with_reducible refine pc_let fun _ => ?_
    | with_reducible refine pc_letL fun _ => ?_
    | with_reducible refine pc_ldN fun _ => ?_
    | with_reducible refine pc_ldL fun _ => ?_
    | with_reducible refine pc_ldR fun _ => ?_
    | with_reducible refine pc_put (eqF.sN (by assumption) (by decide)) fun _ _ => ?_
    | with_reducible refine pc_put (eqF.sL (by assumption) (by decide)) fun _ _ => ?_
    | with_reducible refine pc_put (eqF.sR (by assumption) (by decide)) fun _ _ => ?_
    | with_reducible refine pc_stN (by decide) (by assumption) fun _ _ => ?_
    | with_reducible refine pc_stL (by decide) (by assumption) fun _ _ => ?_
    | with_reducible refine pc_stR (by decide) (by assumption) fun _ _ => ?_
    | with_reducible refine pc_cpN (by decide) (by assumption) fun _ _ => ?_
    | with_reducible refine pc_pure fun _ => ?_
    | exact pc_some (by assumption)
    | exact pc_some (eqF.bX (by assumption))
    | exact pc_some trivial
    | dsimp only
theorem fr_f_X11_handAt {m0 : MM} {m : MM} {l0 : Nat} {l1 : Int} (h : eqF [] m0 m) : Pc (f_X11_handAt m l0 l1) (RF [] m0) := by
  unfold f_X11_handAt
  repeat' first
    | with_reducible exact pc_x0
    | with_reducible exact pc_xt (by assumption)
    | with_reducible exact pc_xr (by assumption)
    | with_reducible exact fr_j_X11_handAt_0_22 (by assumption)
    | with_reducible exact fr_j_X11_handAt_0_23 (by assumption)
    | with_reducible refine pc_nk fun _ => ?_
    | with_reducible refine pc_if ?_ ?_
    | with_reducible refine pc_ck ?_
    | with_reducible refine pc_cb ?_
    | with_reducible refine pc_dv ?_
    | with_reducible refine pc_let fun _ => ?_
    | with_reducible refine pc_letL fun _ => ?_
    | with_reducible refine pc_ldN fun _ => ?_
    | with_reducible refine pc_ldL fun _ => ?_
    | with_reducible refine pc_ldR fun _ => ?_
    | with_reducible refine pc_put (eqF.sN (by assumption) (by decide)) fun _ _ => ?_
    | with_reducible refine pc_put (eqF.sL (by assumption) (by decide)) fun _ _ => ?_
    | with_reducible refine pc_put (eqF.sR (by assumption) (by decide)) fun _ _ => ?_
    | with_reducible refine pc_stN (by decide) (by assumption) fun _ _ => ?_
    | with_reducible refine pc_stL (by decide) (by assumption) fun _ _ => ?_
    | with_reducible refine pc_stR (by decide) (by assumption) fun _ _ => ?_
    | with_reducible refine pc_cpN (by decide) (by assumption) fun _ _ => ?_
    | with_reducible refine pc_pure fun _ => ?_
    | exact pc_some (by assumption)
    | exact pc_some (eqF.bX (by assumption))
    | exact pc_some trivial
    | dsimp only
theorem fr_j_X11_pressAt_0_13 {m0 : MM} {m : MM} (h : eqF [] m0 m) : Pc (j_X11_pressAt_0_13 m) (RF [] m0) := by
  unfold j_X11_pressAt_0_13
  repeat' first
    | with_reducible exact pc_x0
    | with_reducible exact pc_xt (by assumption)
    | with_reducible exact pc_xr (by assumption)
    | with_reducible refine pc_nk fun _ => ?_
    | with_reducible refine pc_if ?_ ?_
    | with_reducible refine pc_ck ?_
    | with_reducible refine pc_cb ?_
    | with_reducible refine pc_dv ?_
    | with_reducible refine pc_let fun _ => ?_
    | with_reducible refine pc_letL fun _ => ?_
    | with_reducible refine pc_ldN fun _ => ?_
    | with_reducible refine pc_ldL fun _ => ?_
    | with_reducible refine pc_ldR fun _ => ?_
    | with_reducible refine pc_put (eqF.sN (by assumption) (by decide)) fun _ _ => ?_
    | with_reducible refine pc_put (eqF.sL (by assumption) (by decide)) fun _ _ => ?_
    | with_reducible refine pc_put (eqF.sR (by assumption) (by decide)) fun _ _ => ?_
    | with_reducible refine pc_stN (by decide) (by assumption) fun _ _ => ?_
    | with_reducible refine pc_stL (by decide) (by assumption) fun _ _ => ?_
    | with_reducible refine pc_stR (by decide) (by assumption) fun _ _ => ?_
    | with_reducible refine pc_cpN (by decide) (by assumption) fun _ _ => ?_
    | with_reducible refine pc_pure fun _ => ?_
    | exact pc_some (by assumption)
    | exact pc_some (eqF.bX (by assumption))
    | exact pc_some trivial
    | dsimp only
theorem fr_f_X11_pressAt {m0 : MM} {m : MM} {l0 : Nat} {l1 : Int} (h : eqF [] m0 m) : Pc (f_X11_pressAt m l0 l1) (RF [] m0) := by
  unfold f_X11_pressAt
  repeat' first
    | with_reducible exact pc_x0
    | with_reducible exact pc_xt (by assumption)
    | with_reducible exact pc_xr (by assumption)
    | with_reducible exact fr_j_X11_pressAt_0_13 (by assumption)
    | with_reducible refine pc_nk fun _ => ?_
    | with_reducible refine pc_if ?_ ?_
    | with_reducible refine pc_ck ?_
    | with_reducible refine pc_cb ?_
    | with_reducible refine pc_dv ?_
    | with_reducible refine pc_let fun _ => ?_
    | with_reducible refine pc_letL fun _ => ?_
    | with_reducible refine pc_ldN fun _ => ?_
    | with_reducible refine pc_ldL fun _ => ?_
    | with_reducible refine pc_ldR fun _ => ?_
    | with_reducible refine pc_put (eqF.sN (by assumption) (by decide)) fun _ _ => ?_
    | with_reducible refine pc_put (eqF.sL (by assumption) (by decide)) fun _ _ => ?_
    | with_reducible refine pc_put (eqF.sR (by assumption) (by decide)) fun _ _ => ?_
    | with_reducible refine pc_stN (by decide) (by assumption) fun _ _ => ?_
    | with_reducible refine pc_stL (by decide) (by assumption) fun _ _ => ?_
    | with_reducible refine pc_stR (by decide) (by assumption) fun _ _ => ?_
    | with_reducible refine pc_cpN (by decide) (by assumption) fun _ _ => ?_
    | with_reducible refine pc_pure fun _ => ?_
    | exact pc_some (by assumption)
    | exact pc_some (eqF.bX (by assumption))
    | exact pc_some trivial
    | dsimp only
theorem fr_f_X11_requireArgument {m0 : MM} {m : MM} {l0 : Int} (h : eqF [] m0 m) : Pc (f_X11_requireArgument m l0) (RF [] m0) := by
  unfold f_X11_requireArgument
  repeat' first
    | with_reducible exact pc_x0
    | with_reducible exact pc_xt (by assumption)
    | with_reducible exact pc_xr (by assumption)
    | with_reducible refine pc_nk fun _ => ?_
    | with_reducible refine pc_if ?_ ?_
    | with_reducible refine pc_ck ?_
    | with_reducible refine pc_cb ?_
    | with_reducible refine pc_dv ?_
    | with_reducible refine pc_let fun _ => ?_
    | with_reducible refine pc_letL fun _ => ?_
    | with_reducible refine pc_ldN fun _ => ?_
    | with_reducible refine pc_ldL fun _ => ?_
    | with_reducible refine pc_ldR fun _ => ?_
    | with_reducible refine pc_put (eqF.sN (by assumption) (by decide)) fun _ _ => ?_
    | with_reducible refine pc_put (eqF.sL (by assumption) (by decide)) fun _ _ => ?_
    | with_reducible refine pc_put (eqF.sR (by assumption) (by decide)) fun _ _ => ?_
    | with_reducible refine pc_stN (by decide) (by assumption) fun _ _ => ?_
    | with_reducible refine pc_stL (by decide) (by assumption) fun _ _ => ?_
    | with_reducible refine pc_stR (by decide) (by assumption) fun _ _ => ?_
    | with_reducible refine pc_cpN (by decide) (by assumption) fun _ _ => ?_
    | with_reducible refine pc_pure fun _ => ?_
    | exact pc_some (by assumption)
    | exact pc_some (eqF.bX (by assumption))
    | exact pc_some trivial
    | dsimp only
theorem fr_f_X11_requireIndex {m0 : MM} {m : MM} {l0 : Int} (h : eqF [] m0 m) : Pc (f_X11_requireIndex m l0) (RF [] m0) := by
  unfold f_X11_requireIndex
  repeat' first
    | with_reducible exact pc_x0
    | with_reducible exact pc_xt (by assumption)
    | with_reducible exact pc_xr (by assumption)
    | with_reducible refine pc_nk fun _ => ?_
    | with_reducible refine pc_if ?_ ?_
    | with_reducible refine pc_ck ?_
    | with_reducible refine pc_cb ?_
    | with_reducible refine pc_dv ?_
    | with_reducible refine pc_let fun _ => ?_
    | with_reducible refine pc_letL fun _ => ?_
    | with_reducible refine pc_ldN fun _ => ?_
    | with_reducible refine pc_ldL fun _ => ?_
    | with_reducible refine pc_ldR fun _ => ?_
    | with_reducible refine pc_put (eqF.sN (by assumption) (by decide)) fun _ _ => ?_
    | with_reducible refine pc_put (eqF.sL (by assumption) (by decide)) fun _ _ => ?_
    | with_reducible refine pc_put (eqF.sR (by assumption) (by decide)) fun _ _ => ?_
    | with_reducible refine pc_stN (by decide) (by assumption) fun _ _ => ?_
    | with_reducible refine pc_stL (by decide) (by assumption) fun _ _ => ?_
    | with_reducible refine pc_stR (by decide) (by assumption) fun _ _ => ?_
    | with_reducible refine pc_cpN (by decide) (by assumption) fun _ _ => ?_
    | with_reducible refine pc_pure fun _ => ?_
    | exact pc_some (by assumption)
    | exact pc_some (eqF.bX (by assumption))
    | exact pc_some trivial
    | dsimp only
theorem fr_j_X11_account_0_36 {m0 : MM} {m : MM} {l0 : Nat} {l2 : Int} {s0 : Int} (h : eqF [] m0 m) : Pc (j_X11_account_0_36 m l0 l2 s0) (RF [] m0) := by
  unfold j_X11_account_0_36
  repeat' first
    | with_reducible exact pc_x0
    | with_reducible exact pc_xt (by assumption)
    | with_reducible exact pc_xr (by assumption)
    | with_reducible refine pc_nk fun _ => ?_
    | with_reducible refine pc_if ?_ ?_
    | with_reducible refine pc_ck ?_
    | with_reducible refine pc_cb ?_
    | with_reducible refine pc_dv ?_
    | with_reducible refine pc_let fun _ => ?_
    | with_reducible refine pc_letL fun _ => ?_
    | with_reducible refine pc_ldN fun _ => ?_
    | with_reducible refine pc_ldL fun _ => ?_
    | with_reducible refine pc_ldR fun _ => ?_
    | with_reducible refine pc_put (eqF.sN (by assumption) (by decide)) fun _ _ => ?_
    | with_reducible refine pc_put (eqF.sL (by assumption) (by decide)) fun _ _ => ?_
    | with_reducible refine pc_put (eqF.sR (by assumption) (by decide)) fun _ _ => ?_
    | with_reducible refine pc_stN (by decide) (by assumption) fun _ _ => ?_
    | with_reducible refine pc_stL (by decide) (by assumption) fun _ _ => ?_
    | with_reducible refine pc_stR (by decide) (by assumption) fun _ _ => ?_
    | with_reducible refine pc_cpN (by decide) (by assumption) fun _ _ => ?_
    | with_reducible refine pc_bV (fr_f_X11_requireIndex (m0 := _) eqF.rf) (by decide) (by assumption) (fun _ _ => ?_) (fun _ _ _ => ?_)
    | with_reducible refine pc_pure fun _ => ?_
    | exact pc_some (by assumption)
    | exact pc_some (eqF.bX (by assumption))
    | exact pc_some trivial
    | dsimp only
theorem fr_j_X11_account_0_35 {m0 : MM} {m : MM} {l0 : Nat} {l2 : Int} (h : eqF [] m0 m) : Pc (j_X11_account_0_35 m l0 l2) (RF [] m0) := by
  unfold j_X11_account_0_35
  repeat' first
    | with_reducible exact pc_x0
    | with_reducible exact pc_xt (by assumption)
    | with_reducible exact pc_xr (by assumption)
    | with_reducible exact fr_j_X11_account_0_36 (by assumption)
    | with_reducible refine pc_nk fun _ => ?_
    | with_reducible refine pc_if ?_ ?_
    | with_reducible refine pc_ck ?_
    | with_reducible refine pc_cb ?_
    | with_reducible refine pc_dv ?_
    | with_reducible refine pc_let fun _ => ?_
    | with_reducible refine pc_letL fun _ => ?_
    | with_reducible refine pc_ldN fun _ => ?_
    | with_reducible refine pc_ldL fun _ => ?_
    | with_reducible refine pc_ldR fun _ => ?_
    | with_reducible refine pc_put (eqF.sN (by assumption) (by decide)) fun _ _ => ?_
    | with_reducible refine pc_put (eqF.sL (by assumption) (by decide)) fun _ _ => ?_
    | with_reducible refine pc_put (eqF.sR (by assumption) (by decide)) fun _ _ => ?_
    | with_reducible refine pc_stN (by decide) (by assumption) fun _ _ => ?_
    | with_reducible refine pc_stL (by decide) (by assumption) fun _ _ => ?_
    | with_reducible refine pc_stR (by decide) (by assumption) fun _ _ => ?_
    | with_reducible refine pc_cpN (by decide) (by assumption) fun _ _ => ?_
    | with_reducible refine pc_pure fun _ => ?_
    | exact pc_some (by assumption)
    | exact pc_some (eqF.bX (by assumption))
    | exact pc_some trivial
    | dsimp only
theorem fr_j_X11_account_0_14 {m0 : MM} {m : MM} {l0 : Nat} {l1 : Int} {l2 : Int} {s0 : Int} (h : eqF [] m0 m) : Pc (j_X11_account_0_14 m l0 l1 l2 s0) (RF [] m0) := by
  unfold j_X11_account_0_14
  repeat' first
    | with_reducible exact pc_x0
    | with_reducible exact pc_xt (by assumption)
    | with_reducible exact pc_xr (by assumption)
    | with_reducible exact fr_j_X11_account_0_35 (by assumption)
    | with_reducible exact fr_j_X11_account_0_36 (by assumption)
    | with_reducible refine pc_nk fun _ => ?_
    | with_reducible refine pc_if ?_ ?_
    | with_reducible refine pc_ck ?_
    | with_reducible refine pc_cb ?_
    | with_reducible refine pc_dv ?_
    | with_reducible refine pc_let fun _ => ?_
    | with_reducible refine pc_letL fun _ => ?_
    | with_reducible refine pc_ldN fun _ => ?_
    | with_reducible refine pc_ldL fun _ => ?_
    | with_reducible refine pc_ldR fun _ => ?_
    | with_reducible refine pc_put (eqF.sN (by assumption) (by decide)) fun _ _ => ?_
    | with_reducible refine pc_put (eqF.sL (by assumption) (by decide)) fun _ _ => ?_
    | with_reducible refine pc_put (eqF.sR (by assumption) (by decide)) fun _ _ => ?_
    | with_reducible refine pc_stN (by decide) (by assumption) fun _ _ => ?_
    | with_reducible refine pc_stL (by decide) (by assumption) fun _ _ => ?_
    | with_reducible refine pc_stR (by decide) (by assumption) fun _ _ => ?_
    | with_reducible refine pc_cpN (by decide) (by assumption) fun _ _ => ?_
    | with_reducible refine pc_bR (fr_f_X11_handAt (m0 := _) eqF.rf) (by decide) (by assumption) (fun _ _ _ => ?_) (fun _ _ _ => ?_)
    | with_reducible refine pc_bR (fr_f_X11_pressAt (m0 := _) eqF.rf) (by decide) (by assumption) (fun _ _ _ => ?_) (fun _ _ _ => ?_)
    | with_reducible refine pc_bV (fr_f_X11_requireArgument (m0 := _) eqF.rf) (by decide) (by assumption) (fun _ _ => ?_) (fun _ _ _ => ?_)
    | with_reducible refine pc_pure fun _ => ?_
    | exact pc_some (by assumption)
    | exact pc_some (eqF.bX (by assumption))
    | exact pc_some trivial
    | dsimp only
theorem fr_j_X11_account_0_13 {m0 : MM} {m : MM} {l0 : Nat} {l1 : Int} {l2 : Int} (h : eqF [] m0 m) : Pc (j_X11_account_0_13 m l0 l1 l2) (RF [] m0) := by
  unfold j_X11_account_0_13
  repeat' first
    | with_reducible exact pc_x0
    | with_reducible exact pc_xt (by assumption)
    | with_reducible exact pc_xr (by assumption)
    | with_reducible exact fr_j_X11_account_0_14 (by assumption)
    | with_reducible refine pc_nk fun _ => ?_
    | with_reducible refine pc_if ?_ ?_
    | with_reducible refine pc_ck ?_
    | with_reducible refine pc_cb ?_
    | with_reducible refine pc_dv ?_
    | with_reducible refine pc_let fun _ => ?_
    | with_reducible refine pc_letL fun _ => ?_
    | with_reducible refine pc_ldN fun _ => ?_
    | with_reducible refine pc_ldL fun _ => ?_
    | with_reducible refine pc_ldR fun _ => ?_
    | with_reducible refine pc_put (eqF.sN (by assumption) (by decide)) fun _ _ => ?_
    | with_reducible refine pc_put (eqF.sL (by assumption) (by decide)) fun _ _ => ?_
    | with_reducible refine pc_put (eqF.sR (by assumption) (by decide)) fun _ _ => ?_
    | with_reducible refine pc_stN (by decide) (by assumption) fun _ _ => ?_
    | with_reducible refine pc_stL (by decide) (by assumption) fun _ _ => ?_
    | with_reducible refine pc_stR (by decide) (by assumption) fun _ _ => ?_
    | with_reducible refine pc_cpN (by decide) (by assumption) fun _ _ => ?_
    | with_reducible refine pc_pure fun _ => ?_
    | exact pc_some (by assumption)
    | exact pc_some (eqF.bX (by assumption))
    | exact pc_some trivial
    | dsimp only
theorem fr_f_X11_account {m0 : MM} {m : MM} {l0 : Nat} {l1 : Int} {l2 : Int} (h : eqF [] m0 m) : Pc (f_X11_account m l0 l1 l2) (RF [] m0) := by
  unfold f_X11_account
  repeat' first
    | with_reducible exact pc_x0
    | with_reducible exact pc_xt (by assumption)
    | with_reducible exact pc_xr (by assumption)
    | with_reducible exact fr_j_X11_account_0_13 (by assumption)
    | with_reducible exact fr_j_X11_account_0_14 (by assumption)
    | with_reducible refine pc_nk fun _ => ?_
    | with_reducible refine pc_if ?_ ?_
    | with_reducible refine pc_ck ?_
    | with_reducible refine pc_cb ?_
    | with_reducible refine pc_dv ?_
    | with_reducible refine pc_let fun _ => ?_
    | with_reducible refine pc_letL fun _ => ?_
    | with_reducible refine pc_ldN fun _ => ?_
    | with_reducible refine pc_ldL fun _ => ?_
    | with_reducible refine pc_ldR fun _ => ?_
    | with_reducible refine pc_put (eqF.sN (by assumption) (by decide)) fun _ _ => ?_
    | with_reducible refine pc_put (eqF.sL (by assumption) (by decide)) fun _ _ => ?_
    | with_reducible refine pc_put (eqF.sR (by assumption) (by decide)) fun _ _ => ?_
    | with_reducible refine pc_stN (by decide) (by assumption) fun _ _ => ?_
    | with_reducible refine pc_stL (by decide) (by assumption) fun _ _ => ?_
    | with_reducible refine pc_stR (by decide) (by assumption) fun _ _ => ?_
    | with_reducible refine pc_cpN (by decide) (by assumption) fun _ _ => ?_
    | with_reducible refine pc_pure fun _ => ?_
    | exact pc_some (by assumption)
    | exact pc_some (eqF.bX (by assumption))
    | exact pc_some trivial
    | dsimp only
theorem fr_j_X11_bookAt_0_23 {m0 : MM} {m : MM} {s0 : Option (Nat × Nat)} (h : eqF [] m0 m) : Pc (j_X11_bookAt_0_23 m s0) (RF [] m0) := by
  unfold j_X11_bookAt_0_23
  repeat' first
    | with_reducible exact pc_x0
    | with_reducible exact pc_xt (by assumption)
    | with_reducible exact pc_xr (by assumption)
    | with_reducible refine pc_nk fun _ => ?_
    | with_reducible refine pc_if ?_ ?_
    | with_reducible refine pc_ck ?_
    | with_reducible refine pc_cb ?_
    | with_reducible refine pc_dv ?_
    | with_reducible refine pc_let fun _ => ?_
    | with_reducible refine pc_letL fun _ => ?_
    | with_reducible refine pc_ldN fun _ => ?_
    | with_reducible refine pc_ldL fun _ => ?_
    | with_reducible refine pc_ldR fun _ => ?_
    | with_reducible refine pc_put (eqF.sN (by assumption) (by decide)) fun _ _ => ?_
    | with_reducible refine pc_put (eqF.sL (by assumption) (by decide)) fun _ _ => ?_
    | with_reducible refine pc_put (eqF.sR (by assumption) (by decide)) fun _ _ => ?_
    | with_reducible refine pc_stN (by decide) (by assumption) fun _ _ => ?_
    | with_reducible refine pc_stL (by decide) (by assumption) fun _ _ => ?_
    | with_reducible refine pc_stR (by decide) (by assumption) fun _ _ => ?_
    | with_reducible refine pc_cpN (by decide) (by assumption) fun _ _ => ?_
    | with_reducible refine pc_pure fun _ => ?_
    | exact pc_some (by assumption)
    | exact pc_some (eqF.bX (by assumption))
    | exact pc_some trivial
    | dsimp only
theorem fr_j_X11_bookAt_0_22 {m0 : MM} {m : MM} (h : eqF [] m0 m) : Pc (j_X11_bookAt_0_22 m) (RF [] m0) := by
  unfold j_X11_bookAt_0_22
  repeat' first
    | with_reducible exact pc_x0
    | with_reducible exact pc_xt (by assumption)
    | with_reducible exact pc_xr (by assumption)
    | with_reducible exact fr_j_X11_bookAt_0_23 (by assumption)
    | with_reducible refine pc_nk fun _ => ?_
    | with_reducible refine pc_if ?_ ?_
    | with_reducible refine pc_ck ?_
    | with_reducible refine pc_cb ?_
    | with_reducible refine pc_dv ?_
    | with_reducible refine pc_let fun _ => ?_
    | with_reducible refine pc_letL fun _ => ?_
    | with_reducible refine pc_ldN fun _ => ?_
    | with_reducible refine pc_ldL fun _ => ?_
    | with_reducible refine pc_ldR fun _ => ?_
    | with_reducible refine pc_put (eqF.sN (by assumption) (by decide)) fun _ _ => ?_
    | with_reducible refine pc_put (eqF.sL (by assumption) (by decide)) fun _ _ => ?_
    | with_reducible refine pc_put (eqF.sR (by assumption) (by decide)) fun _ _ => ?_
    | with_reducible refine pc_stN (by decide) (by assumption) fun _ _ => ?_
    | with_reducible refine pc_stL (by decide) (by assumption) fun _ _ => ?_
    | with_reducible refine pc_stR (by decide) (by assumption) fun _ _ => ?_
    | with_reducible refine pc_cpN (by decide) (by assumption) fun _ _ => ?_
    | with_reducible refine pc_pure fun _ => ?_
    | exact pc_some (by assumption)
    | exact pc_some (eqF.bX (by assumption))
    | exact pc_some trivial
    | dsimp only
theorem fr_f_X11_bookAt {m0 : MM} {m : MM} {l0 : Nat} {l1 : Int} (h : eqF [] m0 m) : Pc (f_X11_bookAt m l0 l1) (RF [] m0) := by
  unfold f_X11_bookAt
  repeat' first
    | with_reducible exact pc_x0
    | with_reducible exact pc_xt (by assumption)
    | with_reducible exact pc_xr (by assumption)
    | with_reducible exact fr_j_X11_bookAt_0_22 (by assumption)
    | with_reducible exact fr_j_X11_bookAt_0_23 (by assumption)
    | with_reducible refine pc_nk fun _ => ?_
    | with_reducible refine pc_if ?_ ?_
    | with_reducible refine pc_ck ?_
    | with_reducible refine pc_cb ?_
    | with_reducible refine pc_dv ?_
    | with_reducible refine pc_let fun _ => ?_
    | with_reducible refine pc_letL fun _ => ?_
    | with_reducible refine pc_ldN fun _ => ?_
    | with_reducible refine pc_ldL fun _ => ?_
    | with_reducible refine pc_ldR fun _ => ?_
    | with_reducible refine pc_put (eqF.sN (by assumption) (by decide)) fun _ _ => ?_
    | with_reducible refine pc_put (eqF.sL (by assumption) (by decide)) fun _ _ => ?_
    | with_reducible refine pc_put (eqF.sR (by assumption) (by decide)) fun _ _ => ?_
    | with_reducible refine pc_stN (by decide) (by assumption) fun _ _ => ?_
    | with_reducible refine pc_stL (by decide) (by assumption) fun _ _ => ?_
    | with_reducible refine pc_stR (by decide) (by assumption) fun _ _ => ?_
    | with_reducible refine pc_cpN (by decide) (by assumption) fun _ _ => ?_
    | with_reducible refine pc_pure fun _ => ?_
    | exact pc_some (by assumption)
    | exact pc_some (eqF.bX (by assumption))
    | exact pc_some trivial
    | dsimp only
theorem fr_b_X7_readPiece_27 {m0 : MM} {l0 : Nat} {l1 : Nat} {l2 : Int} {l3 : Int} {l4 : Int} {l5 : Int} {mm : MM} (h : eqF [39] m0 mm) : Pc (b_X7_readPiece_27 l0 l1 l2 l3 l4 l5 mm) (fun z => Sum.elim (fun s => eqF [39] m0 s.2) (fun z => eqF [39] m0 z) z) := by
  unfold b_X7_readPiece_27
  repeat' first
    | with_reducible exact pc_x0
    | with_reducible exact pc_xt (by assumption)
    | with_reducible exact pc_xr (by assumption)
    | with_reducible refine pc_nk fun _ => ?_
    | with_reducible refine pc_if ?_ ?_
    | with_reducible refine pc_ck ?_
    | with_reducible refine pc_cb ?_
    | with_reducible refine pc_dv ?_
    | with_reducible refine pc_let fun _ => ?_
    | with_reducible refine pc_letL fun _ => ?_
    | with_reducible refine pc_ldN fun _ => ?_
    | with_reducible refine pc_ldL fun _ => ?_
    | with_reducible refine pc_ldR fun _ => ?_
    | with_reducible refine pc_put (eqF.sN (by assumption) (by decide)) fun _ _ => ?_
    | with_reducible refine pc_put (eqF.sL (by assumption) (by decide)) fun _ _ => ?_
    | with_reducible refine pc_put (eqF.sR (by assumption) (by decide)) fun _ _ => ?_
    | with_reducible refine pc_stN (by decide) (by assumption) fun _ _ => ?_
    | with_reducible refine pc_stL (by decide) (by assumption) fun _ _ => ?_
    | with_reducible refine pc_stR (by decide) (by assumption) fun _ _ => ?_
    | with_reducible refine pc_cpN (by decide) (by assumption) fun _ _ => ?_
    | with_reducible refine pc_pure fun _ => ?_
    | exact pc_some (by assumption)
    | exact pc_some (eqF.bX (by assumption))
    | exact pc_some trivial
    | dsimp only
theorem fr_j_X7_readPiece_2_82 {m0 : MM} {m : MM} {l0 : Nat} {l1 : Nat} {l2 : Int} {l3 : Int} (h : eqF [39] m0 m) : Pc (j_X7_readPiece_2_82 m l0 l1 l2 l3) (fun z => Sum.elim (fun s => eqF [39] m0 s.2) (fun z => eqF [39] m0 z) z) := by
  unfold j_X7_readPiece_2_82
  repeat' first
    | with_reducible exact pc_x0
    | with_reducible exact pc_xt (by assumption)
    | with_reducible exact pc_xr (by assumption)
    | with_reducible refine pc_nk fun _ => ?_
    | with_reducible refine pc_if ?_ ?_
    | with_reducible refine pc_ck ?_
    | with_reducible refine pc_cb ?_
    | with_reducible refine pc_dv ?_
    | with_reducible refine pc_let fun _ => ?_
    | with_reducible refine pc_letL fun _ => ?_
    | with_reducible refine pc_ldN fun _ => ?_
    | with_reducible refine pc_ldL fun _ => ?_
    | with_reducible refine pc_ldR fun _ => ?_
    | with_reducible refine pc_put (eqF.sN (by assumption) (by decide)) fun _ _ => ?_
    | with_reducible refine pc_put (eqF.sL (by assumption) (by decide)) fun _ _ => ?_
    | with_reducible refine pc_put (eqF.sR (by assumption) (by decide)) fun _ _ => ?_
    | with_reducible refine pc_stN (by decide) (by assumption) fun _ _ => ?_
    | with_reducible refine pc_stL (by decide) (by assumption) fun _ _ => ?_
    | with_reducible refine pc_stR (by decide) (by assumption) fun _ _ => ?_
    | with_reducible refine pc_cpN (by decide) (by assumption) fun _ _ => ?_
    | with_reducible refine pc_pure fun _ => ?_
    | exact pc_some (by assumption)
    | exact pc_some (eqF.bX (by assumption))
    | exact pc_some trivial
    | dsimp only
theorem fr_b_X7_readPiece_2 {m0 : MM} {l0 : Nat} {l1 : Nat} {l2 : Int} {l3 : Int} {mm : MM} (h : eqF [39] m0 mm) : Pc (b_X7_readPiece_2 l0 l1 l2 l3 mm) (fun z => Sum.elim (fun s => eqF [39] m0 s.2) (fun z => eqF [39] m0 z) z) := by
  unfold b_X7_readPiece_2
  repeat' first
    | with_reducible exact pc_x0
    | with_reducible exact pc_xt (by assumption)
    | with_reducible exact pc_xr (by assumption)
    | with_reducible exact fr_j_X7_readPiece_2_82 (by assumption)
    | with_reducible refine pc_nk fun _ => ?_
    | with_reducible refine pc_if ?_ ?_
    | with_reducible refine pc_ck ?_
    | with_reducible refine pc_cb ?_
    | with_reducible refine pc_dv ?_
    | with_reducible refine pc_let fun _ => ?_
    | with_reducible refine pc_letL fun _ => ?_
    | with_reducible refine pc_ldN fun _ => ?_
    | with_reducible refine pc_ldL fun _ => ?_
    | with_reducible refine pc_ldR fun _ => ?_
    | with_reducible refine pc_put (eqF.sN (by assumption) (by decide)) fun _ _ => ?_
    | with_reducible refine pc_put (eqF.sL (by assumption) (by decide)) fun _ _ => ?_
    | with_reducible refine pc_put (eqF.sR (by assumption) (by decide)) fun _ _ => ?_
    | with_reducible refine pc_stN (by decide) (by assumption) fun _ _ => ?_
    | with_reducible refine pc_stL (by decide) (by assumption) fun _ _ => ?_
    | with_reducible refine pc_stR (by decide) (by assumption) fun _ _ => ?_
    | with_reducible refine pc_cpN (by decide) (by assumption) fun _ _ => ?_
    | with_reducible refine pc_lp (fun s => eqF [39] m0 s.2) (fun z => eqF [39] m0 z) (by assumption) (fun s hs => fr_b_X7_readPiece_27 hs) (fun z hz => ?_)
    | with_reducible refine pc_pure fun _ => ?_
    | exact pc_some (by assumption)
    | exact pc_some (eqF.bX (by assumption))
    | exact pc_some trivial
    | dsimp only
theorem fr_j_X7_readPiece_0_88 {m0 : MM} {m : MM} (h : eqF [39] m0 m) : Pc (j_X7_readPiece_0_88 m) (RF [39] m0) := by
  unfold j_X7_readPiece_0_88
  repeat' first
    | with_reducible exact pc_x0
    | with_reducible exact pc_xt (by assumption)
    | with_reducible exact pc_xr (by assumption)
    | with_reducible refine pc_nk fun _ => ?_
    | with_reducible refine pc_if ?_ ?_
    | with_reducible refine pc_ck ?_
    | with_reducible refine pc_cb ?_
    | with_reducible refine pc_dv ?_
    | with_reducible refine pc_let fun _ => ?_
    | with_reducible refine pc_letL fun _ => ?_
    | with_reducible refine pc_ldN fun _ => ?_
    | with_reducible refine pc_ldL fun _ => ?_
    | with_reducible refine pc_ldR fun _ => ?_
    | with_reducible refine pc_put (eqF.sN (by assumption) (by decide)) fun _ _ => ?_
    | with_reducible refine pc_put (eqF.sL (by assumption) (by decide)) fun _ _ => ?_
    | with_reducible refine pc_put (eqF.sR (by assumption) (by decide)) fun _ _ => ?_
    | with_reducible refine pc_stN (by decide) (by assumption) fun _ _ => ?_
    | with_reducible refine pc_stL (by decide) (by assumption) fun _ _ => ?_
    | with_reducible refine pc_stR (by decide) (by assumption) fun _ _ => ?_
    | with_reducible refine pc_cpN (by decide) (by assumption) fun _ _ => ?_
    | with_reducible refine pc_pure fun _ => ?_
    | exact pc_some (by assumption)
    | exact pc_some (eqF.bX (by assumption))
    | exact pc_some trivial
    | dsimp only
theorem fr_f_X7_readPiece {m0 : MM} {m : MM} {l0 : Nat} {l1 : Nat} {l2 : Int} (h : eqF [39] m0 m) : Pc (f_X7_readPiece m l0 l1 l2) (RF [39] m0) := by
  unfold f_X7_readPiece
  repeat' first
    | with_reducible exact pc_x0
    | with_reducible exact pc_xt (by assumption)
    | with_reducible exact pc_xr (by assumption)
    | with_reducible exact fr_j_X7_readPiece_0_88 (by assumption)
    | with_reducible refine pc_nk fun _ => ?_
    | with_reducible refine pc_if ?_ ?_
    | with_reducible refine pc_ck ?_
    | with_reducible refine pc_cb ?_
    | with_reducible refine pc_dv ?_
    | with_reducible refine pc_let fun _ => ?_
    | with_reducible refine pc_letL fun _ => ?_
    | with_reducible refine pc_ldN fun _ => ?_
    | with_reducible refine pc_ldL fun _ => ?_
    | with_reducible refine pc_ldR fun _ => ?_
    | with_reducible refine pc_put (eqF.sN (by assumption) (by decide)) fun _ _ => ?_
    | with_reducible refine pc_put (eqF.sL (by assumption) (by decide)) fun _ _ => ?_
    | with_reducible refine pc_put (eqF.sR (by assumption) (by decide)) fun _ _ => ?_
    | with_reducible refine pc_stN (by decide) (by assumption) fun _ _ => ?_
    | with_reducible refine pc_stL (by decide) (by assumption) fun _ _ => ?_
    | with_reducible refine pc_stR (by decide) (by assumption) fun _ _ => ?_
    | with_reducible refine pc_cpN (by decide) (by assumption) fun _ _ => ?_
    | with_reducible refine pc_lp (fun s => eqF [39] m0 s.2) (fun z => eqF [39] m0 z) (by assumption) (fun s hs => fr_b_X7_readPiece_2 hs) (fun z hz => ?_)
    | with_reducible refine pc_pure fun _ => ?_
    | exact pc_some (by assumption)
    | exact pc_some (eqF.bX (by assumption))
    | exact pc_some trivial
    | dsimp only
theorem fr_b_X7_readFormes_2 {m0 : MM} {l0 : Nat} {l1 : Nat} {l2 : Nat} {l3 : Int} {mm : MM} (h : eqF [39] m0 mm) : Pc (b_X7_readFormes_2 l0 l1 l2 l3 mm) (fun z => Sum.elim (fun s => eqF [39] m0 s.2) (fun z => eqF [39] m0 z) z) := by
  unfold b_X7_readFormes_2
  repeat' first
    | with_reducible exact pc_x0
    | with_reducible exact pc_xt (by assumption)
    | with_reducible exact pc_xr (by assumption)
    | with_reducible refine pc_nk fun _ => ?_
    | with_reducible refine pc_if ?_ ?_
    | with_reducible refine pc_ck ?_
    | with_reducible refine pc_cb ?_
    | with_reducible refine pc_dv ?_
    | with_reducible refine pc_let fun _ => ?_
    | with_reducible refine pc_letL fun _ => ?_
    | with_reducible refine pc_ldN fun _ => ?_
    | with_reducible refine pc_ldL fun _ => ?_
    | with_reducible refine pc_ldR fun _ => ?_
    | with_reducible refine pc_put (eqF.sN (by assumption) (by decide)) fun _ _ => ?_
    | with_reducible refine pc_put (eqF.sL (by assumption) (by decide)) fun _ _ => ?_
    | with_reducible refine pc_put (eqF.sR (by assumption) (by decide)) fun _ _ => ?_
    | with_reducible refine pc_stN (by decide) (by assumption) fun _ _ => ?_
    | with_reducible refine pc_stL (by decide) (by assumption) fun _ _ => ?_
    | with_reducible refine pc_stR (by decide) (by assumption) fun _ _ => ?_
    | with_reducible refine pc_cpN (by decide) (by assumption) fun _ _ => ?_
    | with_reducible refine pc_pure fun _ => ?_
    | exact pc_some (by assumption)
    | exact pc_some (eqF.bX (by assumption))
    | exact pc_some trivial
    | dsimp only
theorem fr_b_X7_readFormes_26 {m0 : MM} {l0 : Nat} {l1 : Nat} {l2 : Nat} {l3 : Int} {mm : MM} (h : eqF [39] m0 mm) : Pc (b_X7_readFormes_26 l0 l1 l2 l3 mm) (fun z => Sum.elim (fun s => eqF [39] m0 s.2) (fun z => eqF [39] m0 z) z) := by
  unfold b_X7_readFormes_26
  repeat' first
    | with_reducible exact pc_x0
    | with_reducible exact pc_xt (by assumption)
    | with_reducible exact pc_xr (by assumption)
    | with_reducible refine pc_nk fun _ => ?_
    | with_reducible refine pc_if ?_ ?_
    | with_reducible refine pc_ck ?_
    | with_reducible refine pc_cb ?_
    | with_reducible refine pc_dv ?_
    | with_reducible refine pc_let fun _ => ?_
    | with_reducible refine pc_letL fun _ => ?_
    | with_reducible refine pc_ldN fun _ => ?_
    | with_reducible refine pc_ldL fun _ => ?_
    | with_reducible refine pc_ldR fun _ => ?_
    | with_reducible refine pc_put (eqF.sN (by assumption) (by decide)) fun _ _ => ?_
    | with_reducible refine pc_put (eqF.sL (by assumption) (by decide)) fun _ _ => ?_
    | with_reducible refine pc_put (eqF.sR (by assumption) (by decide)) fun _ _ => ?_
    | with_reducible refine pc_stN (by decide) (by assumption) fun _ _ => ?_
    | with_reducible refine pc_stL (by decide) (by assumption) fun _ _ => ?_
    | with_reducible refine pc_stR (by decide) (by assumption) fun _ _ => ?_
    | with_reducible refine pc_cpN (by decide) (by assumption) fun _ _ => ?_
    | with_reducible refine pc_bV (fr_f_X7_readPiece (m0 := _) eqF.rf) (by decide) (by assumption) (fun _ _ => ?_) (fun _ _ _ => ?_)
    | with_reducible refine pc_pure fun _ => ?_
    | exact pc_some (by assumption)
    | exact pc_some (eqF.bX (by assumption))
    | exact pc_some trivial
    | dsimp only
theorem fr_j_X7_readFormes_0_55 {m0 : MM} {m : MM} (h : eqF [39] m0 m) : Pc (j_X7_readFormes_0_55 m) (RF [39] m0) := by
  unfold j_X7_readFormes_0_55
  repeat' first
    | with_reducible exact pc_x0
    | with_reducible exact pc_xt (by assumption)
    | with_reducible exact pc_xr (by assumption)
    | with_reducible refine pc_nk fun _ => ?_
    | with_reducible refine pc_if ?_ ?_
    | with_reducible refine pc_ck ?_
    | with_reducible refine pc_cb ?_
    | with_reducible refine pc_dv ?_
    | with_reducible refine pc_let fun _ => ?_
    | with_reducible refine pc_letL fun _ => ?_
    | with_reducible refine pc_ldN fun _ => ?_
    | with_reducible refine pc_ldL fun _ => ?_
    | with_reducible refine pc_ldR fun _ => ?_
    | with_reducible refine pc_put (eqF.sN (by assumption) (by decide)) fun _ _ => ?_
    | with_reducible refine pc_put (eqF.sL (by assumption) (by decide)) fun _ _ => ?_
    | with_reducible refine pc_put (eqF.sR (by assumption) (by decide)) fun _ _ => ?_
    | with_reducible refine pc_stN (by decide) (by assumption) fun _ _ => ?_
    | with_reducible refine pc_stL (by decide) (by assumption) fun _ _ => ?_
    | with_reducible refine pc_stR (by decide) (by assumption) fun _ _ => ?_
    | with_reducible refine pc_cpN (by decide) (by assumption) fun _ _ => ?_
    | with_reducible refine pc_pure fun _ => ?_
    | exact pc_some (by assumption)
    | exact pc_some (eqF.bX (by assumption))
    | exact pc_some trivial
    | dsimp only
theorem fr_j_X7_readFormes_0_24 {m0 : MM} {m : MM} {l0 : Nat} {l1 : Nat} {l2 : Nat} (h : eqF [39] m0 m) : Pc (j_X7_readFormes_0_24 m l0 l1 l2) (RF [39] m0) := by
  unfold j_X7_readFormes_0_24
  repeat' first
    | with_reducible exact pc_x0
    | with_reducible exact pc_xt (by assumption)
    | with_reducible exact pc_xr (by assumption)
    | with_reducible exact fr_j_X7_readFormes_0_55 (by assumption)
    | with_reducible refine pc_nk fun _ => ?_
    | with_reducible refine pc_if ?_ ?_
    | with_reducible refine pc_ck ?_
    | with_reducible refine pc_cb ?_
    | with_reducible refine pc_dv ?_
    | with_reducible refine pc_let fun _ => ?_
    | with_reducible refine pc_letL fun _ => ?_
    | with_reducible refine pc_ldN fun _ => ?_
    | with_reducible refine pc_ldL fun _ => ?_
    | with_reducible refine pc_ldR fun _ => ?_
    | with_reducible refine pc_put (eqF.sN (by assumption) (by decide)) fun _ _ => ?_
    | with_reducible refine pc_put (eqF.sL (by assumption) (by decide)) fun _ _ => ?_
    | with_reducible refine pc_put (eqF.sR (by assumption) (by decide)) fun _ _ => ?_
    | with_reducible refine pc_stN (by decide) (by assumption) fun _ _ => ?_
    | with_reducible refine pc_stL (by decide) (by assumption) fun _ _ => ?_
    | with_reducible refine pc_stR (by decide) (by assumption) fun _ _ => ?_
    | with_reducible refine pc_cpN (by decide) (by assumption) fun _ _ => ?_
    | with_reducible refine pc_lp (fun s => eqF [39] m0 s.2) (fun z => eqF [39] m0 z) (by assumption) (fun s hs => fr_b_X7_readFormes_26 hs) (fun z hz => ?_)
    | with_reducible refine pc_pure fun _ => ?_
    | exact pc_some (by assumption)
    | exact pc_some (eqF.bX (by assumption))
    | exact pc_some trivial
    | dsimp only
theorem fr_f_X7_readFormes {m0 : MM} {m : MM} {l0 : Nat} {l1 : Nat} {l2 : Nat} (h : eqF [39] m0 m) : Pc (f_X7_readFormes m l0 l1 l2) (RF [39] m0) := by
  unfold f_X7_readFormes
  repeat' first
    | with_reducible exact pc_x0
    | with_reducible exact pc_xt (by assumption)
    | with_reducible exact pc_xr (by assumption)
    | with_reducible exact fr_j_X7_readFormes_0_24 (by assumption)
    | with_reducible refine pc_nk fun _ => ?_
    | with_reducible refine pc_if ?_ ?_
    | with_reducible refine pc_ck ?_
    | with_reducible refine pc_cb ?_
    | with_reducible refine pc_dv ?_
    | with_reducible refine pc_let fun _ => ?_
    | with_reducible refine pc_letL fun _ => ?_
    | with_reducible refine pc_ldN fun _ => ?_
    | with_reducible refine pc_ldL fun _ => ?_
    | with_reducible refine pc_ldR fun _ => ?_
    | with_reducible refine pc_put (eqF.sN (by assumption) (by decide)) fun _ _ => ?_
    | with_reducible refine pc_put (eqF.sL (by assumption) (by decide)) fun _ _ => ?_
    | with_reducible refine pc_put (eqF.sR (by assumption) (by decide)) fun _ _ => ?_
    | with_reducible refine pc_stN (by decide) (by assumption) fun _ _ => ?_
    | with_reducible refine pc_stL (by decide) (by assumption) fun _ _ => ?_
    | with_reducible refine pc_stR (by decide) (by assumption) fun _ _ => ?_
    | with_reducible refine pc_cpN (by decide) (by assumption) fun _ _ => ?_
    | with_reducible refine pc_lp (fun s => eqF [39] m0 s.2) (fun z => eqF [39] m0 z) (by assumption) (fun s hs => fr_b_X7_readFormes_2 hs) (fun z hz => ?_)
    | with_reducible refine pc_pure fun _ => ?_
    | exact pc_some (by assumption)
    | exact pc_some (eqF.bX (by assumption))
    | exact pc_some trivial
    | dsimp only
theorem fr_j_X11_ahead_0_43 {m0 : MM} {m : MM} {l0 : Nat} {l2 : Int} {l3 : Int} {l4 : Nat} {s0 : Int} (h : eqF [39] m0 m) : Pc (j_X11_ahead_0_43 m l0 l2 l3 l4 s0) (RF [39] m0) := by
  unfold j_X11_ahead_0_43
  repeat' first
    | with_reducible exact pc_x0
    | with_reducible exact pc_xt (by assumption)
    | with_reducible exact pc_xr (by assumption)
    | with_reducible refine pc_nk fun _ => ?_
    | with_reducible refine pc_if ?_ ?_
    | with_reducible refine pc_ck ?_
    | with_reducible refine pc_cb ?_
    | with_reducible refine pc_dv ?_
    | with_reducible refine pc_let fun _ => ?_
    | with_reducible refine pc_letL fun _ => ?_
    | with_reducible refine pc_ldN fun _ => ?_
    | with_reducible refine pc_ldL fun _ => ?_
    | with_reducible refine pc_ldR fun _ => ?_
    | with_reducible refine pc_put (eqF.sN (by assumption) (by decide)) fun _ _ => ?_
    | with_reducible refine pc_put (eqF.sL (by assumption) (by decide)) fun _ _ => ?_
    | with_reducible refine pc_put (eqF.sR (by assumption) (by decide)) fun _ _ => ?_
    | with_reducible refine pc_stN (by decide) (by assumption) fun _ _ => ?_
    | with_reducible refine pc_stL (by decide) (by assumption) fun _ _ => ?_
    | with_reducible refine pc_stR (by decide) (by assumption) fun _ _ => ?_
    | with_reducible refine pc_cpN (by decide) (by assumption) fun _ _ => ?_
    | with_reducible refine pc_bV (fr_f_X11_requireArgument (m0 := _) eqF.rf) (by decide) (by assumption) (fun _ _ => ?_) (fun _ _ _ => ?_)
    | with_reducible refine pc_bV (fr_f_X7_readFormes (m0 := _) eqF.rf) (by decide) (by assumption) (fun _ _ => ?_) (fun _ _ _ => ?_)
    | with_reducible refine pc_pure fun _ => ?_
    | exact pc_some (by assumption)
    | exact pc_some (eqF.bX (by assumption))
    | exact pc_some trivial
    | dsimp only
theorem fr_j_X11_ahead_0_30 {m0 : MM} {m : MM} {l0 : Nat} {l2 : Int} {l3 : Int} {l4 : Nat} {s0 : Int} (h : eqF [39] m0 m) : Pc (j_X11_ahead_0_30 m l0 l2 l3 l4 s0) (RF [39] m0) := by
  unfold j_X11_ahead_0_30
  repeat' first
    | with_reducible exact pc_x0
    | with_reducible exact pc_xt (by assumption)
    | with_reducible exact pc_xr (by assumption)
    | with_reducible exact fr_j_X11_ahead_0_43 (by assumption)
    | with_reducible refine pc_nk fun _ => ?_
    | with_reducible refine pc_if ?_ ?_
    | with_reducible refine pc_ck ?_
    | with_reducible refine pc_cb ?_
    | with_reducible refine pc_dv ?_
    | with_reducible refine pc_let fun _ => ?_
    | with_reducible refine pc_letL fun _ => ?_
    | with_reducible refine pc_ldN fun _ => ?_
    | with_reducible refine pc_ldL fun _ => ?_
    | with_reducible refine pc_ldR fun _ => ?_
    | with_reducible refine pc_put (eqF.sN (by assumption) (by decide)) fun _ _ => ?_
    | with_reducible refine pc_put (eqF.sL (by assumption) (by decide)) fun _ _ => ?_
    | with_reducible refine pc_put (eqF.sR (by assumption) (by decide)) fun _ _ => ?_
    | with_reducible refine pc_stN (by decide) (by assumption) fun _ _ => ?_
    | with_reducible refine pc_stL (by decide) (by assumption) fun _ _ => ?_
    | with_reducible refine pc_stR (by decide) (by assumption) fun _ _ => ?_
    | with_reducible refine pc_cpN (by decide) (by assumption) fun _ _ => ?_
    | with_reducible refine pc_bV (fr_f_X11_requireIndex (m0 := _) eqF.rf) (by decide) (by assumption) (fun _ _ => ?_) (fun _ _ _ => ?_)
    | with_reducible refine pc_pure fun _ => ?_
    | exact pc_some (by assumption)
    | exact pc_some (eqF.bX (by assumption))
    | exact pc_some trivial
    | dsimp only
theorem fr_j_X11_ahead_0_29 {m0 : MM} {m : MM} {l0 : Nat} {l2 : Int} {l3 : Int} {l4 : Nat} (h : eqF [39] m0 m) : Pc (j_X11_ahead_0_29 m l0 l2 l3 l4) (RF [39] m0) := by
  unfold j_X11_ahead_0_29
  repeat' first
    | with_reducible exact pc_x0
    | with_reducible exact pc_xt (by assumption)
    | with_reducible exact pc_xr (by assumption)
    | with_reducible exact fr_j_X11_ahead_0_30 (by assumption)
    | with_reducible refine pc_nk fun _ => ?_
    | with_reducible refine pc_if ?_ ?_
    | with_reducible refine pc_ck ?_
    | with_reducible refine pc_cb ?_
    | with_reducible refine pc_dv ?_
    | with_reducible refine pc_let fun _ => ?_
    | with_reducible refine pc_letL fun _ => ?_
    | with_reducible refine pc_ldN fun _ => ?_
    | with_reducible refine pc_ldL fun _ => ?_
    | with_reducible refine pc_ldR fun _ => ?_
    | with_reducible refine pc_put (eqF.sN (by assumption) (by decide)) fun _ _ => ?_
    | with_reducible refine pc_put (eqF.sL (by assumption) (by decide)) fun _ _ => ?_
    | with_reducible refine pc_put (eqF.sR (by assumption) (by decide)) fun _ _ => ?_
    | with_reducible refine pc_stN (by decide) (by assumption) fun _ _ => ?_
    | with_reducible refine pc_stL (by decide) (by assumption) fun _ _ => ?_
    | with_reducible refine pc_stR (by decide) (by assumption) fun _ _ => ?_
    | with_reducible refine pc_cpN (by decide) (by assumption) fun _ _ => ?_
    | with_reducible refine pc_pure fun _ => ?_
    | exact pc_some (by assumption)
    | exact pc_some (eqF.bX (by assumption))
    | exact pc_some trivial
    | dsimp only
theorem fr_f_X11_ahead {m0 : MM} {m : MM} {l0 : Nat} {l1 : Int} {l2 : Int} {l3 : Int} (h : eqF [39] m0 m) : Pc (f_X11_ahead m l0 l1 l2 l3) (RF [39] m0) := by
  unfold f_X11_ahead
  repeat' first
    | with_reducible exact pc_x0
    | with_reducible exact pc_xt (by assumption)
    | with_reducible exact pc_xr (by assumption)
    | with_reducible exact fr_j_X11_ahead_0_29 (by assumption)
    | with_reducible exact fr_j_X11_ahead_0_30 (by assumption)
    | with_reducible refine pc_nk fun _ => ?_
    | with_reducible refine pc_if ?_ ?_
    | with_reducible refine pc_ck ?_
    | with_reducible refine pc_cb ?_
    | with_reducible refine pc_dv ?_
    | with_reducible refine pc_let fun _ => ?_
    | with_reducible refine pc_letL fun _ => ?_
    | with_reducible refine pc_ldN fun _ => ?_
    | with_reducible refine pc_ldL fun _ => ?_
    | with_reducible refine pc_ldR fun _ => ?_
    | with_reducible refine pc_put (eqF.sN (by assumption) (by decide)) fun _ _ => ?_
    | with_reducible refine pc_put (eqF.sL (by assumption) (by decide)) fun _ _ => ?_
    | with_reducible refine pc_put (eqF.sR (by assumption) (by decide)) fun _ _ => ?_
    | with_reducible refine pc_stN (by decide) (by assumption) fun _ _ => ?_
    | with_reducible refine pc_stL (by decide) (by assumption) fun _ _ => ?_
    | with_reducible refine pc_stR (by decide) (by assumption) fun _ _ => ?_
    | with_reducible refine pc_cpN (by decide) (by assumption) fun _ _ => ?_
    | with_reducible refine pc_bR (fr_f_X11_bookAt (m0 := _) eqF.rf) (by decide) (by assumption) (fun _ _ _ => ?_) (fun _ _ _ => ?_)
    | with_reducible refine pc_pure fun _ => ?_
    | exact pc_some (by assumption)
    | exact pc_some (eqF.bX (by assumption))
    | exact pc_some trivial
    | dsimp only
theorem fr_f_X11_requireState {m0 : MM} {m : MM} {l0 : Int} (h : eqF [] m0 m) : Pc (f_X11_requireState m l0) (RF [] m0) := by
  unfold f_X11_requireState
  repeat' first
    | with_reducible exact pc_x0
    | with_reducible exact pc_xt (by assumption)
    | with_reducible exact pc_xr (by assumption)
    | with_reducible refine pc_nk fun _ => ?_
    | with_reducible refine pc_if ?_ ?_
    | with_reducible refine pc_ck ?_
    | with_reducible refine pc_cb ?_
    | with_reducible refine pc_dv ?_
    | with_reducible refine pc_let fun _ => ?_
    | with_reducible refine pc_letL fun _ => ?_
    | with_reducible refine pc_ldN fun _ => ?_
    | with_reducible refine pc_ldL fun _ => ?_
    | with_reducible refine pc_ldR fun _ => ?_
    | with_reducible refine pc_put (eqF.sN (by assumption) (by decide)) fun _ _ => ?_
    | with_reducible refine pc_put (eqF.sL (by assumption) (by decide)) fun _ _ => ?_
    | with_reducible refine pc_put (eqF.sR (by assumption) (by decide)) fun _ _ => ?_
    | with_reducible refine pc_stN (by decide) (by assumption) fun _ _ => ?_
    | with_reducible refine pc_stL (by decide) (by assumption) fun _ _ => ?_
    | with_reducible refine pc_stR (by decide) (by assumption) fun _ _ => ?_
    | with_reducible refine pc_cpN (by decide) (by assumption) fun _ _ => ?_
    | with_reducible refine pc_pure fun _ => ?_
    | exact pc_some (by assumption)
    | exact pc_some (eqF.bX (by assumption))
    | exact pc_some trivial
    | dsimp only
theorem fr_j_X11_alike_0_55 {m0 : MM} {m : MM} {l4 : Int} (h : eqF [] m0 m) : Pc (j_X11_alike_0_55 m l4) (RF [] m0) := by
  unfold j_X11_alike_0_55
  repeat' first
    | with_reducible exact pc_x0
    | with_reducible exact pc_xt (by assumption)
    | with_reducible exact pc_xr (by assumption)
    | with_reducible refine pc_nk fun _ => ?_
    | with_reducible refine pc_if ?_ ?_
    | with_reducible refine pc_ck ?_
    | with_reducible refine pc_cb ?_
    | with_reducible refine pc_dv ?_
    | with_reducible refine pc_let fun _ => ?_
    | with_reducible refine pc_letL fun _ => ?_
    | with_reducible refine pc_ldN fun _ => ?_
    | with_reducible refine pc_ldL fun _ => ?_
    | with_reducible refine pc_ldR fun _ => ?_
    | with_reducible refine pc_put (eqF.sN (by assumption) (by decide)) fun _ _ => ?_
    | with_reducible refine pc_put (eqF.sL (by assumption) (by decide)) fun _ _ => ?_
    | with_reducible refine pc_put (eqF.sR (by assumption) (by decide)) fun _ _ => ?_
    | with_reducible refine pc_stN (by decide) (by assumption) fun _ _ => ?_
    | with_reducible refine pc_stL (by decide) (by assumption) fun _ _ => ?_
    | with_reducible refine pc_stR (by decide) (by assumption) fun _ _ => ?_
    | with_reducible refine pc_cpN (by decide) (by assumption) fun _ _ => ?_
    | with_reducible refine pc_pure fun _ => ?_
    | exact pc_some (by assumption)
    | exact pc_some (eqF.bX (by assumption))
    | exact pc_some trivial
    | dsimp only
theorem fr_f_X11_alike {m0 : MM} {m : MM} {l0 : Nat} {l1 : Int} {l2 : Int} (h : eqF [] m0 m) : Pc (f_X11_alike m l0 l1 l2) (RF [] m0) := by
  unfold f_X11_alike
  repeat' first
    | with_reducible exact pc_x0
    | with_reducible exact pc_xt (by assumption)
    | with_reducible exact pc_xr (by assumption)
    | with_reducible exact fr_j_X11_alike_0_55 (by assumption)
    | with_reducible refine pc_nk fun _ => ?_
    | with_reducible refine pc_if ?_ ?_
    | with_reducible refine pc_ck ?_
    | with_reducible refine pc_cb ?_
    | with_reducible refine pc_dv ?_
    | with_reducible refine pc_let fun _ => ?_
    | with_reducible refine pc_letL fun _ => ?_
    | with_reducible refine pc_ldN fun _ => ?_
    | with_reducible refine pc_ldL fun _ => ?_
    | with_reducible refine pc_ldR fun _ => ?_
    | with_reducible refine pc_put (eqF.sN (by assumption) (by decide)) fun _ _ => ?_
    | with_reducible refine pc_put (eqF.sL (by assumption) (by decide)) fun _ _ => ?_
    | with_reducible refine pc_put (eqF.sR (by assumption) (by decide)) fun _ _ => ?_
    | with_reducible refine pc_stN (by decide) (by assumption) fun _ _ => ?_
    | with_reducible refine pc_stL (by decide) (by assumption) fun _ _ => ?_
    | with_reducible refine pc_stR (by decide) (by assumption) fun _ _ => ?_
    | with_reducible refine pc_cpN (by decide) (by assumption) fun _ _ => ?_
    | with_reducible refine pc_bR (fr_f_X11_bookAt (m0 := _) eqF.rf) (by decide) (by assumption) (fun _ _ _ => ?_) (fun _ _ _ => ?_)
    | with_reducible refine pc_bV (fr_f_X11_requireIndex (m0 := _) eqF.rf) (by decide) (by assumption) (fun _ _ => ?_) (fun _ _ _ => ?_)
    | with_reducible refine pc_bV (fr_f_X11_requireState (m0 := _) eqF.rf) (by decide) (by assumption) (fun _ _ => ?_) (fun _ _ _ => ?_)
    | with_reducible refine pc_pure fun _ => ?_
    | exact pc_some (by assumption)
    | exact pc_some (eqF.bX (by assumption))
    | exact pc_some trivial
    | dsimp only
theorem fr_b_X0_gather_12 {m0 : MM} {l0 : Nat} {l1 : Int} {l2 : Int} {mm : MM} (h : eqF [0, 18] m0 mm) : Pc (b_X0_gather_12 l0 l1 l2 mm) (fun z => Sum.elim (fun s => eqF [0, 18] m0 s.2) (fun z => eqF [0, 18] m0 z) z) := by
  unfold b_X0_gather_12
  repeat' first
    | with_reducible exact pc_x0
    | with_reducible exact pc_xt (by assumption)
    | with_reducible exact pc_xr (by assumption)
    | with_reducible refine pc_nk fun _ => ?_
    | with_reducible refine pc_if ?_ ?_
    | with_reducible refine pc_ck ?_
    | with_reducible refine pc_cb ?_
    | with_reducible refine pc_dv ?_
    | with_reducible refine pc_let fun _ => ?_
    | with_reducible refine pc_letL fun _ => ?_
    | with_reducible refine pc_ldN fun _ => ?_
    | with_reducible refine pc_ldL fun _ => ?_
    | with_reducible refine pc_ldR fun _ => ?_
    | with_reducible refine pc_put (eqF.sN (by assumption) (by decide)) fun _ _ => ?_
    | with_reducible refine pc_put (eqF.sL (by assumption) (by decide)) fun _ _ => ?_
    | with_reducible refine pc_put (eqF.sR (by assumption) (by decide)) fun _ _ => ?_
    | with_reducible refine pc_stN (by decide) (by assumption) fun _ _ => ?_
    | with_reducible refine pc_stL (by decide) (by assumption) fun _ _ => ?_
    | with_reducible refine pc_stR (by decide) (by assumption) fun _ _ => ?_
    | with_reducible refine pc_cpN (by decide) (by assumption) fun _ _ => ?_
    | with_reducible refine pc_pure fun _ => ?_
    | exact pc_some (by assumption)
    | exact pc_some (eqF.bX (by assumption))
    | exact pc_some trivial
    | dsimp only
theorem fr_j_X0_gather_2_58 {m0 : MM} {m : MM} {l0 : Nat} {l1 : Int} (h : eqF [0, 18] m0 m) : Pc (j_X0_gather_2_58 m l0 l1) (fun z => Sum.elim (fun s => eqF [0, 18] m0 s.2) (fun z => eqF [0, 18] m0 z) z) := by
  unfold j_X0_gather_2_58
  repeat' first
    | with_reducible exact pc_x0
    | with_reducible exact pc_xt (by assumption)
    | with_reducible exact pc_xr (by assumption)
    | with_reducible refine pc_nk fun _ => ?_
    | with_reducible refine pc_if ?_ ?_
    | with_reducible refine pc_ck ?_
    | with_reducible refine pc_cb ?_
    | with_reducible refine pc_dv ?_
    | with_reducible refine pc_let fun _ => ?_
    | with_reducible refine pc_letL fun _ => ?_
    | with_reducible refine pc_ldN fun _ => ?_
    | with_reducible refine pc_ldL fun _ => ?_
    | with_reducible refine pc_ldR fun _ => ?_
    | with_reducible refine pc_put (eqF.sN (by assumption) (by decide)) fun _ _ => ?_
    | with_reducible refine pc_put (eqF.sL (by assumption) (by decide)) fun _ _ => ?_
    | with_reducible refine pc_put (eqF.sR (by assumption) (by decide)) fun _ _ => ?_
    | with_reducible refine pc_stN (by decide) (by assumption) fun _ _ => ?_
    | with_reducible refine pc_stL (by decide) (by assumption) fun _ _ => ?_
    | with_reducible refine pc_stR (by decide) (by assumption) fun _ _ => ?_
    | with_reducible refine pc_cpN (by decide) (by assumption) fun _ _ => ?_
    | with_reducible refine pc_pure fun _ => ?_
    | exact pc_some (by assumption)
    | exact pc_some (eqF.bX (by assumption))
    | exact pc_some trivial
    | dsimp only
theorem fr_b_X0_gather_2 {m0 : MM} {l0 : Nat} {l1 : Int} {mm : MM} (h : eqF [0, 18] m0 mm) : Pc (b_X0_gather_2 l0 l1 mm) (fun z => Sum.elim (fun s => eqF [0, 18] m0 s.2) (fun z => eqF [0, 18] m0 z) z) := by
  unfold b_X0_gather_2
  repeat' first
    | with_reducible exact pc_x0
    | with_reducible exact pc_xt (by assumption)
    | with_reducible exact pc_xr (by assumption)
    | with_reducible exact fr_j_X0_gather_2_58 (by assumption)
    | with_reducible refine pc_nk fun _ => ?_
    | with_reducible refine pc_if ?_ ?_
    | with_reducible refine pc_ck ?_
    | with_reducible refine pc_cb ?_
    | with_reducible refine pc_dv ?_
    | with_reducible refine pc_let fun _ => ?_
    | with_reducible refine pc_letL fun _ => ?_
    | with_reducible refine pc_ldN fun _ => ?_
    | with_reducible refine pc_ldL fun _ => ?_
    | with_reducible refine pc_ldR fun _ => ?_
    | with_reducible refine pc_put (eqF.sN (by assumption) (by decide)) fun _ _ => ?_
    | with_reducible refine pc_put (eqF.sL (by assumption) (by decide)) fun _ _ => ?_
    | with_reducible refine pc_put (eqF.sR (by assumption) (by decide)) fun _ _ => ?_
    | with_reducible refine pc_stN (by decide) (by assumption) fun _ _ => ?_
    | with_reducible refine pc_stL (by decide) (by assumption) fun _ _ => ?_
    | with_reducible refine pc_stR (by decide) (by assumption) fun _ _ => ?_
    | with_reducible refine pc_cpN (by decide) (by assumption) fun _ _ => ?_
    | with_reducible refine pc_lp (fun s => eqF [0, 18] m0 s.2) (fun z => eqF [0, 18] m0 z) (by assumption) (fun s hs => fr_b_X0_gather_12 hs) (fun z hz => ?_)
    | with_reducible refine pc_pure fun _ => ?_
    | exact pc_some (by assumption)
    | exact pc_some (eqF.bX (by assumption))
    | exact pc_some trivial
    | dsimp only
theorem fr_j_X0_gather_0_64 {m0 : MM} {m : MM} {l0 : Nat} (h : eqF [0, 18] m0 m) : Pc (j_X0_gather_0_64 m l0) (RF [0, 18] m0) := by
  unfold j_X0_gather_0_64
  repeat' first
    | with_reducible exact pc_x0
    | with_reducible exact pc_xt (by assumption)
    | with_reducible exact pc_xr (by assumption)
    | with_reducible refine pc_nk fun _ => ?_
    | with_reducible refine pc_if ?_ ?_
    | with_reducible refine pc_ck ?_
    | with_reducible refine pc_cb ?_
    | with_reducible refine pc_dv ?_
    | with_reducible refine pc_let fun _ => ?_
    | with_reducible refine pc_letL fun _ => ?_
    | with_reducible refine pc_ldN fun _ => ?_
    | with_reducible refine pc_ldL fun _ => ?_
    | with_reducible refine pc_ldR fun _ => ?_
    | with_reducible refine pc_put (eqF.sN (by assumption) (by decide)) fun _ _ => ?_
    | with_reducible refine pc_put (eqF.sL (by assumption) (by decide)) fun _ _ => ?_
    | with_reducible refine pc_put (eqF.sR (by assumption) (by decide)) fun _ _ => ?_
    | with_reducible refine pc_stN (by decide) (by assumption) fun _ _ => ?_
    | with_reducible refine pc_stL (by decide) (by assumption) fun _ _ => ?_
    | with_reducible refine pc_stR (by decide) (by assumption) fun _ _ => ?_
    | with_reducible refine pc_cpN (by decide) (by assumption) fun _ _ => ?_
    | with_reducible refine pc_pure fun _ => ?_
    | exact pc_some (by assumption)
    | exact pc_some (eqF.bX (by assumption))
    | exact pc_some trivial
    | dsimp only
theorem fr_f_X0_gather {m0 : MM} {m : MM} {l0 : Nat} (h : eqF [0, 18] m0 m) : Pc (f_X0_gather m l0) (RF [0, 18] m0) := by
  unfold f_X0_gather
  repeat' first
    | with_reducible exact pc_x0
    | with_reducible exact pc_xt (by assumption)
    | with_reducible exact pc_xr (by assumption)
    | with_reducible exact fr_j_X0_gather_0_64 (by assumption)
    | with_reducible refine pc_nk fun _ => ?_
    | with_reducible refine pc_if ?_ ?_
    | with_reducible refine pc_ck ?_
    | with_reducible refine pc_cb ?_
    | with_reducible refine pc_dv ?_
    | with_reducible refine pc_let fun _ => ?_
    | with_reducible refine pc_letL fun _ => ?_
    | with_reducible refine pc_ldN fun _ => ?_
    | with_reducible refine pc_ldL fun _ => ?_
    | with_reducible refine pc_ldR fun _ => ?_
    | with_reducible refine pc_put (eqF.sN (by assumption) (by decide)) fun _ _ => ?_
    | with_reducible refine pc_put (eqF.sL (by assumption) (by decide)) fun _ _ => ?_
    | with_reducible refine pc_put (eqF.sR (by assumption) (by decide)) fun _ _ => ?_
    | with_reducible refine pc_stN (by decide) (by assumption) fun _ _ => ?_
    | with_reducible refine pc_stL (by decide) (by assumption) fun _ _ => ?_
    | with_reducible refine pc_stR (by decide) (by assumption) fun _ _ => ?_
    | with_reducible refine pc_cpN (by decide) (by assumption) fun _ _ => ?_
    | with_reducible refine pc_lp (fun s => eqF [0, 18] m0 s.2) (fun z => eqF [0, 18] m0 z) (by assumption) (fun s hs => fr_b_X0_gather_2 hs) (fun z hz => ?_)
    | with_reducible refine pc_pure fun _ => ?_
    | exact pc_some (by assumption)
    | exact pc_some (eqF.bX (by assumption))
    | exact pc_some trivial
    | dsimp only
theorem fr_j_X11_bind_0_25 {m0 : MM} {m : MM} {l2 : Nat} {s0 : Int} (h : eqF [0, 18] m0 m) : Pc (j_X11_bind_0_25 m l2 s0) (RF [0, 18] m0) := by
  unfold j_X11_bind_0_25
  repeat' first
    | with_reducible exact pc_x0
    | with_reducible exact pc_xt (by assumption)
    | with_reducible exact pc_xr (by assumption)
    | with_reducible refine pc_nk fun _ => ?_
    | with_reducible refine pc_if ?_ ?_
    | with_reducible refine pc_ck ?_
    | with_reducible refine pc_cb ?_
    | with_reducible refine pc_dv ?_
    | with_reducible refine pc_let fun _ => ?_
    | with_reducible refine pc_letL fun _ => ?_
    | with_reducible refine pc_ldN fun _ => ?_
    | with_reducible refine pc_ldL fun _ => ?_
    | with_reducible refine pc_ldR fun _ => ?_
    | with_reducible refine pc_put (eqF.sN (by assumption) (by decide)) fun _ _ => ?_
    | with_reducible refine pc_put (eqF.sL (by assumption) (by decide)) fun _ _ => ?_
    | with_reducible refine pc_put (eqF.sR (by assumption) (by decide)) fun _ _ => ?_
    | with_reducible refine pc_stN (by decide) (by assumption) fun _ _ => ?_
    | with_reducible refine pc_stL (by decide) (by assumption) fun _ _ => ?_
    | with_reducible refine pc_stR (by decide) (by assumption) fun _ _ => ?_
    | with_reducible refine pc_cpN (by decide) (by assumption) fun _ _ => ?_
    | with_reducible refine pc_bV (fr_f_X0_gather (m0 := _) eqF.rf) (by decide) (by assumption) (fun _ _ => ?_) (fun _ _ _ => ?_)
    | with_reducible refine pc_bV (fr_f_X11_requireState (m0 := _) eqF.rf) (by decide) (by assumption) (fun _ _ => ?_) (fun _ _ _ => ?_)
    | with_reducible refine pc_pure fun _ => ?_
    | exact pc_some (by assumption)
    | exact pc_some (eqF.bX (by assumption))
    | exact pc_some trivial
    | dsimp only
theorem fr_j_X11_bind_0_24 {m0 : MM} {m : MM} {l2 : Nat} (h : eqF [0, 18] m0 m) : Pc (j_X11_bind_0_24 m l2) (RF [0, 18] m0) := by
  unfold j_X11_bind_0_24
  repeat' first
    | with_reducible exact pc_x0
    | with_reducible exact pc_xt (by assumption)
    | with_reducible exact pc_xr (by assumption)
    | with_reducible exact fr_j_X11_bind_0_25 (by assumption)
    | with_reducible refine pc_nk fun _ => ?_
    | with_reducible refine pc_if ?_ ?_
    | with_reducible refine pc_ck ?_
    | with_reducible refine pc_cb ?_
    | with_reducible refine pc_dv ?_
    | with_reducible refine pc_let fun _ => ?_
    | with_reducible refine pc_letL fun _ => ?_
    | with_reducible refine pc_ldN fun _ => ?_
    | with_reducible refine pc_ldL fun _ => ?_
    | with_reducible refine pc_ldR fun _ => ?_
    | with_reducible refine pc_put (eqF.sN (by assumption) (by decide)) fun _ _ => ?_
    | with_reducible refine pc_put (eqF.sL (by assumption) (by decide)) fun _ _ => ?_
    | with_reducible refine pc_put (eqF.sR (by assumption) (by decide)) fun _ _ => ?_
    | with_reducible refine pc_stN (by decide) (by assumption) fun _ _ => ?_
    | with_reducible refine pc_stL (by decide) (by assumption) fun _ _ => ?_
    | with_reducible refine pc_stR (by decide) (by assumption) fun _ _ => ?_
    | with_reducible refine pc_cpN (by decide) (by assumption) fun _ _ => ?_
    | with_reducible refine pc_pure fun _ => ?_
    | exact pc_some (by assumption)
    | exact pc_some (eqF.bX (by assumption))
    | exact pc_some trivial
    | dsimp only
theorem fr_f_X11_bind {m0 : MM} {m : MM} {l0 : Nat} {l1 : Int} (h : eqF [0, 18] m0 m) : Pc (f_X11_bind m l0 l1) (RF [0, 18] m0) := by
  unfold f_X11_bind
  repeat' first
    | with_reducible exact pc_x0
    | with_reducible exact pc_xt (by assumption)
    | with_reducible exact pc_xr (by assumption)
    | with_reducible exact fr_j_X11_bind_0_24 (by assumption)
    | with_reducible exact fr_j_X11_bind_0_25 (by assumption)
    | with_reducible refine pc_nk fun _ => ?_
    | with_reducible refine pc_if ?_ ?_
    | with_reducible refine pc_ck ?_
    | with_reducible refine pc_cb ?_
    | with_reducible refine pc_dv ?_
    | with_reducible refine pc_let fun _ => ?_
    | with_reducible refine pc_letL fun _ => ?_
    | with_reducible refine pc_ldN fun _ => ?_
    | with_reducible refine pc_ldL fun _ => ?_
    | with_reducible refine pc_ldR fun _ => ?_
    | with_reducible refine pc_put (eqF.sN (by assumption) (by decide)) fun _ _ => ?_
    | with_reducible refine pc_put (eqF.sL (by assumption) (by decide)) fun _ _ => ?_
    | with_reducible refine pc_put (eqF.sR (by assumption) (by decide)) fun _ _ => ?_
    | with_reducible refine pc_stN (by decide) (by assumption) fun _ _ => ?_
    | with_reducible refine pc_stL (by decide) (by assumption) fun _ _ => ?_
    | with_reducible refine pc_stR (by decide) (by assumption) fun _ _ => ?_
    | with_reducible refine pc_cpN (by decide) (by assumption) fun _ _ => ?_
    | with_reducible refine pc_bR (fr_f_X11_bookAt (m0 := _) eqF.rf) (by decide) (by assumption) (fun _ _ _ => ?_) (fun _ _ _ => ?_)
    | with_reducible refine pc_pure fun _ => ?_
    | exact pc_some (by assumption)
    | exact pc_some (eqF.bX (by assumption))
    | exact pc_some trivial
    | dsimp only
theorem fr_f_X8_init {m0 : MM} {m : MM} {l0 : Nat} {l1 : Nat} {l2 : Nat} (h : eqF [8] m0 m) : Pc (f_X8_init m l0 l1 l2) (RF [8] m0) := by
  unfold f_X8_init
  repeat' first
    | with_reducible exact pc_x0
    | with_reducible exact pc_xt (by assumption)
    | with_reducible exact pc_xr (by assumption)
    | with_reducible refine pc_nk fun _ => ?_
    | with_reducible refine pc_if ?_ ?_
    | with_reducible refine pc_ck ?_
    | with_reducible refine pc_cb ?_
    | with_reducible refine pc_dv ?_
    | with_reducible refine pc_let fun _ => ?_
    | with_reducible refine pc_letL fun _ => ?_
    | with_reducible refine pc_ldN fun _ => ?_
    | with_reducible refine pc_ldL fun _ => ?_
    | with_reducible refine pc_ldR fun _ => ?_
    | with_reducible refine pc_put (eqF.sN (by assumption) (by decide)) fun _ _ => ?_
    | with_reducible refine pc_put (eqF.sL (by assumption) (by decide)) fun _ _ => ?_
    | with_reducible refine pc_put (eqF.sR (by assumption) (by decide)) fun _ _ => ?_
    | with_reducible refine pc_stN (by decide) (by assumption) fun _ _ => ?_
    | with_reducible refine pc_stL (by decide) (by assumption) fun _ _ => ?_
    | with_reducible refine pc_stR (by decide) (by assumption) fun _ _ => ?_
    | with_reducible refine pc_cpN (by decide) (by assumption) fun _ _ => ?_
    | with_reducible refine pc_pure fun _ => ?_
    | exact pc_some (by assumption)
    | exact pc_some (eqF.bX (by assumption))
    | exact pc_some trivial
    | dsimp only
theorem fr_j_X11_box_0_16 {m0 : MM} {m : MM} {l0 : Nat} {l1 : Int} {l2 : Int} {s0 : Int} (h : eqF [] m0 m) : Pc (j_X11_box_0_16 m l0 l1 l2 s0) (RF [] m0) := by
  unfold j_X11_box_0_16
  repeat' first
    | with_reducible exact pc_x0
    | with_reducible exact pc_xt (by assumption)
    | with_reducible exact pc_xr (by assumption)
    | with_reducible refine pc_nk fun _ => ?_
    | with_reducible refine pc_if ?_ ?_
    | with_reducible refine pc_ck ?_
    | with_reducible refine pc_cb ?_
    | with_reducible refine pc_dv ?_
    | with_reducible refine pc_let fun _ => ?_
    | with_reducible refine pc_letL fun _ => ?_
    | with_reducible refine pc_ldN fun _ => ?_
    | with_reducible refine pc_ldL fun _ => ?_
    | with_reducible refine pc_ldR fun _ => ?_
    | with_reducible refine pc_put (eqF.sN (by assumption) (by decide)) fun _ _ => ?_
    | with_reducible refine pc_put (eqF.sL (by assumption) (by decide)) fun _ _ => ?_
    | with_reducible refine pc_put (eqF.sR (by assumption) (by decide)) fun _ _ => ?_
    | with_reducible refine pc_stN (by decide) (by assumption) fun _ _ => ?_
    | with_reducible refine pc_stL (by decide) (by assumption) fun _ _ => ?_
    | with_reducible refine pc_stR (by decide) (by assumption) fun _ _ => ?_
    | with_reducible refine pc_cpN (by decide) (by assumption) fun _ _ => ?_
    | with_reducible refine pc_bV (fr_f_X11_requireIndex (m0 := _) eqF.rf) (by decide) (by assumption) (fun _ _ => ?_) (fun _ _ _ => ?_)
    | with_reducible refine pc_pure fun _ => ?_
    | exact pc_some (by assumption)
    | exact pc_some (eqF.bX (by assumption))
    | exact pc_some trivial
    | dsimp only
theorem fr_f_X11_box {m0 : MM} {m : MM} {l0 : Nat} {l1 : Int} {l2 : Int} (h : eqF [] m0 m) : Pc (f_X11_box m l0 l1 l2) (RF [] m0) := by
  unfold f_X11_box
  repeat' first
    | with_reducible exact pc_x0
    | with_reducible exact pc_xt (by assumption)
    | with_reducible exact pc_xr (by assumption)
    | with_reducible exact fr_j_X11_box_0_16 (by assumption)
    | with_reducible refine pc_nk fun _ => ?_
    | with_reducible refine pc_if ?_ ?_
    | with_reducible refine pc_ck ?_
    | with_reducible refine pc_cb ?_
    | with_reducible refine pc_dv ?_
    | with_reducible refine pc_let fun _ => ?_
    | with_reducible refine pc_letL fun _ => ?_
    | with_reducible refine pc_ldN fun _ => ?_
    | with_reducible refine pc_ldL fun _ => ?_
    | with_reducible refine pc_ldR fun _ => ?_
    | with_reducible refine pc_put (eqF.sN (by assumption) (by decide)) fun _ _ => ?_
    | with_reducible refine pc_put (eqF.sL (by assumption) (by decide)) fun _ _ => ?_
    | with_reducible refine pc_put (eqF.sR (by assumption) (by decide)) fun _ _ => ?_
    | with_reducible refine pc_stN (by decide) (by assumption) fun _ _ => ?_
    | with_reducible refine pc_stL (by decide) (by assumption) fun _ _ => ?_
    | with_reducible refine pc_stR (by decide) (by assumption) fun _ _ => ?_
    | with_reducible refine pc_cpN (by decide) (by assumption) fun _ _ => ?_
    | with_reducible refine pc_bV (fr_f_X11_requireArgument (m0 := _) eqF.rf) (by decide) (by assumption) (fun _ _ => ?_) (fun _ _ _ => ?_)
    | with_reducible refine pc_pure fun _ => ?_
    | exact pc_some (by assumption)
    | exact pc_some (eqF.bX (by assumption))
    | exact pc_some trivial
    | dsimp only
theorem fr_b_X11_cancel_47 {m0 : MM} {l3 : Int} {l4 : Nat} {l5 : Int} {l6 : Int} {mm : MM} (h : eqF [18] m0 mm) : Pc (b_X11_cancel_47 l3 l4 l5 l6 mm) (fun z => Sum.elim (fun s => eqF [18] m0 s.2.2) (fun z => eqF [18] m0 z.2) z) := by
  unfold b_X11_cancel_47
  repeat' first
    | with_reducible exact pc_x0
    | with_reducible exact pc_xt (by assumption)
    | with_reducible exact pc_xr (by assumption)
    | with_reducible refine pc_nk fun _ => ?_
    | with_reducible refine pc_if ?_ ?_
    | with_reducible refine pc_ck ?_
    | with_reducible refine pc_cb ?_
    | with_reducible refine pc_dv ?_
    | with_reducible refine pc_let fun _ => ?_
    | with_reducible refine pc_letL fun _ => ?_
    | with_reducible refine pc_ldN fun _ => ?_
    | with_reducible refine pc_ldL fun _ => ?_
    | with_reducible refine pc_ldR fun _ => ?_
    | with_reducible refine pc_put (eqF.sN (by assumption) (by decide)) fun _ _ => ?_
    | with_reducible refine pc_put (eqF.sL (by assumption) (by decide)) fun _ _ => ?_
    | with_reducible refine pc_put (eqF.sR (by assumption) (by decide)) fun _ _ => ?_
    | with_reducible refine pc_stN (by decide) (by assumption) fun _ _ => ?_
    | with_reducible refine pc_stL (by decide) (by assumption) fun _ _ => ?_
    | with_reducible refine pc_stR (by decide) (by assumption) fun _ _ => ?_
    | with_reducible refine pc_cpN (by decide) (by assumption) fun _ _ => ?_
    | with_reducible refine pc_pure fun _ => ?_
    | exact pc_some (by assumption)
    | exact pc_some (eqF.bX (by assumption))
    | exact pc_some trivial
    | dsimp only
theorem fr_j_X11_cancel_0_91 {m0 : MM} {m : MM} {l5 : Int} (h : eqF [18] m0 m) : Pc (j_X11_cancel_0_91 m l5) (RF [18] m0) := by
  unfold j_X11_cancel_0_91
  repeat' first
    | with_reducible exact pc_x0
    | with_reducible exact pc_xt (by assumption)
    | with_reducible exact pc_xr (by assumption)
    | with_reducible refine pc_nk fun _ => ?_
    | with_reducible refine pc_if ?_ ?_
    | with_reducible refine pc_ck ?_
    | with_reducible refine pc_cb ?_
    | with_reducible refine pc_dv ?_
    | with_reducible refine pc_let fun _ => ?_
    | with_reducible refine pc_letL fun _ => ?_
    | with_reducible refine pc_ldN fun _ => ?_
    | with_reducible refine pc_ldL fun _ => ?_
    | with_reducible refine pc_ldR fun _ => ?_
    | with_reducible refine pc_put (eqF.sN (by assumption) (by decide)) fun _ _ => ?_
    | with_reducible refine pc_put (eqF.sL (by assumption) (by decide)) fun _ _ => ?_
    | with_reducible refine pc_put (eqF.sR (by assumption) (by decide)) fun _ _ => ?_
    | with_reducible refine pc_stN (by decide) (by assumption) fun _ _ => ?_
    | with_reducible refine pc_stL (by decide) (by assumption) fun _ _ => ?_
    | with_reducible refine pc_stR (by decide) (by assumption) fun _ _ => ?_
    | with_reducible refine pc_cpN (by decide) (by assumption) fun _ _ => ?_
    | with_reducible refine pc_pure fun _ => ?_
    | exact pc_some (by assumption)
    | exact pc_some (eqF.bX (by assumption))
    | exact pc_some trivial
    | dsimp only
theorem fr_j_X11_cancel_0_30 {m0 : MM} {m : MM} {l2 : Int} {l3 : Int} {l4 : Nat} {s0 : Int} (h : eqF [18] m0 m) : Pc (j_X11_cancel_0_30 m l2 l3 l4 s0) (RF [18] m0) := by
  unfold j_X11_cancel_0_30
  repeat' first
    | with_reducible exact pc_x0
    | with_reducible exact pc_xt (by assumption)
    | with_reducible exact pc_xr (by assumption)
    | with_reducible exact fr_j_X11_cancel_0_91 (by assumption)
    | with_reducible refine pc_nk fun _ => ?_
    | with_reducible refine pc_if ?_ ?_
    | with_reducible refine pc_ck ?_
    | with_reducible refine pc_cb ?_
    | with_reducible refine pc_dv ?_
    | with_reducible refine pc_let fun _ => ?_
    | with_reducible refine pc_letL fun _ => ?_
    | with_reducible refine pc_ldN fun _ => ?_
    | with_reducible refine pc_ldL fun _ => ?_
    | with_reducible refine pc_ldR fun _ => ?_
    | with_reducible refine pc_put (eqF.sN (by assumption) (by decide)) fun _ _ => ?_
    | with_reducible refine pc_put (eqF.sL (by assumption) (by decide)) fun _ _ => ?_
    | with_reducible refine pc_put (eqF.sR (by assumption) (by decide)) fun _ _ => ?_
    | with_reducible refine pc_stN (by decide) (by assumption) fun _ _ => ?_
    | with_reducible refine pc_stL (by decide) (by assumption) fun _ _ => ?_
    | with_reducible refine pc_stR (by decide) (by assumption) fun _ _ => ?_
    | with_reducible refine pc_cpN (by decide) (by assumption) fun _ _ => ?_
    | with_reducible refine pc_bV (fr_f_X11_requireIndex (m0 := _) eqF.rf) (by decide) (by assumption) (fun _ _ => ?_) (fun _ _ _ => ?_)
    | with_reducible refine pc_bV (fr_f_X11_requireState (m0 := _) eqF.rf) (by decide) (by assumption) (fun _ _ => ?_) (fun _ _ _ => ?_)
    | with_reducible refine pc_lp (fun s => eqF [18] m0 s.2.2) (fun z => eqF [18] m0 z.2) (by assumption) (fun s hs => fr_b_X11_cancel_47 hs) (fun z hz => ?_)
    | with_reducible refine pc_pure fun _ => ?_
    | exact pc_some (by assumption)
    | exact pc_some (eqF.bX (by assumption))
    | exact pc_some trivial
    | dsimp only
theorem fr_j_X11_cancel_0_29 {m0 : MM} {m : MM} {l2 : Int} {l3 : Int} {l4 : Nat} (h : eqF [18] m0 m) : Pc (j_X11_cancel_0_29 m l2 l3 l4) (RF [18] m0) := by
  unfold j_X11_cancel_0_29
  repeat' first
    | with_reducible exact pc_x0
    | with_reducible exact pc_xt (by assumption)
    | with_reducible exact pc_xr (by assumption)
    | with_reducible exact fr_j_X11_cancel_0_30 (by assumption)
    | with_reducible refine pc_nk fun _ => ?_
    | with_reducible refine pc_if ?_ ?_
    | with_reducible refine pc_ck ?_
    | with_reducible refine pc_cb ?_
    | with_reducible refine pc_dv ?_
    | with_reducible refine pc_let fun _ => ?_
    | with_reducible refine pc_letL fun _ => ?_
    | with_reducible refine pc_ldN fun _ => ?_
    | with_reducible refine pc_ldL fun _ => ?_
    | with_reducible refine pc_ldR fun _ => ?_
    | with_reducible refine pc_put (eqF.sN (by assumption) (by decide)) fun _ _ => ?_
    | with_reducible refine pc_put (eqF.sL (by assumption) (by decide)) fun _ _ => ?_
    | with_reducible refine pc_put (eqF.sR (by assumption) (by decide)) fun _ _ => ?_
    | with_reducible refine pc_stN (by decide) (by assumption) fun _ _ => ?_
    | with_reducible refine pc_stL (by decide) (by assumption) fun _ _ => ?_
    | with_reducible refine pc_stR (by decide) (by assumption) fun _ _ => ?_
    | with_reducible refine pc_cpN (by decide) (by assumption) fun _ _ => ?_
    | with_reducible refine pc_pure fun _ => ?_
    | exact pc_some (by assumption)
    | exact pc_some (eqF.bX (by assumption))
    | exact pc_some trivial
    | dsimp only
theorem fr_f_X11_cancel {m0 : MM} {m : MM} {l0 : Nat} {l1 : Int} {l2 : Int} {l3 : Int} (h : eqF [18] m0 m) : Pc (f_X11_cancel m l0 l1 l2 l3) (RF [18] m0) := by
  unfold f_X11_cancel
  repeat' first
    | with_reducible exact pc_x0
    | with_reducible exact pc_xt (by assumption)
    | with_reducible exact pc_xr (by assumption)
    | with_reducible exact fr_j_X11_cancel_0_29 (by assumption)
    | with_reducible exact fr_j_X11_cancel_0_30 (by assumption)
    | with_reducible refine pc_nk fun _ => ?_
    | with_reducible refine pc_if ?_ ?_
    | with_reducible refine pc_ck ?_
    | with_reducible refine pc_cb ?_
    | with_reducible refine pc_dv ?_
    | with_reducible refine pc_let fun _ => ?_
    | with_reducible refine pc_letL fun _ => ?_
    | with_reducible refine pc_ldN fun _ => ?_
    | with_reducible refine pc_ldL fun _ => ?_
    | with_reducible refine pc_ldR fun _ => ?_
    | with_reducible refine pc_put (eqF.sN (by assumption) (by decide)) fun _ _ => ?_
    | with_reducible refine pc_put (eqF.sL (by assumption) (by decide)) fun _ _ => ?_
    | with_reducible refine pc_put (eqF.sR (by assumption) (by decide)) fun _ _ => ?_
    | with_reducible refine pc_stN (by decide) (by assumption) fun _ _ => ?_
    | with_reducible refine pc_stL (by decide) (by assumption) fun _ _ => ?_
    | with_reducible refine pc_stR (by decide) (by assumption) fun _ _ => ?_
    | with_reducible refine pc_cpN (by decide) (by assumption) fun _ _ => ?_
    | with_reducible refine pc_bR (fr_f_X11_bookAt (m0 := _) eqF.rf) (by decide) (by assumption) (fun _ _ _ => ?_) (fun _ _ _ => ?_)
    | with_reducible refine pc_pure fun _ => ?_
    | exact pc_some (by assumption)
    | exact pc_some (eqF.bX (by assumption))
    | exact pc_some trivial
    | dsimp only
theorem fr_f_X1_putOn {m0 : MM} {m : MM} {l0 : Nat} {l1 : Int} {l2 : Int} (h : eqF [22, 23, 24] m0 m) : Pc (f_X1_putOn m l0 l1 l2) (RF [22, 23, 24] m0) := by
  unfold f_X1_putOn
  repeat' first
    | with_reducible exact pc_x0
    | with_reducible exact pc_xt (by assumption)
    | with_reducible exact pc_xr (by assumption)
    | with_reducible refine pc_nk fun _ => ?_
    | with_reducible refine pc_if ?_ ?_
    | with_reducible refine pc_ck ?_
    | with_reducible refine pc_cb ?_
    | with_reducible refine pc_dv ?_
    | with_reducible refine pc_let fun _ => ?_
    | with_reducible refine pc_letL fun _ => ?_
    | with_reducible refine pc_ldN fun _ => ?_
    | with_reducible refine pc_ldL fun _ => ?_
    | with_reducible refine pc_ldR fun _ => ?_
    | with_reducible refine pc_put (eqF.sN (by assumption) (by decide)) fun _ _ => ?_
    | with_reducible refine pc_put (eqF.sL (by assumption) (by decide)) fun _ _ => ?_
    | with_reducible refine pc_put (eqF.sR (by assumption) (by decide)) fun _ _ => ?_
    | with_reducible refine pc_stN (by decide) (by assumption) fun _ _ => ?_
    | with_reducible refine pc_stL (by decide) (by assumption) fun _ _ => ?_
    | with_reducible refine pc_stR (by decide) (by assumption) fun _ _ => ?_
    | with_reducible refine pc_cpN (by decide) (by assumption) fun _ _ => ?_
    | with_reducible refine pc_pure fun _ => ?_
    | exact pc_some (by assumption)
    | exact pc_some (eqF.bX (by assumption))
    | exact pc_some trivial
    | dsimp only
theorem fr_f_X1_add {m0 : MM} {m : MM} {l0 : Nat} {l1 : Int} (h : eqF [1, 20, 22, 23, 24] m0 m) : Pc (f_X1_add m l0 l1) (RF [1, 20, 22, 23, 24] m0) := by
  unfold f_X1_add
  repeat' first
    | with_reducible exact pc_x0
    | with_reducible exact pc_xt (by assumption)
    | with_reducible exact pc_xr (by assumption)
    | with_reducible refine pc_nk fun _ => ?_
    | with_reducible refine pc_if ?_ ?_
    | with_reducible refine pc_ck ?_
    | with_reducible refine pc_cb ?_
    | with_reducible refine pc_dv ?_
    | with_reducible refine pc_let fun _ => ?_
    | with_reducible refine pc_letL fun _ => ?_
    | with_reducible refine pc_ldN fun _ => ?_
    | with_reducible refine pc_ldL fun _ => ?_
    | with_reducible refine pc_ldR fun _ => ?_
    | with_reducible refine pc_put (eqF.sN (by assumption) (by decide)) fun _ _ => ?_
    | with_reducible refine pc_put (eqF.sL (by assumption) (by decide)) fun _ _ => ?_
    | with_reducible refine pc_put (eqF.sR (by assumption) (by decide)) fun _ _ => ?_
    | with_reducible refine pc_stN (by decide) (by assumption) fun _ _ => ?_
    | with_reducible refine pc_stL (by decide) (by assumption) fun _ _ => ?_
    | with_reducible refine pc_stR (by decide) (by assumption) fun _ _ => ?_
    | with_reducible refine pc_cpN (by decide) (by assumption) fun _ _ => ?_
    | with_reducible refine pc_bV (fr_f_X1_putOn (m0 := _) eqF.rf) (by decide) (by assumption) (fun _ _ => ?_) (fun _ _ _ => ?_)
    | with_reducible refine pc_pure fun _ => ?_
    | exact pc_some (by assumption)
    | exact pc_some (eqF.bX (by assumption))
    | exact pc_some trivial
    | dsimp only
theorem fr_b_X11_cast_51 {m0 : MM} {l0 : Nat} {l1 : Int} {l2 : Int} {l3 : Int} {mm : MM} (h : eqF [1, 20, 22, 23, 24] m0 mm) : Pc (b_X11_cast_51 l0 l1 l2 l3 mm) (fun z => Sum.elim (fun s => eqF [1, 20, 22, 23, 24] m0 s.2) (fun z => eqF [1, 20, 22, 23, 24] m0 z) z) := by
  unfold b_X11_cast_51
  repeat' first
    | with_reducible exact pc_x0
    | with_reducible exact pc_xt (by assumption)
    | with_reducible exact pc_xr (by assumption)
    | with_reducible refine pc_nk fun _ => ?_
    | with_reducible refine pc_if ?_ ?_
    | with_reducible refine pc_ck ?_
    | with_reducible refine pc_cb ?_
    | with_reducible refine pc_dv ?_
    | with_reducible refine pc_let fun _ => ?_
    | with_reducible refine pc_letL fun _ => ?_
    | with_reducible refine pc_ldN fun _ => ?_
    | with_reducible refine pc_ldL fun _ => ?_
    | with_reducible refine pc_ldR fun _ => ?_
    | with_reducible refine pc_put (eqF.sN (by assumption) (by decide)) fun _ _ => ?_
    | with_reducible refine pc_put (eqF.sL (by assumption) (by decide)) fun _ _ => ?_
    | with_reducible refine pc_put (eqF.sR (by assumption) (by decide)) fun _ _ => ?_
    | with_reducible refine pc_stN (by decide) (by assumption) fun _ _ => ?_
    | with_reducible refine pc_stL (by decide) (by assumption) fun _ _ => ?_
    | with_reducible refine pc_stR (by decide) (by assumption) fun _ _ => ?_
    | with_reducible refine pc_cpN (by decide) (by assumption) fun _ _ => ?_
    | with_reducible refine pc_bV (fr_f_X1_add (m0 := _) eqF.rf) (by decide) (by assumption) (fun _ _ => ?_) (fun _ _ _ => ?_)
    | with_reducible refine pc_pure fun _ => ?_
    | exact pc_some (by assumption)
    | exact pc_some (eqF.bX (by assumption))
    | exact pc_some trivial
    | dsimp only
theorem fr_j_X11_cast_0_70 {m0 : MM} {m : MM} {l0 : Nat} (h : eqF [1, 20, 22, 23, 24] m0 m) : Pc (j_X11_cast_0_70 m l0) (RF [1, 20, 22, 23, 24] m0) := by
  unfold j_X11_cast_0_70
  repeat' first
    | with_reducible exact pc_x0
    | with_reducible exact pc_xt (by assumption)
    | with_reducible exact pc_xr (by assumption)
    | with_reducible refine pc_nk fun _ => ?_
    | with_reducible refine pc_if ?_ ?_
    | with_reducible refine pc_ck ?_
    | with_reducible refine pc_cb ?_
    | with_reducible refine pc_dv ?_
    | with_reducible refine pc_let fun _ => ?_
    | with_reducible refine pc_letL fun _ => ?_
    | with_reducible refine pc_ldN fun _ => ?_
    | with_reducible refine pc_ldL fun _ => ?_
    | with_reducible refine pc_ldR fun _ => ?_
    | with_reducible refine pc_put (eqF.sN (by assumption) (by decide)) fun _ _ => ?_
    | with_reducible refine pc_put (eqF.sL (by assumption) (by decide)) fun _ _ => ?_
    | with_reducible refine pc_put (eqF.sR (by assumption) (by decide)) fun _ _ => ?_
    | with_reducible refine pc_stN (by decide) (by assumption) fun _ _ => ?_
    | with_reducible refine pc_stL (by decide) (by assumption) fun _ _ => ?_
    | with_reducible refine pc_stR (by decide) (by assumption) fun _ _ => ?_
    | with_reducible refine pc_cpN (by decide) (by assumption) fun _ _ => ?_
    | with_reducible refine pc_pure fun _ => ?_
    | exact pc_some (by assumption)
    | exact pc_some (eqF.bX (by assumption))
    | exact pc_some trivial
    | dsimp only
theorem fr_j_X11_cast_0_46 {m0 : MM} {m : MM} {l0 : Nat} {l1 : Int} {l2 : Int} {s0 : Int} (h : eqF [1, 20, 22, 23, 24] m0 m) : Pc (j_X11_cast_0_46 m l0 l1 l2 s0) (RF [1, 20, 22, 23, 24] m0) := by
  unfold j_X11_cast_0_46
  repeat' first
    | with_reducible exact pc_x0
    | with_reducible exact pc_xt (by assumption)
    | with_reducible exact pc_xr (by assumption)
    | with_reducible exact fr_j_X11_cast_0_70 (by assumption)
    | with_reducible refine pc_nk fun _ => ?_
    | with_reducible refine pc_if ?_ ?_
    | with_reducible refine pc_ck ?_
    | with_reducible refine pc_cb ?_
    | with_reducible refine pc_dv ?_
    | with_reducible refine pc_let fun _ => ?_
    | with_reducible refine pc_letL fun _ => ?_
    | with_reducible refine pc_ldN fun _ => ?_
    | with_reducible refine pc_ldL fun _ => ?_
    | with_reducible refine pc_ldR fun _ => ?_
    | with_reducible refine pc_put (eqF.sN (by assumption) (by decide)) fun _ _ => ?_
    | with_reducible refine pc_put (eqF.sL (by assumption) (by decide)) fun _ _ => ?_
    | with_reducible refine pc_put (eqF.sR (by assumption) (by decide)) fun _ _ => ?_
    | with_reducible refine pc_stN (by decide) (by assumption) fun _ _ => ?_
    | with_reducible refine pc_stL (by decide) (by assumption) fun _ _ => ?_
    | with_reducible refine pc_stR (by decide) (by assumption) fun _ _ => ?_
    | with_reducible refine pc_cpN (by decide) (by assumption) fun _ _ => ?_
    | with_reducible refine pc_bV (fr_f_X11_requireState (m0 := _) eqF.rf) (by decide) (by assumption) (fun _ _ => ?_) (fun _ _ _ => ?_)
    | with_reducible refine pc_lp (fun s => eqF [1, 20, 22, 23, 24] m0 s.2) (fun z => eqF [1, 20, 22, 23, 24] m0 z) (by assumption) (fun s hs => fr_b_X11_cast_51 hs) (fun z hz => ?_)
    | with_reducible refine pc_pure fun _ => ?_
    | exact pc_some (by assumption)
    | exact pc_some (eqF.bX (by assumption))
    | exact pc_some trivial
    | dsimp only
theorem fr_j_X11_cast_0_23 {m0 : MM} {m : MM} {l0 : Nat} {l1 : Int} {l2 : Int} {s0 : Int} (h : eqF [1, 20, 22, 23, 24] m0 m) : Pc (j_X11_cast_0_23 m l0 l1 l2 s0) (RF [1, 20, 22, 23, 24] m0) := by
  unfold j_X11_cast_0_23
  repeat' first
    | with_reducible exact pc_x0
    | with_reducible exact pc_xt (by assumption)
    | with_reducible exact pc_xr (by assumption)
    | with_reducible exact fr_j_X11_cast_0_46 (by assumption)
    | with_reducible refine pc_nk fun _ => ?_
    | with_reducible refine pc_if ?_ ?_
    | with_reducible refine pc_ck ?_
    | with_reducible refine pc_cb ?_
    | with_reducible refine pc_dv ?_
    | with_reducible refine pc_let fun _ => ?_
    | with_reducible refine pc_letL fun _ => ?_
    | with_reducible refine pc_ldN fun _ => ?_
    | with_reducible refine pc_ldL fun _ => ?_
    | with_reducible refine pc_ldR fun _ => ?_
    | with_reducible refine pc_put (eqF.sN (by assumption) (by decide)) fun _ _ => ?_
    | with_reducible refine pc_put (eqF.sL (by assumption) (by decide)) fun _ _ => ?_
    | with_reducible refine pc_put (eqF.sR (by assumption) (by decide)) fun _ _ => ?_
    | with_reducible refine pc_stN (by decide) (by assumption) fun _ _ => ?_
    | with_reducible refine pc_stL (by decide) (by assumption) fun _ _ => ?_
    | with_reducible refine pc_stR (by decide) (by assumption) fun _ _ => ?_
    | with_reducible refine pc_cpN (by decide) (by assumption) fun _ _ => ?_
    | with_reducible refine pc_bV (fr_f_X11_requireArgument (m0 := _) eqF.rf) (by decide) (by assumption) (fun _ _ => ?_) (fun _ _ _ => ?_)
    | with_reducible refine pc_pure fun _ => ?_
    | exact pc_some (by assumption)
    | exact pc_some (eqF.bX (by assumption))
    | exact pc_some trivial
    | dsimp only
theorem fr_j_X11_cast_0_22 {m0 : MM} {m : MM} {l0 : Nat} {l1 : Int} {l2 : Int} (h : eqF [1, 20, 22, 23, 24] m0 m) : Pc (j_X11_cast_0_22 m l0 l1 l2) (RF [1, 20, 22, 23, 24] m0) := by
  unfold j_X11_cast_0_22
  repeat' first
    | with_reducible exact pc_x0
    | with_reducible exact pc_xt (by assumption)
    | with_reducible exact pc_xr (by assumption)
    | with_reducible exact fr_j_X11_cast_0_23 (by assumption)
    | with_reducible refine pc_nk fun _ => ?_
    | with_reducible refine pc_if ?_ ?_
    | with_reducible refine pc_ck ?_
    | with_reducible refine pc_cb ?_
    | with_reducible refine pc_dv ?_
    | with_reducible refine pc_let fun _ => ?_
    | with_reducible refine pc_letL fun _ => ?_
    | with_reducible refine pc_ldN fun _ => ?_
    | with_reducible refine pc_ldL fun _ => ?_
    | with_reducible refine pc_ldR fun _ => ?_
    | with_reducible refine pc_put (eqF.sN (by assumption) (by decide)) fun _ _ => ?_
    | with_reducible refine pc_put (eqF.sL (by assumption) (by decide)) fun _ _ => ?_
    | with_reducible refine pc_put (eqF.sR (by assumption) (by decide)) fun _ _ => ?_
    | with_reducible refine pc_stN (by decide) (by assumption) fun _ _ => ?_
    | with_reducible refine pc_stL (by decide) (by assumption) fun _ _ => ?_
    | with_reducible refine pc_stR (by decide) (by assumption) fun _ _ => ?_
    | with_reducible refine pc_cpN (by decide) (by assumption) fun _ _ => ?_
    | with_reducible refine pc_pure fun _ => ?_
    | exact pc_some (by assumption)
    | exact pc_some (eqF.bX (by assumption))
    | exact pc_some trivial
    | dsimp only
theorem fr_f_X11_cast {m0 : MM} {m : MM} {l0 : Nat} {l1 : Int} {l2 : Int} (h : eqF [1, 20, 22, 23, 24] m0 m) : Pc (f_X11_cast m l0 l1 l2) (RF [1, 20, 22, 23, 24] m0) := by
  unfold f_X11_cast
  repeat' first
    | with_reducible exact pc_x0
    | with_reducible exact pc_xt (by assumption)
    | with_reducible exact pc_xr (by assumption)
    | with_reducible exact fr_j_X11_cast_0_22 (by assumption)
    | with_reducible exact fr_j_X11_cast_0_23 (by assumption)
    | with_reducible refine pc_nk fun _ => ?_
    | with_reducible refine pc_if ?_ ?_
    | with_reducible refine pc_ck ?_
    | with_reducible refine pc_cb ?_
    | with_reducible refine pc_dv ?_
    | with_reducible refine pc_let fun _ => ?_
    | with_reducible refine pc_letL fun _ => ?_
    | with_reducible refine pc_ldN fun _ => ?_
    | with_reducible refine pc_ldL fun _ => ?_
    | with_reducible refine pc_ldR fun _ => ?_
    | with_reducible refine pc_put (eqF.sN (by assumption) (by decide)) fun _ _ => ?_
    | with_reducible refine pc_put (eqF.sL (by assumption) (by decide)) fun _ _ => ?_
    | with_reducible refine pc_put (eqF.sR (by assumption) (by decide)) fun _ _ => ?_
    | with_reducible refine pc_stN (by decide) (by assumption) fun _ _ => ?_
    | with_reducible refine pc_stL (by decide) (by assumption) fun _ _ => ?_
    | with_reducible refine pc_stR (by decide) (by assumption) fun _ _ => ?_
    | with_reducible refine pc_cpN (by decide) (by assumption) fun _ _ => ?_
    | with_reducible refine pc_pure fun _ => ?_
    | exact pc_some (by assumption)
    | exact pc_some (eqF.bX (by assumption))
    | exact pc_some trivial
    | dsimp only
theorem fr_j_X0_partByUnits_27_81 {m0 : MM} {m : MM} {l0 : Nat} {l2 : Int} {l3 : Int} {l4 : Int} {l5 : Int} (h : eqF [0, 16] m0 m) : Pc (j_X0_partByUnits_27_81 m l0 l2 l3 l4 l5) (fun z => Sum.elim (fun s => eqF [0, 16] m0 s.2.2.2) (fun z => eqF [0, 16] m0 z) z) := by
  unfold j_X0_partByUnits_27_81
  repeat' first
    | with_reducible exact pc_x0
    | with_reducible exact pc_xt (by assumption)
    | with_reducible exact pc_xr (by assumption)
    | with_reducible refine pc_nk fun _ => ?_
    | with_reducible refine pc_if ?_ ?_
    | with_reducible refine pc_ck ?_
    | with_reducible refine pc_cb ?_
    | with_reducible refine pc_dv ?_
    | with_reducible refine pc_let fun _ => ?_
    | with_reducible refine pc_letL fun _ => ?_
    | with_reducible refine pc_ldN fun _ => ?_
    | with_reducible refine pc_ldL fun _ => ?_
    | with_reducible refine pc_ldR fun _ => ?_
    | with_reducible refine pc_put (eqF.sN (by assumption) (by decide)) fun _ _ => ?_
    | with_reducible refine pc_put (eqF.sL (by assumption) (by decide)) fun _ _ => ?_
    | with_reducible refine pc_put (eqF.sR (by assumption) (by decide)) fun _ _ => ?_
    | with_reducible refine pc_stN (by decide) (by assumption) fun _ _ => ?_
    | with_reducible refine pc_stL (by decide) (by assumption) fun _ _ => ?_
    | with_reducible refine pc_stR (by decide) (by assumption) fun _ _ => ?_
    | with_reducible refine pc_cpN (by decide) (by assumption) fun _ _ => ?_
    | with_reducible refine pc_pure fun _ => ?_
    | exact pc_some (by assumption)
    | exact pc_some (eqF.bX (by assumption))
    | exact pc_some trivial
    | dsimp only
theorem fr_b_X0_partByUnits_27 {m0 : MM} {l0 : Nat} {l2 : Int} {l3 : Int} {l4 : Int} {l5 : Int} {mm : MM} (h : eqF [0, 16] m0 mm) : Pc (b_X0_partByUnits_27 l0 l2 l3 l4 l5 mm) (fun z => Sum.elim (fun s => eqF [0, 16] m0 s.2.2.2) (fun z => eqF [0, 16] m0 z) z) := by
  unfold b_X0_partByUnits_27
  repeat' first
    | with_reducible exact pc_x0
    | with_reducible exact pc_xt (by assumption)
    | with_reducible exact pc_xr (by assumption)
    | with_reducible exact fr_j_X0_partByUnits_27_81 (by assumption)
    | with_reducible refine pc_nk fun _ => ?_
    | with_reducible refine pc_if ?_ ?_
    | with_reducible refine pc_ck ?_
    | with_reducible refine pc_cb ?_
    | with_reducible refine pc_dv ?_
    | with_reducible refine pc_let fun _ => ?_
    | with_reducible refine pc_letL fun _ => ?_
    | with_reducible refine pc_ldN fun _ => ?_
    | with_reducible refine pc_ldL fun _ => ?_
    | with_reducible refine pc_ldR fun _ => ?_
    | with_reducible refine pc_put (eqF.sN (by assumption) (by decide)) fun _ _ => ?_
    | with_reducible refine pc_put (eqF.sL (by assumption) (by decide)) fun _ _ => ?_
    | with_reducible refine pc_put (eqF.sR (by assumption) (by decide)) fun _ _ => ?_
    | with_reducible refine pc_stN (by decide) (by assumption) fun _ _ => ?_
    | with_reducible refine pc_stL (by decide) (by assumption) fun _ _ => ?_
    | with_reducible refine pc_stR (by decide) (by assumption) fun _ _ => ?_
    | with_reducible refine pc_cpN (by decide) (by assumption) fun _ _ => ?_
    | with_reducible refine pc_pure fun _ => ?_
    | exact pc_some (by assumption)
    | exact pc_some (eqF.bX (by assumption))
    | exact pc_some trivial
    | dsimp only
theorem fr_j_X0_partByUnits_0_96 {m0 : MM} {m : MM} {l0 : Nat} (h : eqF [0, 16] m0 m) : Pc (j_X0_partByUnits_0_96 m l0) (RF [0, 16] m0) := by
  unfold j_X0_partByUnits_0_96
  repeat' first
    | with_reducible exact pc_x0
    | with_reducible exact pc_xt (by assumption)
    | with_reducible exact pc_xr (by assumption)
    | with_reducible refine pc_nk fun _ => ?_
    | with_reducible refine pc_if ?_ ?_
    | with_reducible refine pc_ck ?_
    | with_reducible refine pc_cb ?_
    | with_reducible refine pc_dv ?_
    | with_reducible refine pc_let fun _ => ?_
    | with_reducible refine pc_letL fun _ => ?_
    | with_reducible refine pc_ldN fun _ => ?_
    | with_reducible refine pc_ldL fun _ => ?_
    | with_reducible refine pc_ldR fun _ => ?_
    | with_reducible refine pc_put (eqF.sN (by assumption) (by decide)) fun _ _ => ?_
    | with_reducible refine pc_put (eqF.sL (by assumption) (by decide)) fun _ _ => ?_
    | with_reducible refine pc_put (eqF.sR (by assumption) (by decide)) fun _ _ => ?_
    | with_reducible refine pc_stN (by decide) (by assumption) fun _ _ => ?_
    | with_reducible refine pc_stL (by decide) (by assumption) fun _ _ => ?_
    | with_reducible refine pc_stR (by decide) (by assumption) fun _ _ => ?_
    | with_reducible refine pc_cpN (by decide) (by assumption) fun _ _ => ?_
    | with_reducible refine pc_pure fun _ => ?_
    | exact pc_some (by assumption)
    | exact pc_some (eqF.bX (by assumption))
    | exact pc_some trivial
    | dsimp only
theorem fr_f_X0_partByUnits {m0 : MM} {m : MM} {l0 : Nat} {l1 : Int} (h : eqF [0, 16] m0 m) : Pc (f_X0_partByUnits m l0 l1) (RF [0, 16] m0) := by
  unfold f_X0_partByUnits
  repeat' first
    | with_reducible exact pc_x0
    | with_reducible exact pc_xt (by assumption)
    | with_reducible exact pc_xr (by assumption)
    | with_reducible exact fr_j_X0_partByUnits_0_96 (by assumption)
    | with_reducible refine pc_nk fun _ => ?_
    | with_reducible refine pc_if ?_ ?_
    | with_reducible refine pc_ck ?_
    | with_reducible refine pc_cb ?_
    | with_reducible refine pc_dv ?_
    | with_reducible refine pc_let fun _ => ?_
    | with_reducible refine pc_letL fun _ => ?_
    | with_reducible refine pc_ldN fun _ => ?_
    | with_reducible refine pc_ldL fun _ => ?_
    | with_reducible refine pc_ldR fun _ => ?_
    | with_reducible refine pc_put (eqF.sN (by assumption) (by decide)) fun _ _ => ?_
    | with_reducible refine pc_put (eqF.sL (by assumption) (by decide)) fun _ _ => ?_
    | with_reducible refine pc_put (eqF.sR (by assumption) (by decide)) fun _ _ => ?_
    | with_reducible refine pc_stN (by decide) (by assumption) fun _ _ => ?_
    | with_reducible refine pc_stL (by decide) (by assumption) fun _ _ => ?_
    | with_reducible refine pc_stR (by decide) (by assumption) fun _ _ => ?_
    | with_reducible refine pc_cpN (by decide) (by assumption) fun _ _ => ?_
    | with_reducible refine pc_lp (fun s => eqF [0, 16] m0 s.2.2.2) (fun z => eqF [0, 16] m0 z) (by assumption) (fun s hs => fr_b_X0_partByUnits_27 hs) (fun z hz => ?_)
    | with_reducible refine pc_pure fun _ => ?_
    | exact pc_some (by assumption)
    | exact pc_some (eqF.bX (by assumption))
    | exact pc_some trivial
    | dsimp only
theorem fr_j_X11_castOff_0_56 {m0 : MM} {m : MM} {l2 : Int} {l3 : Nat} {s0 : Int} (h : eqF [0, 16] m0 m) : Pc (j_X11_castOff_0_56 m l2 l3 s0) (RF [0, 16] m0) := by
  unfold j_X11_castOff_0_56
  repeat' first
    | with_reducible exact pc_x0
    | with_reducible exact pc_xt (by assumption)
    | with_reducible exact pc_xr (by assumption)
    | with_reducible refine pc_nk fun _ => ?_
    | with_reducible refine pc_if ?_ ?_
    | with_reducible refine pc_ck ?_
    | with_reducible refine pc_cb ?_
    | with_reducible refine pc_dv ?_
    | with_reducible refine pc_let fun _ => ?_
    | with_reducible refine pc_letL fun _ => ?_
    | with_reducible refine pc_ldN fun _ => ?_
    | with_reducible refine pc_ldL fun _ => ?_
    | with_reducible refine pc_ldR fun _ => ?_
    | with_reducible refine pc_put (eqF.sN (by assumption) (by decide)) fun _ _ => ?_
    | with_reducible refine pc_put (eqF.sL (by assumption) (by decide)) fun _ _ => ?_
    | with_reducible refine pc_put (eqF.sR (by assumption) (by decide)) fun _ _ => ?_
    | with_reducible refine pc_stN (by decide) (by assumption) fun _ _ => ?_
    | with_reducible refine pc_stL (by decide) (by assumption) fun _ _ => ?_
    | with_reducible refine pc_stR (by decide) (by assumption) fun _ _ => ?_
    | with_reducible refine pc_cpN (by decide) (by assumption) fun _ _ => ?_
    | with_reducible refine pc_bV (fr_f_X0_partByUnits (m0 := _) eqF.rf) (by decide) (by assumption) (fun _ _ => ?_) (fun _ _ _ => ?_)
    | with_reducible refine pc_bV (fr_f_X11_requireState (m0 := _) eqF.rf) (by decide) (by assumption) (fun _ _ => ?_) (fun _ _ _ => ?_)
    | with_reducible refine pc_pure fun _ => ?_
    | exact pc_some (by assumption)
    | exact pc_some (eqF.bX (by assumption))
    | exact pc_some trivial
    | dsimp only
theorem fr_j_X11_castOff_0_55 {m0 : MM} {m : MM} {l2 : Int} {l3 : Nat} (h : eqF [0, 16] m0 m) : Pc (j_X11_castOff_0_55 m l2 l3) (RF [0, 16] m0) := by
  unfold j_X11_castOff_0_55
  repeat' first
    | with_reducible exact pc_x0
    | with_reducible exact pc_xt (by assumption)
    | with_reducible exact pc_xr (by assumption)
    | with_reducible exact fr_j_X11_castOff_0_56 (by assumption)
    | with_reducible refine pc_nk fun _ => ?_
    | with_reducible refine pc_if ?_ ?_
    | with_reducible refine pc_ck ?_
    | with_reducible refine pc_cb ?_
    | with_reducible refine pc_dv ?_
    | with_reducible refine pc_let fun _ => ?_
    | with_reducible refine pc_letL fun _ => ?_
    | with_reducible refine pc_ldN fun _ => ?_
    | with_reducible refine pc_ldL fun _ => ?_
    | with_reducible refine pc_ldR fun _ => ?_
    | with_reducible refine pc_put (eqF.sN (by assumption) (by decide)) fun _ _ => ?_
    | with_reducible refine pc_put (eqF.sL (by assumption) (by decide)) fun _ _ => ?_
    | with_reducible refine pc_put (eqF.sR (by assumption) (by decide)) fun _ _ => ?_
    | with_reducible refine pc_stN (by decide) (by assumption) fun _ _ => ?_
    | with_reducible refine pc_stL (by decide) (by assumption) fun _ _ => ?_
    | with_reducible refine pc_stR (by decide) (by assumption) fun _ _ => ?_
    | with_reducible refine pc_cpN (by decide) (by assumption) fun _ _ => ?_
    | with_reducible refine pc_pure fun _ => ?_
    | exact pc_some (by assumption)
    | exact pc_some (eqF.bX (by assumption))
    | exact pc_some trivial
    | dsimp only
theorem fr_j_X11_castOff_0_24 {m0 : MM} {m : MM} {l2 : Int} {l3 : Nat} {s0 : Int} (h : eqF [0, 16] m0 m) : Pc (j_X11_castOff_0_24 m l2 l3 s0) (RF [0, 16] m0) := by
  unfold j_X11_castOff_0_24
  repeat' first
    | with_reducible exact pc_x0
    | with_reducible exact pc_xt (by assumption)
    | with_reducible exact pc_xr (by assumption)
    | with_reducible exact fr_j_X11_castOff_0_55 (by assumption)
    | with_reducible exact fr_j_X11_castOff_0_56 (by assumption)
    | with_reducible refine pc_nk fun _ => ?_
    | with_reducible refine pc_if ?_ ?_
    | with_reducible refine pc_ck ?_
    | with_reducible refine pc_cb ?_
    | with_reducible refine pc_dv ?_
    | with_reducible refine pc_let fun _ => ?_
    | with_reducible refine pc_letL fun _ => ?_
    | with_reducible refine pc_ldN fun _ => ?_
    | with_reducible refine pc_ldL fun _ => ?_
    | with_reducible refine pc_ldR fun _ => ?_
    | with_reducible refine pc_put (eqF.sN (by assumption) (by decide)) fun _ _ => ?_
    | with_reducible refine pc_put (eqF.sL (by assumption) (by decide)) fun _ _ => ?_
    | with_reducible refine pc_put (eqF.sR (by assumption) (by decide)) fun _ _ => ?_
    | with_reducible refine pc_stN (by decide) (by assumption) fun _ _ => ?_
    | with_reducible refine pc_stL (by decide) (by assumption) fun _ _ => ?_
    | with_reducible refine pc_stR (by decide) (by assumption) fun _ _ => ?_
    | with_reducible refine pc_cpN (by decide) (by assumption) fun _ _ => ?_
    | with_reducible refine pc_bV (fr_f_X11_requireArgument (m0 := _) eqF.rf) (by decide) (by assumption) (fun _ _ => ?_) (fun _ _ _ => ?_)
    | with_reducible refine pc_pure fun _ => ?_
    | exact pc_some (by assumption)
    | exact pc_some (eqF.bX (by assumption))
    | exact pc_some trivial
    | dsimp only
theorem fr_j_X11_castOff_0_23 {m0 : MM} {m : MM} {l2 : Int} {l3 : Nat} (h : eqF [0, 16] m0 m) : Pc (j_X11_castOff_0_23 m l2 l3) (RF [0, 16] m0) := by
  unfold j_X11_castOff_0_23
  repeat' first
    | with_reducible exact pc_x0
    | with_reducible exact pc_xt (by assumption)
    | with_reducible exact pc_xr (by assumption)
    | with_reducible exact fr_j_X11_castOff_0_24 (by assumption)
    | with_reducible refine pc_nk fun _ => ?_
    | with_reducible refine pc_if ?_ ?_
    | with_reducible refine pc_ck ?_
    | with_reducible refine pc_cb ?_
    | with_reducible refine pc_dv ?_
    | with_reducible refine pc_let fun _ => ?_
    | with_reducible refine pc_letL fun _ => ?_
    | with_reducible refine pc_ldN fun _ => ?_
    | with_reducible refine pc_ldL fun _ => ?_
    | with_reducible refine pc_ldR fun _ => ?_
    | with_reducible refine pc_put (eqF.sN (by assumption) (by decide)) fun _ _ => ?_
    | with_reducible refine pc_put (eqF.sL (by assumption) (by decide)) fun _ _ => ?_
    | with_reducible refine pc_put (eqF.sR (by assumption) (by decide)) fun _ _ => ?_
    | with_reducible refine pc_stN (by decide) (by assumption) fun _ _ => ?_
    | with_reducible refine pc_stL (by decide) (by assumption) fun _ _ => ?_
    | with_reducible refine pc_stR (by decide) (by assumption) fun _ _ => ?_
    | with_reducible refine pc_cpN (by decide) (by assumption) fun _ _ => ?_
    | with_reducible refine pc_pure fun _ => ?_
    | exact pc_some (by assumption)
    | exact pc_some (eqF.bX (by assumption))
    | exact pc_some trivial
    | dsimp only
theorem fr_f_X11_castOff {m0 : MM} {m : MM} {l0 : Nat} {l1 : Int} {l2 : Int} (h : eqF [0, 16] m0 m) : Pc (f_X11_castOff m l0 l1 l2) (RF [0, 16] m0) := by
  unfold f_X11_castOff
  repeat' first
    | with_reducible exact pc_x0
    | with_reducible exact pc_xt (by assumption)
    | with_reducible exact pc_xr (by assumption)
    | with_reducible exact fr_j_X11_castOff_0_23 (by assumption)
    | with_reducible exact fr_j_X11_castOff_0_24 (by assumption)
    | with_reducible refine pc_nk fun _ => ?_
    | with_reducible refine pc_if ?_ ?_
    | with_reducible refine pc_ck ?_
    | with_reducible refine pc_cb ?_
    | with_reducible refine pc_dv ?_
    | with_reducible refine pc_let fun _ => ?_
    | with_reducible refine pc_letL fun _ => ?_
    | with_reducible refine pc_ldN fun _ => ?_
    | with_reducible refine pc_ldL fun _ => ?_
    | with_reducible refine pc_ldR fun _ => ?_
    | with_reducible refine pc_put (eqF.sN (by assumption) (by decide)) fun _ _ => ?_
    | with_reducible refine pc_put (eqF.sL (by assumption) (by decide)) fun _ _ => ?_
    | with_reducible refine pc_put (eqF.sR (by assumption) (by decide)) fun _ _ => ?_
    | with_reducible refine pc_stN (by decide) (by assumption) fun _ _ => ?_
    | with_reducible refine pc_stL (by decide) (by assumption) fun _ _ => ?_
    | with_reducible refine pc_stR (by decide) (by assumption) fun _ _ => ?_
    | with_reducible refine pc_cpN (by decide) (by assumption) fun _ _ => ?_
    | with_reducible refine pc_bR (fr_f_X11_bookAt (m0 := _) eqF.rf) (by decide) (by assumption) (fun _ _ _ => ?_) (fun _ _ _ => ?_)
    | with_reducible refine pc_pure fun _ => ?_
    | exact pc_some (by assumption)
    | exact pc_some (eqF.bX (by assumption))
    | exact pc_some trivial
    | dsimp only
theorem fr_j_X11_character_0_48 {m0 : MM} {m : MM} {l2 : Int} {l3 : Int} {l4 : Int} {l5 : Int} {l6 : Nat} {s0 : Int} (h : eqF [] m0 m) : Pc (j_X11_character_0_48 m l2 l3 l4 l5 l6 s0) (RF [] m0) := by
  unfold j_X11_character_0_48
  repeat' first
    | with_reducible exact pc_x0
    | with_reducible exact pc_xt (by assumption)
    | with_reducible exact pc_xr (by assumption)
    | with_reducible refine pc_nk fun _ => ?_
    | with_reducible refine pc_if ?_ ?_
    | with_reducible refine pc_ck ?_
    | with_reducible refine pc_cb ?_
    | with_reducible refine pc_dv ?_
    | with_reducible refine pc_let fun _ => ?_
    | with_reducible refine pc_letL fun _ => ?_
    | with_reducible refine pc_ldN fun _ => ?_
    | with_reducible refine pc_ldL fun _ => ?_
    | with_reducible refine pc_ldR fun _ => ?_
    | with_reducible refine pc_put (eqF.sN (by assumption) (by decide)) fun _ _ => ?_
    | with_reducible refine pc_put (eqF.sL (by assumption) (by decide)) fun _ _ => ?_
    | with_reducible refine pc_put (eqF.sR (by assumption) (by decide)) fun _ _ => ?_
    | with_reducible refine pc_stN (by decide) (by assumption) fun _ _ => ?_
    | with_reducible refine pc_stL (by decide) (by assumption) fun _ _ => ?_
    | with_reducible refine pc_stR (by decide) (by assumption) fun _ _ => ?_
    | with_reducible refine pc_cpN (by decide) (by assumption) fun _ _ => ?_
    | with_reducible refine pc_bV (fr_f_X11_requireIndex (m0 := _) eqF.rf) (by decide) (by assumption) (fun _ _ => ?_) (fun _ _ _ => ?_)
    | with_reducible refine pc_bV (fr_f_X11_requireState (m0 := _) eqF.rf) (by decide) (by assumption) (fun _ _ => ?_) (fun _ _ _ => ?_)
    | with_reducible refine pc_pure fun _ => ?_
    | exact pc_some (by assumption)
    | exact pc_some (eqF.bX (by assumption))
    | exact pc_some trivial
    | dsimp only
theorem fr_j_X11_character_0_47 {m0 : MM} {m : MM} {l2 : Int} {l3 : Int} {l4 : Int} {l5 : Int} {l6 : Nat} (h : eqF [] m0 m) : Pc (j_X11_character_0_47 m l2 l3 l4 l5 l6) (RF [] m0) := by
  unfold j_X11_character_0_47
  repeat' first
    | with_reducible exact pc_x0
    | with_reducible exact pc_xt (by assumption)
    | with_reducible exact pc_xr (by assumption)
    | with_reducible exact fr_j_X11_character_0_48 (by assumption)
    | with_reducible refine pc_nk fun _ => ?_
    | with_reducible refine pc_if ?_ ?_
    | with_reducible refine pc_ck ?_
    | with_reducible refine pc_cb ?_
    | with_reducible refine pc_dv ?_
    | with_reducible refine pc_let fun _ => ?_
    | with_reducible refine pc_letL fun _ => ?_
    | with_reducible refine pc_ldN fun _ => ?_
    | with_reducible refine pc_ldL fun _ => ?_
    | with_reducible refine pc_ldR fun _ => ?_
    | with_reducible refine pc_put (eqF.sN (by assumption) (by decide)) fun _ _ => ?_
    | with_reducible refine pc_put (eqF.sL (by assumption) (by decide)) fun _ _ => ?_
    | with_reducible refine pc_put (eqF.sR (by assumption) (by decide)) fun _ _ => ?_
    | with_reducible refine pc_stN (by decide) (by assumption) fun _ _ => ?_
    | with_reducible refine pc_stL (by decide) (by assumption) fun _ _ => ?_
    | with_reducible refine pc_stR (by decide) (by assumption) fun _ _ => ?_
    | with_reducible refine pc_cpN (by decide) (by assumption) fun _ _ => ?_
    | with_reducible refine pc_pure fun _ => ?_
    | exact pc_some (by assumption)
    | exact pc_some (eqF.bX (by assumption))
    | exact pc_some trivial
    | dsimp only
theorem fr_j_X11_character_0_30 {m0 : MM} {m : MM} {l2 : Int} {l3 : Int} {l4 : Int} {l5 : Int} {l6 : Nat} {s0 : Int} (h : eqF [] m0 m) : Pc (j_X11_character_0_30 m l2 l3 l4 l5 l6 s0) (RF [] m0) := by
  unfold j_X11_character_0_30
  repeat' first
    | with_reducible exact pc_x0
    | with_reducible exact pc_xt (by assumption)
    | with_reducible exact pc_xr (by assumption)
    | with_reducible exact fr_j_X11_character_0_47 (by assumption)
    | with_reducible exact fr_j_X11_character_0_48 (by assumption)
    | with_reducible refine pc_nk fun _ => ?_
    | with_reducible refine pc_if ?_ ?_
    | with_reducible refine pc_ck ?_
    | with_reducible refine pc_cb ?_
    | with_reducible refine pc_dv ?_
    | with_reducible refine pc_let fun _ => ?_
    | with_reducible refine pc_letL fun _ => ?_
    | with_reducible refine pc_ldN fun _ => ?_
    | with_reducible refine pc_ldL fun _ => ?_
    | with_reducible refine pc_ldR fun _ => ?_
    | with_reducible refine pc_put (eqF.sN (by assumption) (by decide)) fun _ _ => ?_
    | with_reducible refine pc_put (eqF.sL (by assumption) (by decide)) fun _ _ => ?_
    | with_reducible refine pc_put (eqF.sR (by assumption) (by decide)) fun _ _ => ?_
    | with_reducible refine pc_stN (by decide) (by assumption) fun _ _ => ?_
    | with_reducible refine pc_stL (by decide) (by assumption) fun _ _ => ?_
    | with_reducible refine pc_stR (by decide) (by assumption) fun _ _ => ?_
    | with_reducible refine pc_cpN (by decide) (by assumption) fun _ _ => ?_
    | with_reducible refine pc_bV (fr_f_X11_requireIndex (m0 := _) eqF.rf) (by decide) (by assumption) (fun _ _ => ?_) (fun _ _ _ => ?_)
    | with_reducible refine pc_pure fun _ => ?_
    | exact pc_some (by assumption)
    | exact pc_some (eqF.bX (by assumption))
    | exact pc_some trivial
    | dsimp only
theorem fr_j_X11_character_0_29 {m0 : MM} {m : MM} {l2 : Int} {l3 : Int} {l4 : Int} {l5 : Int} {l6 : Nat} (h : eqF [] m0 m) : Pc (j_X11_character_0_29 m l2 l3 l4 l5 l6) (RF [] m0) := by
  unfold j_X11_character_0_29
  repeat' first
    | with_reducible exact pc_x0
    | with_reducible exact pc_xt (by assumption)
    | with_reducible exact pc_xr (by assumption)
    | with_reducible exact fr_j_X11_character_0_30 (by assumption)
    | with_reducible refine pc_nk fun _ => ?_
    | with_reducible refine pc_if ?_ ?_
    | with_reducible refine pc_ck ?_
    | with_reducible refine pc_cb ?_
    | with_reducible refine pc_dv ?_
    | with_reducible refine pc_let fun _ => ?_
    | with_reducible refine pc_letL fun _ => ?_
    | with_reducible refine pc_ldN fun _ => ?_
    | with_reducible refine pc_ldL fun _ => ?_
    | with_reducible refine pc_ldR fun _ => ?_
    | with_reducible refine pc_put (eqF.sN (by assumption) (by decide)) fun _ _ => ?_
    | with_reducible refine pc_put (eqF.sL (by assumption) (by decide)) fun _ _ => ?_
    | with_reducible refine pc_put (eqF.sR (by assumption) (by decide)) fun _ _ => ?_
    | with_reducible refine pc_stN (by decide) (by assumption) fun _ _ => ?_
    | with_reducible refine pc_stL (by decide) (by assumption) fun _ _ => ?_
    | with_reducible refine pc_stR (by decide) (by assumption) fun _ _ => ?_
    | with_reducible refine pc_cpN (by decide) (by assumption) fun _ _ => ?_
    | with_reducible refine pc_pure fun _ => ?_
    | exact pc_some (by assumption)
    | exact pc_some (eqF.bX (by assumption))
    | exact pc_some trivial
    | dsimp only
theorem fr_f_X11_character {m0 : MM} {m : MM} {l0 : Nat} {l1 : Int} {l2 : Int} {l3 : Int} {l4 : Int} {l5 : Int} (h : eqF [] m0 m) : Pc (f_X11_character m l0 l1 l2 l3 l4 l5) (RF [] m0) := by
  unfold f_X11_character
  repeat' first
    | with_reducible exact pc_x0
    | with_reducible exact pc_xt (by assumption)
    | with_reducible exact pc_xr (by assumption)
    | with_reducible exact fr_j_X11_character_0_29 (by assumption)
    | with_reducible exact fr_j_X11_character_0_30 (by assumption)
    | with_reducible refine pc_nk fun _ => ?_
    | with_reducible refine pc_if ?_ ?_
    | with_reducible refine pc_ck ?_
    | with_reducible refine pc_cb ?_
    | with_reducible refine pc_dv ?_
    | with_reducible refine pc_let fun _ => ?_
    | with_reducible refine pc_letL fun _ => ?_
    | with_reducible refine pc_ldN fun _ => ?_
    | with_reducible refine pc_ldL fun _ => ?_
    | with_reducible refine pc_ldR fun _ => ?_
    | with_reducible refine pc_put (eqF.sN (by assumption) (by decide)) fun _ _ => ?_
    | with_reducible refine pc_put (eqF.sL (by assumption) (by decide)) fun _ _ => ?_
    | with_reducible refine pc_put (eqF.sR (by assumption) (by decide)) fun _ _ => ?_
    | with_reducible refine pc_stN (by decide) (by assumption) fun _ _ => ?_
    | with_reducible refine pc_stL (by decide) (by assumption) fun _ _ => ?_
    | with_reducible refine pc_stR (by decide) (by assumption) fun _ _ => ?_
    | with_reducible refine pc_cpN (by decide) (by assumption) fun _ _ => ?_
    | with_reducible refine pc_bR (fr_f_X11_bookAt (m0 := _) eqF.rf) (by decide) (by assumption) (fun _ _ _ => ?_) (fun _ _ _ => ?_)
    | with_reducible refine pc_pure fun _ => ?_
    | exact pc_some (by assumption)
    | exact pc_some (eqF.bX (by assumption))
    | exact pc_some trivial
    | dsimp only
theorem fr_j_X10_splitText_10_111 {m0 : MM} {m : MM} {l0 : Nat} {l1 : Int} {l5 : Int} {s0 : Nat} {s1 : Int} {s2 : Int} (h : eqF [51, 52] m0 m) : Pc (j_X10_splitText_10_111 m l0 l1 l5 s0 s1 s2) (fun z => Sum.elim (fun s => eqF [51, 52] m0 s.2.2.2.2) (fun z => eqF [51, 52] m0 z.2) z) := by
  unfold j_X10_splitText_10_111
  repeat' first
    | with_reducible exact pc_x0
    | with_reducible exact pc_xt (by assumption)
    | with_reducible exact pc_xr (by assumption)
    | with_reducible refine pc_nk fun _ => ?_
    | with_reducible refine pc_if ?_ ?_
    | with_reducible refine pc_ck ?_
    | with_reducible refine pc_cb ?_
    | with_reducible refine pc_dv ?_
    | with_reducible refine pc_let fun _ => ?_
    | with_reducible refine pc_letL fun _ => ?_
    | with_reducible refine pc_ldN fun _ => ?_
    | with_reducible refine pc_ldL fun _ => ?_
    | with_reducible refine pc_ldR fun _ => ?_
    | with_reducible refine pc_put (eqF.sN (by assumption) (by decide)) fun _ _ => ?_
    | with_reducible refine pc_put (eqF.sL (by assumption) (by decide)) fun _ _ => ?_
    | with_reducible refine pc_put (eqF.sR (by assumption) (by decide)) fun _ _ => ?_
    | with_reducible refine pc_stN (by decide) (by assumption) fun _ _ => ?_
    | with_reducible refine pc_stL (by decide) (by assumption) fun _ _ => ?_
    | with_reducible refine pc_stR (by decide) (by assumption) fun _ _ => ?_
    | with_reducible refine pc_cpN (by decide) (by assumption) fun _ _ => ?_
    | with_reducible refine pc_pure fun _ => ?_
    | exact pc_some (by assumption)
    | exact pc_some (eqF.bX (by assumption))
    | exact pc_some trivial
    | dsimp only
theorem fr_j_X10_splitText_10_106 {m0 : MM} {m : MM} {l0 : Nat} {l1 : Int} {l5 : Int} {s0 : Nat} {s1 : Int} (h : eqF [51, 52] m0 m) : Pc (j_X10_splitText_10_106 m l0 l1 l5 s0 s1) (fun z => Sum.elim (fun s => eqF [51, 52] m0 s.2.2.2.2) (fun z => eqF [51, 52] m0 z.2) z) := by
  unfold j_X10_splitText_10_106
  repeat' first
    | with_reducible exact pc_x0
    | with_reducible exact pc_xt (by assumption)
    | with_reducible exact pc_xr (by assumption)
    | with_reducible exact fr_j_X10_splitText_10_111 (by assumption)
    | with_reducible refine pc_nk fun _ => ?_
    | with_reducible refine pc_if ?_ ?_
    | with_reducible refine pc_ck ?_
    | with_reducible refine pc_cb ?_
    | with_reducible refine pc_dv ?_
    | with_reducible refine pc_let fun _ => ?_
    | with_reducible refine pc_letL fun _ => ?_
    | with_reducible refine pc_ldN fun _ => ?_
    | with_reducible refine pc_ldL fun _ => ?_
    | with_reducible refine pc_ldR fun _ => ?_
    | with_reducible refine pc_put (eqF.sN (by assumption) (by decide)) fun _ _ => ?_
    | with_reducible refine pc_put (eqF.sL (by assumption) (by decide)) fun _ _ => ?_
    | with_reducible refine pc_put (eqF.sR (by assumption) (by decide)) fun _ _ => ?_
    | with_reducible refine pc_stN (by decide) (by assumption) fun _ _ => ?_
    | with_reducible refine pc_stL (by decide) (by assumption) fun _ _ => ?_
    | with_reducible refine pc_stR (by decide) (by assumption) fun _ _ => ?_
    | with_reducible refine pc_cpN (by decide) (by assumption) fun _ _ => ?_
    | with_reducible refine pc_pure fun _ => ?_
    | exact pc_some (by assumption)
    | exact pc_some (eqF.bX (by assumption))
    | exact pc_some trivial
    | dsimp only
theorem fr_j_X10_splitText_10_64 {m0 : MM} {m : MM} {l0 : Nat} {l1 : Int} {l2 : Int64} {l4 : Int} {l5 : Int} (h : eqF [51, 52] m0 m) : Pc (j_X10_splitText_10_64 m l0 l1 l2 l4 l5) (fun z => Sum.elim (fun s => eqF [51, 52] m0 s.2.2.2.2) (fun z => eqF [51, 52] m0 z.2) z) := by
  unfold j_X10_splitText_10_64
  repeat' first
    | with_reducible exact pc_x0
    | with_reducible exact pc_xt (by assumption)
    | with_reducible exact pc_xr (by assumption)
    | with_reducible exact fr_j_X10_splitText_10_106 (by assumption)
    | with_reducible exact fr_j_X10_splitText_10_111 (by assumption)
    | with_reducible refine pc_nk fun _ => ?_
    | with_reducible refine pc_if ?_ ?_
    | with_reducible refine pc_ck ?_
    | with_reducible refine pc_cb ?_
    | with_reducible refine pc_dv ?_
    | with_reducible refine pc_let fun _ => ?_
    | with_reducible refine pc_letL fun _ => ?_
    | with_reducible refine pc_ldN fun _ => ?_
    | with_reducible refine pc_ldL fun _ => ?_
    | with_reducible refine pc_ldR fun _ => ?_
    | with_reducible refine pc_put (eqF.sN (by assumption) (by decide)) fun _ _ => ?_
    | with_reducible refine pc_put (eqF.sL (by assumption) (by decide)) fun _ _ => ?_
    | with_reducible refine pc_put (eqF.sR (by assumption) (by decide)) fun _ _ => ?_
    | with_reducible refine pc_stN (by decide) (by assumption) fun _ _ => ?_
    | with_reducible refine pc_stL (by decide) (by assumption) fun _ _ => ?_
    | with_reducible refine pc_stR (by decide) (by assumption) fun _ _ => ?_
    | with_reducible refine pc_cpN (by decide) (by assumption) fun _ _ => ?_
    | with_reducible refine pc_pure fun _ => ?_
    | exact pc_some (by assumption)
    | exact pc_some (eqF.bX (by assumption))
    | exact pc_some trivial
    | dsimp only
theorem fr_b_X10_splitText_10 {m0 : MM} {l0 : Nat} {l1 : Int} {l2 : Int64} {l4 : Int} {l5 : Int} {mm : MM} (h : eqF [51, 52] m0 mm) : Pc (b_X10_splitText_10 l0 l1 l2 l4 l5 mm) (fun z => Sum.elim (fun s => eqF [51, 52] m0 s.2.2.2.2) (fun z => eqF [51, 52] m0 z.2) z) := by
  unfold b_X10_splitText_10
  repeat' first
    | with_reducible exact pc_x0
    | with_reducible exact pc_xt (by assumption)
    | with_reducible exact pc_xr (by assumption)
    | with_reducible exact fr_j_X10_splitText_10_64 (by assumption)
    | with_reducible refine pc_nk fun _ => ?_
    | with_reducible refine pc_if ?_ ?_
    | with_reducible refine pc_ck ?_
    | with_reducible refine pc_cb ?_
    | with_reducible refine pc_dv ?_
    | with_reducible refine pc_let fun _ => ?_
    | with_reducible refine pc_letL fun _ => ?_
    | with_reducible refine pc_ldN fun _ => ?_
    | with_reducible refine pc_ldL fun _ => ?_
    | with_reducible refine pc_ldR fun _ => ?_
    | with_reducible refine pc_put (eqF.sN (by assumption) (by decide)) fun _ _ => ?_
    | with_reducible refine pc_put (eqF.sL (by assumption) (by decide)) fun _ _ => ?_
    | with_reducible refine pc_put (eqF.sR (by assumption) (by decide)) fun _ _ => ?_
    | with_reducible refine pc_stN (by decide) (by assumption) fun _ _ => ?_
    | with_reducible refine pc_stL (by decide) (by assumption) fun _ _ => ?_
    | with_reducible refine pc_stR (by decide) (by assumption) fun _ _ => ?_
    | with_reducible refine pc_cpN (by decide) (by assumption) fun _ _ => ?_
    | with_reducible refine pc_pure fun _ => ?_
    | exact pc_some (by assumption)
    | exact pc_some (eqF.bX (by assumption))
    | exact pc_some trivial
    | dsimp only
theorem fr_j_X10_splitText_0_126 {m0 : MM} {m : MM} {l1 : Int} (h : eqF [51, 52] m0 m) : Pc (j_X10_splitText_0_126 m l1) (RF [51, 52] m0) := by
  unfold j_X10_splitText_0_126
  repeat' first
    | with_reducible exact pc_x0
    | with_reducible exact pc_xt (by assumption)
    | with_reducible exact pc_xr (by assumption)
    | with_reducible refine pc_nk fun _ => ?_
    | with_reducible refine pc_if ?_ ?_
    | with_reducible refine pc_ck ?_
    | with_reducible refine pc_cb ?_
    | with_reducible refine pc_dv ?_
    | with_reducible refine pc_let fun _ => ?_
    | with_reducible refine pc_letL fun _ => ?_
    | with_reducible refine pc_ldN fun _ => ?_
    | with_reducible refine pc_ldL fun _ => ?_
    | with_reducible refine pc_ldR fun _ => ?_
    | with_reducible refine pc_put (eqF.sN (by assumption) (by decide)) fun _ _ => ?_
    | with_reducible refine pc_put (eqF.sL (by assumption) (by decide)) fun _ _ => ?_
    | with_reducible refine pc_put (eqF.sR (by assumption) (by decide)) fun _ _ => ?_
    | with_reducible refine pc_stN (by decide) (by assumption) fun _ _ => ?_
    | with_reducible refine pc_stL (by decide) (by assumption) fun _ _ => ?_
    | with_reducible refine pc_stR (by decide) (by assumption) fun _ _ => ?_
    | with_reducible refine pc_cpN (by decide) (by assumption) fun _ _ => ?_
    | with_reducible refine pc_pure fun _ => ?_
    | exact pc_some (by assumption)
    | exact pc_some (eqF.bX (by assumption))
    | exact pc_some trivial
    | dsimp only
theorem fr_f_X10_splitText {m0 : MM} {m : MM} {l0 : Nat} (h : eqF [51, 52] m0 m) : Pc (f_X10_splitText m l0) (RF [51, 52] m0) := by
  unfold f_X10_splitText
  repeat' first
    | with_reducible exact pc_x0
    | with_reducible exact pc_xt (by assumption)
    | with_reducible exact pc_xr (by assumption)
    | with_reducible exact fr_j_X10_splitText_0_126 (by assumption)
    | with_reducible refine pc_nk fun _ => ?_
    | with_reducible refine pc_if ?_ ?_
    | with_reducible refine pc_ck ?_
    | with_reducible refine pc_cb ?_
    | with_reducible refine pc_dv ?_
    | with_reducible refine pc_let fun _ => ?_
    | with_reducible refine pc_letL fun _ => ?_
    | with_reducible refine pc_ldN fun _ => ?_
    | with_reducible refine pc_ldL fun _ => ?_
    | with_reducible refine pc_ldR fun _ => ?_
    | with_reducible refine pc_put (eqF.sN (by assumption) (by decide)) fun _ _ => ?_
    | with_reducible refine pc_put (eqF.sL (by assumption) (by decide)) fun _ _ => ?_
    | with_reducible refine pc_put (eqF.sR (by assumption) (by decide)) fun _ _ => ?_
    | with_reducible refine pc_stN (by decide) (by assumption) fun _ _ => ?_
    | with_reducible refine pc_stL (by decide) (by assumption) fun _ _ => ?_
    | with_reducible refine pc_stR (by decide) (by assumption) fun _ _ => ?_
    | with_reducible refine pc_cpN (by decide) (by assumption) fun _ _ => ?_
    | with_reducible refine pc_lp (fun s => eqF [51, 52] m0 s.2.2.2.2) (fun z => eqF [51, 52] m0 z.2) (by assumption) (fun s hs => fr_b_X10_splitText_10 hs) (fun z hz => ?_)
    | with_reducible refine pc_pure fun _ => ?_
    | exact pc_some (by assumption)
    | exact pc_some (eqF.bX (by assumption))
    | exact pc_some trivial
    | dsimp only
theorem fr_j_X9_add_0_92 {m0 : MM} {m : MM} {l0 : Nat} {l3 : Int} {s0 : Nat} {s1 : Int} {s2 : Int64} (h : eqF [9, 45, 46, 47, 48, 49] m0 m) : Pc (j_X9_add_0_92 m l0 l3 s0 s1 s2) (RF [9, 45, 46, 47, 48, 49] m0) := by
  unfold j_X9_add_0_92
  repeat' first
    | with_reducible exact pc_x0
    | with_reducible exact pc_xt (by assumption)
    | with_reducible exact pc_xr (by assumption)
    | with_reducible refine pc_nk fun _ => ?_
    | with_reducible refine pc_if ?_ ?_
    | with_reducible refine pc_ck ?_
    | with_reducible refine pc_cb ?_
    | with_reducible refine pc_dv ?_
    | with_reducible refine pc_let fun _ => ?_
    | with_reducible refine pc_letL fun _ => ?_
    | with_reducible refine pc_ldN fun _ => ?_
    | with_reducible refine pc_ldL fun _ => ?_
    | with_reducible refine pc_ldR fun _ => ?_
    | with_reducible refine pc_put (eqF.sN (by assumption) (by decide)) fun _ _ => ?_
    | with_reducible refine pc_put (eqF.sL (by assumption) (by decide)) fun _ _ => ?_
    | with_reducible refine pc_put (eqF.sR (by assumption) (by decide)) fun _ _ => ?_
    | with_reducible refine pc_stN (by decide) (by assumption) fun _ _ => ?_
    | with_reducible refine pc_stL (by decide) (by assumption) fun _ _ => ?_
    | with_reducible refine pc_stR (by decide) (by assumption) fun _ _ => ?_
    | with_reducible refine pc_cpN (by decide) (by assumption) fun _ _ => ?_
    | with_reducible refine pc_pure fun _ => ?_
    | exact pc_some (by assumption)
    | exact pc_some (eqF.bX (by assumption))
    | exact pc_some trivial
    | dsimp only
theorem fr_j_X9_add_0_65 {m0 : MM} {m : MM} {l0 : Nat} {l1 : Int64} {l3 : Int} {l4 : Nat} {l5 : Int} {s0 : Nat} {s1 : Int} {s2 : Int64} (h : eqF [9, 45, 46, 47, 48, 49] m0 m) : Pc (j_X9_add_0_65 m l0 l1 l3 l4 l5 s0 s1 s2) (RF [9, 45, 46, 47, 48, 49] m0) := by
  unfold j_X9_add_0_65
  repeat' first
    | with_reducible exact pc_x0
    | with_reducible exact pc_xt (by assumption)
    | with_reducible exact pc_xr (by assumption)
    | with_reducible exact fr_j_X9_add_0_92 (by assumption)
    | with_reducible refine pc_nk fun _ => ?_
    | with_reducible refine pc_if ?_ ?_
    | with_reducible refine pc_ck ?_
    | with_reducible refine pc_cb ?_
    | with_reducible refine pc_dv ?_
    | with_reducible refine pc_let fun _ => ?_
    | with_reducible refine pc_letL fun _ => ?_
    | with_reducible refine pc_ldN fun _ => ?_
    | with_reducible refine pc_ldL fun _ => ?_
    | with_reducible refine pc_ldR fun _ => ?_
    | with_reducible refine pc_put (eqF.sN (by assumption) (by decide)) fun _ _ => ?_
    | with_reducible refine pc_put (eqF.sL (by assumption) (by decide)) fun _ _ => ?_
    | with_reducible refine pc_put (eqF.sR (by assumption) (by decide)) fun _ _ => ?_
    | with_reducible refine pc_stN (by decide) (by assumption) fun _ _ => ?_
    | with_reducible refine pc_stL (by decide) (by assumption) fun _ _ => ?_
    | with_reducible refine pc_stR (by decide) (by assumption) fun _ _ => ?_
    | with_reducible refine pc_cpN (by decide) (by assumption) fun _ _ => ?_
    | with_reducible refine pc_pure fun _ => ?_
    | exact pc_some (by assumption)
    | exact pc_some (eqF.bX (by assumption))
    | exact pc_some trivial
    | dsimp only
theorem fr_f_X9_add {m0 : MM} {m : MM} {l0 : Nat} {l1 : Int64} {l3 : Int} {l4 : Nat} (h : eqF [9, 45, 46, 47, 48, 49] m0 m) : Pc (f_X9_add m l0 l1 l3 l4) (RF [9, 45, 46, 47, 48, 49] m0) := by
  unfold f_X9_add
  repeat' first
    | with_reducible exact pc_x0
    | with_reducible exact pc_xt (by assumption)
    | with_reducible exact pc_xr (by assumption)
    | with_reducible exact fr_j_X9_add_0_65 (by assumption)
    | with_reducible refine pc_nk fun _ => ?_
    | with_reducible refine pc_if ?_ ?_
    | with_reducible refine pc_ck ?_
    | with_reducible refine pc_cb ?_
    | with_reducible refine pc_dv ?_
    | with_reducible refine pc_let fun _ => ?_
    | with_reducible refine pc_letL fun _ => ?_
    | with_reducible refine pc_ldN fun _ => ?_
    | with_reducible refine pc_ldL fun _ => ?_
    | with_reducible refine pc_ldR fun _ => ?_
    | with_reducible refine pc_put (eqF.sN (by assumption) (by decide)) fun _ _ => ?_
    | with_reducible refine pc_put (eqF.sL (by assumption) (by decide)) fun _ _ => ?_
    | with_reducible refine pc_put (eqF.sR (by assumption) (by decide)) fun _ _ => ?_
    | with_reducible refine pc_stN (by decide) (by assumption) fun _ _ => ?_
    | with_reducible refine pc_stL (by decide) (by assumption) fun _ _ => ?_
    | with_reducible refine pc_stR (by decide) (by assumption) fun _ _ => ?_
    | with_reducible refine pc_cpN (by decide) (by assumption) fun _ _ => ?_
    | with_reducible refine pc_pure fun _ => ?_
    | exact pc_some (by assumption)
    | exact pc_some (eqF.bX (by assumption))
    | exact pc_some trivial
    | dsimp only
theorem fr_b_X11_copy_63 {m0 : MM} {l0 : Nat} {l2 : Nat} {l3 : Int} {l4 : Int} {mm : MM} (h : eqF [9, 10, 45, 46, 47, 48, 49, 51, 52] m0 mm) : Pc (b_X11_copy_63 l0 l2 l3 l4 mm) (fun z => Sum.elim (fun s => eqF [9, 10, 45, 46, 47, 48, 49, 51, 52] m0 s.2) (fun z => eqF [9, 10, 45, 46, 47, 48, 49, 51, 52] m0 z) z) := by
  unfold b_X11_copy_63
  repeat' first
    | with_reducible exact pc_x0
    | with_reducible exact pc_xt (by assumption)
    | with_reducible exact pc_xr (by assumption)
    | with_reducible refine pc_nk fun _ => ?_
    | with_reducible refine pc_if ?_ ?_
    | with_reducible refine pc_ck ?_
    | with_reducible refine pc_cb ?_
    | with_reducible refine pc_dv ?_
    | with_reducible refine pc_let fun _ => ?_
    | with_reducible refine pc_letL fun _ => ?_
    | with_reducible refine pc_ldN fun _ => ?_
    | with_reducible refine pc_ldL fun _ => ?_
    | with_reducible refine pc_ldR fun _ => ?_
    | with_reducible refine pc_put (eqF.sN (by assumption) (by decide)) fun _ _ => ?_
    | with_reducible refine pc_put (eqF.sL (by assumption) (by decide)) fun _ _ => ?_
    | with_reducible refine pc_put (eqF.sR (by assumption) (by decide)) fun _ _ => ?_
    | with_reducible refine pc_stN (by decide) (by assumption) fun _ _ => ?_
    | with_reducible refine pc_stL (by decide) (by assumption) fun _ _ => ?_
    | with_reducible refine pc_stR (by decide) (by assumption) fun _ _ => ?_
    | with_reducible refine pc_cpN (by decide) (by assumption) fun _ _ => ?_
    | with_reducible refine pc_bV (fr_f_X9_add (m0 := _) eqF.rf) (by decide) (by assumption) (fun _ _ => ?_) (fun _ _ _ => ?_)
    | with_reducible refine pc_pure fun _ => ?_
    | exact pc_some (by assumption)
    | exact pc_some (eqF.bX (by assumption))
    | exact pc_some trivial
    | dsimp only
theorem fr_j_X11_copy_0_106 {m0 : MM} {m : MM} {l0 : Nat} {l2 : Nat} (h : eqF [9, 10, 45, 46, 47, 48, 49, 51, 52] m0 m) : Pc (j_X11_copy_0_106 m l0 l2) (RF [9, 10, 45, 46, 47, 48, 49, 51, 52] m0) := by
  unfold j_X11_copy_0_106
  repeat' first
    | with_reducible exact pc_x0
    | with_reducible exact pc_xt (by assumption)
    | with_reducible exact pc_xr (by assumption)
    | with_reducible refine pc_nk fun _ => ?_
    | with_reducible refine pc_if ?_ ?_
    | with_reducible refine pc_ck ?_
    | with_reducible refine pc_cb ?_
    | with_reducible refine pc_dv ?_
    | with_reducible refine pc_let fun _ => ?_
    | with_reducible refine pc_letL fun _ => ?_
    | with_reducible refine pc_ldN fun _ => ?_
    | with_reducible refine pc_ldL fun _ => ?_
    | with_reducible refine pc_ldR fun _ => ?_
    | with_reducible refine pc_put (eqF.sN (by assumption) (by decide)) fun _ _ => ?_
    | with_reducible refine pc_put (eqF.sL (by assumption) (by decide)) fun _ _ => ?_
    | with_reducible refine pc_put (eqF.sR (by assumption) (by decide)) fun _ _ => ?_
    | with_reducible refine pc_stN (by decide) (by assumption) fun _ _ => ?_
    | with_reducible refine pc_stL (by decide) (by assumption) fun _ _ => ?_
    | with_reducible refine pc_stR (by decide) (by assumption) fun _ _ => ?_
    | with_reducible refine pc_cpN (by decide) (by assumption) fun _ _ => ?_
    | with_reducible refine pc_pure fun _ => ?_
    | exact pc_some (by assumption)
    | exact pc_some (eqF.bX (by assumption))
    | exact pc_some trivial
    | dsimp only
theorem fr_j_X11_copy_0_57 {m0 : MM} {m : MM} {l0 : Nat} {l2 : Nat} {l3 : Int} {s0 : Int} (h : eqF [9, 10, 45, 46, 47, 48, 49, 51, 52] m0 m) : Pc (j_X11_copy_0_57 m l0 l2 l3 s0) (RF [9, 10, 45, 46, 47, 48, 49, 51, 52] m0) := by
  unfold j_X11_copy_0_57
  repeat' first
    | with_reducible exact pc_x0
    | with_reducible exact pc_xt (by assumption)
    | with_reducible exact pc_xr (by assumption)
    | with_reducible exact fr_j_X11_copy_0_106 (by assumption)
    | with_reducible refine pc_nk fun _ => ?_
    | with_reducible refine pc_if ?_ ?_
    | with_reducible refine pc_ck ?_
    | with_reducible refine pc_cb ?_
    | with_reducible refine pc_dv ?_
    | with_reducible refine pc_let fun _ => ?_
    | with_reducible refine pc_letL fun _ => ?_
    | with_reducible refine pc_ldN fun _ => ?_
    | with_reducible refine pc_ldL fun _ => ?_
    | with_reducible refine pc_ldR fun _ => ?_
    | with_reducible refine pc_put (eqF.sN (by assumption) (by decide)) fun _ _ => ?_
    | with_reducible refine pc_put (eqF.sL (by assumption) (by decide)) fun _ _ => ?_
    | with_reducible refine pc_put (eqF.sR (by assumption) (by decide)) fun _ _ => ?_
    | with_reducible refine pc_stN (by decide) (by assumption) fun _ _ => ?_
    | with_reducible refine pc_stL (by decide) (by assumption) fun _ _ => ?_
    | with_reducible refine pc_stR (by decide) (by assumption) fun _ _ => ?_
    | with_reducible refine pc_cpN (by decide) (by assumption) fun _ _ => ?_
    | with_reducible refine pc_bV (fr_f_X11_requireState (m0 := _) eqF.rf) (by decide) (by assumption) (fun _ _ => ?_) (fun _ _ _ => ?_)
    | with_reducible refine pc_lp (fun s => eqF [9, 10, 45, 46, 47, 48, 49, 51, 52] m0 s.2) (fun z => eqF [9, 10, 45, 46, 47, 48, 49, 51, 52] m0 z) (by assumption) (fun s hs => fr_b_X11_copy_63 hs) (fun z hz => ?_)
    | with_reducible refine pc_pure fun _ => ?_
    | exact pc_some (by assumption)
    | exact pc_some (eqF.bX (by assumption))
    | exact pc_some trivial
    | dsimp only
theorem fr_j_X11_copy_0_56 {m0 : MM} {m : MM} {l0 : Nat} {l2 : Nat} {l3 : Int} (h : eqF [9, 10, 45, 46, 47, 48, 49, 51, 52] m0 m) : Pc (j_X11_copy_0_56 m l0 l2 l3) (RF [9, 10, 45, 46, 47, 48, 49, 51, 52] m0) := by
  unfold j_X11_copy_0_56
  repeat' first
    | with_reducible exact pc_x0
    | with_reducible exact pc_xt (by assumption)
    | with_reducible exact pc_xr (by assumption)
    | with_reducible exact fr_j_X11_copy_0_57 (by assumption)
    | with_reducible refine pc_nk fun _ => ?_
    | with_reducible refine pc_if ?_ ?_
    | with_reducible refine pc_ck ?_
    | with_reducible refine pc_cb ?_
    | with_reducible refine pc_dv ?_
    | with_reducible refine pc_let fun _ => ?_
    | with_reducible refine pc_letL fun _ => ?_
    | with_reducible refine pc_ldN fun _ => ?_
    | with_reducible refine pc_ldL fun _ => ?_
    | with_reducible refine pc_ldR fun _ => ?_
    | with_reducible refine pc_put (eqF.sN (by assumption) (by decide)) fun _ _ => ?_
    | with_reducible refine pc_put (eqF.sL (by assumption) (by decide)) fun _ _ => ?_
    | with_reducible refine pc_put (eqF.sR (by assumption) (by decide)) fun _ _ => ?_
    | with_reducible refine pc_stN (by decide) (by assumption) fun _ _ => ?_
    | with_reducible refine pc_stL (by decide) (by assumption) fun _ _ => ?_
    | with_reducible refine pc_stR (by decide) (by assumption) fun _ _ => ?_
    | with_reducible refine pc_cpN (by decide) (by assumption) fun _ _ => ?_
    | with_reducible refine pc_pure fun _ => ?_
    | exact pc_some (by assumption)
    | exact pc_some (eqF.bX (by assumption))
    | exact pc_some trivial
    | dsimp only
theorem fr_f_X11_copy {m0 : MM} {m : MM} {l0 : Nat} {l1 : Int} (h : eqF [9, 10, 45, 46, 47, 48, 49, 51, 52] m0 m) : Pc (f_X11_copy m l0 l1) (RF [9, 10, 45, 46, 47, 48, 49, 51, 52] m0) := by
  unfold f_X11_copy
  repeat' first
    | with_reducible exact pc_x0
    | with_reducible exact pc_xt (by assumption)
    | with_reducible exact pc_xr (by assumption)
    | with_reducible exact fr_j_X11_copy_0_56 (by assumption)
    | with_reducible exact fr_j_X11_copy_0_57 (by assumption)
    | with_reducible refine pc_nk fun _ => ?_
    | with_reducible refine pc_if ?_ ?_
    | with_reducible refine pc_ck ?_
    | with_reducible refine pc_cb ?_
    | with_reducible refine pc_dv ?_
    | with_reducible refine pc_let fun _ => ?_
    | with_reducible refine pc_letL fun _ => ?_
    | with_reducible refine pc_ldN fun _ => ?_
    | with_reducible refine pc_ldL fun _ => ?_
    | with_reducible refine pc_ldR fun _ => ?_
    | with_reducible refine pc_put (eqF.sN (by assumption) (by decide)) fun _ _ => ?_
    | with_reducible refine pc_put (eqF.sL (by assumption) (by decide)) fun _ _ => ?_
    | with_reducible refine pc_put (eqF.sR (by assumption) (by decide)) fun _ _ => ?_
    | with_reducible refine pc_stN (by decide) (by assumption) fun _ _ => ?_
    | with_reducible refine pc_stL (by decide) (by assumption) fun _ _ => ?_
    | with_reducible refine pc_stR (by decide) (by assumption) fun _ _ => ?_
    | with_reducible refine pc_cpN (by decide) (by assumption) fun _ _ => ?_
    | with_reducible refine pc_bI (fr_f_X10_splitText (m0 := _) eqF.rf) (by decide) (by assumption) (fun _ _ _ => ?_) (fun _ _ _ => ?_)
    | with_reducible refine pc_bR (fr_f_X11_bookAt (m0 := _) eqF.rf) (by decide) (by assumption) (fun _ _ _ => ?_) (fun _ _ _ => ?_)
    | with_reducible refine pc_bV (fr_f_X11_requireArgument (m0 := _) eqF.rf) (by decide) (by assumption) (fun _ _ => ?_) (fun _ _ _ => ?_)
    | with_reducible refine pc_pure fun _ => ?_
    | exact pc_some (by assumption)
    | exact pc_some (eqF.bX (by assumption))
    | exact pc_some trivial
    | dsimp only
theorem fr_f_X11_pageOf {m0 : MM} {m : MM} {l0 : Nat} {l1 : Int} (h : eqF [] m0 m) : Pc (f_X11_pageOf m l0 l1) (RF [] m0) := by
  unfold f_X11_pageOf
  repeat' first
    | with_reducible exact pc_x0
    | with_reducible exact pc_xt (by assumption)
    | with_reducible exact pc_xr (by assumption)
    | with_reducible refine pc_nk fun _ => ?_
    | with_reducible refine pc_if ?_ ?_
    | with_reducible refine pc_ck ?_
    | with_reducible refine pc_cb ?_
    | with_reducible refine pc_dv ?_
    | with_reducible refine pc_let fun _ => ?_
    | with_reducible refine pc_letL fun _ => ?_
    | with_reducible refine pc_ldN fun _ => ?_
    | with_reducible refine pc_ldL fun _ => ?_
    | with_reducible refine pc_ldR fun _ => ?_
    | with_reducible refine pc_put (eqF.sN (by assumption) (by decide)) fun _ _ => ?_
    | with_reducible refine pc_put (eqF.sL (by assumption) (by decide)) fun _ _ => ?_
    | with_reducible refine pc_put (eqF.sR (by assumption) (by decide)) fun _ _ => ?_
    | with_reducible refine pc_stN (by decide) (by assumption) fun _ _ => ?_
    | with_reducible refine pc_stL (by decide) (by assumption) fun _ _ => ?_
    | with_reducible refine pc_stR (by decide) (by assumption) fun _ _ => ?_
    | with_reducible refine pc_cpN (by decide) (by assumption) fun _ _ => ?_
    | with_reducible refine pc_pure fun _ => ?_
    | exact pc_some (by assumption)
    | exact pc_some (eqF.bX (by assumption))
    | exact pc_some trivial
    | dsimp only
theorem fr_f_X5_beginState {m0 : MM} {m : MM} {l0 : Nat} {l1 : Int} (h : eqF [38] m0 m) : Pc (f_X5_beginState m l0 l1) (RF [38] m0) := by
  unfold f_X5_beginState
  repeat' first
    | with_reducible exact pc_x0
    | with_reducible exact pc_xt (by assumption)
    | with_reducible exact pc_xr (by assumption)
    | with_reducible refine pc_nk fun _ => ?_
    | with_reducible refine pc_if ?_ ?_
    | with_reducible refine pc_ck ?_
    | with_reducible refine pc_cb ?_
    | with_reducible refine pc_dv ?_
    | with_reducible refine pc_let fun _ => ?_
    | with_reducible refine pc_letL fun _ => ?_
    | with_reducible refine pc_ldN fun _ => ?_
    | with_reducible refine pc_ldL fun _ => ?_
    | with_reducible refine pc_ldR fun _ => ?_
    | with_reducible refine pc_put (eqF.sN (by assumption) (by decide)) fun _ _ => ?_
    | with_reducible refine pc_put (eqF.sL (by assumption) (by decide)) fun _ _ => ?_
    | with_reducible refine pc_put (eqF.sR (by assumption) (by decide)) fun _ _ => ?_
    | with_reducible refine pc_stN (by decide) (by assumption) fun _ _ => ?_
    | with_reducible refine pc_stL (by decide) (by assumption) fun _ _ => ?_
    | with_reducible refine pc_stR (by decide) (by assumption) fun _ _ => ?_
    | with_reducible refine pc_cpN (by decide) (by assumption) fun _ _ => ?_
    | with_reducible refine pc_pure fun _ => ?_
    | exact pc_some (by assumption)
    | exact pc_some (eqF.bX (by assumption))
    | exact pc_some trivial
    | dsimp only
theorem fr_b_X2_beginStateIfPrinted_54 {m0 : MM} {l0 : Nat} {l1 : Nat} {l2 : Int} {l3 : Int} {mm : MM} (h : eqF [2, 26, 38] m0 mm) : Pc (b_X2_beginStateIfPrinted_54 l0 l1 l2 l3 mm) (fun z => Sum.elim (fun s => eqF [2, 26, 38] m0 s.2) (fun z => eqF [2, 26, 38] m0 z) z) := by
  unfold b_X2_beginStateIfPrinted_54
  repeat' first
    | with_reducible exact pc_x0
    | with_reducible exact pc_xt (by assumption)
    | with_reducible exact pc_xr (by assumption)
    | with_reducible refine pc_nk fun _ => ?_
    | with_reducible refine pc_if ?_ ?_
    | with_reducible refine pc_ck ?_
    | with_reducible refine pc_cb ?_
    | with_reducible refine pc_dv ?_
    | with_reducible refine pc_let fun _ => ?_
    | with_reducible refine pc_letL fun _ => ?_
    | with_reducible refine pc_ldN fun _ => ?_
    | with_reducible refine pc_ldL fun _ => ?_
    | with_reducible refine pc_ldR fun _ => ?_
    | with_reducible refine pc_put (eqF.sN (by assumption) (by decide)) fun _ _ => ?_
    | with_reducible refine pc_put (eqF.sL (by assumption) (by decide)) fun _ _ => ?_
    | with_reducible refine pc_put (eqF.sR (by assumption) (by decide)) fun _ _ => ?_
    | with_reducible refine pc_stN (by decide) (by assumption) fun _ _ => ?_
    | with_reducible refine pc_stL (by decide) (by assumption) fun _ _ => ?_
    | with_reducible refine pc_stR (by decide) (by assumption) fun _ _ => ?_
    | with_reducible refine pc_cpN (by decide) (by assumption) fun _ _ => ?_
    | with_reducible refine pc_bV (fr_f_X5_beginState (m0 := _) eqF.rf) (by decide) (by assumption) (fun _ _ => ?_) (fun _ _ _ => ?_)
    | with_reducible refine pc_pure fun _ => ?_
    | exact pc_some (by assumption)
    | exact pc_some (eqF.bX (by assumption))
    | exact pc_some trivial
    | dsimp only
theorem fr_j_X2_beginStateIfPrinted_0_82 {m0 : MM} {m : MM} {l0 : Nat} (h : eqF [2, 26, 38] m0 m) : Pc (j_X2_beginStateIfPrinted_0_82 m l0) (RF [2, 26, 38] m0) := by
  unfold j_X2_beginStateIfPrinted_0_82
  repeat' first
    | with_reducible exact pc_x0
    | with_reducible exact pc_xt (by assumption)
    | with_reducible exact pc_xr (by assumption)
    | with_reducible refine pc_nk fun _ => ?_
    | with_reducible refine pc_if ?_ ?_
    | with_reducible refine pc_ck ?_
    | with_reducible refine pc_cb ?_
    | with_reducible refine pc_dv ?_
    | with_reducible refine pc_let fun _ => ?_
    | with_reducible refine pc_letL fun _ => ?_
    | with_reducible refine pc_ldN fun _ => ?_
    | with_reducible refine pc_ldL fun _ => ?_
    | with_reducible refine pc_ldR fun _ => ?_
    | with_reducible refine pc_put (eqF.sN (by assumption) (by decide)) fun _ _ => ?_
    | with_reducible refine pc_put (eqF.sL (by assumption) (by decide)) fun _ _ => ?_
    | with_reducible refine pc_put (eqF.sR (by assumption) (by decide)) fun _ _ => ?_
    | with_reducible refine pc_stN (by decide) (by assumption) fun _ _ => ?_
    | with_reducible refine pc_stL (by decide) (by assumption) fun _ _ => ?_
    | with_reducible refine pc_stR (by decide) (by assumption) fun _ _ => ?_
    | with_reducible refine pc_cpN (by decide) (by assumption) fun _ _ => ?_
    | with_reducible refine pc_pure fun _ => ?_
    | exact pc_some (by assumption)
    | exact pc_some (eqF.bX (by assumption))
    | exact pc_some trivial
    | dsimp only
theorem fr_f_X2_beginStateIfPrinted {m0 : MM} {m : MM} {l0 : Nat} (h : eqF [2, 26, 38] m0 m) : Pc (f_X2_beginStateIfPrinted m l0) (RF [2, 26, 38] m0) := by
  unfold f_X2_beginStateIfPrinted
  repeat' first
    | with_reducible exact pc_x0
    | with_reducible exact pc_xt (by assumption)
    | with_reducible exact pc_xr (by assumption)
    | with_reducible exact fr_j_X2_beginStateIfPrinted_0_82 (by assumption)
    | with_reducible refine pc_nk fun _ => ?_
    | with_reducible refine pc_if ?_ ?_
    | with_reducible refine pc_ck ?_
    | with_reducible refine pc_cb ?_
    | with_reducible refine pc_dv ?_
    | with_reducible refine pc_let fun _ => ?_
    | with_reducible refine pc_letL fun _ => ?_
    | with_reducible refine pc_ldN fun _ => ?_
    | with_reducible refine pc_ldL fun _ => ?_
    | with_reducible refine pc_ldR fun _ => ?_
    | with_reducible refine pc_put (eqF.sN (by assumption) (by decide)) fun _ _ => ?_
    | with_reducible refine pc_put (eqF.sL (by assumption) (by decide)) fun _ _ => ?_
    | with_reducible refine pc_put (eqF.sR (by assumption) (by decide)) fun _ _ => ?_
    | with_reducible refine pc_stN (by decide) (by assumption) fun _ _ => ?_
    | with_reducible refine pc_stL (by decide) (by assumption) fun _ _ => ?_
    | with_reducible refine pc_stR (by decide) (by assumption) fun _ _ => ?_
    | with_reducible refine pc_cpN (by decide) (by assumption) fun _ _ => ?_
    | with_reducible refine pc_lp (fun s => eqF [2, 26, 38] m0 s.2) (fun z => eqF [2, 26, 38] m0 z) (by assumption) (fun s hs => fr_b_X2_beginStateIfPrinted_54 hs) (fun z hz => ?_)
    | with_reducible refine pc_pure fun _ => ?_
    | exact pc_some (by assumption)
    | exact pc_some (eqF.bX (by assumption))
    | exact pc_some trivial
    | dsimp only
theorem fr_f_X1_take {m0 : MM} {m : MM} {l0 : Nat} {l1 : Int} {l2 : Int} (h : eqF [22, 24] m0 m) : Pc (f_X1_take m l0 l1 l2) (RF [22, 24] m0) := by
  unfold f_X1_take
  repeat' first
    | with_reducible exact pc_x0
    | with_reducible exact pc_xt (by assumption)
    | with_reducible exact pc_xr (by assumption)
    | with_reducible refine pc_nk fun _ => ?_
    | with_reducible refine pc_if ?_ ?_
    | with_reducible refine pc_ck ?_
    | with_reducible refine pc_cb ?_
    | with_reducible refine pc_dv ?_
    | with_reducible refine pc_let fun _ => ?_
    | with_reducible refine pc_letL fun _ => ?_
    | with_reducible refine pc_ldN fun _ => ?_
    | with_reducible refine pc_ldL fun _ => ?_
    | with_reducible refine pc_ldR fun _ => ?_
    | with_reducible refine pc_put (eqF.sN (by assumption) (by decide)) fun _ _ => ?_
    | with_reducible refine pc_put (eqF.sL (by assumption) (by decide)) fun _ _ => ?_
    | with_reducible refine pc_put (eqF.sR (by assumption) (by decide)) fun _ _ => ?_
    | with_reducible refine pc_stN (by decide) (by assumption) fun _ _ => ?_
    | with_reducible refine pc_stL (by decide) (by assumption) fun _ _ => ?_
    | with_reducible refine pc_stR (by decide) (by assumption) fun _ _ => ?_
    | with_reducible refine pc_cpN (by decide) (by assumption) fun _ _ => ?_
    | with_reducible refine pc_pure fun _ => ?_
    | exact pc_some (by assumption)
    | exact pc_some (eqF.bX (by assumption))
    | exact pc_some trivial
    | dsimp only
theorem fr_j_X5_replace_0_48 {m0 : MM} {m : MM} {l0 : Nat} {l1 : Int} {l2 : Int} {l3 : Nat} {l5 : Int} (h : eqF [22, 23, 24, 35, 36, 38] m0 m) : Pc (j_X5_replace_0_48 m l0 l1 l2 l3 l5) (RF [22, 23, 24, 35, 36, 38] m0) := by
  unfold j_X5_replace_0_48
  repeat' first
    | with_reducible exact pc_x0
    | with_reducible exact pc_xt (by assumption)
    | with_reducible exact pc_xr (by assumption)
    | with_reducible refine pc_nk fun _ => ?_
    | with_reducible refine pc_if ?_ ?_
    | with_reducible refine pc_ck ?_
    | with_reducible refine pc_cb ?_
    | with_reducible refine pc_dv ?_
    | with_reducible refine pc_let fun _ => ?_
    | with_reducible refine pc_letL fun _ => ?_
    | with_reducible refine pc_ldN fun _ => ?_
    | with_reducible refine pc_ldL fun _ => ?_
    | with_reducible refine pc_ldR fun _ => ?_
    | with_reducible refine pc_put (eqF.sN (by assumption) (by decide)) fun _ _ => ?_
    | with_reducible refine pc_put (eqF.sL (by assumption) (by decide)) fun _ _ => ?_
    | with_reducible refine pc_put (eqF.sR (by assumption) (by decide)) fun _ _ => ?_
    | with_reducible refine pc_stN (by decide) (by assumption) fun _ _ => ?_
    | with_reducible refine pc_stL (by decide) (by assumption) fun _ _ => ?_
    | with_reducible refine pc_stR (by decide) (by assumption) fun _ _ => ?_
    | with_reducible refine pc_cpN (by decide) (by assumption) fun _ _ => ?_
    | with_reducible refine pc_pure fun _ => ?_
    | exact pc_some (by assumption)
    | exact pc_some (eqF.bX (by assumption))
    | exact pc_some trivial
    | dsimp only
theorem fr_f_X5_replace {m0 : MM} {m : MM} {l0 : Nat} {l1 : Int} {l2 : Int} {l3 : Nat} {l4 : Int} (h : eqF [22, 23, 24, 35, 36, 38] m0 m) : Pc (f_X5_replace m l0 l1 l2 l3 l4) (RF [22, 23, 24, 35, 36, 38] m0) := by
  unfold f_X5_replace
  repeat' first
    | with_reducible exact pc_x0
    | with_reducible exact pc_xt (by assumption)
    | with_reducible exact pc_xr (by assumption)
    | with_reducible exact fr_j_X5_replace_0_48 (by assumption)
    | with_reducible refine pc_nk fun _ => ?_
    | with_reducible refine pc_if ?_ ?_
    | with_reducible refine pc_ck ?_
    | with_reducible refine pc_cb ?_
    | with_reducible refine pc_dv ?_
    | with_reducible refine pc_let fun _ => ?_
    | with_reducible refine pc_letL fun _ => ?_
    | with_reducible refine pc_ldN fun _ => ?_
    | with_reducible refine pc_ldL fun _ => ?_
    | with_reducible refine pc_ldR fun _ => ?_
    | with_reducible refine pc_put (eqF.sN (by assumption) (by decide)) fun _ _ => ?_
    | with_reducible refine pc_put (eqF.sL (by assumption) (by decide)) fun _ _ => ?_
    | with_reducible refine pc_put (eqF.sR (by assumption) (by decide)) fun _ _ => ?_
    | with_reducible refine pc_stN (by decide) (by assumption) fun _ _ => ?_
    | with_reducible refine pc_stL (by decide) (by assumption) fun _ _ => ?_
    | with_reducible refine pc_stR (by decide) (by assumption) fun _ _ => ?_
    | with_reducible refine pc_cpN (by decide) (by assumption) fun _ _ => ?_
    | with_reducible refine pc_bI (fr_f_X1_take (m0 := _) eqF.rf) (by decide) (by assumption) (fun _ _ _ => ?_) (fun _ _ _ => ?_)
    | with_reducible refine pc_bV (fr_f_X1_putOn (m0 := _) eqF.rf) (by decide) (by assumption) (fun _ _ => ?_) (fun _ _ _ => ?_)
    | with_reducible refine pc_pure fun _ => ?_
    | exact pc_some (by assumption)
    | exact pc_some (eqF.bX (by assumption))
    | exact pc_some trivial
    | dsimp only
theorem fr_j_X11_correct_0_103 {m0 : MM} {m : MM} {l0 : Nat} {l1 : Int} {l2 : Int} {l3 : Int} {l5 : Nat} {l6 : Nat} {s0 : Int} (h : eqF [2, 22, 23, 24, 26, 35, 36, 38] m0 m) : Pc (j_X11_correct_0_103 m l0 l1 l2 l3 l5 l6 s0) (RF [2, 22, 23, 24, 26, 35, 36, 38] m0) := by
  unfold j_X11_correct_0_103
  repeat' first
    | with_reducible exact pc_x0
    | with_reducible exact pc_xt (by assumption)
    | with_reducible exact pc_xr (by assumption)
    | with_reducible refine pc_nk fun _ => ?_
    | with_reducible refine pc_if ?_ ?_
    | with_reducible refine pc_ck ?_
    | with_reducible refine pc_cb ?_
    | with_reducible refine pc_dv ?_
    | with_reducible refine pc_let fun _ => ?_
    | with_reducible refine pc_letL fun _ => ?_
    | with_reducible refine pc_ldN fun _ => ?_
    | with_reducible refine pc_ldL fun _ => ?_
    | with_reducible refine pc_ldR fun _ => ?_
    | with_reducible refine pc_put (eqF.sN (by assumption) (by decide)) fun _ _ => ?_
    | with_reducible refine pc_put (eqF.sL (by assumption) (by decide)) fun _ _ => ?_
    | with_reducible refine pc_put (eqF.sR (by assumption) (by decide)) fun _ _ => ?_
    | with_reducible refine pc_stN (by decide) (by assumption) fun _ _ => ?_
    | with_reducible refine pc_stL (by decide) (by assumption) fun _ _ => ?_
    | with_reducible refine pc_stR (by decide) (by assumption) fun _ _ => ?_
    | with_reducible refine pc_cpN (by decide) (by assumption) fun _ _ => ?_
    | with_reducible refine pc_bV (fr_f_X11_requireState (m0 := _) eqF.rf) (by decide) (by assumption) (fun _ _ => ?_) (fun _ _ _ => ?_)
    | with_reducible refine pc_bV (fr_f_X2_beginStateIfPrinted (m0 := _) eqF.rf) (by decide) (by assumption) (fun _ _ => ?_) (fun _ _ _ => ?_)
    | with_reducible refine pc_bV (fr_f_X5_replace (m0 := _) eqF.rf) (by decide) (by assumption) (fun _ _ => ?_) (fun _ _ _ => ?_)
    | with_reducible refine pc_pure fun _ => ?_
    | exact pc_some (by assumption)
    | exact pc_some (eqF.bX (by assumption))
    | exact pc_some trivial
    | dsimp only
theorem fr_j_X11_correct_0_76 {m0 : MM} {m : MM} {l0 : Nat} {l1 : Int} {l2 : Int} {l3 : Int} {l5 : Nat} {l6 : Nat} {s0 : Int} (h : eqF [2, 22, 23, 24, 26, 35, 36, 38] m0 m) : Pc (j_X11_correct_0_76 m l0 l1 l2 l3 l5 l6 s0) (RF [2, 22, 23, 24, 26, 35, 36, 38] m0) := by
  unfold j_X11_correct_0_76
  repeat' first
    | with_reducible exact pc_x0
    | with_reducible exact pc_xt (by assumption)
    | with_reducible exact pc_xr (by assumption)
    | with_reducible exact fr_j_X11_correct_0_103 (by assumption)
    | with_reducible refine pc_nk fun _ => ?_
    | with_reducible refine pc_if ?_ ?_
    | with_reducible refine pc_ck ?_
    | with_reducible refine pc_cb ?_
    | with_reducible refine pc_dv ?_
    | with_reducible refine pc_let fun _ => ?_
    | with_reducible refine pc_letL fun _ => ?_
    | with_reducible refine pc_ldN fun _ => ?_
    | with_reducible refine pc_ldL fun _ => ?_
    | with_reducible refine pc_ldR fun _ => ?_
    | with_reducible refine pc_put (eqF.sN (by assumption) (by decide)) fun _ _ => ?_
    | with_reducible refine pc_put (eqF.sL (by assumption) (by decide)) fun _ _ => ?_
    | with_reducible refine pc_put (eqF.sR (by assumption) (by decide)) fun _ _ => ?_
    | with_reducible refine pc_stN (by decide) (by assumption) fun _ _ => ?_
    | with_reducible refine pc_stL (by decide) (by assumption) fun _ _ => ?_
    | with_reducible refine pc_stR (by decide) (by assumption) fun _ _ => ?_
    | with_reducible refine pc_cpN (by decide) (by assumption) fun _ _ => ?_
    | with_reducible refine pc_bV (fr_f_X11_requireState (m0 := _) eqF.rf) (by decide) (by assumption) (fun _ _ => ?_) (fun _ _ _ => ?_)
    | with_reducible refine pc_pure fun _ => ?_
    | exact pc_some (by assumption)
    | exact pc_some (eqF.bX (by assumption))
    | exact pc_some trivial
    | dsimp only
theorem fr_j_X11_correct_0_71 {m0 : MM} {m : MM} {l0 : Nat} {l1 : Int} {l2 : Int} {l3 : Int} {l5 : Nat} {l6 : Nat} (h : eqF [2, 22, 23, 24, 26, 35, 36, 38] m0 m) : Pc (j_X11_correct_0_71 m l0 l1 l2 l3 l5 l6) (RF [2, 22, 23, 24, 26, 35, 36, 38] m0) := by
  unfold j_X11_correct_0_71
  repeat' first
    | with_reducible exact pc_x0
    | with_reducible exact pc_xt (by assumption)
    | with_reducible exact pc_xr (by assumption)
    | with_reducible exact fr_j_X11_correct_0_76 (by assumption)
    | with_reducible refine pc_nk fun _ => ?_
    | with_reducible refine pc_if ?_ ?_
    | with_reducible refine pc_ck ?_
    | with_reducible refine pc_cb ?_
    | with_reducible refine pc_dv ?_
    | with_reducible refine pc_let fun _ => ?_
    | with_reducible refine pc_letL fun _ => ?_
    | with_reducible refine pc_ldN fun _ => ?_
    | with_reducible refine pc_ldL fun _ => ?_
    | with_reducible refine pc_ldR fun _ => ?_
    | with_reducible refine pc_put (eqF.sN (by assumption) (by decide)) fun _ _ => ?_
    | with_reducible refine pc_put (eqF.sL (by assumption) (by decide)) fun _ _ => ?_
    | with_reducible refine pc_put (eqF.sR (by assumption) (by decide)) fun _ _ => ?_
    | with_reducible refine pc_stN (by decide) (by assumption) fun _ _ => ?_
    | with_reducible refine pc_stL (by decide) (by assumption) fun _ _ => ?_
    | with_reducible refine pc_stR (by decide) (by assumption) fun _ _ => ?_
    | with_reducible refine pc_cpN (by decide) (by assumption) fun _ _ => ?_
    | with_reducible refine pc_pure fun _ => ?_
    | exact pc_some (by assumption)
    | exact pc_some (eqF.bX (by assumption))
    | exact pc_some trivial
    | dsimp only
theorem fr_j_X11_correct_0_36 {m0 : MM} {m : MM} {l0 : Nat} {l1 : Int} {l2 : Int} {l3 : Int} {l4 : Nat} {l5 : Nat} {s0 : Int} (h : eqF [2, 22, 23, 24, 26, 35, 36, 38] m0 m) : Pc (j_X11_correct_0_36 m l0 l1 l2 l3 l4 l5 s0) (RF [2, 22, 23, 24, 26, 35, 36, 38] m0) := by
  unfold j_X11_correct_0_36
  repeat' first
    | with_reducible exact pc_x0
    | with_reducible exact pc_xt (by assumption)
    | with_reducible exact pc_xr (by assumption)
    | with_reducible exact fr_j_X11_correct_0_71 (by assumption)
    | with_reducible exact fr_j_X11_correct_0_76 (by assumption)
    | with_reducible refine pc_nk fun _ => ?_
    | with_reducible refine pc_if ?_ ?_
    | with_reducible refine pc_ck ?_
    | with_reducible refine pc_cb ?_
    | with_reducible refine pc_dv ?_
    | with_reducible refine pc_let fun _ => ?_
    | with_reducible refine pc_letL fun _ => ?_
    | with_reducible refine pc_ldN fun _ => ?_
    | with_reducible refine pc_ldL fun _ => ?_
    | with_reducible refine pc_ldR fun _ => ?_
    | with_reducible refine pc_put (eqF.sN (by assumption) (by decide)) fun _ _ => ?_
    | with_reducible refine pc_put (eqF.sL (by assumption) (by decide)) fun _ _ => ?_
    | with_reducible refine pc_put (eqF.sR (by assumption) (by decide)) fun _ _ => ?_
    | with_reducible refine pc_stN (by decide) (by assumption) fun _ _ => ?_
    | with_reducible refine pc_stL (by decide) (by assumption) fun _ _ => ?_
    | with_reducible refine pc_stR (by decide) (by assumption) fun _ _ => ?_
    | with_reducible refine pc_cpN (by decide) (by assumption) fun _ _ => ?_
    | with_reducible refine pc_bV (fr_f_X11_requireIndex (m0 := _) eqF.rf) (by decide) (by assumption) (fun _ _ => ?_) (fun _ _ _ => ?_)
    | with_reducible refine pc_pure fun _ => ?_
    | exact pc_some (by assumption)
    | exact pc_some (eqF.bX (by assumption))
    | exact pc_some trivial
    | dsimp only
theorem fr_j_X11_correct_0_35 {m0 : MM} {m : MM} {l0 : Nat} {l1 : Int} {l2 : Int} {l3 : Int} {l4 : Nat} {l5 : Nat} (h : eqF [2, 22, 23, 24, 26, 35, 36, 38] m0 m) : Pc (j_X11_correct_0_35 m l0 l1 l2 l3 l4 l5) (RF [2, 22, 23, 24, 26, 35, 36, 38] m0) := by
  unfold j_X11_correct_0_35
  repeat' first
    | with_reducible exact pc_x0
    | with_reducible exact pc_xt (by assumption)
    | with_reducible exact pc_xr (by assumption)
    | with_reducible exact fr_j_X11_correct_0_36 (by assumption)
    | with_reducible refine pc_nk fun _ => ?_
    | with_reducible refine pc_if ?_ ?_
    | with_reducible refine pc_ck ?_
    | with_reducible refine pc_cb ?_
    | with_reducible refine pc_dv ?_
    | with_reducible refine pc_let fun _ => ?_
    | with_reducible refine pc_letL fun _ => ?_
    | with_reducible refine pc_ldN fun _ => ?_
    | with_reducible refine pc_ldL fun _ => ?_
    | with_reducible refine pc_ldR fun _ => ?_
    | with_reducible refine pc_put (eqF.sN (by assumption) (by decide)) fun _ _ => ?_
    | with_reducible refine pc_put (eqF.sL (by assumption) (by decide)) fun _ _ => ?_
    | with_reducible refine pc_put (eqF.sR (by assumption) (by decide)) fun _ _ => ?_
    | with_reducible refine pc_stN (by decide) (by assumption) fun _ _ => ?_
    | with_reducible refine pc_stL (by decide) (by assumption) fun _ _ => ?_
    | with_reducible refine pc_stR (by decide) (by assumption) fun _ _ => ?_
    | with_reducible refine pc_cpN (by decide) (by assumption) fun _ _ => ?_
    | with_reducible refine pc_pure fun _ => ?_
    | exact pc_some (by assumption)
    | exact pc_some (eqF.bX (by assumption))
    | exact pc_some trivial
    | dsimp only
theorem fr_f_X11_correct {m0 : MM} {m : MM} {l0 : Nat} {l1 : Int} {l2 : Int} {l3 : Int} (h : eqF [2, 22, 23, 24, 26, 35, 36, 38] m0 m) : Pc (f_X11_correct m l0 l1 l2 l3) (RF [2, 22, 23, 24, 26, 35, 36, 38] m0) := by
  unfold f_X11_correct
  repeat' first
    | with_reducible exact pc_x0
    | with_reducible exact pc_xt (by assumption)
    | with_reducible exact pc_xr (by assumption)
    | with_reducible exact fr_j_X11_correct_0_35 (by assumption)
    | with_reducible exact fr_j_X11_correct_0_36 (by assumption)
    | with_reducible refine pc_nk fun _ => ?_
    | with_reducible refine pc_if ?_ ?_
    | with_reducible refine pc_ck ?_
    | with_reducible refine pc_cb ?_
    | with_reducible refine pc_dv ?_
    | with_reducible refine pc_let fun _ => ?_
    | with_reducible refine pc_letL fun _ => ?_
    | with_reducible refine pc_ldN fun _ => ?_
    | with_reducible refine pc_ldL fun _ => ?_
    | with_reducible refine pc_ldR fun _ => ?_
    | with_reducible refine pc_put (eqF.sN (by assumption) (by decide)) fun _ _ => ?_
    | with_reducible refine pc_put (eqF.sL (by assumption) (by decide)) fun _ _ => ?_
    | with_reducible refine pc_put (eqF.sR (by assumption) (by decide)) fun _ _ => ?_
    | with_reducible refine pc_stN (by decide) (by assumption) fun _ _ => ?_
    | with_reducible refine pc_stL (by decide) (by assumption) fun _ _ => ?_
    | with_reducible refine pc_stR (by decide) (by assumption) fun _ _ => ?_
    | with_reducible refine pc_cpN (by decide) (by assumption) fun _ _ => ?_
    | with_reducible refine pc_bR (fr_f_X11_bookAt (m0 := _) eqF.rf) (by decide) (by assumption) (fun _ _ _ => ?_) (fun _ _ _ => ?_)
    | with_reducible refine pc_bR (fr_f_X11_pageOf (m0 := _) eqF.rf) (by decide) (by assumption) (fun _ _ _ => ?_) (fun _ _ _ => ?_)
    | with_reducible refine pc_pure fun _ => ?_
    | exact pc_some (by assumption)
    | exact pc_some (eqF.bX (by assumption))
    | exact pc_some trivial
    | dsimp only
theorem fr_j_X11_exchange_0_40 {m0 : MM} {m : MM} {l2 : Int} {l3 : Int} {l4 : Int} {l5 : Nat} {s0 : Int} (h : eqF [18] m0 m) : Pc (j_X11_exchange_0_40 m l2 l3 l4 l5 s0) (RF [18] m0) := by
  unfold j_X11_exchange_0_40
  repeat' first
    | with_reducible exact pc_x0
    | with_reducible exact pc_xt (by assumption)
    | with_reducible exact pc_xr (by assumption)
    | with_reducible refine pc_nk fun _ => ?_
    | with_reducible refine pc_if ?_ ?_
    | with_reducible refine pc_ck ?_
    | with_reducible refine pc_cb ?_
    | with_reducible refine pc_dv ?_
    | with_reducible refine pc_let fun _ => ?_
    | with_reducible refine pc_letL fun _ => ?_
    | with_reducible refine pc_ldN fun _ => ?_
    | with_reducible refine pc_ldL fun _ => ?_
    | with_reducible refine pc_ldR fun _ => ?_
    | with_reducible refine pc_put (eqF.sN (by assumption) (by decide)) fun _ _ => ?_
    | with_reducible refine pc_put (eqF.sL (by assumption) (by decide)) fun _ _ => ?_
    | with_reducible refine pc_put (eqF.sR (by assumption) (by decide)) fun _ _ => ?_
    | with_reducible refine pc_stN (by decide) (by assumption) fun _ _ => ?_
    | with_reducible refine pc_stL (by decide) (by assumption) fun _ _ => ?_
    | with_reducible refine pc_stR (by decide) (by assumption) fun _ _ => ?_
    | with_reducible refine pc_cpN (by decide) (by assumption) fun _ _ => ?_
    | with_reducible refine pc_bV (fr_f_X11_requireIndex (m0 := _) eqF.rf) (by decide) (by assumption) (fun _ _ => ?_) (fun _ _ _ => ?_)
    | with_reducible refine pc_bV (fr_f_X11_requireState (m0 := _) eqF.rf) (by decide) (by assumption) (fun _ _ => ?_) (fun _ _ _ => ?_)
    | with_reducible refine pc_pure fun _ => ?_
    | exact pc_some (by assumption)
    | exact pc_some (eqF.bX (by assumption))
    | exact pc_some trivial
    | dsimp only
theorem fr_j_X11_exchange_0_39 {m0 : MM} {m : MM} {l2 : Int} {l3 : Int} {l4 : Int} {l5 : Nat} (h : eqF [18] m0 m) : Pc (j_X11_exchange_0_39 m l2 l3 l4 l5) (RF [18] m0) := by
  unfold j_X11_exchange_0_39
  repeat' first
    | with_reducible exact pc_x0
    | with_reducible exact pc_xt (by assumption)
    | with_reducible exact pc_xr (by assumption)
    | with_reducible exact fr_j_X11_exchange_0_40 (by assumption)
    | with_reducible refine pc_nk fun _ => ?_
    | with_reducible refine pc_if ?_ ?_
    | with_reducible refine pc_ck ?_
    | with_reducible refine pc_cb ?_
    | with_reducible refine pc_dv ?_
    | with_reducible refine pc_let fun _ => ?_
    | with_reducible refine pc_letL fun _ => ?_
    | with_reducible refine pc_ldN fun _ => ?_
    | with_reducible refine pc_ldL fun _ => ?_
    | with_reducible refine pc_ldR fun _ => ?_
    | with_reducible refine pc_put (eqF.sN (by assumption) (by decide)) fun _ _ => ?_
    | with_reducible refine pc_put (eqF.sL (by assumption) (by decide)) fun _ _ => ?_
    | with_reducible refine pc_put (eqF.sR (by assumption) (by decide)) fun _ _ => ?_
    | with_reducible refine pc_stN (by decide) (by assumption) fun _ _ => ?_
    | with_reducible refine pc_stL (by decide) (by assumption) fun _ _ => ?_
    | with_reducible refine pc_stR (by decide) (by assumption) fun _ _ => ?_
    | with_reducible refine pc_cpN (by decide) (by assumption) fun _ _ => ?_
    | with_reducible refine pc_pure fun _ => ?_
    | exact pc_some (by assumption)
    | exact pc_some (eqF.bX (by assumption))
    | exact pc_some trivial
    | dsimp only
theorem fr_f_X11_exchange {m0 : MM} {m : MM} {l0 : Nat} {l1 : Int} {l2 : Int} {l3 : Int} {l4 : Int} (h : eqF [18] m0 m) : Pc (f_X11_exchange m l0 l1 l2 l3 l4) (RF [18] m0) := by
  unfold f_X11_exchange
  repeat' first
    | with_reducible exact pc_x0
    | with_reducible exact pc_xt (by assumption)
    | with_reducible exact pc_xr (by assumption)
    | with_reducible exact fr_j_X11_exchange_0_39 (by assumption)
    | with_reducible exact fr_j_X11_exchange_0_40 (by assumption)
    | with_reducible refine pc_nk fun _ => ?_
    | with_reducible refine pc_if ?_ ?_
    | with_reducible refine pc_ck ?_
    | with_reducible refine pc_cb ?_
    | with_reducible refine pc_dv ?_
    | with_reducible refine pc_let fun _ => ?_
    | with_reducible refine pc_letL fun _ => ?_
    | with_reducible refine pc_ldN fun _ => ?_
    | with_reducible refine pc_ldL fun _ => ?_
    | with_reducible refine pc_ldR fun _ => ?_
    | with_reducible refine pc_put (eqF.sN (by assumption) (by decide)) fun _ _ => ?_
    | with_reducible refine pc_put (eqF.sL (by assumption) (by decide)) fun _ _ => ?_
    | with_reducible refine pc_put (eqF.sR (by assumption) (by decide)) fun _ _ => ?_
    | with_reducible refine pc_stN (by decide) (by assumption) fun _ _ => ?_
    | with_reducible refine pc_stL (by decide) (by assumption) fun _ _ => ?_
    | with_reducible refine pc_stR (by decide) (by assumption) fun _ _ => ?_
    | with_reducible refine pc_cpN (by decide) (by assumption) fun _ _ => ?_
    | with_reducible refine pc_bR (fr_f_X11_bookAt (m0 := _) eqF.rf) (by decide) (by assumption) (fun _ _ _ => ?_) (fun _ _ _ => ?_)
    | with_reducible refine pc_pure fun _ => ?_
    | exact pc_some (by assumption)
    | exact pc_some (eqF.bX (by assumption))
    | exact pc_some trivial
    | dsimp only
theorem fr_j_X9_addPage_29_69 {m0 : MM} {m : MM} {l0 : Nat} {l1 : Nat} {l2 : Nat} {l3 : Nat} {l4 : Int} {l5 : Int} {l6 : Int} {s0 : Nat} {s1 : Int64} {s2 : Int} (h : eqF [9, 45, 46, 47, 48, 49] m0 m) : Pc (j_X9_addPage_29_69 m l0 l1 l2 l3 l4 l5 l6 s0 s1 s2) (fun z => Sum.elim (fun s => eqF [9, 45, 46, 47, 48, 49] m0 s.2) (fun z => eqF [9, 45, 46, 47, 48, 49] m0 z) z) := by
  unfold j_X9_addPage_29_69
  repeat' first
    | with_reducible exact pc_x0
    | with_reducible exact pc_xt (by assumption)
    | with_reducible exact pc_xr (by assumption)
    | with_reducible refine pc_nk fun _ => ?_
    | with_reducible refine pc_if ?_ ?_
    | with_reducible refine pc_ck ?_
    | with_reducible refine pc_cb ?_
    | with_reducible refine pc_dv ?_
    | with_reducible refine pc_let fun _ => ?_
    | with_reducible refine pc_letL fun _ => ?_
    | with_reducible refine pc_ldN fun _ => ?_
    | with_reducible refine pc_ldL fun _ => ?_
    | with_reducible refine pc_ldR fun _ => ?_
    | with_reducible refine pc_put (eqF.sN (by assumption) (by decide)) fun _ _ => ?_
    | with_reducible refine pc_put (eqF.sL (by assumption) (by decide)) fun _ _ => ?_
    | with_reducible refine pc_put (eqF.sR (by assumption) (by decide)) fun _ _ => ?_
    | with_reducible refine pc_stN (by decide) (by assumption) fun _ _ => ?_
    | with_reducible refine pc_stL (by decide) (by assumption) fun _ _ => ?_
    | with_reducible refine pc_stR (by decide) (by assumption) fun _ _ => ?_
    | with_reducible refine pc_cpN (by decide) (by assumption) fun _ _ => ?_
    | with_reducible refine pc_bV (fr_f_X9_add (m0 := _) eqF.rf) (by decide) (by assumption) (fun _ _ => ?_) (fun _ _ _ => ?_)
    | with_reducible refine pc_pure fun _ => ?_
    | exact pc_some (by assumption)
    | exact pc_some (eqF.bX (by assumption))
    | exact pc_some trivial
    | dsimp only
theorem fr_b_X9_addPage_29 {m0 : MM} {l0 : Nat} {l1 : Nat} {l2 : Nat} {l3 : Nat} {l4 : Int} {l5 : Int} {l6 : Int} {mm : MM} (h : eqF [9, 45, 46, 47, 48, 49] m0 mm) : Pc (b_X9_addPage_29 l0 l1 l2 l3 l4 l5 l6 mm) (fun z => Sum.elim (fun s => eqF [9, 45, 46, 47, 48, 49] m0 s.2) (fun z => eqF [9, 45, 46, 47, 48, 49] m0 z) z) := by
  unfold b_X9_addPage_29
  repeat' first
    | with_reducible exact pc_x0
    | with_reducible exact pc_xt (by assumption)
    | with_reducible exact pc_xr (by assumption)
    | with_reducible exact fr_j_X9_addPage_29_69 (by assumption)
    | with_reducible refine pc_nk fun _ => ?_
    | with_reducible refine pc_if ?_ ?_
    | with_reducible refine pc_ck ?_
    | with_reducible refine pc_cb ?_
    | with_reducible refine pc_dv ?_
    | with_reducible refine pc_let fun _ => ?_
    | with_reducible refine pc_letL fun _ => ?_
    | with_reducible refine pc_ldN fun _ => ?_
    | with_reducible refine pc_ldL fun _ => ?_
    | with_reducible refine pc_ldR fun _ => ?_
    | with_reducible refine pc_put (eqF.sN (by assumption) (by decide)) fun _ _ => ?_
    | with_reducible refine pc_put (eqF.sL (by assumption) (by decide)) fun _ _ => ?_
    | with_reducible refine pc_put (eqF.sR (by assumption) (by decide)) fun _ _ => ?_
    | with_reducible refine pc_stN (by decide) (by assumption) fun _ _ => ?_
    | with_reducible refine pc_stL (by decide) (by assumption) fun _ _ => ?_
    | with_reducible refine pc_stR (by decide) (by assumption) fun _ _ => ?_
    | with_reducible refine pc_cpN (by decide) (by assumption) fun _ _ => ?_
    | with_reducible refine pc_pure fun _ => ?_
    | exact pc_some (by assumption)
    | exact pc_some (eqF.bX (by assumption))
    | exact pc_some trivial
    | dsimp only
theorem fr_j_X9_addPage_3_79 {m0 : MM} {m : MM} {l0 : Nat} {l1 : Nat} {l2 : Nat} {l3 : Nat} {l4 : Int} (h : eqF [9, 45, 46, 47, 48, 49] m0 m) : Pc (j_X9_addPage_3_79 m l0 l1 l2 l3 l4) (fun z => Sum.elim (fun s => eqF [9, 45, 46, 47, 48, 49] m0 s.2) (fun z => eqF [9, 45, 46, 47, 48, 49] m0 z) z) := by
  unfold j_X9_addPage_3_79
  repeat' first
    | with_reducible exact pc_x0
    | with_reducible exact pc_xt (by assumption)
    | with_reducible exact pc_xr (by assumption)
    | with_reducible refine pc_nk fun _ => ?_
    | with_reducible refine pc_if ?_ ?_
    | with_reducible refine pc_ck ?_
    | with_reducible refine pc_cb ?_
    | with_reducible refine pc_dv ?_
    | with_reducible refine pc_let fun _ => ?_
    | with_reducible refine pc_letL fun _ => ?_
    | with_reducible refine pc_ldN fun _ => ?_
    | with_reducible refine pc_ldL fun _ => ?_
    | with_reducible refine pc_ldR fun _ => ?_
    | with_reducible refine pc_put (eqF.sN (by assumption) (by decide)) fun _ _ => ?_
    | with_reducible refine pc_put (eqF.sL (by assumption) (by decide)) fun _ _ => ?_
    | with_reducible refine pc_put (eqF.sR (by assumption) (by decide)) fun _ _ => ?_
    | with_reducible refine pc_stN (by decide) (by assumption) fun _ _ => ?_
    | with_reducible refine pc_stL (by decide) (by assumption) fun _ _ => ?_
    | with_reducible refine pc_stR (by decide) (by assumption) fun _ _ => ?_
    | with_reducible refine pc_cpN (by decide) (by assumption) fun _ _ => ?_
    | with_reducible refine pc_pure fun _ => ?_
    | exact pc_some (by assumption)
    | exact pc_some (eqF.bX (by assumption))
    | exact pc_some trivial
    | dsimp only
theorem fr_b_X9_addPage_3 {m0 : MM} {l0 : Nat} {l1 : Nat} {l2 : Nat} {l3 : Nat} {l4 : Int} {mm : MM} (h : eqF [9, 45, 46, 47, 48, 49] m0 mm) : Pc (b_X9_addPage_3 l0 l1 l2 l3 l4 mm) (fun z => Sum.elim (fun s => eqF [9, 45, 46, 47, 48, 49] m0 s.2) (fun z => eqF [9, 45, 46, 47, 48, 49] m0 z) z) := by
  unfold b_X9_addPage_3
  repeat' first
    | with_reducible exact pc_x0
    | with_reducible exact pc_xt (by assumption)
    | with_reducible exact pc_xr (by assumption)
    | with_reducible exact fr_j_X9_addPage_3_79 (by assumption)
    | with_reducible refine pc_nk fun _ => ?_
    | with_reducible refine pc_if ?_ ?_
    | with_reducible refine pc_ck ?_
    | with_reducible refine pc_cb ?_
    | with_reducible refine pc_dv ?_
    | with_reducible refine pc_let fun _ => ?_
    | with_reducible refine pc_letL fun _ => ?_
    | with_reducible refine pc_ldN fun _ => ?_
    | with_reducible refine pc_ldL fun _ => ?_
    | with_reducible refine pc_ldR fun _ => ?_
    | with_reducible refine pc_put (eqF.sN (by assumption) (by decide)) fun _ _ => ?_
    | with_reducible refine pc_put (eqF.sL (by assumption) (by decide)) fun _ _ => ?_
    | with_reducible refine pc_put (eqF.sR (by assumption) (by decide)) fun _ _ => ?_
    | with_reducible refine pc_stN (by decide) (by assumption) fun _ _ => ?_
    | with_reducible refine pc_stL (by decide) (by assumption) fun _ _ => ?_
    | with_reducible refine pc_stR (by decide) (by assumption) fun _ _ => ?_
    | with_reducible refine pc_cpN (by decide) (by assumption) fun _ _ => ?_
    | with_reducible refine pc_lp (fun s => eqF [9, 45, 46, 47, 48, 49] m0 s.2) (fun z => eqF [9, 45, 46, 47, 48, 49] m0 z) (by assumption) (fun s hs => fr_b_X9_addPage_29 hs) (fun z hz => ?_)
    | with_reducible refine pc_pure fun _ => ?_
    | exact pc_some (by assumption)
    | exact pc_some (eqF.bX (by assumption))
    | exact pc_some trivial
    | dsimp only
theorem fr_j_X9_addPage_0_85 {m0 : MM} {m : MM} (h : eqF [9, 45, 46, 47, 48, 49] m0 m) : Pc (j_X9_addPage_0_85 m) (RF [9, 45, 46, 47, 48, 49] m0) := by
  unfold j_X9_addPage_0_85
  repeat' first
    | with_reducible exact pc_x0
    | with_reducible exact pc_xt (by assumption)
    | with_reducible exact pc_xr (by assumption)
    | with_reducible refine pc_nk fun _ => ?_
    | with_reducible refine pc_if ?_ ?_
    | with_reducible refine pc_ck ?_
    | with_reducible refine pc_cb ?_
    | with_reducible refine pc_dv ?_
    | with_reducible refine pc_let fun _ => ?_
    | with_reducible refine pc_letL fun _ => ?_
    | with_reducible refine pc_ldN fun _ => ?_
    | with_reducible refine pc_ldL fun _ => ?_
    | with_reducible refine pc_ldR fun _ => ?_
    | with_reducible refine pc_put (eqF.sN (by assumption) (by decide)) fun _ _ => ?_
    | with_reducible refine pc_put (eqF.sL (by assumption) (by decide)) fun _ _ => ?_
    | with_reducible refine pc_put (eqF.sR (by assumption) (by decide)) fun _ _ => ?_
    | with_reducible refine pc_stN (by decide) (by assumption) fun _ _ => ?_
    | with_reducible refine pc_stL (by decide) (by assumption) fun _ _ => ?_
    | with_reducible refine pc_stR (by decide) (by assumption) fun _ _ => ?_
    | with_reducible refine pc_cpN (by decide) (by assumption) fun _ _ => ?_
    | with_reducible refine pc_pure fun _ => ?_
    | exact pc_some (by assumption)
    | exact pc_some (eqF.bX (by assumption))
    | exact pc_some trivial
    | dsimp only
theorem fr_f_X9_addPage {m0 : MM} {m : MM} {l0 : Nat} {l1 : Nat} {l2 : Nat} {l3 : Nat} (h : eqF [9, 45, 46, 47, 48, 49] m0 m) : Pc (f_X9_addPage m l0 l1 l2 l3) (RF [9, 45, 46, 47, 48, 49] m0) := by
  unfold f_X9_addPage
  repeat' first
    | with_reducible exact pc_x0
    | with_reducible exact pc_xt (by assumption)
    | with_reducible exact pc_xr (by assumption)
    | with_reducible exact fr_j_X9_addPage_0_85 (by assumption)
    | with_reducible refine pc_nk fun _ => ?_
    | with_reducible refine pc_if ?_ ?_
    | with_reducible refine pc_ck ?_
    | with_reducible refine pc_cb ?_
    | with_reducible refine pc_dv ?_
    | with_reducible refine pc_let fun _ => ?_
    | with_reducible refine pc_letL fun _ => ?_
    | with_reducible refine pc_ldN fun _ => ?_
    | with_reducible refine pc_ldL fun _ => ?_
    | with_reducible refine pc_ldR fun _ => ?_
    | with_reducible refine pc_put (eqF.sN (by assumption) (by decide)) fun _ _ => ?_
    | with_reducible refine pc_put (eqF.sL (by assumption) (by decide)) fun _ _ => ?_
    | with_reducible refine pc_put (eqF.sR (by assumption) (by decide)) fun _ _ => ?_
    | with_reducible refine pc_stN (by decide) (by assumption) fun _ _ => ?_
    | with_reducible refine pc_stL (by decide) (by assumption) fun _ _ => ?_
    | with_reducible refine pc_stR (by decide) (by assumption) fun _ _ => ?_
    | with_reducible refine pc_cpN (by decide) (by assumption) fun _ _ => ?_
    | with_reducible refine pc_lp (fun s => eqF [9, 45, 46, 47, 48, 49] m0 s.2) (fun z => eqF [9, 45, 46, 47, 48, 49] m0 z) (by assumption) (fun s hs => fr_b_X9_addPage_3 hs) (fun z hz => ?_)
    | with_reducible refine pc_pure fun _ => ?_
    | exact pc_some (by assumption)
    | exact pc_some (eqF.bX (by assumption))
    | exact pc_some trivial
    | dsimp only
theorem fr_b_X11_follow_67 {m0 : MM} {l0 : Nat} {l3 : Nat} {l4 : Nat} {l5 : Nat} {l6 : Int} {l7 : Int} {mm : MM} (h : eqF [9, 45, 46, 47, 48, 49] m0 mm) : Pc (b_X11_follow_67 l0 l3 l4 l5 l6 l7 mm) (fun z => Sum.elim (fun s => eqF [9, 45, 46, 47, 48, 49] m0 s.2) (fun z => eqF [9, 45, 46, 47, 48, 49] m0 z) z) := by
  unfold b_X11_follow_67
  repeat' first
    | with_reducible exact pc_x0
    | with_reducible exact pc_xt (by assumption)
    | with_reducible exact pc_xr (by assumption)
    | with_reducible refine pc_nk fun _ => ?_
    | with_reducible refine pc_if ?_ ?_
    | with_reducible refine pc_ck ?_
    | with_reducible refine pc_cb ?_
    | with_reducible refine pc_dv ?_
    | with_reducible refine pc_let fun _ => ?_
    | with_reducible refine pc_letL fun _ => ?_
    | with_reducible refine pc_ldN fun _ => ?_
    | with_reducible refine pc_ldL fun _ => ?_
    | with_reducible refine pc_ldR fun _ => ?_
    | with_reducible refine pc_put (eqF.sN (by assumption) (by decide)) fun _ _ => ?_
    | with_reducible refine pc_put (eqF.sL (by assumption) (by decide)) fun _ _ => ?_
    | with_reducible refine pc_put (eqF.sR (by assumption) (by decide)) fun _ _ => ?_
    | with_reducible refine pc_stN (by decide) (by assumption) fun _ _ => ?_
    | with_reducible refine pc_stL (by decide) (by assumption) fun _ _ => ?_
    | with_reducible refine pc_stR (by decide) (by assumption) fun _ _ => ?_
    | with_reducible refine pc_cpN (by decide) (by assumption) fun _ _ => ?_
    | with_reducible refine pc_bV (fr_f_X9_addPage (m0 := _) eqF.rf) (by decide) (by assumption) (fun _ _ => ?_) (fun _ _ _ => ?_)
    | with_reducible refine pc_pure fun _ => ?_
    | exact pc_some (by assumption)
    | exact pc_some (eqF.bX (by assumption))
    | exact pc_some trivial
    | dsimp only
theorem fr_j_X11_follow_0_105 {m0 : MM} {m : MM} {l3 : Nat} (h : eqF [9, 45, 46, 47, 48, 49] m0 m) : Pc (j_X11_follow_0_105 m l3) (RF [9, 45, 46, 47, 48, 49] m0) := by
  unfold j_X11_follow_0_105
  repeat' first
    | with_reducible exact pc_x0
    | with_reducible exact pc_xt (by assumption)
    | with_reducible exact pc_xr (by assumption)
    | with_reducible refine pc_nk fun _ => ?_
    | with_reducible refine pc_if ?_ ?_
    | with_reducible refine pc_ck ?_
    | with_reducible refine pc_cb ?_
    | with_reducible refine pc_dv ?_
    | with_reducible refine pc_let fun _ => ?_
    | with_reducible refine pc_letL fun _ => ?_
    | with_reducible refine pc_ldN fun _ => ?_
    | with_reducible refine pc_ldL fun _ => ?_
    | with_reducible refine pc_ldR fun _ => ?_
    | with_reducible refine pc_put (eqF.sN (by assumption) (by decide)) fun _ _ => ?_
    | with_reducible refine pc_put (eqF.sL (by assumption) (by decide)) fun _ _ => ?_
    | with_reducible refine pc_put (eqF.sR (by assumption) (by decide)) fun _ _ => ?_
    | with_reducible refine pc_stN (by decide) (by assumption) fun _ _ => ?_
    | with_reducible refine pc_stL (by decide) (by assumption) fun _ _ => ?_
    | with_reducible refine pc_stR (by decide) (by assumption) fun _ _ => ?_
    | with_reducible refine pc_cpN (by decide) (by assumption) fun _ _ => ?_
    | with_reducible refine pc_pure fun _ => ?_
    | exact pc_some (by assumption)
    | exact pc_some (eqF.bX (by assumption))
    | exact pc_some trivial
    | dsimp only
theorem fr_j_X11_follow_0_49 {m0 : MM} {m : MM} {l0 : Nat} {l3 : Nat} {l4 : Nat} {s0 : Int} (h : eqF [9, 45, 46, 47, 48, 49] m0 m) : Pc (j_X11_follow_0_49 m l0 l3 l4 s0) (RF [9, 45, 46, 47, 48, 49] m0) := by
  unfold j_X11_follow_0_49
  repeat' first
    | with_reducible exact pc_x0
    | with_reducible exact pc_xt (by assumption)
    | with_reducible exact pc_xr (by assumption)
    | with_reducible exact fr_j_X11_follow_0_105 (by assumption)
    | with_reducible refine pc_nk fun _ => ?_
    | with_reducible refine pc_if ?_ ?_
    | with_reducible refine pc_ck ?_
    | with_reducible refine pc_cb ?_
    | with_reducible refine pc_dv ?_
    | with_reducible refine pc_let fun _ => ?_
    | with_reducible refine pc_letL fun _ => ?_
    | with_reducible refine pc_ldN fun _ => ?_
    | with_reducible refine pc_ldL fun _ => ?_
    | with_reducible refine pc_ldR fun _ => ?_
    | with_reducible refine pc_put (eqF.sN (by assumption) (by decide)) fun _ _ => ?_
    | with_reducible refine pc_put (eqF.sL (by assumption) (by decide)) fun _ _ => ?_
    | with_reducible refine pc_put (eqF.sR (by assumption) (by decide)) fun _ _ => ?_
    | with_reducible refine pc_stN (by decide) (by assumption) fun _ _ => ?_
    | with_reducible refine pc_stL (by decide) (by assumption) fun _ _ => ?_
    | with_reducible refine pc_stR (by decide) (by assumption) fun _ _ => ?_
    | with_reducible refine pc_cpN (by decide) (by assumption) fun _ _ => ?_
    | with_reducible refine pc_bV (fr_f_X11_requireState (m0 := _) eqF.rf) (by decide) (by assumption) (fun _ _ => ?_) (fun _ _ _ => ?_)
    | with_reducible refine pc_lp (fun s => eqF [9, 45, 46, 47, 48, 49] m0 s.2) (fun z => eqF [9, 45, 46, 47, 48, 49] m0 z) (by assumption) (fun s hs => fr_b_X11_follow_67 hs) (fun z hz => ?_)
    | with_reducible refine pc_pure fun _ => ?_
    | exact pc_some (by assumption)
    | exact pc_some (eqF.bX (by assumption))
    | exact pc_some trivial
    | dsimp only
theorem fr_j_X11_follow_0_48 {m0 : MM} {m : MM} {l0 : Nat} {l3 : Nat} {l4 : Nat} (h : eqF [9, 45, 46, 47, 48, 49] m0 m) : Pc (j_X11_follow_0_48 m l0 l3 l4) (RF [9, 45, 46, 47, 48, 49] m0) := by
  unfold j_X11_follow_0_48
  repeat' first
    | with_reducible exact pc_x0
    | with_reducible exact pc_xt (by assumption)
    | with_reducible exact pc_xr (by assumption)
    | with_reducible exact fr_j_X11_follow_0_49 (by assumption)
    | with_reducible refine pc_nk fun _ => ?_
    | with_reducible refine pc_if ?_ ?_
    | with_reducible refine pc_ck ?_
    | with_reducible refine pc_cb ?_
    | with_reducible refine pc_dv ?_
    | with_reducible refine pc_let fun _ => ?_
    | with_reducible refine pc_letL fun _ => ?_
    | with_reducible refine pc_ldN fun _ => ?_
    | with_reducible refine pc_ldL fun _ => ?_
    | with_reducible refine pc_ldR fun _ => ?_
    | with_reducible refine pc_put (eqF.sN (by assumption) (by decide)) fun _ _ => ?_
    | with_reducible refine pc_put (eqF.sL (by assumption) (by decide)) fun _ _ => ?_
    | with_reducible refine pc_put (eqF.sR (by assumption) (by decide)) fun _ _ => ?_
    | with_reducible refine pc_stN (by decide) (by assumption) fun _ _ => ?_
    | with_reducible refine pc_stL (by decide) (by assumption) fun _ _ => ?_
    | with_reducible refine pc_stR (by decide) (by assumption) fun _ _ => ?_
    | with_reducible refine pc_cpN (by decide) (by assumption) fun _ _ => ?_
    | with_reducible refine pc_pure fun _ => ?_
    | exact pc_some (by assumption)
    | exact pc_some (eqF.bX (by assumption))
    | exact pc_some trivial
    | dsimp only
theorem fr_j_X11_follow_0_23 {m0 : MM} {m : MM} {l0 : Nat} {l3 : Nat} {l4 : Nat} {s0 : Int} (h : eqF [9, 45, 46, 47, 48, 49] m0 m) : Pc (j_X11_follow_0_23 m l0 l3 l4 s0) (RF [9, 45, 46, 47, 48, 49] m0) := by
  unfold j_X11_follow_0_23
  repeat' first
    | with_reducible exact pc_x0
    | with_reducible exact pc_xt (by assumption)
    | with_reducible exact pc_xr (by assumption)
    | with_reducible exact fr_j_X11_follow_0_48 (by assumption)
    | with_reducible exact fr_j_X11_follow_0_49 (by assumption)
    | with_reducible refine pc_nk fun _ => ?_
    | with_reducible refine pc_if ?_ ?_
    | with_reducible refine pc_ck ?_
    | with_reducible refine pc_cb ?_
    | with_reducible refine pc_dv ?_
    | with_reducible refine pc_let fun _ => ?_
    | with_reducible refine pc_letL fun _ => ?_
    | with_reducible refine pc_ldN fun _ => ?_
    | with_reducible refine pc_ldL fun _ => ?_
    | with_reducible refine pc_ldR fun _ => ?_
    | with_reducible refine pc_put (eqF.sN (by assumption) (by decide)) fun _ _ => ?_
    | with_reducible refine pc_put (eqF.sL (by assumption) (by decide)) fun _ _ => ?_
    | with_reducible refine pc_put (eqF.sR (by assumption) (by decide)) fun _ _ => ?_
    | with_reducible refine pc_stN (by decide) (by assumption) fun _ _ => ?_
    | with_reducible refine pc_stL (by decide) (by assumption) fun _ _ => ?_
    | with_reducible refine pc_stR (by decide) (by assumption) fun _ _ => ?_
    | with_reducible refine pc_cpN (by decide) (by assumption) fun _ _ => ?_
    | with_reducible refine pc_bV (fr_f_X11_requireArgument (m0 := _) eqF.rf) (by decide) (by assumption) (fun _ _ => ?_) (fun _ _ _ => ?_)
    | with_reducible refine pc_pure fun _ => ?_
    | exact pc_some (by assumption)
    | exact pc_some (eqF.bX (by assumption))
    | exact pc_some trivial
    | dsimp only
theorem fr_f_X11_follow {m0 : MM} {m : MM} {l0 : Nat} {l1 : Int} {l2 : Int} (h : eqF [9, 45, 46, 47, 48, 49] m0 m) : Pc (f_X11_follow m l0 l1 l2) (RF [9, 45, 46, 47, 48, 49] m0) := by
  unfold f_X11_follow
  repeat' first
    | with_reducible exact pc_x0
    | with_reducible exact pc_xt (by assumption)
    | with_reducible exact pc_xr (by assumption)
    | with_reducible exact fr_j_X11_follow_0_23 (by assumption)
    | with_reducible refine pc_nk fun _ => ?_
    | with_reducible refine pc_if ?_ ?_
    | with_reducible refine pc_ck ?_
    | with_reducible refine pc_cb ?_
    | with_reducible refine pc_dv ?_
    | with_reducible refine pc_let fun _ => ?_
    | with_reducible refine pc_letL fun _ => ?_
    | with_reducible refine pc_ldN fun _ => ?_
    | with_reducible refine pc_ldL fun _ => ?_
    | with_reducible refine pc_ldR fun _ => ?_
    | with_reducible refine pc_put (eqF.sN (by assumption) (by decide)) fun _ _ => ?_
    | with_reducible refine pc_put (eqF.sL (by assumption) (by decide)) fun _ _ => ?_
    | with_reducible refine pc_put (eqF.sR (by assumption) (by decide)) fun _ _ => ?_
    | with_reducible refine pc_stN (by decide) (by assumption) fun _ _ => ?_
    | with_reducible refine pc_stL (by decide) (by assumption) fun _ _ => ?_
    | with_reducible refine pc_stR (by decide) (by assumption) fun _ _ => ?_
    | with_reducible refine pc_cpN (by decide) (by assumption) fun _ _ => ?_
    | with_reducible refine pc_bR (fr_f_X11_bookAt (m0 := _) eqF.rf) (by decide) (by assumption) (fun _ _ _ => ?_) (fun _ _ _ => ?_)
    | with_reducible refine pc_pure fun _ => ?_
    | exact pc_some (by assumption)
    | exact pc_some (eqF.bX (by assumption))
    | exact pc_some trivial
    | dsimp only
theorem fr_j_X11_follows_0_89 {m0 : MM} {m : MM} {l5 : Int} (h : eqF [] m0 m) : Pc (j_X11_follows_0_89 m l5) (RF [] m0) := by
  unfold j_X11_follows_0_89
  repeat' first
    | with_reducible exact pc_x0
    | with_reducible exact pc_xt (by assumption)
    | with_reducible exact pc_xr (by assumption)
    | with_reducible refine pc_nk fun _ => ?_
    | with_reducible refine pc_if ?_ ?_
    | with_reducible refine pc_ck ?_
    | with_reducible refine pc_cb ?_
    | with_reducible refine pc_dv ?_
    | with_reducible refine pc_let fun _ => ?_
    | with_reducible refine pc_letL fun _ => ?_
    | with_reducible refine pc_ldN fun _ => ?_
    | with_reducible refine pc_ldL fun _ => ?_
    | with_reducible refine pc_ldR fun _ => ?_
    | with_reducible refine pc_put (eqF.sN (by assumption) (by decide)) fun _ _ => ?_
    | with_reducible refine pc_put (eqF.sL (by assumption) (by decide)) fun _ _ => ?_
    | with_reducible refine pc_put (eqF.sR (by assumption) (by decide)) fun _ _ => ?_
    | with_reducible refine pc_stN (by decide) (by assumption) fun _ _ => ?_
    | with_reducible refine pc_stL (by decide) (by assumption) fun _ _ => ?_
    | with_reducible refine pc_stR (by decide) (by assumption) fun _ _ => ?_
    | with_reducible refine pc_cpN (by decide) (by assumption) fun _ _ => ?_
    | with_reducible refine pc_pure fun _ => ?_
    | exact pc_some (by assumption)
    | exact pc_some (eqF.bX (by assumption))
    | exact pc_some trivial
    | dsimp only
theorem fr_f_X11_follows {m0 : MM} {m : MM} {l0 : Nat} {l1 : Int} {l2 : Int} (h : eqF [] m0 m) : Pc (f_X11_follows m l0 l1 l2) (RF [] m0) := by
  unfold f_X11_follows
  repeat' first
    | with_reducible exact pc_x0
    | with_reducible exact pc_xt (by assumption)
    | with_reducible exact pc_xr (by assumption)
    | with_reducible exact fr_j_X11_follows_0_89 (by assumption)
    | with_reducible refine pc_nk fun _ => ?_
    | with_reducible refine pc_if ?_ ?_
    | with_reducible refine pc_ck ?_
    | with_reducible refine pc_cb ?_
    | with_reducible refine pc_dv ?_
    | with_reducible refine pc_let fun _ => ?_
    | with_reducible refine pc_letL fun _ => ?_
    | with_reducible refine pc_ldN fun _ => ?_
    | with_reducible refine pc_ldL fun _ => ?_
    | with_reducible refine pc_ldR fun _ => ?_
    | with_reducible refine pc_put (eqF.sN (by assumption) (by decide)) fun _ _ => ?_
    | with_reducible refine pc_put (eqF.sL (by assumption) (by decide)) fun _ _ => ?_
    | with_reducible refine pc_put (eqF.sR (by assumption) (by decide)) fun _ _ => ?_
    | with_reducible refine pc_stN (by decide) (by assumption) fun _ _ => ?_
    | with_reducible refine pc_stL (by decide) (by assumption) fun _ _ => ?_
    | with_reducible refine pc_stR (by decide) (by assumption) fun _ _ => ?_
    | with_reducible refine pc_cpN (by decide) (by assumption) fun _ _ => ?_
    | with_reducible refine pc_bR (fr_f_X11_bookAt (m0 := _) eqF.rf) (by decide) (by assumption) (fun _ _ _ => ?_) (fun _ _ _ => ?_)
    | with_reducible refine pc_pure fun _ => ?_
    | exact pc_some (by assumption)
    | exact pc_some (eqF.bX (by assumption))
    | exact pc_some trivial
    | dsimp only
theorem fr_f_X11_formeOf {m0 : MM} {m : MM} {l0 : Nat} {l1 : Int} (h : eqF [] m0 m) : Pc (f_X11_formeOf m l0 l1) (RF [] m0) := by
  unfold f_X11_formeOf
  repeat' first
    | with_reducible exact pc_x0
    | with_reducible exact pc_xt (by assumption)
    | with_reducible exact pc_xr (by assumption)
    | with_reducible refine pc_nk fun _ => ?_
    | with_reducible refine pc_if ?_ ?_
    | with_reducible refine pc_ck ?_
    | with_reducible refine pc_cb ?_
    | with_reducible refine pc_dv ?_
    | with_reducible refine pc_let fun _ => ?_
    | with_reducible refine pc_letL fun _ => ?_
    | with_reducible refine pc_ldN fun _ => ?_
    | with_reducible refine pc_ldL fun _ => ?_
    | with_reducible refine pc_ldR fun _ => ?_
    | with_reducible refine pc_put (eqF.sN (by assumption) (by decide)) fun _ _ => ?_
    | with_reducible refine pc_put (eqF.sL (by assumption) (by decide)) fun _ _ => ?_
    | with_reducible refine pc_put (eqF.sR (by assumption) (by decide)) fun _ _ => ?_
    | with_reducible refine pc_stN (by decide) (by assumption) fun _ _ => ?_
    | with_reducible refine pc_stL (by decide) (by assumption) fun _ _ => ?_
    | with_reducible refine pc_stR (by decide) (by assumption) fun _ _ => ?_
    | with_reducible refine pc_cpN (by decide) (by assumption) fun _ _ => ?_
    | with_reducible refine pc_pure fun _ => ?_
    | exact pc_some (by assumption)
    | exact pc_some (eqF.bX (by assumption))
    | exact pc_some trivial
    | dsimp only
theorem fr_j_X11_forme_0_25 {m0 : MM} {m : MM} {l3 : Int} {l4 : Nat} {s0 : Int} (h : eqF [] m0 m) : Pc (j_X11_forme_0_25 m l3 l4 s0) (RF [] m0) := by
  unfold j_X11_forme_0_25
  repeat' first
    | with_reducible exact pc_x0
    | with_reducible exact pc_xt (by assumption)
    | with_reducible exact pc_xr (by assumption)
    | with_reducible refine pc_nk fun _ => ?_
    | with_reducible refine pc_if ?_ ?_
    | with_reducible refine pc_ck ?_
    | with_reducible refine pc_cb ?_
    | with_reducible refine pc_dv ?_
    | with_reducible refine pc_let fun _ => ?_
    | with_reducible refine pc_letL fun _ => ?_
    | with_reducible refine pc_ldN fun _ => ?_
    | with_reducible refine pc_ldL fun _ => ?_
    | with_reducible refine pc_ldR fun _ => ?_
    | with_reducible refine pc_put (eqF.sN (by assumption) (by decide)) fun _ _ => ?_
    | with_reducible refine pc_put (eqF.sL (by assumption) (by decide)) fun _ _ => ?_
    | with_reducible refine pc_put (eqF.sR (by assumption) (by decide)) fun _ _ => ?_
    | with_reducible refine pc_stN (by decide) (by assumption) fun _ _ => ?_
    | with_reducible refine pc_stL (by decide) (by assumption) fun _ _ => ?_
    | with_reducible refine pc_stR (by decide) (by assumption) fun _ _ => ?_
    | with_reducible refine pc_cpN (by decide) (by assumption) fun _ _ => ?_
    | with_reducible refine pc_bV (fr_f_X11_requireArgument (m0 := _) eqF.rf) (by decide) (by assumption) (fun _ _ => ?_) (fun _ _ _ => ?_)
    | with_reducible refine pc_pure fun _ => ?_
    | exact pc_some (by assumption)
    | exact pc_some (eqF.bX (by assumption))
    | exact pc_some trivial
    | dsimp only
theorem fr_j_X11_forme_0_24 {m0 : MM} {m : MM} {l3 : Int} {l4 : Nat} (h : eqF [] m0 m) : Pc (j_X11_forme_0_24 m l3 l4) (RF [] m0) := by
  unfold j_X11_forme_0_24
  repeat' first
    | with_reducible exact pc_x0
    | with_reducible exact pc_xt (by assumption)
    | with_reducible exact pc_xr (by assumption)
    | with_reducible exact fr_j_X11_forme_0_25 (by assumption)
    | with_reducible refine pc_nk fun _ => ?_
    | with_reducible refine pc_if ?_ ?_
    | with_reducible refine pc_ck ?_
    | with_reducible refine pc_cb ?_
    | with_reducible refine pc_dv ?_
    | with_reducible refine pc_let fun _ => ?_
    | with_reducible refine pc_letL fun _ => ?_
    | with_reducible refine pc_ldN fun _ => ?_
    | with_reducible refine pc_ldL fun _ => ?_
    | with_reducible refine pc_ldR fun _ => ?_
    | with_reducible refine pc_put (eqF.sN (by assumption) (by decide)) fun _ _ => ?_
    | with_reducible refine pc_put (eqF.sL (by assumption) (by decide)) fun _ _ => ?_
    | with_reducible refine pc_put (eqF.sR (by assumption) (by decide)) fun _ _ => ?_
    | with_reducible refine pc_stN (by decide) (by assumption) fun _ _ => ?_
    | with_reducible refine pc_stL (by decide) (by assumption) fun _ _ => ?_
    | with_reducible refine pc_stR (by decide) (by assumption) fun _ _ => ?_
    | with_reducible refine pc_cpN (by decide) (by assumption) fun _ _ => ?_
    | with_reducible refine pc_pure fun _ => ?_
    | exact pc_some (by assumption)
    | exact pc_some (eqF.bX (by assumption))
    | exact pc_some trivial
    | dsimp only
theorem fr_f_X11_forme {m0 : MM} {m : MM} {l0 : Nat} {l1 : Int} {l2 : Int} {l3 : Int} (h : eqF [] m0 m) : Pc (f_X11_forme m l0 l1 l2 l3) (RF [] m0) := by
  unfold f_X11_forme
  repeat' first
    | with_reducible exact pc_x0
    | with_reducible exact pc_xt (by assumption)
    | with_reducible exact pc_xr (by assumption)
    | with_reducible exact fr_j_X11_forme_0_24 (by assumption)
    | with_reducible exact fr_j_X11_forme_0_25 (by assumption)
    | with_reducible refine pc_nk fun _ => ?_
    | with_reducible refine pc_if ?_ ?_
    | with_reducible refine pc_ck ?_
    | with_reducible refine pc_cb ?_
    | with_reducible refine pc_dv ?_
    | with_reducible refine pc_let fun _ => ?_
    | with_reducible refine pc_letL fun _ => ?_
    | with_reducible refine pc_ldN fun _ => ?_
    | with_reducible refine pc_ldL fun _ => ?_
    | with_reducible refine pc_ldR fun _ => ?_
    | with_reducible refine pc_put (eqF.sN (by assumption) (by decide)) fun _ _ => ?_
    | with_reducible refine pc_put (eqF.sL (by assumption) (by decide)) fun _ _ => ?_
    | with_reducible refine pc_put (eqF.sR (by assumption) (by decide)) fun _ _ => ?_
    | with_reducible refine pc_stN (by decide) (by assumption) fun _ _ => ?_
    | with_reducible refine pc_stL (by decide) (by assumption) fun _ _ => ?_
    | with_reducible refine pc_stR (by decide) (by assumption) fun _ _ => ?_
    | with_reducible refine pc_cpN (by decide) (by assumption) fun _ _ => ?_
    | with_reducible refine pc_bR (fr_f_X11_bookAt (m0 := _) eqF.rf) (by decide) (by assumption) (fun _ _ _ => ?_) (fun _ _ _ => ?_)
    | with_reducible refine pc_bR (fr_f_X11_formeOf (m0 := _) eqF.rf) (by decide) (by assumption) (fun _ _ _ => ?_) (fun _ _ _ => ?_)
    | with_reducible refine pc_pure fun _ => ?_
    | exact pc_some (by assumption)
    | exact pc_some (eqF.bX (by assumption))
    | exact pc_some trivial
    | dsimp only
theorem fr_f_X3_init {m0 : MM} {m : MM} {l0 : Nat} {l1 : Int} {l2 : Int} {l3 : Int} (h : eqF [3] m0 m) : Pc (f_X3_init m l0 l1 l2 l3) (RF [3] m0) := by
  unfold f_X3_init
  repeat' first
    | with_reducible exact pc_x0
    | with_reducible exact pc_xt (by assumption)
    | with_reducible exact pc_xr (by assumption)
    | with_reducible refine pc_nk fun _ => ?_
    | with_reducible refine pc_if ?_ ?_
    | with_reducible refine pc_ck ?_
    | with_reducible refine pc_cb ?_
    | with_reducible refine pc_dv ?_
    | with_reducible refine pc_let fun _ => ?_
    | with_reducible refine pc_letL fun _ => ?_
    | with_reducible refine pc_ldN fun _ => ?_
    | with_reducible refine pc_ldL fun _ => ?_
    | with_reducible refine pc_ldR fun _ => ?_
    | with_reducible refine pc_put (eqF.sN (by assumption) (by decide)) fun _ _ => ?_
    | with_reducible refine pc_put (eqF.sL (by assumption) (by decide)) fun _ _ => ?_
    | with_reducible refine pc_put (eqF.sR (by assumption) (by decide)) fun _ _ => ?_
    | with_reducible refine pc_stN (by decide) (by assumption) fun _ _ => ?_
    | with_reducible refine pc_stL (by decide) (by assumption) fun _ _ => ?_
    | with_reducible refine pc_stR (by decide) (by assumption) fun _ _ => ?_
    | with_reducible refine pc_cpN (by decide) (by assumption) fun _ _ => ?_
    | with_reducible refine pc_pure fun _ => ?_
    | exact pc_some (by assumption)
    | exact pc_some (eqF.bX (by assumption))
    | exact pc_some trivial
    | dsimp only
theorem fr_b_X7_canPart_34 {rec : MM → Nat → Int → Int → Int → Int → MO} (hrec : ∀ {m l0 l1 l2 l3 l4}, Pc (rec m l0 l1 l2 l3 l4) (RF [44] m)) {m0 : MM} {l0 : Nat} {l1 : Int} {l2 : Int} {l3 : Int} {l4 : Int} {l5 : Int} {l6 : Int} {mm : MM} (h : eqF [44] m0 mm) : Pc (b_X7_canPart_34 rec l0 l1 l2 l3 l4 l5 l6 mm) (fun z => Sum.elim (fun s => eqF [44] m0 s.2.2) (fun z => eqF [44] m0 z.2) z) := by
  unfold b_X7_canPart_34
  repeat' first
    | with_reducible exact pc_x0
    | with_reducible exact pc_xt (by assumption)
    | with_reducible exact pc_xr (by assumption)
    | with_reducible refine pc_nk fun _ => ?_
    | with_reducible refine pc_if ?_ ?_
    | with_reducible refine pc_ck ?_
    | with_reducible refine pc_cb ?_
    | with_reducible refine pc_dv ?_
    | with_reducible refine pc_let fun _ => ?_
    | with_reducible refine pc_letL fun _ => ?_
    | with_reducible refine pc_ldN fun _ => ?_
    | with_reducible refine pc_ldL fun _ => ?_
    | with_reducible refine pc_ldR fun _ => ?_
    | with_reducible refine pc_put (eqF.sN (by assumption) (by decide)) fun _ _ => ?_
    | with_reducible refine pc_put (eqF.sL (by assumption) (by decide)) fun _ _ => ?_
    | with_reducible refine pc_put (eqF.sR (by assumption) (by decide)) fun _ _ => ?_
    | with_reducible refine pc_stN (by decide) (by assumption) fun _ _ => ?_
    | with_reducible refine pc_stL (by decide) (by assumption) fun _ _ => ?_
    | with_reducible refine pc_stR (by decide) (by assumption) fun _ _ => ?_
    | with_reducible refine pc_cpN (by decide) (by assumption) fun _ _ => ?_
    | with_reducible refine pc_bI (hrec) (by decide) (by assumption) (fun _ _ _ => ?_) (fun _ _ _ => ?_)
    | with_reducible refine pc_pure fun _ => ?_
    | exact pc_some (by assumption)
    | exact pc_some (eqF.bX (by assumption))
    | exact pc_some trivial
    | dsimp only
theorem fr_j_X7_canPart_0_123 {rec : MM → Nat → Int → Int → Int → Int → MO} (hrec : ∀ {m l0 l1 l2 l3 l4}, Pc (rec m l0 l1 l2 l3 l4) (RF [44] m)) {m0 : MM} {m : MM} {l5 : Int} (h : eqF [44] m0 m) : Pc (j_X7_canPart_0_123 rec m l5) (RF [44] m0) := by
  unfold j_X7_canPart_0_123
  repeat' first
    | with_reducible exact pc_x0
    | with_reducible exact pc_xt (by assumption)
    | with_reducible exact pc_xr (by assumption)
    | with_reducible refine pc_nk fun _ => ?_
    | with_reducible refine pc_if ?_ ?_
    | with_reducible refine pc_ck ?_
    | with_reducible refine pc_cb ?_
    | with_reducible refine pc_dv ?_
    | with_reducible refine pc_let fun _ => ?_
    | with_reducible refine pc_letL fun _ => ?_
    | with_reducible refine pc_ldN fun _ => ?_
    | with_reducible refine pc_ldL fun _ => ?_
    | with_reducible refine pc_ldR fun _ => ?_
    | with_reducible refine pc_put (eqF.sN (by assumption) (by decide)) fun _ _ => ?_
    | with_reducible refine pc_put (eqF.sL (by assumption) (by decide)) fun _ _ => ?_
    | with_reducible refine pc_put (eqF.sR (by assumption) (by decide)) fun _ _ => ?_
    | with_reducible refine pc_stN (by decide) (by assumption) fun _ _ => ?_
    | with_reducible refine pc_stL (by decide) (by assumption) fun _ _ => ?_
    | with_reducible refine pc_stR (by decide) (by assumption) fun _ _ => ?_
    | with_reducible refine pc_cpN (by decide) (by assumption) fun _ _ => ?_
    | with_reducible refine pc_pure fun _ => ?_
    | exact pc_some (by assumption)
    | exact pc_some (eqF.bX (by assumption))
    | exact pc_some trivial
    | dsimp only
theorem frb_f_X7_canPart {rec : MM → Nat → Int → Int → Int → Int → MO} (hrec : ∀ {m l0 l1 l2 l3 l4}, Pc (rec m l0 l1 l2 l3 l4) (RF [44] m)) {m0 : MM} {m : MM} {l0 : Nat} {l1 : Int} {l2 : Int} {l3 : Int} {l4 : Int} (h : eqF [44] m0 m) : Pc (fb_X7_canPart rec m l0 l1 l2 l3 l4) (RF [44] m0) := by
  unfold fb_X7_canPart
  repeat' first
    | with_reducible exact pc_x0
    | with_reducible exact pc_xt (by assumption)
    | with_reducible exact pc_xr (by assumption)
    | with_reducible exact fr_j_X7_canPart_0_123 hrec (by assumption)
    | with_reducible refine pc_nk fun _ => ?_
    | with_reducible refine pc_if ?_ ?_
    | with_reducible refine pc_ck ?_
    | with_reducible refine pc_cb ?_
    | with_reducible refine pc_dv ?_
    | with_reducible refine pc_let fun _ => ?_
    | with_reducible refine pc_letL fun _ => ?_
    | with_reducible refine pc_ldN fun _ => ?_
    | with_reducible refine pc_ldL fun _ => ?_
    | with_reducible refine pc_ldR fun _ => ?_
    | with_reducible refine pc_put (eqF.sN (by assumption) (by decide)) fun _ _ => ?_
    | with_reducible refine pc_put (eqF.sL (by assumption) (by decide)) fun _ _ => ?_
    | with_reducible refine pc_put (eqF.sR (by assumption) (by decide)) fun _ _ => ?_
    | with_reducible refine pc_stN (by decide) (by assumption) fun _ _ => ?_
    | with_reducible refine pc_stL (by decide) (by assumption) fun _ _ => ?_
    | with_reducible refine pc_stR (by decide) (by assumption) fun _ _ => ?_
    | with_reducible refine pc_cpN (by decide) (by assumption) fun _ _ => ?_
    | with_reducible refine pc_bI (hrec) (by decide) (by assumption) (fun _ _ _ => ?_) (fun _ _ _ => ?_)
    | with_reducible refine pc_lp (fun s => eqF [44] m0 s.2.2) (fun z => eqF [44] m0 z.2) (by assumption) (fun s hs => fr_b_X7_canPart_34 hrec hs) (fun z hz => ?_)
    | with_reducible refine pc_pure fun _ => ?_
    | exact pc_some (by assumption)
    | exact pc_some (eqF.bX (by assumption))
    | exact pc_some trivial
    | dsimp only
theorem fr_f_X7_canPart : ∀ {d : Nat} {m0 m : MM} {l0 : Nat} {l1 l2 l3 l4 : Int}, eqF [44] m0 m → Pc (f_X7_canPart d m l0 l1 l2 l3 l4) (RF [44] m0)
  | 0, _, _, _, _, _, _, _, _ => pc_none
  | d + 1, _, _, _, _, _, _, _, h => frb_f_X7_canPart (fun {_ _ _ _ _ _} => fr_f_X7_canPart eqF.rf) h
theorem fr_b_X7_readPages_14 {m0 : MM} {l0 : Nat} {l1 : Nat} {l3 : Nat} {l4 : Int} {l2 : Int} {l5 : Int} {mm : MM} (h : eqF [41, 42, 43] m0 mm) : Pc (b_X7_readPages_14 l0 l1 l3 l4 l2 l5 mm) (fun z => Sum.elim (fun s => eqF [41, 42, 43] m0 s.2.2) (fun z => eqF [41, 42, 43] m0 z.2) z) := by
  unfold b_X7_readPages_14
  repeat' first
    | with_reducible exact pc_x0
    | with_reducible exact pc_xt (by assumption)
    | with_reducible exact pc_xr (by assumption)
    | with_reducible refine pc_nk fun _ => ?_
    | with_reducible refine pc_if ?_ ?_
    | with_reducible refine pc_ck ?_
    | with_reducible refine pc_cb ?_
    | with_reducible refine pc_dv ?_
    | with_reducible refine pc_let fun _ => ?_
    | with_reducible refine pc_letL fun _ => ?_
    | with_reducible refine pc_ldN fun _ => ?_
    | with_reducible refine pc_ldL fun _ => ?_
    | with_reducible refine pc_ldR fun _ => ?_
    | with_reducible refine pc_put (eqF.sN (by assumption) (by decide)) fun _ _ => ?_
    | with_reducible refine pc_put (eqF.sL (by assumption) (by decide)) fun _ _ => ?_
    | with_reducible refine pc_put (eqF.sR (by assumption) (by decide)) fun _ _ => ?_
    | with_reducible refine pc_stN (by decide) (by assumption) fun _ _ => ?_
    | with_reducible refine pc_stL (by decide) (by assumption) fun _ _ => ?_
    | with_reducible refine pc_stR (by decide) (by assumption) fun _ _ => ?_
    | with_reducible refine pc_cpN (by decide) (by assumption) fun _ _ => ?_
    | with_reducible refine pc_pure fun _ => ?_
    | exact pc_some (by assumption)
    | exact pc_some (eqF.bX (by assumption))
    | exact pc_some trivial
    | dsimp only
theorem fr_b_X7_readPages_93 {m0 : MM} {l0 : Nat} {l2 : Int} {l3 : Int} {l4 : Int} {mm : MM} (h : eqF [41, 42, 43] m0 mm) : Pc (b_X7_readPages_93 l0 l2 l3 l4 mm) (fun z => Sum.elim (fun s => eqF [41, 42, 43] m0 s.2) (fun z => eqF [41, 42, 43] m0 z) z) := by
  unfold b_X7_readPages_93
  repeat' first
    | with_reducible exact pc_x0
    | with_reducible exact pc_xt (by assumption)
    | with_reducible exact pc_xr (by assumption)
    | with_reducible refine pc_nk fun _ => ?_
    | with_reducible refine pc_if ?_ ?_
    | with_reducible refine pc_ck ?_
    | with_reducible refine pc_cb ?_
    | with_reducible refine pc_dv ?_
    | with_reducible refine pc_let fun _ => ?_
    | with_reducible refine pc_letL fun _ => ?_
    | with_reducible refine pc_ldN fun _ => ?_
    | with_reducible refine pc_ldL fun _ => ?_
    | with_reducible refine pc_ldR fun _ => ?_
    | with_reducible refine pc_put (eqF.sN (by assumption) (by decide)) fun _ _ => ?_
    | with_reducible refine pc_put (eqF.sL (by assumption) (by decide)) fun _ _ => ?_
    | with_reducible refine pc_put (eqF.sR (by assumption) (by decide)) fun _ _ => ?_
    | with_reducible refine pc_stN (by decide) (by assumption) fun _ _ => ?_
    | with_reducible refine pc_stL (by decide) (by assumption) fun _ _ => ?_
    | with_reducible refine pc_stR (by decide) (by assumption) fun _ _ => ?_
    | with_reducible refine pc_cpN (by decide) (by assumption) fun _ _ => ?_
    | with_reducible refine pc_pure fun _ => ?_
    | exact pc_some (by assumption)
    | exact pc_some (eqF.bX (by assumption))
    | exact pc_some trivial
    | dsimp only
theorem fr_j_X7_readPages_78_156 {m0 : MM} {m : MM} {l0 : Nat} {l2 : Int} {l3 : Int} (h : eqF [41, 42, 43] m0 m) : Pc (j_X7_readPages_78_156 m l0 l2 l3) (fun z => Sum.elim (fun s => eqF [41, 42, 43] m0 s.2) (fun z => eqF [41, 42, 43] m0 z) z) := by
  unfold j_X7_readPages_78_156
  repeat' first
    | with_reducible exact pc_x0
    | with_reducible exact pc_xt (by assumption)
    | with_reducible exact pc_xr (by assumption)
    | with_reducible refine pc_nk fun _ => ?_
    | with_reducible refine pc_if ?_ ?_
    | with_reducible refine pc_ck ?_
    | with_reducible refine pc_cb ?_
    | with_reducible refine pc_dv ?_
    | with_reducible refine pc_let fun _ => ?_
    | with_reducible refine pc_letL fun _ => ?_
    | with_reducible refine pc_ldN fun _ => ?_
    | with_reducible refine pc_ldL fun _ => ?_
    | with_reducible refine pc_ldR fun _ => ?_
    | with_reducible refine pc_put (eqF.sN (by assumption) (by decide)) fun _ _ => ?_
    | with_reducible refine pc_put (eqF.sL (by assumption) (by decide)) fun _ _ => ?_
    | with_reducible refine pc_put (eqF.sR (by assumption) (by decide)) fun _ _ => ?_
    | with_reducible refine pc_stN (by decide) (by assumption) fun _ _ => ?_
    | with_reducible refine pc_stL (by decide) (by assumption) fun _ _ => ?_
    | with_reducible refine pc_stR (by decide) (by assumption) fun _ _ => ?_
    | with_reducible refine pc_cpN (by decide) (by assumption) fun _ _ => ?_
    | with_reducible refine pc_pure fun _ => ?_
    | exact pc_some (by assumption)
    | exact pc_some (eqF.bX (by assumption))
    | exact pc_some trivial
    | dsimp only
theorem fr_b_X7_readPages_78 {m0 : MM} {l0 : Nat} {l2 : Int} {l3 : Int} {mm : MM} (h : eqF [41, 42, 43] m0 mm) : Pc (b_X7_readPages_78 l0 l2 l3 mm) (fun z => Sum.elim (fun s => eqF [41, 42, 43] m0 s.2) (fun z => eqF [41, 42, 43] m0 z) z) := by
  unfold b_X7_readPages_78
  repeat' first
    | with_reducible exact pc_x0
    | with_reducible exact pc_xt (by assumption)
    | with_reducible exact pc_xr (by assumption)
    | with_reducible exact fr_j_X7_readPages_78_156 (by assumption)
    | with_reducible refine pc_nk fun _ => ?_
    | with_reducible refine pc_if ?_ ?_
    | with_reducible refine pc_ck ?_
    | with_reducible refine pc_cb ?_
    | with_reducible refine pc_dv ?_
    | with_reducible refine pc_let fun _ => ?_
    | with_reducible refine pc_letL fun _ => ?_
    | with_reducible refine pc_ldN fun _ => ?_
    | with_reducible refine pc_ldL fun _ => ?_
    | with_reducible refine pc_ldR fun _ => ?_
    | with_reducible refine pc_put (eqF.sN (by assumption) (by decide)) fun _ _ => ?_
    | with_reducible refine pc_put (eqF.sL (by assumption) (by decide)) fun _ _ => ?_
    | with_reducible refine pc_put (eqF.sR (by assumption) (by decide)) fun _ _ => ?_
    | with_reducible refine pc_stN (by decide) (by assumption) fun _ _ => ?_
    | with_reducible refine pc_stL (by decide) (by assumption) fun _ _ => ?_
    | with_reducible refine pc_stR (by decide) (by assumption) fun _ _ => ?_
    | with_reducible refine pc_cpN (by decide) (by assumption) fun _ _ => ?_
    | with_reducible refine pc_lp (fun s => eqF [41, 42, 43] m0 s.2) (fun z => eqF [41, 42, 43] m0 z) (by assumption) (fun s hs => fr_b_X7_readPages_93 hs) (fun z hz => ?_)
    | with_reducible refine pc_pure fun _ => ?_
    | exact pc_some (by assumption)
    | exact pc_some (eqF.bX (by assumption))
    | exact pc_some trivial
    | dsimp only
theorem fr_j_X7_readPages_0_162 {m0 : MM} {m : MM} {l2 : Int} (h : eqF [41, 42, 43] m0 m) : Pc (j_X7_readPages_0_162 m l2) (RF [41, 42, 43] m0) := by
  unfold j_X7_readPages_0_162
  repeat' first
    | with_reducible exact pc_x0
    | with_reducible exact pc_xt (by assumption)
    | with_reducible exact pc_xr (by assumption)
    | with_reducible refine pc_nk fun _ => ?_
    | with_reducible refine pc_if ?_ ?_
    | with_reducible refine pc_ck ?_
    | with_reducible refine pc_cb ?_
    | with_reducible refine pc_dv ?_
    | with_reducible refine pc_let fun _ => ?_
    | with_reducible refine pc_letL fun _ => ?_
    | with_reducible refine pc_ldN fun _ => ?_
    | with_reducible refine pc_ldL fun _ => ?_
    | with_reducible refine pc_ldR fun _ => ?_
    | with_reducible refine pc_put (eqF.sN (by assumption) (by decide)) fun _ _ => ?_
    | with_reducible refine pc_put (eqF.sL (by assumption) (by decide)) fun _ _ => ?_
    | with_reducible refine pc_put (eqF.sR (by assumption) (by decide)) fun _ _ => ?_
    | with_reducible refine pc_stN (by decide) (by assumption) fun _ _ => ?_
    | with_reducible refine pc_stL (by decide) (by assumption) fun _ _ => ?_
    | with_reducible refine pc_stR (by decide) (by assumption) fun _ _ => ?_
    | with_reducible refine pc_cpN (by decide) (by assumption) fun _ _ => ?_
    | with_reducible refine pc_pure fun _ => ?_
    | exact pc_some (by assumption)
    | exact pc_some (eqF.bX (by assumption))
    | exact pc_some trivial
    | dsimp only
theorem fr_j_X7_readPages_0_76 {m0 : MM} {m : MM} {l0 : Nat} {l2 : Int} (h : eqF [41, 42, 43] m0 m) : Pc (j_X7_readPages_0_76 m l0 l2) (RF [41, 42, 43] m0) := by
  unfold j_X7_readPages_0_76
  repeat' first
    | with_reducible exact pc_x0
    | with_reducible exact pc_xt (by assumption)
    | with_reducible exact pc_xr (by assumption)
    | with_reducible exact fr_j_X7_readPages_0_162 (by assumption)
    | with_reducible refine pc_nk fun _ => ?_
    | with_reducible refine pc_if ?_ ?_
    | with_reducible refine pc_ck ?_
    | with_reducible refine pc_cb ?_
    | with_reducible refine pc_dv ?_
    | with_reducible refine pc_let fun _ => ?_
    | with_reducible refine pc_letL fun _ => ?_
    | with_reducible refine pc_ldN fun _ => ?_
    | with_reducible refine pc_ldL fun _ => ?_
    | with_reducible refine pc_ldR fun _ => ?_
    | with_reducible refine pc_put (eqF.sN (by assumption) (by decide)) fun _ _ => ?_
    | with_reducible refine pc_put (eqF.sL (by assumption) (by decide)) fun _ _ => ?_
    | with_reducible refine pc_put (eqF.sR (by assumption) (by decide)) fun _ _ => ?_
    | with_reducible refine pc_stN (by decide) (by assumption) fun _ _ => ?_
    | with_reducible refine pc_stL (by decide) (by assumption) fun _ _ => ?_
    | with_reducible refine pc_stR (by decide) (by assumption) fun _ _ => ?_
    | with_reducible refine pc_cpN (by decide) (by assumption) fun _ _ => ?_
    | with_reducible refine pc_lp (fun s => eqF [41, 42, 43] m0 s.2) (fun z => eqF [41, 42, 43] m0 z) (by assumption) (fun s hs => fr_b_X7_readPages_78 hs) (fun z hz => ?_)
    | with_reducible refine pc_pure fun _ => ?_
    | exact pc_some (by assumption)
    | exact pc_some (eqF.bX (by assumption))
    | exact pc_some trivial
    | dsimp only
theorem fr_f_X7_readPages {m0 : MM} {m : MM} {l0 : Nat} {l1 : Nat} (h : eqF [41, 42, 43] m0 m) : Pc (f_X7_readPages m l0 l1) (RF [41, 42, 43] m0) := by
  unfold f_X7_readPages
  repeat' first
    | with_reducible exact pc_x0
    | with_reducible exact pc_xt (by assumption)
    | with_reducible exact pc_xr (by assumption)
    | with_reducible exact fr_j_X7_readPages_0_76 (by assumption)
    | with_reducible refine pc_nk fun _ => ?_
    | with_reducible refine pc_if ?_ ?_
    | with_reducible refine pc_ck ?_
    | with_reducible refine pc_cb ?_
    | with_reducible refine pc_dv ?_
    | with_reducible refine pc_let fun _ => ?_
    | with_reducible refine pc_letL fun _ => ?_
    | with_reducible refine pc_ldN fun _ => ?_
    | with_reducible refine pc_ldL fun _ => ?_
    | with_reducible refine pc_ldR fun _ => ?_
    | with_reducible refine pc_put (eqF.sN (by assumption) (by decide)) fun _ _ => ?_
    | with_reducible refine pc_put (eqF.sL (by assumption) (by decide)) fun _ _ => ?_
    | with_reducible refine pc_put (eqF.sR (by assumption) (by decide)) fun _ _ => ?_
    | with_reducible refine pc_stN (by decide) (by assumption) fun _ _ => ?_
    | with_reducible refine pc_stL (by decide) (by assumption) fun _ _ => ?_
    | with_reducible refine pc_stR (by decide) (by assumption) fun _ _ => ?_
    | with_reducible refine pc_cpN (by decide) (by assumption) fun _ _ => ?_
    | with_reducible refine pc_lp (fun s => eqF [41, 42, 43] m0 s.2.2) (fun z => eqF [41, 42, 43] m0 z.2) (by assumption) (fun s hs => fr_b_X7_readPages_14 hs) (fun z hz => ?_)
    | with_reducible refine pc_pure fun _ => ?_
    | exact pc_some (by assumption)
    | exact pc_some (eqF.bX (by assumption))
    | exact pc_some trivial
    | dsimp only
theorem fr_b_X7_fewestHands_16 {m0 : MM} {l0 : Nat} {l2 : Int} {l3 : Int} {mm : MM} (h : eqF [41, 42, 43, 44] m0 mm) : Pc (b_X7_fewestHands_16 l0 l2 l3 mm) (fun z => Sum.elim (fun s => eqF [41, 42, 43, 44] m0 s.2) (fun z => eqF [41, 42, 43, 44] m0 z.2) z) := by
  unfold b_X7_fewestHands_16
  repeat' first
    | with_reducible exact pc_x0
    | with_reducible exact pc_xt (by assumption)
    | with_reducible exact pc_xr (by assumption)
    | with_reducible refine pc_nk fun _ => ?_
    | with_reducible refine pc_if ?_ ?_
    | with_reducible refine pc_ck ?_
    | with_reducible refine pc_cb ?_
    | with_reducible refine pc_dv ?_
    | with_reducible refine pc_let fun _ => ?_
    | with_reducible refine pc_letL fun _ => ?_
    | with_reducible refine pc_ldN fun _ => ?_
    | with_reducible refine pc_ldL fun _ => ?_
    | with_reducible refine pc_ldR fun _ => ?_
    | with_reducible refine pc_put (eqF.sN (by assumption) (by decide)) fun _ _ => ?_
    | with_reducible refine pc_put (eqF.sL (by assumption) (by decide)) fun _ _ => ?_
    | with_reducible refine pc_put (eqF.sR (by assumption) (by decide)) fun _ _ => ?_
    | with_reducible refine pc_stN (by decide) (by assumption) fun _ _ => ?_
    | with_reducible refine pc_stL (by decide) (by assumption) fun _ _ => ?_
    | with_reducible refine pc_stR (by decide) (by assumption) fun _ _ => ?_
    | with_reducible refine pc_cpN (by decide) (by assumption) fun _ _ => ?_
    | with_reducible refine pc_bI (fr_f_X7_canPart (m0 := _) eqF.rf) (by decide) (by assumption) (fun _ _ _ => ?_) (fun _ _ _ => ?_)
    | with_reducible refine pc_pure fun _ => ?_
    | exact pc_some (by assumption)
    | exact pc_some (eqF.bX (by assumption))
    | exact pc_some trivial
    | dsimp only
theorem fr_j_X7_fewestHands_0_43 {m0 : MM} {m : MM} {l3 : Int} (h : eqF [41, 42, 43, 44] m0 m) : Pc (j_X7_fewestHands_0_43 m l3) (RF [41, 42, 43, 44] m0) := by
  unfold j_X7_fewestHands_0_43
  repeat' first
    | with_reducible exact pc_x0
    | with_reducible exact pc_xt (by assumption)
    | with_reducible exact pc_xr (by assumption)
    | with_reducible refine pc_nk fun _ => ?_
    | with_reducible refine pc_if ?_ ?_
    | with_reducible refine pc_ck ?_
    | with_reducible refine pc_cb ?_
    | with_reducible refine pc_dv ?_
    | with_reducible refine pc_let fun _ => ?_
    | with_reducible refine pc_letL fun _ => ?_
    | with_reducible refine pc_ldN fun _ => ?_
    | with_reducible refine pc_ldL fun _ => ?_
    | with_reducible refine pc_ldR fun _ => ?_
    | with_reducible refine pc_put (eqF.sN (by assumption) (by decide)) fun _ _ => ?_
    | with_reducible refine pc_put (eqF.sL (by assumption) (by decide)) fun _ _ => ?_
    | with_reducible refine pc_put (eqF.sR (by assumption) (by decide)) fun _ _ => ?_
    | with_reducible refine pc_stN (by decide) (by assumption) fun _ _ => ?_
    | with_reducible refine pc_stL (by decide) (by assumption) fun _ _ => ?_
    | with_reducible refine pc_stR (by decide) (by assumption) fun _ _ => ?_
    | with_reducible refine pc_cpN (by decide) (by assumption) fun _ _ => ?_
    | with_reducible refine pc_pure fun _ => ?_
    | exact pc_some (by assumption)
    | exact pc_some (eqF.bX (by assumption))
    | exact pc_some trivial
    | dsimp only
theorem fr_j_X7_fewestHands_0_15 {m0 : MM} {m : MM} {l0 : Nat} {l2 : Int} {s0 : Int} (h : eqF [41, 42, 43, 44] m0 m) : Pc (j_X7_fewestHands_0_15 m l0 l2 s0) (RF [41, 42, 43, 44] m0) := by
  unfold j_X7_fewestHands_0_15
  repeat' first
    | with_reducible exact pc_x0
    | with_reducible exact pc_xt (by assumption)
    | with_reducible exact pc_xr (by assumption)
    | with_reducible exact fr_j_X7_fewestHands_0_43 (by assumption)
    | with_reducible refine pc_nk fun _ => ?_
    | with_reducible refine pc_if ?_ ?_
    | with_reducible refine pc_ck ?_
    | with_reducible refine pc_cb ?_
    | with_reducible refine pc_dv ?_
    | with_reducible refine pc_let fun _ => ?_
    | with_reducible refine pc_letL fun _ => ?_
    | with_reducible refine pc_ldN fun _ => ?_
    | with_reducible refine pc_ldL fun _ => ?_
    | with_reducible refine pc_ldR fun _ => ?_
    | with_reducible refine pc_put (eqF.sN (by assumption) (by decide)) fun _ _ => ?_
    | with_reducible refine pc_put (eqF.sL (by assumption) (by decide)) fun _ _ => ?_
    | with_reducible refine pc_put (eqF.sR (by assumption) (by decide)) fun _ _ => ?_
    | with_reducible refine pc_stN (by decide) (by assumption) fun _ _ => ?_
    | with_reducible refine pc_stL (by decide) (by assumption) fun _ _ => ?_
    | with_reducible refine pc_stR (by decide) (by assumption) fun _ _ => ?_
    | with_reducible refine pc_cpN (by decide) (by assumption) fun _ _ => ?_
    | with_reducible refine pc_lp (fun s => eqF [41, 42, 43, 44] m0 s.2) (fun z => eqF [41, 42, 43, 44] m0 z.2) (by assumption) (fun s hs => fr_b_X7_fewestHands_16 hs) (fun z hz => ?_)
    | with_reducible refine pc_pure fun _ => ?_
    | exact pc_some (by assumption)
    | exact pc_some (eqF.bX (by assumption))
    | exact pc_some trivial
    | dsimp only
theorem fr_f_X7_fewestHands {m0 : MM} {m : MM} {l0 : Nat} {l1 : Nat} (h : eqF [41, 42, 43, 44] m0 m) : Pc (f_X7_fewestHands m l0 l1) (RF [41, 42, 43, 44] m0) := by
  unfold f_X7_fewestHands
  repeat' first
    | with_reducible exact pc_x0
    | with_reducible exact pc_xt (by assumption)
    | with_reducible exact pc_xr (by assumption)
    | with_reducible exact fr_j_X7_fewestHands_0_15 (by assumption)
    | with_reducible refine pc_nk fun _ => ?_
    | with_reducible refine pc_if ?_ ?_
    | with_reducible refine pc_ck ?_
    | with_reducible refine pc_cb ?_
    | with_reducible refine pc_dv ?_
    | with_reducible refine pc_let fun _ => ?_
    | with_reducible refine pc_letL fun _ => ?_
    | with_reducible refine pc_ldN fun _ => ?_
    | with_reducible refine pc_ldL fun _ => ?_
    | with_reducible refine pc_ldR fun _ => ?_
    | with_reducible refine pc_put (eqF.sN (by assumption) (by decide)) fun _ _ => ?_
    | with_reducible refine pc_put (eqF.sL (by assumption) (by decide)) fun _ _ => ?_
    | with_reducible refine pc_put (eqF.sR (by assumption) (by decide)) fun _ _ => ?_
    | with_reducible refine pc_stN (by decide) (by assumption) fun _ _ => ?_
    | with_reducible refine pc_stL (by decide) (by assumption) fun _ _ => ?_
    | with_reducible refine pc_stR (by decide) (by assumption) fun _ _ => ?_
    | with_reducible refine pc_cpN (by decide) (by assumption) fun _ _ => ?_
    | with_reducible refine pc_bI (fr_f_X7_readPages (m0 := _) eqF.rf) (by decide) (by assumption) (fun _ _ _ => ?_) (fun _ _ _ => ?_)
    | with_reducible refine pc_pure fun _ => ?_
    | exact pc_some (by assumption)
    | exact pc_some (eqF.bX (by assumption))
    | exact pc_some trivial
    | dsimp only
theorem fr_f_X11_hands {m0 : MM} {m : MM} {l0 : Nat} {l1 : Int} (h : eqF [41, 42, 43, 44] m0 m) : Pc (f_X11_hands m l0 l1) (RF [41, 42, 43, 44] m0) := by
  unfold f_X11_hands
  repeat' first
    | with_reducible exact pc_x0
    | with_reducible exact pc_xt (by assumption)
    | with_reducible exact pc_xr (by assumption)
    | with_reducible refine pc_nk fun _ => ?_
    | with_reducible refine pc_if ?_ ?_
    | with_reducible refine pc_ck ?_
    | with_reducible refine pc_cb ?_
    | with_reducible refine pc_dv ?_
    | with_reducible refine pc_let fun _ => ?_
    | with_reducible refine pc_letL fun _ => ?_
    | with_reducible refine pc_ldN fun _ => ?_
    | with_reducible refine pc_ldL fun _ => ?_
    | with_reducible refine pc_ldR fun _ => ?_
    | with_reducible refine pc_put (eqF.sN (by assumption) (by decide)) fun _ _ => ?_
    | with_reducible refine pc_put (eqF.sL (by assumption) (by decide)) fun _ _ => ?_
    | with_reducible refine pc_put (eqF.sR (by assumption) (by decide)) fun _ _ => ?_
    | with_reducible refine pc_stN (by decide) (by assumption) fun _ _ => ?_
    | with_reducible refine pc_stL (by decide) (by assumption) fun _ _ => ?_
    | with_reducible refine pc_stR (by decide) (by assumption) fun _ _ => ?_
    | with_reducible refine pc_cpN (by decide) (by assumption) fun _ _ => ?_
    | with_reducible refine pc_bI (fr_f_X7_fewestHands (m0 := _) eqF.rf) (by decide) (by assumption) (fun _ _ _ => ?_) (fun _ _ _ => ?_)
    | with_reducible refine pc_bR (fr_f_X11_bookAt (m0 := _) eqF.rf) (by decide) (by assumption) (fun _ _ _ => ?_) (fun _ _ _ => ?_)
    | with_reducible refine pc_pure fun _ => ?_
    | exact pc_some (by assumption)
    | exact pc_some (eqF.bX (by assumption))
    | exact pc_some trivial
    | dsimp only
theorem fr_j_X11_lay_0_63 {m0 : MM} {m : MM} {l2 : Int} {l3 : Int} {l4 : Nat} {s0 : Int} (h : eqF [8] m0 m) : Pc (j_X11_lay_0_63 m l2 l3 l4 s0) (RF [8] m0) := by
  unfold j_X11_lay_0_63
  repeat' first
    | with_reducible exact pc_x0
    | with_reducible exact pc_xt (by assumption)
    | with_reducible exact pc_xr (by assumption)
    | with_reducible refine pc_nk fun _ => ?_
    | with_reducible refine pc_if ?_ ?_
    | with_reducible refine pc_ck ?_
    | with_reducible refine pc_cb ?_
    | with_reducible refine pc_dv ?_
    | with_reducible refine pc_let fun _ => ?_
    | with_reducible refine pc_letL fun _ => ?_
    | with_reducible refine pc_ldN fun _ => ?_
    | with_reducible refine pc_ldL fun _ => ?_
    | with_reducible refine pc_ldR fun _ => ?_
    | with_reducible refine pc_put (eqF.sN (by assumption) (by decide)) fun _ _ => ?_
    | with_reducible refine pc_put (eqF.sL (by assumption) (by decide)) fun _ _ => ?_
    | with_reducible refine pc_put (eqF.sR (by assumption) (by decide)) fun _ _ => ?_
    | with_reducible refine pc_stN (by decide) (by assumption) fun _ _ => ?_
    | with_reducible refine pc_stL (by decide) (by assumption) fun _ _ => ?_
    | with_reducible refine pc_stR (by decide) (by assumption) fun _ _ => ?_
    | with_reducible refine pc_cpN (by decide) (by assumption) fun _ _ => ?_
    | with_reducible refine pc_bV (fr_f_X11_requireState (m0 := _) eqF.rf) (by decide) (by assumption) (fun _ _ => ?_) (fun _ _ _ => ?_)
    | with_reducible refine pc_pure fun _ => ?_
    | exact pc_some (by assumption)
    | exact pc_some (eqF.bX (by assumption))
    | exact pc_some trivial
    | dsimp only
theorem fr_j_X11_lay_0_47 {m0 : MM} {m : MM} {l2 : Int} {l3 : Int} {l4 : Nat} {s0 : Int} (h : eqF [8] m0 m) : Pc (j_X11_lay_0_47 m l2 l3 l4 s0) (RF [8] m0) := by
  unfold j_X11_lay_0_47
  repeat' first
    | with_reducible exact pc_x0
    | with_reducible exact pc_xt (by assumption)
    | with_reducible exact pc_xr (by assumption)
    | with_reducible exact fr_j_X11_lay_0_63 (by assumption)
    | with_reducible refine pc_nk fun _ => ?_
    | with_reducible refine pc_if ?_ ?_
    | with_reducible refine pc_ck ?_
    | with_reducible refine pc_cb ?_
    | with_reducible refine pc_dv ?_
    | with_reducible refine pc_let fun _ => ?_
    | with_reducible refine pc_letL fun _ => ?_
    | with_reducible refine pc_ldN fun _ => ?_
    | with_reducible refine pc_ldL fun _ => ?_
    | with_reducible refine pc_ldR fun _ => ?_
    | with_reducible refine pc_put (eqF.sN (by assumption) (by decide)) fun _ _ => ?_
    | with_reducible refine pc_put (eqF.sL (by assumption) (by decide)) fun _ _ => ?_
    | with_reducible refine pc_put (eqF.sR (by assumption) (by decide)) fun _ _ => ?_
    | with_reducible refine pc_stN (by decide) (by assumption) fun _ _ => ?_
    | with_reducible refine pc_stL (by decide) (by assumption) fun _ _ => ?_
    | with_reducible refine pc_stR (by decide) (by assumption) fun _ _ => ?_
    | with_reducible refine pc_cpN (by decide) (by assumption) fun _ _ => ?_
    | with_reducible refine pc_bV (fr_f_X11_requireArgument (m0 := _) eqF.rf) (by decide) (by assumption) (fun _ _ => ?_) (fun _ _ _ => ?_)
    | with_reducible refine pc_pure fun _ => ?_
    | exact pc_some (by assumption)
    | exact pc_some (eqF.bX (by assumption))
    | exact pc_some trivial
    | dsimp only
theorem fr_j_X11_lay_0_46 {m0 : MM} {m : MM} {l2 : Int} {l3 : Int} {l4 : Nat} (h : eqF [8] m0 m) : Pc (j_X11_lay_0_46 m l2 l3 l4) (RF [8] m0) := by
  unfold j_X11_lay_0_46
  repeat' first
    | with_reducible exact pc_x0
    | with_reducible exact pc_xt (by assumption)
    | with_reducible exact pc_xr (by assumption)
    | with_reducible exact fr_j_X11_lay_0_47 (by assumption)
    | with_reducible refine pc_nk fun _ => ?_
    | with_reducible refine pc_if ?_ ?_
    | with_reducible refine pc_ck ?_
    | with_reducible refine pc_cb ?_
    | with_reducible refine pc_dv ?_
    | with_reducible refine pc_let fun _ => ?_
    | with_reducible refine pc_letL fun _ => ?_
    | with_reducible refine pc_ldN fun _ => ?_
    | with_reducible refine pc_ldL fun _ => ?_
    | with_reducible refine pc_ldR fun _ => ?_
    | with_reducible refine pc_put (eqF.sN (by assumption) (by decide)) fun _ _ => ?_
    | with_reducible refine pc_put (eqF.sL (by assumption) (by decide)) fun _ _ => ?_
    | with_reducible refine pc_put (eqF.sR (by assumption) (by decide)) fun _ _ => ?_
    | with_reducible refine pc_stN (by decide) (by assumption) fun _ _ => ?_
    | with_reducible refine pc_stL (by decide) (by assumption) fun _ _ => ?_
    | with_reducible refine pc_stR (by decide) (by assumption) fun _ _ => ?_
    | with_reducible refine pc_cpN (by decide) (by assumption) fun _ _ => ?_
    | with_reducible refine pc_pure fun _ => ?_
    | exact pc_some (by assumption)
    | exact pc_some (eqF.bX (by assumption))
    | exact pc_some trivial
    | dsimp only
theorem fr_j_X11_lay_0_26 {m0 : MM} {m : MM} {l2 : Int} {l3 : Int} {l4 : Nat} {s0 : Int} (h : eqF [8] m0 m) : Pc (j_X11_lay_0_26 m l2 l3 l4 s0) (RF [8] m0) := by
  unfold j_X11_lay_0_26
  repeat' first
    | with_reducible exact pc_x0
    | with_reducible exact pc_xt (by assumption)
    | with_reducible exact pc_xr (by assumption)
    | with_reducible exact fr_j_X11_lay_0_46 (by assumption)
    | with_reducible exact fr_j_X11_lay_0_47 (by assumption)
    | with_reducible refine pc_nk fun _ => ?_
    | with_reducible refine pc_if ?_ ?_
    | with_reducible refine pc_ck ?_
    | with_reducible refine pc_cb ?_
    | with_reducible refine pc_dv ?_
    | with_reducible refine pc_let fun _ => ?_
    | with_reducible refine pc_letL fun _ => ?_
    | with_reducible refine pc_ldN fun _ => ?_
    | with_reducible refine pc_ldL fun _ => ?_
    | with_reducible refine pc_ldR fun _ => ?_
    | with_reducible refine pc_put (eqF.sN (by assumption) (by decide)) fun _ _ => ?_
    | with_reducible refine pc_put (eqF.sL (by assumption) (by decide)) fun _ _ => ?_
    | with_reducible refine pc_put (eqF.sR (by assumption) (by decide)) fun _ _ => ?_
    | with_reducible refine pc_stN (by decide) (by assumption) fun _ _ => ?_
    | with_reducible refine pc_stL (by decide) (by assumption) fun _ _ => ?_
    | with_reducible refine pc_stR (by decide) (by assumption) fun _ _ => ?_
    | with_reducible refine pc_cpN (by decide) (by assumption) fun _ _ => ?_
    | with_reducible refine pc_bV (fr_f_X11_requireIndex (m0 := _) eqF.rf) (by decide) (by assumption) (fun _ _ => ?_) (fun _ _ _ => ?_)
    | with_reducible refine pc_pure fun _ => ?_
    | exact pc_some (by assumption)
    | exact pc_some (eqF.bX (by assumption))
    | exact pc_some trivial
    | dsimp only
theorem fr_j_X11_lay_0_25 {m0 : MM} {m : MM} {l2 : Int} {l3 : Int} {l4 : Nat} (h : eqF [8] m0 m) : Pc (j_X11_lay_0_25 m l2 l3 l4) (RF [8] m0) := by
  unfold j_X11_lay_0_25
  repeat' first
    | with_reducible exact pc_x0
    | with_reducible exact pc_xt (by assumption)
    | with_reducible exact pc_xr (by assumption)
    | with_reducible exact fr_j_X11_lay_0_26 (by assumption)
    | with_reducible refine pc_nk fun _ => ?_
    | with_reducible refine pc_if ?_ ?_
    | with_reducible refine pc_ck ?_
    | with_reducible refine pc_cb ?_
    | with_reducible refine pc_dv ?_
    | with_reducible refine pc_let fun _ => ?_
    | with_reducible refine pc_letL fun _ => ?_
    | with_reducible refine pc_ldN fun _ => ?_
    | with_reducible refine pc_ldL fun _ => ?_
    | with_reducible refine pc_ldR fun _ => ?_
    | with_reducible refine pc_put (eqF.sN (by assumption) (by decide)) fun _ _ => ?_
    | with_reducible refine pc_put (eqF.sL (by assumption) (by decide)) fun _ _ => ?_
    | with_reducible refine pc_put (eqF.sR (by assumption) (by decide)) fun _ _ => ?_
    | with_reducible refine pc_stN (by decide) (by assumption) fun _ _ => ?_
    | with_reducible refine pc_stL (by decide) (by assumption) fun _ _ => ?_
    | with_reducible refine pc_stR (by decide) (by assumption) fun _ _ => ?_
    | with_reducible refine pc_cpN (by decide) (by assumption) fun _ _ => ?_
    | with_reducible refine pc_pure fun _ => ?_
    | exact pc_some (by assumption)
    | exact pc_some (eqF.bX (by assumption))
    | exact pc_some trivial
    | dsimp only
theorem fr_f_X11_lay {m0 : MM} {m : MM} {l0 : Nat} {l1 : Int} {l2 : Int} {l3 : Int} (h : eqF [8] m0 m) : Pc (f_X11_lay m l0 l1 l2 l3) (RF [8] m0) := by
  unfold f_X11_lay
  repeat' first
    | with_reducible exact pc_x0
    | with_reducible exact pc_xt (by assumption)
    | with_reducible exact pc_xr (by assumption)
    | with_reducible exact fr_j_X11_lay_0_25 (by assumption)
    | with_reducible exact fr_j_X11_lay_0_26 (by assumption)
    | with_reducible refine pc_nk fun _ => ?_
    | with_reducible refine pc_if ?_ ?_
    | with_reducible refine pc_ck ?_
    | with_reducible refine pc_cb ?_
    | with_reducible refine pc_dv ?_
    | with_reducible refine pc_let fun _ => ?_
    | with_reducible refine pc_letL fun _ => ?_
    | with_reducible refine pc_ldN fun _ => ?_
    | with_reducible refine pc_ldL fun _ => ?_
    | with_reducible refine pc_ldR fun _ => ?_
    | with_reducible refine pc_put (eqF.sN (by assumption) (by decide)) fun _ _ => ?_
    | with_reducible refine pc_put (eqF.sL (by assumption) (by decide)) fun _ _ => ?_
    | with_reducible refine pc_put (eqF.sR (by assumption) (by decide)) fun _ _ => ?_
    | with_reducible refine pc_stN (by decide) (by assumption) fun _ _ => ?_
    | with_reducible refine pc_stL (by decide) (by assumption) fun _ _ => ?_
    | with_reducible refine pc_stR (by decide) (by assumption) fun _ _ => ?_
    | with_reducible refine pc_cpN (by decide) (by assumption) fun _ _ => ?_
    | with_reducible refine pc_bR (fr_f_X11_bookAt (m0 := _) eqF.rf) (by decide) (by assumption) (fun _ _ _ => ?_) (fun _ _ _ => ?_)
    | with_reducible refine pc_pure fun _ => ?_
    | exact pc_some (by assumption)
    | exact pc_some (eqF.bX (by assumption))
    | exact pc_some trivial
    | dsimp only
theorem fr_j_X11_line_0_43 {m0 : MM} {m : MM} {l3 : Int} {l4 : Int} {l5 : Nat} {l6 : Nat} {s0 : Int} (h : eqF [] m0 m) : Pc (j_X11_line_0_43 m l3 l4 l5 l6 s0) (RF [] m0) := by
  unfold j_X11_line_0_43
  repeat' first
    | with_reducible exact pc_x0
    | with_reducible exact pc_xt (by assumption)
    | with_reducible exact pc_xr (by assumption)
    | with_reducible refine pc_nk fun _ => ?_
    | with_reducible refine pc_if ?_ ?_
    | with_reducible refine pc_ck ?_
    | with_reducible refine pc_cb ?_
    | with_reducible refine pc_dv ?_
    | with_reducible refine pc_let fun _ => ?_
    | with_reducible refine pc_letL fun _ => ?_
    | with_reducible refine pc_ldN fun _ => ?_
    | with_reducible refine pc_ldL fun _ => ?_
    | with_reducible refine pc_ldR fun _ => ?_
    | with_reducible refine pc_put (eqF.sN (by assumption) (by decide)) fun _ _ => ?_
    | with_reducible refine pc_put (eqF.sL (by assumption) (by decide)) fun _ _ => ?_
    | with_reducible refine pc_put (eqF.sR (by assumption) (by decide)) fun _ _ => ?_
    | with_reducible refine pc_stN (by decide) (by assumption) fun _ _ => ?_
    | with_reducible refine pc_stL (by decide) (by assumption) fun _ _ => ?_
    | with_reducible refine pc_stR (by decide) (by assumption) fun _ _ => ?_
    | with_reducible refine pc_cpN (by decide) (by assumption) fun _ _ => ?_
    | with_reducible refine pc_bV (fr_f_X11_requireArgument (m0 := _) eqF.rf) (by decide) (by assumption) (fun _ _ => ?_) (fun _ _ _ => ?_)
    | with_reducible refine pc_pure fun _ => ?_
    | exact pc_some (by assumption)
    | exact pc_some (eqF.bX (by assumption))
    | exact pc_some trivial
    | dsimp only
theorem fr_j_X11_line_0_42 {m0 : MM} {m : MM} {l3 : Int} {l4 : Int} {l5 : Nat} {l6 : Nat} (h : eqF [] m0 m) : Pc (j_X11_line_0_42 m l3 l4 l5 l6) (RF [] m0) := by
  unfold j_X11_line_0_42
  repeat' first
    | with_reducible exact pc_x0
    | with_reducible exact pc_xt (by assumption)
    | with_reducible exact pc_xr (by assumption)
    | with_reducible exact fr_j_X11_line_0_43 (by assumption)
    | with_reducible refine pc_nk fun _ => ?_
    | with_reducible refine pc_if ?_ ?_
    | with_reducible refine pc_ck ?_
    | with_reducible refine pc_cb ?_
    | with_reducible refine pc_dv ?_
    | with_reducible refine pc_let fun _ => ?_
    | with_reducible refine pc_letL fun _ => ?_
    | with_reducible refine pc_ldN fun _ => ?_
    | with_reducible refine pc_ldL fun _ => ?_
    | with_reducible refine pc_ldR fun _ => ?_
    | with_reducible refine pc_put (eqF.sN (by assumption) (by decide)) fun _ _ => ?_
    | with_reducible refine pc_put (eqF.sL (by assumption) (by decide)) fun _ _ => ?_
    | with_reducible refine pc_put (eqF.sR (by assumption) (by decide)) fun _ _ => ?_
    | with_reducible refine pc_stN (by decide) (by assumption) fun _ _ => ?_
    | with_reducible refine pc_stL (by decide) (by assumption) fun _ _ => ?_
    | with_reducible refine pc_stR (by decide) (by assumption) fun _ _ => ?_
    | with_reducible refine pc_cpN (by decide) (by assumption) fun _ _ => ?_
    | with_reducible refine pc_pure fun _ => ?_
    | exact pc_some (by assumption)
    | exact pc_some (eqF.bX (by assumption))
    | exact pc_some trivial
    | dsimp only
theorem fr_j_X11_line_0_24 {m0 : MM} {m : MM} {l3 : Int} {l4 : Int} {l5 : Nat} {l6 : Nat} {s0 : Int} (h : eqF [] m0 m) : Pc (j_X11_line_0_24 m l3 l4 l5 l6 s0) (RF [] m0) := by
  unfold j_X11_line_0_24
  repeat' first
    | with_reducible exact pc_x0
    | with_reducible exact pc_xt (by assumption)
    | with_reducible exact pc_xr (by assumption)
    | with_reducible exact fr_j_X11_line_0_42 (by assumption)
    | with_reducible exact fr_j_X11_line_0_43 (by assumption)
    | with_reducible refine pc_nk fun _ => ?_
    | with_reducible refine pc_if ?_ ?_
    | with_reducible refine pc_ck ?_
    | with_reducible refine pc_cb ?_
    | with_reducible refine pc_dv ?_
    | with_reducible refine pc_let fun _ => ?_
    | with_reducible refine pc_letL fun _ => ?_
    | with_reducible refine pc_ldN fun _ => ?_
    | with_reducible refine pc_ldL fun _ => ?_
    | with_reducible refine pc_ldR fun _ => ?_
    | with_reducible refine pc_put (eqF.sN (by assumption) (by decide)) fun _ _ => ?_
    | with_reducible refine pc_put (eqF.sL (by assumption) (by decide)) fun _ _ => ?_
    | with_reducible refine pc_put (eqF.sR (by assumption) (by decide)) fun _ _ => ?_
    | with_reducible refine pc_stN (by decide) (by assumption) fun _ _ => ?_
    | with_reducible refine pc_stL (by decide) (by assumption) fun _ _ => ?_
    | with_reducible refine pc_stR (by decide) (by assumption) fun _ _ => ?_
    | with_reducible refine pc_cpN (by decide) (by assumption) fun _ _ => ?_
    | with_reducible refine pc_bV (fr_f_X11_requireIndex (m0 := _) eqF.rf) (by decide) (by assumption) (fun _ _ => ?_) (fun _ _ _ => ?_)
    | with_reducible refine pc_pure fun _ => ?_
    | exact pc_some (by assumption)
    | exact pc_some (eqF.bX (by assumption))
    | exact pc_some trivial
    | dsimp only
theorem fr_f_X11_line {m0 : MM} {m : MM} {l0 : Nat} {l1 : Int} {l2 : Int} {l3 : Int} {l4 : Int} (h : eqF [] m0 m) : Pc (f_X11_line m l0 l1 l2 l3 l4) (RF [] m0) := by
  unfold f_X11_line
  repeat' first
    | with_reducible exact pc_x0
    | with_reducible exact pc_xt (by assumption)
    | with_reducible exact pc_xr (by assumption)
    | with_reducible exact fr_j_X11_line_0_24 (by assumption)
    | with_reducible refine pc_nk fun _ => ?_
    | with_reducible refine pc_if ?_ ?_
    | with_reducible refine pc_ck ?_
    | with_reducible refine pc_cb ?_
    | with_reducible refine pc_dv ?_
    | with_reducible refine pc_let fun _ => ?_
    | with_reducible refine pc_letL fun _ => ?_
    | with_reducible refine pc_ldN fun _ => ?_
    | with_reducible refine pc_ldL fun _ => ?_
    | with_reducible refine pc_ldR fun _ => ?_
    | with_reducible refine pc_put (eqF.sN (by assumption) (by decide)) fun _ _ => ?_
    | with_reducible refine pc_put (eqF.sL (by assumption) (by decide)) fun _ _ => ?_
    | with_reducible refine pc_put (eqF.sR (by assumption) (by decide)) fun _ _ => ?_
    | with_reducible refine pc_stN (by decide) (by assumption) fun _ _ => ?_
    | with_reducible refine pc_stL (by decide) (by assumption) fun _ _ => ?_
    | with_reducible refine pc_stR (by decide) (by assumption) fun _ _ => ?_
    | with_reducible refine pc_cpN (by decide) (by assumption) fun _ _ => ?_
    | with_reducible refine pc_bR (fr_f_X11_bookAt (m0 := _) eqF.rf) (by decide) (by assumption) (fun _ _ _ => ?_) (fun _ _ _ => ?_)
    | with_reducible refine pc_bR (fr_f_X11_pageOf (m0 := _) eqF.rf) (by decide) (by assumption) (fun _ _ _ => ?_) (fun _ _ _ => ?_)
    | with_reducible refine pc_pure fun _ => ?_
    | exact pc_some (by assumption)
    | exact pc_some (eqF.bX (by assumption))
    | exact pc_some trivial
    | dsimp only
theorem fr_j_X11_lock_0_58 {m0 : MM} {m : MM} {l3 : Int} {l4 : Nat} {s0 : Int} (h : eqF [2] m0 m) : Pc (j_X11_lock_0_58 m l3 l4 s0) (RF [2] m0) := by
  unfold j_X11_lock_0_58
  repeat' first
    | with_reducible exact pc_x0
    | with_reducible exact pc_xt (by assumption)
    | with_reducible exact pc_xr (by assumption)
    | with_reducible refine pc_nk fun _ => ?_
    | with_reducible refine pc_if ?_ ?_
    | with_reducible refine pc_ck ?_
    | with_reducible refine pc_cb ?_
    | with_reducible refine pc_dv ?_
    | with_reducible refine pc_let fun _ => ?_
    | with_reducible refine pc_letL fun _ => ?_
    | with_reducible refine pc_ldN fun _ => ?_
    | with_reducible refine pc_ldL fun _ => ?_
    | with_reducible refine pc_ldR fun _ => ?_
    | with_reducible refine pc_put (eqF.sN (by assumption) (by decide)) fun _ _ => ?_
    | with_reducible refine pc_put (eqF.sL (by assumption) (by decide)) fun _ _ => ?_
    | with_reducible refine pc_put (eqF.sR (by assumption) (by decide)) fun _ _ => ?_
    | with_reducible refine pc_stN (by decide) (by assumption) fun _ _ => ?_
    | with_reducible refine pc_stL (by decide) (by assumption) fun _ _ => ?_
    | with_reducible refine pc_stR (by decide) (by assumption) fun _ _ => ?_
    | with_reducible refine pc_cpN (by decide) (by assumption) fun _ _ => ?_
    | with_reducible refine pc_bV (fr_f_X11_requireState (m0 := _) eqF.rf) (by decide) (by assumption) (fun _ _ => ?_) (fun _ _ _ => ?_)
    | with_reducible refine pc_pure fun _ => ?_
    | exact pc_some (by assumption)
    | exact pc_some (eqF.bX (by assumption))
    | exact pc_some trivial
    | dsimp only
theorem fr_j_X11_lock_0_57 {m0 : MM} {m : MM} {l3 : Int} {l4 : Nat} (h : eqF [2] m0 m) : Pc (j_X11_lock_0_57 m l3 l4) (RF [2] m0) := by
  unfold j_X11_lock_0_57
  repeat' first
    | with_reducible exact pc_x0
    | with_reducible exact pc_xt (by assumption)
    | with_reducible exact pc_xr (by assumption)
    | with_reducible exact fr_j_X11_lock_0_58 (by assumption)
    | with_reducible refine pc_nk fun _ => ?_
    | with_reducible refine pc_if ?_ ?_
    | with_reducible refine pc_ck ?_
    | with_reducible refine pc_cb ?_
    | with_reducible refine pc_dv ?_
    | with_reducible refine pc_let fun _ => ?_
    | with_reducible refine pc_letL fun _ => ?_
    | with_reducible refine pc_ldN fun _ => ?_
    | with_reducible refine pc_ldL fun _ => ?_
    | with_reducible refine pc_ldR fun _ => ?_
    | with_reducible refine pc_put (eqF.sN (by assumption) (by decide)) fun _ _ => ?_
    | with_reducible refine pc_put (eqF.sL (by assumption) (by decide)) fun _ _ => ?_
    | with_reducible refine pc_put (eqF.sR (by assumption) (by decide)) fun _ _ => ?_
    | with_reducible refine pc_stN (by decide) (by assumption) fun _ _ => ?_
    | with_reducible refine pc_stL (by decide) (by assumption) fun _ _ => ?_
    | with_reducible refine pc_stR (by decide) (by assumption) fun _ _ => ?_
    | with_reducible refine pc_cpN (by decide) (by assumption) fun _ _ => ?_
    | with_reducible refine pc_pure fun _ => ?_
    | exact pc_some (by assumption)
    | exact pc_some (eqF.bX (by assumption))
    | exact pc_some trivial
    | dsimp only
theorem fr_j_X11_lock_0_26 {m0 : MM} {m : MM} {l0 : Nat} {l3 : Int} {l4 : Nat} {s0 : Int} (h : eqF [2] m0 m) : Pc (j_X11_lock_0_26 m l0 l3 l4 s0) (RF [2] m0) := by
  unfold j_X11_lock_0_26
  repeat' first
    | with_reducible exact pc_x0
    | with_reducible exact pc_xt (by assumption)
    | with_reducible exact pc_xr (by assumption)
    | with_reducible exact fr_j_X11_lock_0_57 (by assumption)
    | with_reducible exact fr_j_X11_lock_0_58 (by assumption)
    | with_reducible refine pc_nk fun _ => ?_
    | with_reducible refine pc_if ?_ ?_
    | with_reducible refine pc_ck ?_
    | with_reducible refine pc_cb ?_
    | with_reducible refine pc_dv ?_
    | with_reducible refine pc_let fun _ => ?_
    | with_reducible refine pc_letL fun _ => ?_
    | with_reducible refine pc_ldN fun _ => ?_
    | with_reducible refine pc_ldL fun _ => ?_
    | with_reducible refine pc_ldR fun _ => ?_
    | with_reducible refine pc_put (eqF.sN (by assumption) (by decide)) fun _ _ => ?_
    | with_reducible refine pc_put (eqF.sL (by assumption) (by decide)) fun _ _ => ?_
    | with_reducible refine pc_put (eqF.sR (by assumption) (by decide)) fun _ _ => ?_
    | with_reducible refine pc_stN (by decide) (by assumption) fun _ _ => ?_
    | with_reducible refine pc_stL (by decide) (by assumption) fun _ _ => ?_
    | with_reducible refine pc_stR (by decide) (by assumption) fun _ _ => ?_
    | with_reducible refine pc_cpN (by decide) (by assumption) fun _ _ => ?_
    | with_reducible refine pc_bV (fr_f_X11_requireArgument (m0 := _) eqF.rf) (by decide) (by assumption) (fun _ _ => ?_) (fun _ _ _ => ?_)
    | with_reducible refine pc_pure fun _ => ?_
    | exact pc_some (by assumption)
    | exact pc_some (eqF.bX (by assumption))
    | exact pc_some trivial
    | dsimp only
theorem fr_j_X11_lock_0_25 {m0 : MM} {m : MM} {l0 : Nat} {l3 : Int} {l4 : Nat} (h : eqF [2] m0 m) : Pc (j_X11_lock_0_25 m l0 l3 l4) (RF [2] m0) := by
  unfold j_X11_lock_0_25
  repeat' first
    | with_reducible exact pc_x0
    | with_reducible exact pc_xt (by assumption)
    | with_reducible exact pc_xr (by assumption)
    | with_reducible exact fr_j_X11_lock_0_26 (by assumption)
    | with_reducible refine pc_nk fun _ => ?_
    | with_reducible refine pc_if ?_ ?_
    | with_reducible refine pc_ck ?_
    | with_reducible refine pc_cb ?_
    | with_reducible refine pc_dv ?_
    | with_reducible refine pc_let fun _ => ?_
    | with_reducible refine pc_letL fun _ => ?_
    | with_reducible refine pc_ldN fun _ => ?_
    | with_reducible refine pc_ldL fun _ => ?_
    | with_reducible refine pc_ldR fun _ => ?_
    | with_reducible refine pc_put (eqF.sN (by assumption) (by decide)) fun _ _ => ?_
    | with_reducible refine pc_put (eqF.sL (by assumption) (by decide)) fun _ _ => ?_
    | with_reducible refine pc_put (eqF.sR (by assumption) (by decide)) fun _ _ => ?_
    | with_reducible refine pc_stN (by decide) (by assumption) fun _ _ => ?_
    | with_reducible refine pc_stL (by decide) (by assumption) fun _ _ => ?_
    | with_reducible refine pc_stR (by decide) (by assumption) fun _ _ => ?_
    | with_reducible refine pc_cpN (by decide) (by assumption) fun _ _ => ?_
    | with_reducible refine pc_pure fun _ => ?_
    | exact pc_some (by assumption)
    | exact pc_some (eqF.bX (by assumption))
    | exact pc_some trivial
    | dsimp only
theorem fr_f_X11_lock {m0 : MM} {m : MM} {l0 : Nat} {l1 : Int} {l2 : Int} {l3 : Int} (h : eqF [2] m0 m) : Pc (f_X11_lock m l0 l1 l2 l3) (RF [2] m0) := by
  unfold f_X11_lock
  repeat' first
    | with_reducible exact pc_x0
    | with_reducible exact pc_xt (by assumption)
    | with_reducible exact pc_xr (by assumption)
    | with_reducible exact fr_j_X11_lock_0_25 (by assumption)
    | with_reducible exact fr_j_X11_lock_0_26 (by assumption)
    | with_reducible refine pc_nk fun _ => ?_
    | with_reducible refine pc_if ?_ ?_
    | with_reducible refine pc_ck ?_
    | with_reducible refine pc_cb ?_
    | with_reducible refine pc_dv ?_
    | with_reducible refine pc_let fun _ => ?_
    | with_reducible refine pc_letL fun _ => ?_
    | with_reducible refine pc_ldN fun _ => ?_
    | with_reducible refine pc_ldL fun _ => ?_
    | with_reducible refine pc_ldR fun _ => ?_
    | with_reducible refine pc_put (eqF.sN (by assumption) (by decide)) fun _ _ => ?_
    | with_reducible refine pc_put (eqF.sL (by assumption) (by decide)) fun _ _ => ?_
    | with_reducible refine pc_put (eqF.sR (by assumption) (by decide)) fun _ _ => ?_
    | with_reducible refine pc_stN (by decide) (by assumption) fun _ _ => ?_
    | with_reducible refine pc_stL (by decide) (by assumption) fun _ _ => ?_
    | with_reducible refine pc_stR (by decide) (by assumption) fun _ _ => ?_
    | with_reducible refine pc_cpN (by decide) (by assumption) fun _ _ => ?_
    | with_reducible refine pc_bR (fr_f_X11_bookAt (m0 := _) eqF.rf) (by decide) (by assumption) (fun _ _ _ => ?_) (fun _ _ _ => ?_)
    | with_reducible refine pc_bR (fr_f_X11_formeOf (m0 := _) eqF.rf) (by decide) (by assumption) (fun _ _ _ => ?_) (fun _ _ _ => ?_)
    | with_reducible refine pc_pure fun _ => ?_
    | exact pc_some (by assumption)
    | exact pc_some (eqF.bX (by assumption))
    | exact pc_some trivial
    | dsimp only
theorem fr_j_X11_madeUp_0_56 {m0 : MM} {m : MM} {l4 : Int} (h : eqF [] m0 m) : Pc (j_X11_madeUp_0_56 m l4) (RF [] m0) := by
  unfold j_X11_madeUp_0_56
  repeat' first
    | with_reducible exact pc_x0
    | with_reducible exact pc_xt (by assumption)
    | with_reducible exact pc_xr (by assumption)
    | with_reducible refine pc_nk fun _ => ?_
    | with_reducible refine pc_if ?_ ?_
    | with_reducible refine pc_ck ?_
    | with_reducible refine pc_cb ?_
    | with_reducible refine pc_dv ?_
    | with_reducible refine pc_let fun _ => ?_
    | with_reducible refine pc_letL fun _ => ?_
    | with_reducible refine pc_ldN fun _ => ?_
    | with_reducible refine pc_ldL fun _ => ?_
    | with_reducible refine pc_ldR fun _ => ?_
    | with_reducible refine pc_put (eqF.sN (by assumption) (by decide)) fun _ _ => ?_
    | with_reducible refine pc_put (eqF.sL (by assumption) (by decide)) fun _ _ => ?_
    | with_reducible refine pc_put (eqF.sR (by assumption) (by decide)) fun _ _ => ?_
    | with_reducible refine pc_stN (by decide) (by assumption) fun _ _ => ?_
    | with_reducible refine pc_stL (by decide) (by assumption) fun _ _ => ?_
    | with_reducible refine pc_stR (by decide) (by assumption) fun _ _ => ?_
    | with_reducible refine pc_cpN (by decide) (by assumption) fun _ _ => ?_
    | with_reducible refine pc_pure fun _ => ?_
    | exact pc_some (by assumption)
    | exact pc_some (eqF.bX (by assumption))
    | exact pc_some trivial
    | dsimp only
theorem fr_f_X11_madeUp {m0 : MM} {m : MM} {l0 : Nat} {l1 : Int} {l2 : Int} (h : eqF [] m0 m) : Pc (f_X11_madeUp m l0 l1 l2) (RF [] m0) := by
  unfold f_X11_madeUp
  repeat' first
    | with_reducible exact pc_x0
    | with_reducible exact pc_xt (by assumption)
    | with_reducible exact pc_xr (by assumption)
    | with_reducible exact fr_j_X11_madeUp_0_56 (by assumption)
    | with_reducible refine pc_nk fun _ => ?_
    | with_reducible refine pc_if ?_ ?_
    | with_reducible refine pc_ck ?_
    | with_reducible refine pc_cb ?_
    | with_reducible refine pc_dv ?_
    | with_reducible refine pc_let fun _ => ?_
    | with_reducible refine pc_letL fun _ => ?_
    | with_reducible refine pc_ldN fun _ => ?_
    | with_reducible refine pc_ldL fun _ => ?_
    | with_reducible refine pc_ldR fun _ => ?_
    | with_reducible refine pc_put (eqF.sN (by assumption) (by decide)) fun _ _ => ?_
    | with_reducible refine pc_put (eqF.sL (by assumption) (by decide)) fun _ _ => ?_
    | with_reducible refine pc_put (eqF.sR (by assumption) (by decide)) fun _ _ => ?_
    | with_reducible refine pc_stN (by decide) (by assumption) fun _ _ => ?_
    | with_reducible refine pc_stL (by decide) (by assumption) fun _ _ => ?_
    | with_reducible refine pc_stR (by decide) (by assumption) fun _ _ => ?_
    | with_reducible refine pc_cpN (by decide) (by assumption) fun _ _ => ?_
    | with_reducible refine pc_bR (fr_f_X11_bookAt (m0 := _) eqF.rf) (by decide) (by assumption) (fun _ _ _ => ?_) (fun _ _ _ => ?_)
    | with_reducible refine pc_bV (fr_f_X11_requireIndex (m0 := _) eqF.rf) (by decide) (by assumption) (fun _ _ => ?_) (fun _ _ _ => ?_)
    | with_reducible refine pc_bV (fr_f_X11_requireState (m0 := _) eqF.rf) (by decide) (by assumption) (fun _ _ => ?_) (fun _ _ _ => ?_)
    | with_reducible refine pc_pure fun _ => ?_
    | exact pc_some (by assumption)
    | exact pc_some (eqF.bX (by assumption))
    | exact pc_some trivial
    | dsimp only
theorem fr_j_X11_mark_0_30 {m0 : MM} {m : MM} {l2 : Int} {l3 : Int} {l4 : Nat} {s0 : Int} (h : eqF [] m0 m) : Pc (j_X11_mark_0_30 m l2 l3 l4 s0) (RF [] m0) := by
  unfold j_X11_mark_0_30
  repeat' first
    | with_reducible exact pc_x0
    | with_reducible exact pc_xt (by assumption)
    | with_reducible exact pc_xr (by assumption)
    | with_reducible refine pc_nk fun _ => ?_
    | with_reducible refine pc_if ?_ ?_
    | with_reducible refine pc_ck ?_
    | with_reducible refine pc_cb ?_
    | with_reducible refine pc_dv ?_
    | with_reducible refine pc_let fun _ => ?_
    | with_reducible refine pc_letL fun _ => ?_
    | with_reducible refine pc_ldN fun _ => ?_
    | with_reducible refine pc_ldL fun _ => ?_
    | with_reducible refine pc_ldR fun _ => ?_
    | with_reducible refine pc_put (eqF.sN (by assumption) (by decide)) fun _ _ => ?_
    | with_reducible refine pc_put (eqF.sL (by assumption) (by decide)) fun _ _ => ?_
    | with_reducible refine pc_put (eqF.sR (by assumption) (by decide)) fun _ _ => ?_
    | with_reducible refine pc_stN (by decide) (by assumption) fun _ _ => ?_
    | with_reducible refine pc_stL (by decide) (by assumption) fun _ _ => ?_
    | with_reducible refine pc_stR (by decide) (by assumption) fun _ _ => ?_
    | with_reducible refine pc_cpN (by decide) (by assumption) fun _ _ => ?_
    | with_reducible refine pc_bV (fr_f_X11_requireIndex (m0 := _) eqF.rf) (by decide) (by assumption) (fun _ _ => ?_) (fun _ _ _ => ?_)
    | with_reducible refine pc_bV (fr_f_X11_requireState (m0 := _) eqF.rf) (by decide) (by assumption) (fun _ _ => ?_) (fun _ _ _ => ?_)
    | with_reducible refine pc_pure fun _ => ?_
    | exact pc_some (by assumption)
    | exact pc_some (eqF.bX (by assumption))
    | exact pc_some trivial
    | dsimp only
theorem fr_j_X11_mark_0_29 {m0 : MM} {m : MM} {l2 : Int} {l3 : Int} {l4 : Nat} (h : eqF [] m0 m) : Pc (j_X11_mark_0_29 m l2 l3 l4) (RF [] m0) := by
  unfold j_X11_mark_0_29
  repeat' first
    | with_reducible exact pc_x0
    | with_reducible exact pc_xt (by assumption)
    | with_reducible exact pc_xr (by assumption)
    | with_reducible exact fr_j_X11_mark_0_30 (by assumption)
    | with_reducible refine pc_nk fun _ => ?_
    | with_reducible refine pc_if ?_ ?_
    | with_reducible refine pc_ck ?_
    | with_reducible refine pc_cb ?_
    | with_reducible refine pc_dv ?_
    | with_reducible refine pc_let fun _ => ?_
    | with_reducible refine pc_letL fun _ => ?_
    | with_reducible refine pc_ldN fun _ => ?_
    | with_reducible refine pc_ldL fun _ => ?_
    | with_reducible refine pc_ldR fun _ => ?_
    | with_reducible refine pc_put (eqF.sN (by assumption) (by decide)) fun _ _ => ?_
    | with_reducible refine pc_put (eqF.sL (by assumption) (by decide)) fun _ _ => ?_
    | with_reducible refine pc_put (eqF.sR (by assumption) (by decide)) fun _ _ => ?_
    | with_reducible refine pc_stN (by decide) (by assumption) fun _ _ => ?_
    | with_reducible refine pc_stL (by decide) (by assumption) fun _ _ => ?_
    | with_reducible refine pc_stR (by decide) (by assumption) fun _ _ => ?_
    | with_reducible refine pc_cpN (by decide) (by assumption) fun _ _ => ?_
    | with_reducible refine pc_pure fun _ => ?_
    | exact pc_some (by assumption)
    | exact pc_some (eqF.bX (by assumption))
    | exact pc_some trivial
    | dsimp only
theorem fr_f_X11_mark {m0 : MM} {m : MM} {l0 : Nat} {l1 : Int} {l2 : Int} {l3 : Int} (h : eqF [] m0 m) : Pc (f_X11_mark m l0 l1 l2 l3) (RF [] m0) := by
  unfold f_X11_mark
  repeat' first
    | with_reducible exact pc_x0
    | with_reducible exact pc_xt (by assumption)
    | with_reducible exact pc_xr (by assumption)
    | with_reducible exact fr_j_X11_mark_0_29 (by assumption)
    | with_reducible exact fr_j_X11_mark_0_30 (by assumption)
    | with_reducible refine pc_nk fun _ => ?_
    | with_reducible refine pc_if ?_ ?_
    | with_reducible refine pc_ck ?_
    | with_reducible refine pc_cb ?_
    | with_reducible refine pc_dv ?_
    | with_reducible refine pc_let fun _ => ?_
    | with_reducible refine pc_letL fun _ => ?_
    | with_reducible refine pc_ldN fun _ => ?_
    | with_reducible refine pc_ldL fun _ => ?_
    | with_reducible refine pc_ldR fun _ => ?_
    | with_reducible refine pc_put (eqF.sN (by assumption) (by decide)) fun _ _ => ?_
    | with_reducible refine pc_put (eqF.sL (by assumption) (by decide)) fun _ _ => ?_
    | with_reducible refine pc_put (eqF.sR (by assumption) (by decide)) fun _ _ => ?_
    | with_reducible refine pc_stN (by decide) (by assumption) fun _ _ => ?_
    | with_reducible refine pc_stL (by decide) (by assumption) fun _ _ => ?_
    | with_reducible refine pc_stR (by decide) (by assumption) fun _ _ => ?_
    | with_reducible refine pc_cpN (by decide) (by assumption) fun _ _ => ?_
    | with_reducible refine pc_bR (fr_f_X11_bookAt (m0 := _) eqF.rf) (by decide) (by assumption) (fun _ _ _ => ?_) (fun _ _ _ => ?_)
    | with_reducible refine pc_pure fun _ => ?_
    | exact pc_some (by assumption)
    | exact pc_some (eqF.bX (by assumption))
    | exact pc_some trivial
    | dsimp only
theorem fr_j_X11_men_0_20 {m0 : MM} {m : MM} {l2 : Int} {l3 : Nat} {s0 : Int} (h : eqF [6] m0 m) : Pc (j_X11_men_0_20 m l2 l3 s0) (RF [6] m0) := by
  unfold j_X11_men_0_20
  repeat' first
    | with_reducible exact pc_x0
    | with_reducible exact pc_xt (by assumption)
    | with_reducible exact pc_xr (by assumption)
    | with_reducible refine pc_nk fun _ => ?_
    | with_reducible refine pc_if ?_ ?_
    | with_reducible refine pc_ck ?_
    | with_reducible refine pc_cb ?_
    | with_reducible refine pc_dv ?_
    | with_reducible refine pc_let fun _ => ?_
    | with_reducible refine pc_letL fun _ => ?_
    | with_reducible refine pc_ldN fun _ => ?_
    | with_reducible refine pc_ldL fun _ => ?_
    | with_reducible refine pc_ldR fun _ => ?_
    | with_reducible refine pc_put (eqF.sN (by assumption) (by decide)) fun _ _ => ?_
    | with_reducible refine pc_put (eqF.sL (by assumption) (by decide)) fun _ _ => ?_
    | with_reducible refine pc_put (eqF.sR (by assumption) (by decide)) fun _ _ => ?_
    | with_reducible refine pc_stN (by decide) (by assumption) fun _ _ => ?_
    | with_reducible refine pc_stL (by decide) (by assumption) fun _ _ => ?_
    | with_reducible refine pc_stR (by decide) (by assumption) fun _ _ => ?_
    | with_reducible refine pc_cpN (by decide) (by assumption) fun _ _ => ?_
    | with_reducible refine pc_bV (fr_f_X11_requireArgument (m0 := _) eqF.rf) (by decide) (by assumption) (fun _ _ => ?_) (fun _ _ _ => ?_)
    | with_reducible refine pc_pure fun _ => ?_
    | exact pc_some (by assumption)
    | exact pc_some (eqF.bX (by assumption))
    | exact pc_some trivial
    | dsimp only
theorem fr_j_X11_men_0_19 {m0 : MM} {m : MM} {l2 : Int} {l3 : Nat} (h : eqF [6] m0 m) : Pc (j_X11_men_0_19 m l2 l3) (RF [6] m0) := by
  unfold j_X11_men_0_19
  repeat' first
    | with_reducible exact pc_x0
    | with_reducible exact pc_xt (by assumption)
    | with_reducible exact pc_xr (by assumption)
    | with_reducible exact fr_j_X11_men_0_20 (by assumption)
    | with_reducible refine pc_nk fun _ => ?_
    | with_reducible refine pc_if ?_ ?_
    | with_reducible refine pc_ck ?_
    | with_reducible refine pc_cb ?_
    | with_reducible refine pc_dv ?_
    | with_reducible refine pc_let fun _ => ?_
    | with_reducible refine pc_letL fun _ => ?_
    | with_reducible refine pc_ldN fun _ => ?_
    | with_reducible refine pc_ldL fun _ => ?_
    | with_reducible refine pc_ldR fun _ => ?_
    | with_reducible refine pc_put (eqF.sN (by assumption) (by decide)) fun _ _ => ?_
    | with_reducible refine pc_put (eqF.sL (by assumption) (by decide)) fun _ _ => ?_
    | with_reducible refine pc_put (eqF.sR (by assumption) (by decide)) fun _ _ => ?_
    | with_reducible refine pc_stN (by decide) (by assumption) fun _ _ => ?_
    | with_reducible refine pc_stL (by decide) (by assumption) fun _ _ => ?_
    | with_reducible refine pc_stR (by decide) (by assumption) fun _ _ => ?_
    | with_reducible refine pc_cpN (by decide) (by assumption) fun _ _ => ?_
    | with_reducible refine pc_pure fun _ => ?_
    | exact pc_some (by assumption)
    | exact pc_some (eqF.bX (by assumption))
    | exact pc_some trivial
    | dsimp only
theorem fr_f_X11_men {m0 : MM} {m : MM} {l0 : Nat} {l1 : Int} {l2 : Int} (h : eqF [6] m0 m) : Pc (f_X11_men m l0 l1 l2) (RF [6] m0) := by
  unfold f_X11_men
  repeat' first
    | with_reducible exact pc_x0
    | with_reducible exact pc_xt (by assumption)
    | with_reducible exact pc_xr (by assumption)
    | with_reducible exact fr_j_X11_men_0_19 (by assumption)
    | with_reducible exact fr_j_X11_men_0_20 (by assumption)
    | with_reducible refine pc_nk fun _ => ?_
    | with_reducible refine pc_if ?_ ?_
    | with_reducible refine pc_ck ?_
    | with_reducible refine pc_cb ?_
    | with_reducible refine pc_dv ?_
    | with_reducible refine pc_let fun _ => ?_
    | with_reducible refine pc_letL fun _ => ?_
    | with_reducible refine pc_ldN fun _ => ?_
    | with_reducible refine pc_ldL fun _ => ?_
    | with_reducible refine pc_ldR fun _ => ?_
    | with_reducible refine pc_put (eqF.sN (by assumption) (by decide)) fun _ _ => ?_
    | with_reducible refine pc_put (eqF.sL (by assumption) (by decide)) fun _ _ => ?_
    | with_reducible refine pc_put (eqF.sR (by assumption) (by decide)) fun _ _ => ?_
    | with_reducible refine pc_stN (by decide) (by assumption) fun _ _ => ?_
    | with_reducible refine pc_stL (by decide) (by assumption) fun _ _ => ?_
    | with_reducible refine pc_stR (by decide) (by assumption) fun _ _ => ?_
    | with_reducible refine pc_cpN (by decide) (by assumption) fun _ _ => ?_
    | with_reducible refine pc_bR (fr_f_X11_pressAt (m0 := _) eqF.rf) (by decide) (by assumption) (fun _ _ _ => ?_) (fun _ _ _ => ?_)
    | with_reducible refine pc_pure fun _ => ?_
    | exact pc_some (by assumption)
    | exact pc_some (eqF.bX (by assumption))
    | exact pc_some trivial
    | dsimp only
theorem fr_b_X7_countByLast_30 {m0 : MM} {l0 : Nat} {l1 : Int} {l2 : Int} {l3 : Int} {l4 : Int} {mm : MM} (h : eqF [40] m0 mm) : Pc (b_X7_countByLast_30 l0 l1 l2 l3 l4 mm) (fun z => Sum.elim (fun s => eqF [40] m0 s.2) (fun z => eqF [40] m0 z) z) := by
  unfold b_X7_countByLast_30
  repeat' first
    | with_reducible exact pc_x0
    | with_reducible exact pc_xt (by assumption)
    | with_reducible exact pc_xr (by assumption)
    | with_reducible refine pc_nk fun _ => ?_
    | with_reducible refine pc_if ?_ ?_
    | with_reducible refine pc_ck ?_
    | with_reducible refine pc_cb ?_
    | with_reducible refine pc_dv ?_
    | with_reducible refine pc_let fun _ => ?_
    | with_reducible refine pc_letL fun _ => ?_
    | with_reducible refine pc_ldN fun _ => ?_
    | with_reducible refine pc_ldL fun _ => ?_
    | with_reducible refine pc_ldR fun _ => ?_
    | with_reducible refine pc_put (eqF.sN (by assumption) (by decide)) fun _ _ => ?_
    | with_reducible refine pc_put (eqF.sL (by assumption) (by decide)) fun _ _ => ?_
    | with_reducible refine pc_put (eqF.sR (by assumption) (by decide)) fun _ _ => ?_
    | with_reducible refine pc_stN (by decide) (by assumption) fun _ _ => ?_
    | with_reducible refine pc_stL (by decide) (by assumption) fun _ _ => ?_
    | with_reducible refine pc_stR (by decide) (by assumption) fun _ _ => ?_
    | with_reducible refine pc_cpN (by decide) (by assumption) fun _ _ => ?_
    | with_reducible refine pc_pure fun _ => ?_
    | exact pc_some (by assumption)
    | exact pc_some (eqF.bX (by assumption))
    | exact pc_some trivial
    | dsimp only
theorem fr_j_X7_countByLast_15_89 {m0 : MM} {m : MM} {l0 : Nat} {l1 : Int} {l2 : Int} {l3 : Int} (h : eqF [40] m0 m) : Pc (j_X7_countByLast_15_89 m l0 l1 l2 l3) (fun z => Sum.elim (fun s => eqF [40] m0 s.2) (fun z => eqF [40] m0 z) z) := by
  unfold j_X7_countByLast_15_89
  repeat' first
    | with_reducible exact pc_x0
    | with_reducible exact pc_xt (by assumption)
    | with_reducible exact pc_xr (by assumption)
    | with_reducible refine pc_nk fun _ => ?_
    | with_reducible refine pc_if ?_ ?_
    | with_reducible refine pc_ck ?_
    | with_reducible refine pc_cb ?_
    | with_reducible refine pc_dv ?_
    | with_reducible refine pc_let fun _ => ?_
    | with_reducible refine pc_letL fun _ => ?_
    | with_reducible refine pc_ldN fun _ => ?_
    | with_reducible refine pc_ldL fun _ => ?_
    | with_reducible refine pc_ldR fun _ => ?_
    | with_reducible refine pc_put (eqF.sN (by assumption) (by decide)) fun _ _ => ?_
    | with_reducible refine pc_put (eqF.sL (by assumption) (by decide)) fun _ _ => ?_
    | with_reducible refine pc_put (eqF.sR (by assumption) (by decide)) fun _ _ => ?_
    | with_reducible refine pc_stN (by decide) (by assumption) fun _ _ => ?_
    | with_reducible refine pc_stL (by decide) (by assumption) fun _ _ => ?_
    | with_reducible refine pc_stR (by decide) (by assumption) fun _ _ => ?_
    | with_reducible refine pc_cpN (by decide) (by assumption) fun _ _ => ?_
    | with_reducible refine pc_pure fun _ => ?_
    | exact pc_some (by assumption)
    | exact pc_some (eqF.bX (by assumption))
    | exact pc_some trivial
    | dsimp only
theorem fr_b_X7_countByLast_15 {m0 : MM} {l0 : Nat} {l1 : Int} {l2 : Int} {l3 : Int} {mm : MM} (h : eqF [40] m0 mm) : Pc (b_X7_countByLast_15 l0 l1 l2 l3 mm) (fun z => Sum.elim (fun s => eqF [40] m0 s.2) (fun z => eqF [40] m0 z) z) := by
  unfold b_X7_countByLast_15
  repeat' first
    | with_reducible exact pc_x0
    | with_reducible exact pc_xt (by assumption)
    | with_reducible exact pc_xr (by assumption)
    | with_reducible exact fr_j_X7_countByLast_15_89 (by assumption)
    | with_reducible refine pc_nk fun _ => ?_
    | with_reducible refine pc_if ?_ ?_
    | with_reducible refine pc_ck ?_
    | with_reducible refine pc_cb ?_
    | with_reducible refine pc_dv ?_
    | with_reducible refine pc_let fun _ => ?_
    | with_reducible refine pc_letL fun _ => ?_
    | with_reducible refine pc_ldN fun _ => ?_
    | with_reducible refine pc_ldL fun _ => ?_
    | with_reducible refine pc_ldR fun _ => ?_
    | with_reducible refine pc_put (eqF.sN (by assumption) (by decide)) fun _ _ => ?_
    | with_reducible refine pc_put (eqF.sL (by assumption) (by decide)) fun _ _ => ?_
    | with_reducible refine pc_put (eqF.sR (by assumption) (by decide)) fun _ _ => ?_
    | with_reducible refine pc_stN (by decide) (by assumption) fun _ _ => ?_
    | with_reducible refine pc_stL (by decide) (by assumption) fun _ _ => ?_
    | with_reducible refine pc_stR (by decide) (by assumption) fun _ _ => ?_
    | with_reducible refine pc_cpN (by decide) (by assumption) fun _ _ => ?_
    | with_reducible refine pc_lp (fun s => eqF [40] m0 s.2) (fun z => eqF [40] m0 z) (by assumption) (fun s hs => fr_b_X7_countByLast_30 hs) (fun z hz => ?_)
    | with_reducible refine pc_pure fun _ => ?_
    | exact pc_some (by assumption)
    | exact pc_some (eqF.bX (by assumption))
    | exact pc_some trivial
    | dsimp only
theorem fr_j_X7_countByLast_0_95 {m0 : MM} {m : MM} {l0 : Nat} {l2 : Int} (h : eqF [40] m0 m) : Pc (j_X7_countByLast_0_95 m l0 l2) (RF [40] m0) := by
  unfold j_X7_countByLast_0_95
  repeat' first
    | with_reducible exact pc_x0
    | with_reducible exact pc_xt (by assumption)
    | with_reducible exact pc_xr (by assumption)
    | with_reducible refine pc_nk fun _ => ?_
    | with_reducible refine pc_if ?_ ?_
    | with_reducible refine pc_ck ?_
    | with_reducible refine pc_cb ?_
    | with_reducible refine pc_dv ?_
    | with_reducible refine pc_let fun _ => ?_
    | with_reducible refine pc_letL fun _ => ?_
    | with_reducible refine pc_ldN fun _ => ?_
    | with_reducible refine pc_ldL fun _ => ?_
    | with_reducible refine pc_ldR fun _ => ?_
    | with_reducible refine pc_put (eqF.sN (by assumption) (by decide)) fun _ _ => ?_
    | with_reducible refine pc_put (eqF.sL (by assumption) (by decide)) fun _ _ => ?_
    | with_reducible refine pc_put (eqF.sR (by assumption) (by decide)) fun _ _ => ?_
    | with_reducible refine pc_stN (by decide) (by assumption) fun _ _ => ?_
    | with_reducible refine pc_stL (by decide) (by assumption) fun _ _ => ?_
    | with_reducible refine pc_stR (by decide) (by assumption) fun _ _ => ?_
    | with_reducible refine pc_cpN (by decide) (by assumption) fun _ _ => ?_
    | with_reducible refine pc_pure fun _ => ?_
    | exact pc_some (by assumption)
    | exact pc_some (eqF.bX (by assumption))
    | exact pc_some trivial
    | dsimp only
theorem fr_f_X7_countByLast {m0 : MM} {m : MM} {l0 : Nat} {l1 : Int} (h : eqF [40] m0 m) : Pc (f_X7_countByLast m l0 l1) (RF [40] m0) := by
  unfold f_X7_countByLast
  repeat' first
    | with_reducible exact pc_x0
    | with_reducible exact pc_xt (by assumption)
    | with_reducible exact pc_xr (by assumption)
    | with_reducible exact fr_j_X7_countByLast_0_95 (by assumption)
    | with_reducible refine pc_nk fun _ => ?_
    | with_reducible refine pc_if ?_ ?_
    | with_reducible refine pc_ck ?_
    | with_reducible refine pc_cb ?_
    | with_reducible refine pc_dv ?_
    | with_reducible refine pc_let fun _ => ?_
    | with_reducible refine pc_letL fun _ => ?_
    | with_reducible refine pc_ldN fun _ => ?_
    | with_reducible refine pc_ldL fun _ => ?_
    | with_reducible refine pc_ldR fun _ => ?_
    | with_reducible refine pc_put (eqF.sN (by assumption) (by decide)) fun _ _ => ?_
    | with_reducible refine pc_put (eqF.sL (by assumption) (by decide)) fun _ _ => ?_
    | with_reducible refine pc_put (eqF.sR (by assumption) (by decide)) fun _ _ => ?_
    | with_reducible refine pc_stN (by decide) (by assumption) fun _ _ => ?_
    | with_reducible refine pc_stL (by decide) (by assumption) fun _ _ => ?_
    | with_reducible refine pc_stR (by decide) (by assumption) fun _ _ => ?_
    | with_reducible refine pc_cpN (by decide) (by assumption) fun _ _ => ?_
    | with_reducible refine pc_lp (fun s => eqF [40] m0 s.2) (fun z => eqF [40] m0 z) (by assumption) (fun s hs => fr_b_X7_countByLast_15 hs) (fun z hz => ?_)
    | with_reducible refine pc_pure fun _ => ?_
    | exact pc_some (by assumption)
    | exact pc_some (eqF.bX (by assumption))
    | exact pc_some trivial
    | dsimp only
theorem fr_f_X11_orders {m0 : MM} {m : MM} {l0 : Nat} {l1 : Int} (h : eqF [39, 40] m0 m) : Pc (f_X11_orders m l0 l1) (RF [39, 40] m0) := by
  unfold f_X11_orders
  repeat' first
    | with_reducible exact pc_x0
    | with_reducible exact pc_xt (by assumption)
    | with_reducible exact pc_xr (by assumption)
    | with_reducible refine pc_nk fun _ => ?_
    | with_reducible refine pc_if ?_ ?_
    | with_reducible refine pc_ck ?_
    | with_reducible refine pc_cb ?_
    | with_reducible refine pc_dv ?_
    | with_reducible refine pc_let fun _ => ?_
    | with_reducible refine pc_letL fun _ => ?_
    | with_reducible refine pc_ldN fun _ => ?_
    | with_reducible refine pc_ldL fun _ => ?_
    | with_reducible refine pc_ldR fun _ => ?_
    | with_reducible refine pc_put (eqF.sN (by assumption) (by decide)) fun _ _ => ?_
    | with_reducible refine pc_put (eqF.sL (by assumption) (by decide)) fun _ _ => ?_
    | with_reducible refine pc_put (eqF.sR (by assumption) (by decide)) fun _ _ => ?_
    | with_reducible refine pc_stN (by decide) (by assumption) fun _ _ => ?_
    | with_reducible refine pc_stL (by decide) (by assumption) fun _ _ => ?_
    | with_reducible refine pc_stR (by decide) (by assumption) fun _ _ => ?_
    | with_reducible refine pc_cpN (by decide) (by assumption) fun _ _ => ?_
    | with_reducible refine pc_bI (fr_f_X7_countByLast (m0 := _) eqF.rf) (by decide) (by assumption) (fun _ _ _ => ?_) (fun _ _ _ => ?_)
    | with_reducible refine pc_bR (fr_f_X11_bookAt (m0 := _) eqF.rf) (by decide) (by assumption) (fun _ _ _ => ?_) (fun _ _ _ => ?_)
    | with_reducible refine pc_bV (fr_f_X7_readFormes (m0 := _) eqF.rf) (by decide) (by assumption) (fun _ _ => ?_) (fun _ _ _ => ?_)
    | with_reducible refine pc_pure fun _ => ?_
    | exact pc_some (by assumption)
    | exact pc_some (eqF.bX (by assumption))
    | exact pc_some trivial
    | dsimp only
theorem fr_j_X7_countByPlace_8_27 {m0 : MM} {m : MM} {l0 : Nat} {l1 : Int} {l2 : Int} {l3 : Int} {s0 : Nat} {s1 : Int} {s2 : Int} (h : eqF [40] m0 m) : Pc (j_X7_countByPlace_8_27 m l0 l1 l2 l3 s0 s1 s2) (fun z => Sum.elim (fun s => eqF [40] m0 s.2) (fun z => eqF [40] m0 z) z) := by
  unfold j_X7_countByPlace_8_27
  repeat' first
    | with_reducible exact pc_x0
    | with_reducible exact pc_xt (by assumption)
    | with_reducible exact pc_xr (by assumption)
    | with_reducible refine pc_nk fun _ => ?_
    | with_reducible refine pc_if ?_ ?_
    | with_reducible refine pc_ck ?_
    | with_reducible refine pc_cb ?_
    | with_reducible refine pc_dv ?_
    | with_reducible refine pc_let fun _ => ?_
    | with_reducible refine pc_letL fun _ => ?_
    | with_reducible refine pc_ldN fun _ => ?_
    | with_reducible refine pc_ldL fun _ => ?_
    | with_reducible refine pc_ldR fun _ => ?_
    | with_reducible refine pc_put (eqF.sN (by assumption) (by decide)) fun _ _ => ?_
    | with_reducible refine pc_put (eqF.sL (by assumption) (by decide)) fun _ _ => ?_
    | with_reducible refine pc_put (eqF.sR (by assumption) (by decide)) fun _ _ => ?_
    | with_reducible refine pc_stN (by decide) (by assumption) fun _ _ => ?_
    | with_reducible refine pc_stL (by decide) (by assumption) fun _ _ => ?_
    | with_reducible refine pc_stR (by decide) (by assumption) fun _ _ => ?_
    | with_reducible refine pc_cpN (by decide) (by assumption) fun _ _ => ?_
    | with_reducible refine pc_pure fun _ => ?_
    | exact pc_some (by assumption)
    | exact pc_some (eqF.bX (by assumption))
    | exact pc_some trivial
    | dsimp only
theorem fr_b_X7_countByPlace_8 {m0 : MM} {l0 : Nat} {l1 : Int} {l2 : Int} {l3 : Int} {mm : MM} (h : eqF [40] m0 mm) : Pc (b_X7_countByPlace_8 l0 l1 l2 l3 mm) (fun z => Sum.elim (fun s => eqF [40] m0 s.2) (fun z => eqF [40] m0 z) z) := by
  unfold b_X7_countByPlace_8
  repeat' first
    | with_reducible exact pc_x0
    | with_reducible exact pc_xt (by assumption)
    | with_reducible exact pc_xr (by assumption)
    | with_reducible exact fr_j_X7_countByPlace_8_27 (by assumption)
    | with_reducible refine pc_nk fun _ => ?_
    | with_reducible refine pc_if ?_ ?_
    | with_reducible refine pc_ck ?_
    | with_reducible refine pc_cb ?_
    | with_reducible refine pc_dv ?_
    | with_reducible refine pc_let fun _ => ?_
    | with_reducible refine pc_letL fun _ => ?_
    | with_reducible refine pc_ldN fun _ => ?_
    | with_reducible refine pc_ldL fun _ => ?_
    | with_reducible refine pc_ldR fun _ => ?_
    | with_reducible refine pc_put (eqF.sN (by assumption) (by decide)) fun _ _ => ?_
    | with_reducible refine pc_put (eqF.sL (by assumption) (by decide)) fun _ _ => ?_
    | with_reducible refine pc_put (eqF.sR (by assumption) (by decide)) fun _ _ => ?_
    | with_reducible refine pc_stN (by decide) (by assumption) fun _ _ => ?_
    | with_reducible refine pc_stL (by decide) (by assumption) fun _ _ => ?_
    | with_reducible refine pc_stR (by decide) (by assumption) fun _ _ => ?_
    | with_reducible refine pc_cpN (by decide) (by assumption) fun _ _ => ?_
    | with_reducible refine pc_pure fun _ => ?_
    | exact pc_some (by assumption)
    | exact pc_some (eqF.bX (by assumption))
    | exact pc_some trivial
    | dsimp only
theorem fr_j_X7_countByPlace_44_78 {m0 : MM} {m : MM} {l0 : Nat} {l1 : Int} {l2 : Int} {l3 : Int} {l4 : Int} {s0 : Int} (h : eqF [40] m0 m) : Pc (j_X7_countByPlace_44_78 m l0 l1 l2 l3 l4 s0) (fun z => Sum.elim (fun s => eqF [40] m0 s.2) (fun z => eqF [40] m0 z) z) := by
  unfold j_X7_countByPlace_44_78
  repeat' first
    | with_reducible exact pc_x0
    | with_reducible exact pc_xt (by assumption)
    | with_reducible exact pc_xr (by assumption)
    | with_reducible refine pc_nk fun _ => ?_
    | with_reducible refine pc_if ?_ ?_
    | with_reducible refine pc_ck ?_
    | with_reducible refine pc_cb ?_
    | with_reducible refine pc_dv ?_
    | with_reducible refine pc_let fun _ => ?_
    | with_reducible refine pc_letL fun _ => ?_
    | with_reducible refine pc_ldN fun _ => ?_
    | with_reducible refine pc_ldL fun _ => ?_
    | with_reducible refine pc_ldR fun _ => ?_
    | with_reducible refine pc_put (eqF.sN (by assumption) (by decide)) fun _ _ => ?_
    | with_reducible refine pc_put (eqF.sL (by assumption) (by decide)) fun _ _ => ?_
    | with_reducible refine pc_put (eqF.sR (by assumption) (by decide)) fun _ _ => ?_
    | with_reducible refine pc_stN (by decide) (by assumption) fun _ _ => ?_
    | with_reducible refine pc_stL (by decide) (by assumption) fun _ _ => ?_
    | with_reducible refine pc_stR (by decide) (by assumption) fun _ _ => ?_
    | with_reducible refine pc_cpN (by decide) (by assumption) fun _ _ => ?_
    | with_reducible refine pc_pure fun _ => ?_
    | exact pc_some (by assumption)
    | exact pc_some (eqF.bX (by assumption))
    | exact pc_some trivial
    | dsimp only
theorem fr_j_X7_countByPlace_44_77 {m0 : MM} {m : MM} {l0 : Nat} {l1 : Int} {l2 : Int} {l3 : Int} {l4 : Int} (h : eqF [40] m0 m) : Pc (j_X7_countByPlace_44_77 m l0 l1 l2 l3 l4) (fun z => Sum.elim (fun s => eqF [40] m0 s.2) (fun z => eqF [40] m0 z) z) := by
  unfold j_X7_countByPlace_44_77
  repeat' first
    | with_reducible exact pc_x0
    | with_reducible exact pc_xt (by assumption)
    | with_reducible exact pc_xr (by assumption)
    | with_reducible exact fr_j_X7_countByPlace_44_78 (by assumption)
    | with_reducible refine pc_nk fun _ => ?_
    | with_reducible refine pc_if ?_ ?_
    | with_reducible refine pc_ck ?_
    | with_reducible refine pc_cb ?_
    | with_reducible refine pc_dv ?_
    | with_reducible refine pc_let fun _ => ?_
    | with_reducible refine pc_letL fun _ => ?_
    | with_reducible refine pc_ldN fun _ => ?_
    | with_reducible refine pc_ldL fun _ => ?_
    | with_reducible refine pc_ldR fun _ => ?_
    | with_reducible refine pc_put (eqF.sN (by assumption) (by decide)) fun _ _ => ?_
    | with_reducible refine pc_put (eqF.sL (by assumption) (by decide)) fun _ _ => ?_
    | with_reducible refine pc_put (eqF.sR (by assumption) (by decide)) fun _ _ => ?_
    | with_reducible refine pc_stN (by decide) (by assumption) fun _ _ => ?_
    | with_reducible refine pc_stL (by decide) (by assumption) fun _ _ => ?_
    | with_reducible refine pc_stR (by decide) (by assumption) fun _ _ => ?_
    | with_reducible refine pc_cpN (by decide) (by assumption) fun _ _ => ?_
    | with_reducible refine pc_pure fun _ => ?_
    | exact pc_some (by assumption)
    | exact pc_some (eqF.bX (by assumption))
    | exact pc_some trivial
    | dsimp only
theorem fr_b_X7_countByPlace_44 {m0 : MM} {l0 : Nat} {l1 : Int} {l2 : Int} {l3 : Int} {l4 : Int} {mm : MM} (h : eqF [40] m0 mm) : Pc (b_X7_countByPlace_44 l0 l1 l2 l3 l4 mm) (fun z => Sum.elim (fun s => eqF [40] m0 s.2) (fun z => eqF [40] m0 z) z) := by
  unfold b_X7_countByPlace_44
  repeat' first
    | with_reducible exact pc_x0
    | with_reducible exact pc_xt (by assumption)
    | with_reducible exact pc_xr (by assumption)
    | with_reducible exact fr_j_X7_countByPlace_44_77 (by assumption)
    | with_reducible exact fr_j_X7_countByPlace_44_78 (by assumption)
    | with_reducible refine pc_nk fun _ => ?_
    | with_reducible refine pc_if ?_ ?_
    | with_reducible refine pc_ck ?_
    | with_reducible refine pc_cb ?_
    | with_reducible refine pc_dv ?_
    | with_reducible refine pc_let fun _ => ?_
    | with_reducible refine pc_letL fun _ => ?_
    | with_reducible refine pc_ldN fun _ => ?_
    | with_reducible refine pc_ldL fun _ => ?_
    | with_reducible refine pc_ldR fun _ => ?_
    | with_reducible refine pc_put (eqF.sN (by assumption) (by decide)) fun _ _ => ?_
    | with_reducible refine pc_put (eqF.sL (by assumption) (by decide)) fun _ _ => ?_
    | with_reducible refine pc_put (eqF.sR (by assumption) (by decide)) fun _ _ => ?_
    | with_reducible refine pc_stN (by decide) (by assumption) fun _ _ => ?_
    | with_reducible refine pc_stL (by decide) (by assumption) fun _ _ => ?_
    | with_reducible refine pc_stR (by decide) (by assumption) fun _ _ => ?_
    | with_reducible refine pc_cpN (by decide) (by assumption) fun _ _ => ?_
    | with_reducible refine pc_pure fun _ => ?_
    | exact pc_some (by assumption)
    | exact pc_some (eqF.bX (by assumption))
    | exact pc_some trivial
    | dsimp only
theorem fr_j_X7_countByPlace_36_111 {m0 : MM} {m : MM} {l0 : Nat} {l1 : Int} {l2 : Int} {l3 : Int} (h : eqF [40] m0 m) : Pc (j_X7_countByPlace_36_111 m l0 l1 l2 l3) (fun z => Sum.elim (fun s => eqF [40] m0 s.2) (fun z => eqF [40] m0 z) z) := by
  unfold j_X7_countByPlace_36_111
  repeat' first
    | with_reducible exact pc_x0
    | with_reducible exact pc_xt (by assumption)
    | with_reducible exact pc_xr (by assumption)
    | with_reducible refine pc_nk fun _ => ?_
    | with_reducible refine pc_if ?_ ?_
    | with_reducible refine pc_ck ?_
    | with_reducible refine pc_cb ?_
    | with_reducible refine pc_dv ?_
    | with_reducible refine pc_let fun _ => ?_
    | with_reducible refine pc_letL fun _ => ?_
    | with_reducible refine pc_ldN fun _ => ?_
    | with_reducible refine pc_ldL fun _ => ?_
    | with_reducible refine pc_ldR fun _ => ?_
    | with_reducible refine pc_put (eqF.sN (by assumption) (by decide)) fun _ _ => ?_
    | with_reducible refine pc_put (eqF.sL (by assumption) (by decide)) fun _ _ => ?_
    | with_reducible refine pc_put (eqF.sR (by assumption) (by decide)) fun _ _ => ?_
    | with_reducible refine pc_stN (by decide) (by assumption) fun _ _ => ?_
    | with_reducible refine pc_stL (by decide) (by assumption) fun _ _ => ?_
    | with_reducible refine pc_stR (by decide) (by assumption) fun _ _ => ?_
    | with_reducible refine pc_cpN (by decide) (by assumption) fun _ _ => ?_
    | with_reducible refine pc_pure fun _ => ?_
    | exact pc_some (by assumption)
    | exact pc_some (eqF.bX (by assumption))
    | exact pc_some trivial
    | dsimp only
theorem fr_b_X7_countByPlace_36 {m0 : MM} {l0 : Nat} {l1 : Int} {l2 : Int} {l3 : Int} {mm : MM} (h : eqF [40] m0 mm) : Pc (b_X7_countByPlace_36 l0 l1 l2 l3 mm) (fun z => Sum.elim (fun s => eqF [40] m0 s.2) (fun z => eqF [40] m0 z) z) := by
  unfold b_X7_countByPlace_36
  repeat' first
    | with_reducible exact pc_x0
    | with_reducible exact pc_xt (by assumption)
    | with_reducible exact pc_xr (by assumption)
    | with_reducible exact fr_j_X7_countByPlace_36_111 (by assumption)
    | with_reducible refine pc_nk fun _ => ?_
    | with_reducible refine pc_if ?_ ?_
    | with_reducible refine pc_ck ?_
    | with_reducible refine pc_cb ?_
    | with_reducible refine pc_dv ?_
    | with_reducible refine pc_let fun _ => ?_
    | with_reducible refine pc_letL fun _ => ?_
    | with_reducible refine pc_ldN fun _ => ?_
    | with_reducible refine pc_ldL fun _ => ?_
    | with_reducible refine pc_ldR fun _ => ?_
    | with_reducible refine pc_put (eqF.sN (by assumption) (by decide)) fun _ _ => ?_
    | with_reducible refine pc_put (eqF.sL (by assumption) (by decide)) fun _ _ => ?_
    | with_reducible refine pc_put (eqF.sR (by assumption) (by decide)) fun _ _ => ?_
    | with_reducible refine pc_stN (by decide) (by assumption) fun _ _ => ?_
    | with_reducible refine pc_stL (by decide) (by assumption) fun _ _ => ?_
    | with_reducible refine pc_stR (by decide) (by assumption) fun _ _ => ?_
    | with_reducible refine pc_cpN (by decide) (by assumption) fun _ _ => ?_
    | with_reducible refine pc_lp (fun s => eqF [40] m0 s.2) (fun z => eqF [40] m0 z) (by assumption) (fun s hs => fr_b_X7_countByPlace_44 hs) (fun z hz => ?_)
    | with_reducible refine pc_pure fun _ => ?_
    | exact pc_some (by assumption)
    | exact pc_some (eqF.bX (by assumption))
    | exact pc_some trivial
    | dsimp only
theorem fr_j_X7_countByPlace_0_117 {m0 : MM} {m : MM} {l0 : Nat} {l2 : Int} (h : eqF [40] m0 m) : Pc (j_X7_countByPlace_0_117 m l0 l2) (RF [40] m0) := by
  unfold j_X7_countByPlace_0_117
  repeat' first
    | with_reducible exact pc_x0
    | with_reducible exact pc_xt (by assumption)
    | with_reducible exact pc_xr (by assumption)
    | with_reducible refine pc_nk fun _ => ?_
    | with_reducible refine pc_if ?_ ?_
    | with_reducible refine pc_ck ?_
    | with_reducible refine pc_cb ?_
    | with_reducible refine pc_dv ?_
    | with_reducible refine pc_let fun _ => ?_
    | with_reducible refine pc_letL fun _ => ?_
    | with_reducible refine pc_ldN fun _ => ?_
    | with_reducible refine pc_ldL fun _ => ?_
    | with_reducible refine pc_ldR fun _ => ?_
    | with_reducible refine pc_put (eqF.sN (by assumption) (by decide)) fun _ _ => ?_
    | with_reducible refine pc_put (eqF.sL (by assumption) (by decide)) fun _ _ => ?_
    | with_reducible refine pc_put (eqF.sR (by assumption) (by decide)) fun _ _ => ?_
    | with_reducible refine pc_stN (by decide) (by assumption) fun _ _ => ?_
    | with_reducible refine pc_stL (by decide) (by assumption) fun _ _ => ?_
    | with_reducible refine pc_stR (by decide) (by assumption) fun _ _ => ?_
    | with_reducible refine pc_cpN (by decide) (by assumption) fun _ _ => ?_
    | with_reducible refine pc_pure fun _ => ?_
    | exact pc_some (by assumption)
    | exact pc_some (eqF.bX (by assumption))
    | exact pc_some trivial
    | dsimp only
theorem fr_j_X7_countByPlace_0_34 {m0 : MM} {m : MM} {l0 : Nat} {l1 : Int} {l2 : Int} (h : eqF [40] m0 m) : Pc (j_X7_countByPlace_0_34 m l0 l1 l2) (RF [40] m0) := by
  unfold j_X7_countByPlace_0_34
  repeat' first
    | with_reducible exact pc_x0
    | with_reducible exact pc_xt (by assumption)
    | with_reducible exact pc_xr (by assumption)
    | with_reducible exact fr_j_X7_countByPlace_0_117 (by assumption)
    | with_reducible refine pc_nk fun _ => ?_
    | with_reducible refine pc_if ?_ ?_
    | with_reducible refine pc_ck ?_
    | with_reducible refine pc_cb ?_
    | with_reducible refine pc_dv ?_
    | with_reducible refine pc_let fun _ => ?_
    | with_reducible refine pc_letL fun _ => ?_
    | with_reducible refine pc_ldN fun _ => ?_
    | with_reducible refine pc_ldL fun _ => ?_
    | with_reducible refine pc_ldR fun _ => ?_
    | with_reducible refine pc_put (eqF.sN (by assumption) (by decide)) fun _ _ => ?_
    | with_reducible refine pc_put (eqF.sL (by assumption) (by decide)) fun _ _ => ?_
    | with_reducible refine pc_put (eqF.sR (by assumption) (by decide)) fun _ _ => ?_
    | with_reducible refine pc_stN (by decide) (by assumption) fun _ _ => ?_
    | with_reducible refine pc_stL (by decide) (by assumption) fun _ _ => ?_
    | with_reducible refine pc_stR (by decide) (by assumption) fun _ _ => ?_
    | with_reducible refine pc_cpN (by decide) (by assumption) fun _ _ => ?_
    | with_reducible refine pc_lp (fun s => eqF [40] m0 s.2) (fun z => eqF [40] m0 z) (by assumption) (fun s hs => fr_b_X7_countByPlace_36 hs) (fun z hz => ?_)
    | with_reducible refine pc_pure fun _ => ?_
    | exact pc_some (by assumption)
    | exact pc_some (eqF.bX (by assumption))
    | exact pc_some trivial
    | dsimp only
theorem fr_f_X7_countByPlace {m0 : MM} {m : MM} {l0 : Nat} {l1 : Int} (h : eqF [40] m0 m) : Pc (f_X7_countByPlace m l0 l1) (RF [40] m0) := by
  unfold f_X7_countByPlace
  repeat' first
    | with_reducible exact pc_x0
    | with_reducible exact pc_xt (by assumption)
    | with_reducible exact pc_xr (by assumption)
    | with_reducible exact fr_j_X7_countByPlace_0_34 (by assumption)
    | with_reducible refine pc_nk fun _ => ?_
    | with_reducible refine pc_if ?_ ?_
    | with_reducible refine pc_ck ?_
    | with_reducible refine pc_cb ?_
    | with_reducible refine pc_dv ?_
    | with_reducible refine pc_let fun _ => ?_
    | with_reducible refine pc_letL fun _ => ?_
    | with_reducible refine pc_ldN fun _ => ?_
    | with_reducible refine pc_ldL fun _ => ?_
    | with_reducible refine pc_ldR fun _ => ?_
    | with_reducible refine pc_put (eqF.sN (by assumption) (by decide)) fun _ _ => ?_
    | with_reducible refine pc_put (eqF.sL (by assumption) (by decide)) fun _ _ => ?_
    | with_reducible refine pc_put (eqF.sR (by assumption) (by decide)) fun _ _ => ?_
    | with_reducible refine pc_stN (by decide) (by assumption) fun _ _ => ?_
    | with_reducible refine pc_stL (by decide) (by assumption) fun _ _ => ?_
    | with_reducible refine pc_stR (by decide) (by assumption) fun _ _ => ?_
    | with_reducible refine pc_cpN (by decide) (by assumption) fun _ _ => ?_
    | with_reducible refine pc_lp (fun s => eqF [40] m0 s.2) (fun z => eqF [40] m0 z) (by assumption) (fun s hs => fr_b_X7_countByPlace_8 hs) (fun z hz => ?_)
    | with_reducible refine pc_pure fun _ => ?_
    | exact pc_some (by assumption)
    | exact pc_some (eqF.bX (by assumption))
    | exact pc_some trivial
    | dsimp only
theorem fr_f_X11_ordersAnew {m0 : MM} {m : MM} {l0 : Nat} {l1 : Int} (h : eqF [39, 40] m0 m) : Pc (f_X11_ordersAnew m l0 l1) (RF [39, 40] m0) := by
  unfold f_X11_ordersAnew
  repeat' first
    | with_reducible exact pc_x0
    | with_reducible exact pc_xt (by assumption)
    | with_reducible exact pc_xr (by assumption)
    | with_reducible refine pc_nk fun _ => ?_
    | with_reducible refine pc_if ?_ ?_
    | with_reducible refine pc_ck ?_
    | with_reducible refine pc_cb ?_
    | with_reducible refine pc_dv ?_
    | with_reducible refine pc_let fun _ => ?_
    | with_reducible refine pc_letL fun _ => ?_
    | with_reducible refine pc_ldN fun _ => ?_
    | with_reducible refine pc_ldL fun _ => ?_
    | with_reducible refine pc_ldR fun _ => ?_
    | with_reducible refine pc_put (eqF.sN (by assumption) (by decide)) fun _ _ => ?_
    | with_reducible refine pc_put (eqF.sL (by assumption) (by decide)) fun _ _ => ?_
    | with_reducible refine pc_put (eqF.sR (by assumption) (by decide)) fun _ _ => ?_
    | with_reducible refine pc_stN (by decide) (by assumption) fun _ _ => ?_
    | with_reducible refine pc_stL (by decide) (by assumption) fun _ _ => ?_
    | with_reducible refine pc_stR (by decide) (by assumption) fun _ _ => ?_
    | with_reducible refine pc_cpN (by decide) (by assumption) fun _ _ => ?_
    | with_reducible refine pc_bI (fr_f_X7_countByPlace (m0 := _) eqF.rf) (by decide) (by assumption) (fun _ _ _ => ?_) (fun _ _ _ => ?_)
    | with_reducible refine pc_bR (fr_f_X11_bookAt (m0 := _) eqF.rf) (by decide) (by assumption) (fun _ _ _ => ?_) (fun _ _ _ => ?_)
    | with_reducible refine pc_bV (fr_f_X7_readFormes (m0 := _) eqF.rf) (by decide) (by assumption) (fun _ _ => ?_) (fun _ _ _ => ?_)
    | with_reducible refine pc_pure fun _ => ?_
    | exact pc_some (by assumption)
    | exact pc_some (eqF.bX (by assumption))
    | exact pc_some trivial
    | dsimp only
theorem fr_j_X11_page_0_30 {m0 : MM} {m : MM} {l2 : Int} {l3 : Int} {l4 : Nat} {l5 : Nat} {s0 : Int} (h : eqF [] m0 m) : Pc (j_X11_page_0_30 m l2 l3 l4 l5 s0) (RF [] m0) := by
  unfold j_X11_page_0_30
  repeat' first
    | with_reducible exact pc_x0
    | with_reducible exact pc_xt (by assumption)
    | with_reducible exact pc_xr (by assumption)
    | with_reducible refine pc_nk fun _ => ?_
    | with_reducible refine pc_if ?_ ?_
    | with_reducible refine pc_ck ?_
    | with_reducible refine pc_cb ?_
    | with_reducible refine pc_dv ?_
    | with_reducible refine pc_let fun _ => ?_
    | with_reducible refine pc_letL fun _ => ?_
    | with_reducible refine pc_ldN fun _ => ?_
    | with_reducible refine pc_ldL fun _ => ?_
    | with_reducible refine pc_ldR fun _ => ?_
    | with_reducible refine pc_put (eqF.sN (by assumption) (by decide)) fun _ _ => ?_
    | with_reducible refine pc_put (eqF.sL (by assumption) (by decide)) fun _ _ => ?_
    | with_reducible refine pc_put (eqF.sR (by assumption) (by decide)) fun _ _ => ?_
    | with_reducible refine pc_stN (by decide) (by assumption) fun _ _ => ?_
    | with_reducible refine pc_stL (by decide) (by assumption) fun _ _ => ?_
    | with_reducible refine pc_stR (by decide) (by assumption) fun _ _ => ?_
    | with_reducible refine pc_cpN (by decide) (by assumption) fun _ _ => ?_
    | with_reducible refine pc_bV (fr_f_X11_requireArgument (m0 := _) eqF.rf) (by decide) (by assumption) (fun _ _ => ?_) (fun _ _ _ => ?_)
    | with_reducible refine pc_pure fun _ => ?_
    | exact pc_some (by assumption)
    | exact pc_some (eqF.bX (by assumption))
    | exact pc_some trivial
    | dsimp only
theorem fr_j_X11_page_0_29 {m0 : MM} {m : MM} {l2 : Int} {l3 : Int} {l4 : Nat} {l5 : Nat} (h : eqF [] m0 m) : Pc (j_X11_page_0_29 m l2 l3 l4 l5) (RF [] m0) := by
  unfold j_X11_page_0_29
  repeat' first
    | with_reducible exact pc_x0
    | with_reducible exact pc_xt (by assumption)
    | with_reducible exact pc_xr (by assumption)
    | with_reducible exact fr_j_X11_page_0_30 (by assumption)
    | with_reducible refine pc_nk fun _ => ?_
    | with_reducible refine pc_if ?_ ?_
    | with_reducible refine pc_ck ?_
    | with_reducible refine pc_cb ?_
    | with_reducible refine pc_dv ?_
    | with_reducible refine pc_let fun _ => ?_
    | with_reducible refine pc_letL fun _ => ?_
    | with_reducible refine pc_ldN fun _ => ?_
    | with_reducible refine pc_ldL fun _ => ?_
    | with_reducible refine pc_ldR fun _ => ?_
    | with_reducible refine pc_put (eqF.sN (by assumption) (by decide)) fun _ _ => ?_
    | with_reducible refine pc_put (eqF.sL (by assumption) (by decide)) fun _ _ => ?_
    | with_reducible refine pc_put (eqF.sR (by assumption) (by decide)) fun _ _ => ?_
    | with_reducible refine pc_stN (by decide) (by assumption) fun _ _ => ?_
    | with_reducible refine pc_stL (by decide) (by assumption) fun _ _ => ?_
    | with_reducible refine pc_stR (by decide) (by assumption) fun _ _ => ?_
    | with_reducible refine pc_cpN (by decide) (by assumption) fun _ _ => ?_
    | with_reducible refine pc_pure fun _ => ?_
    | exact pc_some (by assumption)
    | exact pc_some (eqF.bX (by assumption))
    | exact pc_some trivial
    | dsimp only
theorem fr_f_X11_page {m0 : MM} {m : MM} {l0 : Nat} {l1 : Int} {l2 : Int} {l3 : Int} (h : eqF [] m0 m) : Pc (f_X11_page m l0 l1 l2 l3) (RF [] m0) := by
  unfold f_X11_page
  repeat' first
    | with_reducible exact pc_x0
    | with_reducible exact pc_xt (by assumption)
    | with_reducible exact pc_xr (by assumption)
    | with_reducible exact fr_j_X11_page_0_29 (by assumption)
    | with_reducible exact fr_j_X11_page_0_30 (by assumption)
    | with_reducible refine pc_nk fun _ => ?_
    | with_reducible refine pc_if ?_ ?_
    | with_reducible refine pc_ck ?_
    | with_reducible refine pc_cb ?_
    | with_reducible refine pc_dv ?_
    | with_reducible refine pc_let fun _ => ?_
    | with_reducible refine pc_letL fun _ => ?_
    | with_reducible refine pc_ldN fun _ => ?_
    | with_reducible refine pc_ldL fun _ => ?_
    | with_reducible refine pc_ldR fun _ => ?_
    | with_reducible refine pc_put (eqF.sN (by assumption) (by decide)) fun _ _ => ?_
    | with_reducible refine pc_put (eqF.sL (by assumption) (by decide)) fun _ _ => ?_
    | with_reducible refine pc_put (eqF.sR (by assumption) (by decide)) fun _ _ => ?_
    | with_reducible refine pc_stN (by decide) (by assumption) fun _ _ => ?_
    | with_reducible refine pc_stL (by decide) (by assumption) fun _ _ => ?_
    | with_reducible refine pc_stR (by decide) (by assumption) fun _ _ => ?_
    | with_reducible refine pc_cpN (by decide) (by assumption) fun _ _ => ?_
    | with_reducible refine pc_bR (fr_f_X11_bookAt (m0 := _) eqF.rf) (by decide) (by assumption) (fun _ _ _ => ?_) (fun _ _ _ => ?_)
    | with_reducible refine pc_bR (fr_f_X11_pageOf (m0 := _) eqF.rf) (by decide) (by assumption) (fun _ _ _ => ?_) (fun _ _ _ => ?_)
    | with_reducible refine pc_pure fun _ => ?_
    | exact pc_some (by assumption)
    | exact pc_some (eqF.bX (by assumption))
    | exact pc_some trivial
    | dsimp only
theorem fr_j_X11_paper_0_14 {m0 : MM} {m : MM} {l0 : Nat} {l1 : Int} {s0 : Int} (h : eqF [11] m0 m) : Pc (j_X11_paper_0_14 m l0 l1 s0) (RF [11] m0) := by
  unfold j_X11_paper_0_14
  repeat' first
    | with_reducible exact pc_x0
    | with_reducible exact pc_xt (by assumption)
    | with_reducible exact pc_xr (by assumption)
    | with_reducible refine pc_nk fun _ => ?_
    | with_reducible refine pc_if ?_ ?_
    | with_reducible refine pc_ck ?_
    | with_reducible refine pc_cb ?_
    | with_reducible refine pc_dv ?_
    | with_reducible refine pc_let fun _ => ?_
    | with_reducible refine pc_letL fun _ => ?_
    | with_reducible refine pc_ldN fun _ => ?_
    | with_reducible refine pc_ldL fun _ => ?_
    | with_reducible refine pc_ldR fun _ => ?_
    | with_reducible refine pc_put (eqF.sN (by assumption) (by decide)) fun _ _ => ?_
    | with_reducible refine pc_put (eqF.sL (by assumption) (by decide)) fun _ _ => ?_
    | with_reducible refine pc_put (eqF.sR (by assumption) (by decide)) fun _ _ => ?_
    | with_reducible refine pc_stN (by decide) (by assumption) fun _ _ => ?_
    | with_reducible refine pc_stL (by decide) (by assumption) fun _ _ => ?_
    | with_reducible refine pc_stR (by decide) (by assumption) fun _ _ => ?_
    | with_reducible refine pc_cpN (by decide) (by assumption) fun _ _ => ?_
    | with_reducible refine pc_bV (fr_f_X11_requireIndex (m0 := _) eqF.rf) (by decide) (by assumption) (fun _ _ => ?_) (fun _ _ _ => ?_)
    | with_reducible refine pc_pure fun _ => ?_
    | exact pc_some (by assumption)
    | exact pc_some (eqF.bX (by assumption))
    | exact pc_some trivial
    | dsimp only
theorem fr_j_X11_paper_0_13 {m0 : MM} {m : MM} {l0 : Nat} {l1 : Int} (h : eqF [11] m0 m) : Pc (j_X11_paper_0_13 m l0 l1) (RF [11] m0) := by
  unfold j_X11_paper_0_13
  repeat' first
    | with_reducible exact pc_x0
    | with_reducible exact pc_xt (by assumption)
    | with_reducible exact pc_xr (by assumption)
    | with_reducible exact fr_j_X11_paper_0_14 (by assumption)
    | with_reducible refine pc_nk fun _ => ?_
    | with_reducible refine pc_if ?_ ?_
    | with_reducible refine pc_ck ?_
    | with_reducible refine pc_cb ?_
    | with_reducible refine pc_dv ?_
    | with_reducible refine pc_let fun _ => ?_
    | with_reducible refine pc_letL fun _ => ?_
    | with_reducible refine pc_ldN fun _ => ?_
    | with_reducible refine pc_ldL fun _ => ?_
    | with_reducible refine pc_ldR fun _ => ?_
    | with_reducible refine pc_put (eqF.sN (by assumption) (by decide)) fun _ _ => ?_
    | with_reducible refine pc_put (eqF.sL (by assumption) (by decide)) fun _ _ => ?_
    | with_reducible refine pc_put (eqF.sR (by assumption) (by decide)) fun _ _ => ?_
    | with_reducible refine pc_stN (by decide) (by assumption) fun _ _ => ?_
    | with_reducible refine pc_stL (by decide) (by assumption) fun _ _ => ?_
    | with_reducible refine pc_stR (by decide) (by assumption) fun _ _ => ?_
    | with_reducible refine pc_cpN (by decide) (by assumption) fun _ _ => ?_
    | with_reducible refine pc_pure fun _ => ?_
    | exact pc_some (by assumption)
    | exact pc_some (eqF.bX (by assumption))
    | exact pc_some trivial
    | dsimp only
theorem fr_f_X11_paper {m0 : MM} {m : MM} {l0 : Nat} {l1 : Int} (h : eqF [11] m0 m) : Pc (f_X11_paper m l0 l1) (RF [11] m0) := by
  unfold f_X11_paper
  repeat' first
    | with_reducible exact pc_x0
    | with_reducible exact pc_xt (by assumption)
    | with_reducible exact pc_xr (by assumption)
    | with_reducible exact fr_j_X11_paper_0_13 (by assumption)
    | with_reducible exact fr_j_X11_paper_0_14 (by assumption)
    | with_reducible refine pc_nk fun _ => ?_
    | with_reducible refine pc_if ?_ ?_
    | with_reducible refine pc_ck ?_
    | with_reducible refine pc_cb ?_
    | with_reducible refine pc_dv ?_
    | with_reducible refine pc_let fun _ => ?_
    | with_reducible refine pc_letL fun _ => ?_
    | with_reducible refine pc_ldN fun _ => ?_
    | with_reducible refine pc_ldL fun _ => ?_
    | with_reducible refine pc_ldR fun _ => ?_
    | with_reducible refine pc_put (eqF.sN (by assumption) (by decide)) fun _ _ => ?_
    | with_reducible refine pc_put (eqF.sL (by assumption) (by decide)) fun _ _ => ?_
    | with_reducible refine pc_put (eqF.sR (by assumption) (by decide)) fun _ _ => ?_
    | with_reducible refine pc_stN (by decide) (by assumption) fun _ _ => ?_
    | with_reducible refine pc_stL (by decide) (by assumption) fun _ _ => ?_
    | with_reducible refine pc_stR (by decide) (by assumption) fun _ _ => ?_
    | with_reducible refine pc_cpN (by decide) (by assumption) fun _ _ => ?_
    | with_reducible refine pc_pure fun _ => ?_
    | exact pc_some (by assumption)
    | exact pc_some (eqF.bX (by assumption))
    | exact pc_some trivial
    | dsimp only
theorem fr_b_X2_finish_45 {m0 : MM} {l0 : Nat} {l2 : Nat} {l3 : Nat} {l4 : Int} {l5 : Int} {l7 : Nat} {l8 : Int} {mm : MM} (h : eqF [2, 25] m0 mm) : Pc (b_X2_finish_45 l0 l2 l3 l4 l5 l7 l8 mm) (fun z => Sum.elim (fun s => eqF [2, 25] m0 s.2) (fun z => eqF [2, 25] m0 z) z) := by
  unfold b_X2_finish_45
  repeat' first
    | with_reducible exact pc_x0
    | with_reducible exact pc_xt (by assumption)
    | with_reducible exact pc_xr (by assumption)
    | with_reducible refine pc_nk fun _ => ?_
    | with_reducible refine pc_if ?_ ?_
    | with_reducible refine pc_ck ?_
    | with_reducible refine pc_cb ?_
    | with_reducible refine pc_dv ?_
    | with_reducible refine pc_let fun _ => ?_
    | with_reducible refine pc_letL fun _ => ?_
    | with_reducible refine pc_ldN fun _ => ?_
    | with_reducible refine pc_ldL fun _ => ?_
    | with_reducible refine pc_ldR fun _ => ?_
    | with_reducible refine pc_put (eqF.sN (by assumption) (by decide)) fun _ _ => ?_
    | with_reducible refine pc_put (eqF.sL (by assumption) (by decide)) fun _ _ => ?_
    | with_reducible refine pc_put (eqF.sR (by assumption) (by decide)) fun _ _ => ?_
    | with_reducible refine pc_stN (by decide) (by assumption) fun _ _ => ?_
    | with_reducible refine pc_stL (by decide) (by assumption) fun _ _ => ?_
    | with_reducible refine pc_stR (by decide) (by assumption) fun _ _ => ?_
    | with_reducible refine pc_cpN (by decide) (by assumption) fun _ _ => ?_
    | with_reducible refine pc_pure fun _ => ?_
    | exact pc_some (by assumption)
    | exact pc_some (eqF.bX (by assumption))
    | exact pc_some trivial
    | dsimp only
theorem fr_j_X2_finish_22_91 {m0 : MM} {m : MM} {l0 : Nat} {l2 : Nat} {l3 : Nat} {l4 : Int} {l5 : Int} (h : eqF [2, 25] m0 m) : Pc (j_X2_finish_22_91 m l0 l2 l3 l4 l5) (fun z => Sum.elim (fun s => eqF [2, 25] m0 s.2) (fun z => eqF [2, 25] m0 z) z) := by
  unfold j_X2_finish_22_91
  repeat' first
    | with_reducible exact pc_x0
    | with_reducible exact pc_xt (by assumption)
    | with_reducible exact pc_xr (by assumption)
    | with_reducible refine pc_nk fun _ => ?_
    | with_reducible refine pc_if ?_ ?_
    | with_reducible refine pc_ck ?_
    | with_reducible refine pc_cb ?_
    | with_reducible refine pc_dv ?_
    | with_reducible refine pc_let fun _ => ?_
    | with_reducible refine pc_letL fun _ => ?_
    | with_reducible refine pc_ldN fun _ => ?_
    | with_reducible refine pc_ldL fun _ => ?_
    | with_reducible refine pc_ldR fun _ => ?_
    | with_reducible refine pc_put (eqF.sN (by assumption) (by decide)) fun _ _ => ?_
    | with_reducible refine pc_put (eqF.sL (by assumption) (by decide)) fun _ _ => ?_
    | with_reducible refine pc_put (eqF.sR (by assumption) (by decide)) fun _ _ => ?_
    | with_reducible refine pc_stN (by decide) (by assumption) fun _ _ => ?_
    | with_reducible refine pc_stL (by decide) (by assumption) fun _ _ => ?_
    | with_reducible refine pc_stR (by decide) (by assumption) fun _ _ => ?_
    | with_reducible refine pc_cpN (by decide) (by assumption) fun _ _ => ?_
    | with_reducible refine pc_pure fun _ => ?_
    | exact pc_some (by assumption)
    | exact pc_some (eqF.bX (by assumption))
    | exact pc_some trivial
    | dsimp only
theorem fr_b_X2_finish_22 {m0 : MM} {l0 : Nat} {l2 : Nat} {l3 : Nat} {l4 : Int} {l5 : Int} {mm : MM} (h : eqF [2, 25] m0 mm) : Pc (b_X2_finish_22 l0 l2 l3 l4 l5 mm) (fun z => Sum.elim (fun s => eqF [2, 25] m0 s.2) (fun z => eqF [2, 25] m0 z) z) := by
  unfold b_X2_finish_22
  repeat' first
    | with_reducible exact pc_x0
    | with_reducible exact pc_xt (by assumption)
    | with_reducible exact pc_xr (by assumption)
    | with_reducible exact fr_j_X2_finish_22_91 (by assumption)
    | with_reducible refine pc_nk fun _ => ?_
    | with_reducible refine pc_if ?_ ?_
    | with_reducible refine pc_ck ?_
    | with_reducible refine pc_cb ?_
    | with_reducible refine pc_dv ?_
    | with_reducible refine pc_let fun _ => ?_
    | with_reducible refine pc_letL fun _ => ?_
    | with_reducible refine pc_ldN fun _ => ?_
    | with_reducible refine pc_ldL fun _ => ?_
    | with_reducible refine pc_ldR fun _ => ?_
    | with_reducible refine pc_put (eqF.sN (by assumption) (by decide)) fun _ _ => ?_
    | with_reducible refine pc_put (eqF.sL (by assumption) (by decide)) fun _ _ => ?_
    | with_reducible refine pc_put (eqF.sR (by assumption) (by decide)) fun _ _ => ?_
    | with_reducible refine pc_stN (by decide) (by assumption) fun _ _ => ?_
    | with_reducible refine pc_stL (by decide) (by assumption) fun _ _ => ?_
    | with_reducible refine pc_stR (by decide) (by assumption) fun _ _ => ?_
    | with_reducible refine pc_cpN (by decide) (by assumption) fun _ _ => ?_
    | with_reducible refine pc_lp (fun s => eqF [2, 25] m0 s.2) (fun z => eqF [2, 25] m0 z) (by assumption) (fun s hs => fr_b_X2_finish_45 hs) (fun z hz => ?_)
    | with_reducible refine pc_pure fun _ => ?_
    | exact pc_some (by assumption)
    | exact pc_some (eqF.bX (by assumption))
    | exact pc_some trivial
    | dsimp only
theorem fr_j_X2_finish_0_97 {m0 : MM} {m : MM} (h : eqF [2, 25] m0 m) : Pc (j_X2_finish_0_97 m) (RF [2, 25] m0) := by
  unfold j_X2_finish_0_97
  repeat' first
    | with_reducible exact pc_x0
    | with_reducible exact pc_xt (by assumption)
    | with_reducible exact pc_xr (by assumption)
    | with_reducible refine pc_nk fun _ => ?_
    | with_reducible refine pc_if ?_ ?_
    | with_reducible refine pc_ck ?_
    | with_reducible refine pc_cb ?_
    | with_reducible refine pc_dv ?_
    | with_reducible refine pc_let fun _ => ?_
    | with_reducible refine pc_letL fun _ => ?_
    | with_reducible refine pc_ldN fun _ => ?_
    | with_reducible refine pc_ldL fun _ => ?_
    | with_reducible refine pc_ldR fun _ => ?_
    | with_reducible refine pc_put (eqF.sN (by assumption) (by decide)) fun _ _ => ?_
    | with_reducible refine pc_put (eqF.sL (by assumption) (by decide)) fun _ _ => ?_
    | with_reducible refine pc_put (eqF.sR (by assumption) (by decide)) fun _ _ => ?_
    | with_reducible refine pc_stN (by decide) (by assumption) fun _ _ => ?_
    | with_reducible refine pc_stL (by decide) (by assumption) fun _ _ => ?_
    | with_reducible refine pc_stR (by decide) (by assumption) fun _ _ => ?_
    | with_reducible refine pc_cpN (by decide) (by assumption) fun _ _ => ?_
    | with_reducible refine pc_pure fun _ => ?_
    | exact pc_some (by assumption)
    | exact pc_some (eqF.bX (by assumption))
    | exact pc_some trivial
    | dsimp only
theorem fr_f_X2_finish {m0 : MM} {m : MM} {l0 : Nat} {l1 : Int} {l2 : Nat} (h : eqF [2, 25] m0 m) : Pc (f_X2_finish m l0 l1 l2) (RF [2, 25] m0) := by
  unfold f_X2_finish
  repeat' first
    | with_reducible exact pc_x0
    | with_reducible exact pc_xt (by assumption)
    | with_reducible exact pc_xr (by assumption)
    | with_reducible exact fr_j_X2_finish_0_97 (by assumption)
    | with_reducible refine pc_nk fun _ => ?_
    | with_reducible refine pc_if ?_ ?_
    | with_reducible refine pc_ck ?_
    | with_reducible refine pc_cb ?_
    | with_reducible refine pc_dv ?_
    | with_reducible refine pc_let fun _ => ?_
    | with_reducible refine pc_letL fun _ => ?_
    | with_reducible refine pc_ldN fun _ => ?_
    | with_reducible refine pc_ldL fun _ => ?_
    | with_reducible refine pc_ldR fun _ => ?_
    | with_reducible refine pc_put (eqF.sN (by assumption) (by decide)) fun _ _ => ?_
    | with_reducible refine pc_put (eqF.sL (by assumption) (by decide)) fun _ _ => ?_
    | with_reducible refine pc_put (eqF.sR (by assumption) (by decide)) fun _ _ => ?_
    | with_reducible refine pc_stN (by decide) (by assumption) fun _ _ => ?_
    | with_reducible refine pc_stL (by decide) (by assumption) fun _ _ => ?_
    | with_reducible refine pc_stR (by decide) (by assumption) fun _ _ => ?_
    | with_reducible refine pc_cpN (by decide) (by assumption) fun _ _ => ?_
    | with_reducible refine pc_lp (fun s => eqF [2, 25] m0 s.2) (fun z => eqF [2, 25] m0 z) (by assumption) (fun s hs => fr_b_X2_finish_22 hs) (fun z hz => ?_)
    | with_reducible refine pc_pure fun _ => ?_
    | exact pc_some (by assumption)
    | exact pc_some (eqF.bX (by assumption))
    | exact pc_some trivial
    | dsimp only
theorem fr_f_X6_work {m0 : MM} {m : MM} {l0 : Nat} {l1 : Int} {l2 : Nat} (h : eqF [2, 6, 25] m0 m) : Pc (f_X6_work m l0 l1 l2) (RF [2, 6, 25] m0) := by
  unfold f_X6_work
  repeat' first
    | with_reducible exact pc_x0
    | with_reducible exact pc_xt (by assumption)
    | with_reducible exact pc_xr (by assumption)
    | with_reducible refine pc_nk fun _ => ?_
    | with_reducible refine pc_if ?_ ?_
    | with_reducible refine pc_ck ?_
    | with_reducible refine pc_cb ?_
    | with_reducible refine pc_dv ?_
    | with_reducible refine pc_let fun _ => ?_
    | with_reducible refine pc_letL fun _ => ?_
    | with_reducible refine pc_ldN fun _ => ?_
    | with_reducible refine pc_ldL fun _ => ?_
    | with_reducible refine pc_ldR fun _ => ?_
    | with_reducible refine pc_put (eqF.sN (by assumption) (by decide)) fun _ _ => ?_
    | with_reducible refine pc_put (eqF.sL (by assumption) (by decide)) fun _ _ => ?_
    | with_reducible refine pc_put (eqF.sR (by assumption) (by decide)) fun _ _ => ?_
    | with_reducible refine pc_stN (by decide) (by assumption) fun _ _ => ?_
    | with_reducible refine pc_stL (by decide) (by assumption) fun _ _ => ?_
    | with_reducible refine pc_stR (by decide) (by assumption) fun _ _ => ?_
    | with_reducible refine pc_cpN (by decide) (by assumption) fun _ _ => ?_
    | with_reducible refine pc_bV (fr_f_X2_finish (m0 := _) eqF.rf) (by decide) (by assumption) (fun _ _ => ?_) (fun _ _ _ => ?_)
    | with_reducible refine pc_pure fun _ => ?_
    | exact pc_some (by assumption)
    | exact pc_some (eqF.bX (by assumption))
    | exact pc_some trivial
    | dsimp only
theorem fr_b_X11_workAnHour_25 {m0 : MM} {l0 : Nat} {l2 : Nat} {l3 : Int} {l1 : Int} {l4 : Int} {mm : MM} (h : eqF [2, 6, 25] m0 mm) : Pc (b_X11_workAnHour_25 l0 l2 l3 l1 l4 mm) (fun z => Sum.elim (fun s => eqF [2, 6, 25] m0 s.2.2) (fun z => eqF [2, 6, 25] m0 z.2) z) := by
  unfold b_X11_workAnHour_25
  repeat' first
    | with_reducible exact pc_x0
    | with_reducible exact pc_xt (by assumption)
    | with_reducible exact pc_xr (by assumption)
    | with_reducible refine pc_nk fun _ => ?_
    | with_reducible refine pc_if ?_ ?_
    | with_reducible refine pc_ck ?_
    | with_reducible refine pc_cb ?_
    | with_reducible refine pc_dv ?_
    | with_reducible refine pc_let fun _ => ?_
    | with_reducible refine pc_letL fun _ => ?_
    | with_reducible refine pc_ldN fun _ => ?_
    | with_reducible refine pc_ldL fun _ => ?_
    | with_reducible refine pc_ldR fun _ => ?_
    | with_reducible refine pc_put (eqF.sN (by assumption) (by decide)) fun _ _ => ?_
    | with_reducible refine pc_put (eqF.sL (by assumption) (by decide)) fun _ _ => ?_
    | with_reducible refine pc_put (eqF.sR (by assumption) (by decide)) fun _ _ => ?_
    | with_reducible refine pc_stN (by decide) (by assumption) fun _ _ => ?_
    | with_reducible refine pc_stL (by decide) (by assumption) fun _ _ => ?_
    | with_reducible refine pc_stR (by decide) (by assumption) fun _ _ => ?_
    | with_reducible refine pc_cpN (by decide) (by assumption) fun _ _ => ?_
    | with_reducible refine pc_bI (fr_f_X6_work (m0 := _) eqF.rf) (by decide) (by assumption) (fun _ _ _ => ?_) (fun _ _ _ => ?_)
    | with_reducible refine pc_pure fun _ => ?_
    | exact pc_some (by assumption)
    | exact pc_some (eqF.bX (by assumption))
    | exact pc_some trivial
    | dsimp only
theorem fr_j_X11_workAnHour_0_62 {m0 : MM} {m : MM} {l1 : Int} (h : eqF [2, 6, 25] m0 m) : Pc (j_X11_workAnHour_0_62 m l1) (RF [2, 6, 25] m0) := by
  unfold j_X11_workAnHour_0_62
  repeat' first
    | with_reducible exact pc_x0
    | with_reducible exact pc_xt (by assumption)
    | with_reducible exact pc_xr (by assumption)
    | with_reducible refine pc_nk fun _ => ?_
    | with_reducible refine pc_if ?_ ?_
    | with_reducible refine pc_ck ?_
    | with_reducible refine pc_cb ?_
    | with_reducible refine pc_dv ?_
    | with_reducible refine pc_let fun _ => ?_
    | with_reducible refine pc_letL fun _ => ?_
    | with_reducible refine pc_ldN fun _ => ?_
    | with_reducible refine pc_ldL fun _ => ?_
    | with_reducible refine pc_ldR fun _ => ?_
    | with_reducible refine pc_put (eqF.sN (by assumption) (by decide)) fun _ _ => ?_
    | with_reducible refine pc_put (eqF.sL (by assumption) (by decide)) fun _ _ => ?_
    | with_reducible refine pc_put (eqF.sR (by assumption) (by decide)) fun _ _ => ?_
    | with_reducible refine pc_stN (by decide) (by assumption) fun _ _ => ?_
    | with_reducible refine pc_stL (by decide) (by assumption) fun _ _ => ?_
    | with_reducible refine pc_stR (by decide) (by assumption) fun _ _ => ?_
    | with_reducible refine pc_cpN (by decide) (by assumption) fun _ _ => ?_
    | with_reducible refine pc_pure fun _ => ?_
    | exact pc_some (by assumption)
    | exact pc_some (eqF.bX (by assumption))
    | exact pc_some trivial
    | dsimp only
theorem fr_f_X11_workAnHour {m0 : MM} {m : MM} {l0 : Nat} (h : eqF [2, 6, 25] m0 m) : Pc (f_X11_workAnHour m l0) (RF [2, 6, 25] m0) := by
  unfold f_X11_workAnHour
  repeat' first
    | with_reducible exact pc_x0
    | with_reducible exact pc_xt (by assumption)
    | with_reducible exact pc_xr (by assumption)
    | with_reducible exact fr_j_X11_workAnHour_0_62 (by assumption)
    | with_reducible refine pc_nk fun _ => ?_
    | with_reducible refine pc_if ?_ ?_
    | with_reducible refine pc_ck ?_
    | with_reducible refine pc_cb ?_
    | with_reducible refine pc_dv ?_
    | with_reducible refine pc_let fun _ => ?_
    | with_reducible refine pc_letL fun _ => ?_
    | with_reducible refine pc_ldN fun _ => ?_
    | with_reducible refine pc_ldL fun _ => ?_
    | with_reducible refine pc_ldR fun _ => ?_
    | with_reducible refine pc_put (eqF.sN (by assumption) (by decide)) fun _ _ => ?_
    | with_reducible refine pc_put (eqF.sL (by assumption) (by decide)) fun _ _ => ?_
    | with_reducible refine pc_put (eqF.sR (by assumption) (by decide)) fun _ _ => ?_
    | with_reducible refine pc_stN (by decide) (by assumption) fun _ _ => ?_
    | with_reducible refine pc_stL (by decide) (by assumption) fun _ _ => ?_
    | with_reducible refine pc_stR (by decide) (by assumption) fun _ _ => ?_
    | with_reducible refine pc_cpN (by decide) (by assumption) fun _ _ => ?_
    | with_reducible refine pc_lp (fun s => eqF [2, 6, 25] m0 s.2.2) (fun z => eqF [2, 6, 25] m0 z.2) (by assumption) (fun s hs => fr_b_X11_workAnHour_25 hs) (fun z hz => ?_)
    | with_reducible refine pc_pure fun _ => ?_
    | exact pc_some (by assumption)
    | exact pc_some (eqF.bX (by assumption))
    | exact pc_some trivial
    | dsimp only
theorem fr_b_X11_pass_43 {m0 : MM} {l0 : Nat} {l1 : Int} {l2 : Int} {l3 : Int} {mm : MM} (h : eqF [2, 6, 11, 25] m0 mm) : Pc (b_X11_pass_43 l0 l1 l2 l3 mm) (fun z => Sum.elim (fun s => eqF [2, 6, 11, 25] m0 s.2.2) (fun z => eqF [2, 6, 11, 25] m0 z.2) z) := by
  unfold b_X11_pass_43
  repeat' first
    | with_reducible exact pc_x0
    | with_reducible exact pc_xt (by assumption)
    | with_reducible exact pc_xr (by assumption)
    | with_reducible refine pc_nk fun _ => ?_
    | with_reducible refine pc_if ?_ ?_
    | with_reducible refine pc_ck ?_
    | with_reducible refine pc_cb ?_
    | with_reducible refine pc_dv ?_
    | with_reducible refine pc_let fun _ => ?_
    | with_reducible refine pc_letL fun _ => ?_
    | with_reducible refine pc_ldN fun _ => ?_
    | with_reducible refine pc_ldL fun _ => ?_
    | with_reducible refine pc_ldR fun _ => ?_
    | with_reducible refine pc_put (eqF.sN (by assumption) (by decide)) fun _ _ => ?_
    | with_reducible refine pc_put (eqF.sL (by assumption) (by decide)) fun _ _ => ?_
    | with_reducible refine pc_put (eqF.sR (by assumption) (by decide)) fun _ _ => ?_
    | with_reducible refine pc_stN (by decide) (by assumption) fun _ _ => ?_
    | with_reducible refine pc_stL (by decide) (by assumption) fun _ _ => ?_
    | with_reducible refine pc_stR (by decide) (by assumption) fun _ _ => ?_
    | with_reducible refine pc_cpN (by decide) (by assumption) fun _ _ => ?_
    | with_reducible refine pc_bI (fr_f_X11_workAnHour (m0 := _) eqF.rf) (by decide) (by assumption) (fun _ _ _ => ?_) (fun _ _ _ => ?_)
    | with_reducible refine pc_pure fun _ => ?_
    | exact pc_some (by assumption)
    | exact pc_some (eqF.bX (by assumption))
    | exact pc_some trivial
    | dsimp only
theorem fr_j_X11_pass_0_71 {m0 : MM} {m : MM} {l2 : Int} (h : eqF [2, 6, 11, 25] m0 m) : Pc (j_X11_pass_0_71 m l2) (RF [2, 6, 11, 25] m0) := by
  unfold j_X11_pass_0_71
  repeat' first
    | with_reducible exact pc_x0
    | with_reducible exact pc_xt (by assumption)
    | with_reducible exact pc_xr (by assumption)
    | with_reducible refine pc_nk fun _ => ?_
    | with_reducible refine pc_if ?_ ?_
    | with_reducible refine pc_ck ?_
    | with_reducible refine pc_cb ?_
    | with_reducible refine pc_dv ?_
    | with_reducible refine pc_let fun _ => ?_
    | with_reducible refine pc_letL fun _ => ?_
    | with_reducible refine pc_ldN fun _ => ?_
    | with_reducible refine pc_ldL fun _ => ?_
    | with_reducible refine pc_ldR fun _ => ?_
    | with_reducible refine pc_put (eqF.sN (by assumption) (by decide)) fun _ _ => ?_
    | with_reducible refine pc_put (eqF.sL (by assumption) (by decide)) fun _ _ => ?_
    | with_reducible refine pc_put (eqF.sR (by assumption) (by decide)) fun _ _ => ?_
    | with_reducible refine pc_stN (by decide) (by assumption) fun _ _ => ?_
    | with_reducible refine pc_stL (by decide) (by assumption) fun _ _ => ?_
    | with_reducible refine pc_stR (by decide) (by assumption) fun _ _ => ?_
    | with_reducible refine pc_cpN (by decide) (by assumption) fun _ _ => ?_
    | with_reducible refine pc_pure fun _ => ?_
    | exact pc_some (by assumption)
    | exact pc_some (eqF.bX (by assumption))
    | exact pc_some trivial
    | dsimp only
theorem fr_j_X11_pass_0_36 {m0 : MM} {m : MM} {l0 : Nat} {l1 : Int} {s0 : Int} (h : eqF [2, 6, 11, 25] m0 m) : Pc (j_X11_pass_0_36 m l0 l1 s0) (RF [2, 6, 11, 25] m0) := by
  unfold j_X11_pass_0_36
  repeat' first
    | with_reducible exact pc_x0
    | with_reducible exact pc_xt (by assumption)
    | with_reducible exact pc_xr (by assumption)
    | with_reducible exact fr_j_X11_pass_0_71 (by assumption)
    | with_reducible refine pc_nk fun _ => ?_
    | with_reducible refine pc_if ?_ ?_
    | with_reducible refine pc_ck ?_
    | with_reducible refine pc_cb ?_
    | with_reducible refine pc_dv ?_
    | with_reducible refine pc_let fun _ => ?_
    | with_reducible refine pc_letL fun _ => ?_
    | with_reducible refine pc_ldN fun _ => ?_
    | with_reducible refine pc_ldL fun _ => ?_
    | with_reducible refine pc_ldR fun _ => ?_
    | with_reducible refine pc_put (eqF.sN (by assumption) (by decide)) fun _ _ => ?_
    | with_reducible refine pc_put (eqF.sL (by assumption) (by decide)) fun _ _ => ?_
    | with_reducible refine pc_put (eqF.sR (by assumption) (by decide)) fun _ _ => ?_
    | with_reducible refine pc_stN (by decide) (by assumption) fun _ _ => ?_
    | with_reducible refine pc_stL (by decide) (by assumption) fun _ _ => ?_
    | with_reducible refine pc_stR (by decide) (by assumption) fun _ _ => ?_
    | with_reducible refine pc_cpN (by decide) (by assumption) fun _ _ => ?_
    | with_reducible refine pc_bV (fr_f_X11_requireState (m0 := _) eqF.rf) (by decide) (by assumption) (fun _ _ => ?_) (fun _ _ _ => ?_)
    | with_reducible refine pc_lp (fun s => eqF [2, 6, 11, 25] m0 s.2.2) (fun z => eqF [2, 6, 11, 25] m0 z.2) (by assumption) (fun s hs => fr_b_X11_pass_43 hs) (fun z hz => ?_)
    | with_reducible refine pc_pure fun _ => ?_
    | exact pc_some (by assumption)
    | exact pc_some (eqF.bX (by assumption))
    | exact pc_some trivial
    | dsimp only
theorem fr_j_X11_pass_0_16 {m0 : MM} {m : MM} {l0 : Nat} {l1 : Int} {s0 : Int} (h : eqF [2, 6, 11, 25] m0 m) : Pc (j_X11_pass_0_16 m l0 l1 s0) (RF [2, 6, 11, 25] m0) := by
  unfold j_X11_pass_0_16
  repeat' first
    | with_reducible exact pc_x0
    | with_reducible exact pc_xt (by assumption)
    | with_reducible exact pc_xr (by assumption)
    | with_reducible exact fr_j_X11_pass_0_36 (by assumption)
    | with_reducible refine pc_nk fun _ => ?_
    | with_reducible refine pc_if ?_ ?_
    | with_reducible refine pc_ck ?_
    | with_reducible refine pc_cb ?_
    | with_reducible refine pc_dv ?_
    | with_reducible refine pc_let fun _ => ?_
    | with_reducible refine pc_letL fun _ => ?_
    | with_reducible refine pc_ldN fun _ => ?_
    | with_reducible refine pc_ldL fun _ => ?_
    | with_reducible refine pc_ldR fun _ => ?_
    | with_reducible refine pc_put (eqF.sN (by assumption) (by decide)) fun _ _ => ?_
    | with_reducible refine pc_put (eqF.sL (by assumption) (by decide)) fun _ _ => ?_
    | with_reducible refine pc_put (eqF.sR (by assumption) (by decide)) fun _ _ => ?_
    | with_reducible refine pc_stN (by decide) (by assumption) fun _ _ => ?_
    | with_reducible refine pc_stL (by decide) (by assumption) fun _ _ => ?_
    | with_reducible refine pc_stR (by decide) (by assumption) fun _ _ => ?_
    | with_reducible refine pc_cpN (by decide) (by assumption) fun _ _ => ?_
    | with_reducible refine pc_bV (fr_f_X11_requireArgument (m0 := _) eqF.rf) (by decide) (by assumption) (fun _ _ => ?_) (fun _ _ _ => ?_)
    | with_reducible refine pc_pure fun _ => ?_
    | exact pc_some (by assumption)
    | exact pc_some (eqF.bX (by assumption))
    | exact pc_some trivial
    | dsimp only
theorem fr_j_X11_pass_0_15 {m0 : MM} {m : MM} {l0 : Nat} {l1 : Int} (h : eqF [2, 6, 11, 25] m0 m) : Pc (j_X11_pass_0_15 m l0 l1) (RF [2, 6, 11, 25] m0) := by
  unfold j_X11_pass_0_15
  repeat' first
    | with_reducible exact pc_x0
    | with_reducible exact pc_xt (by assumption)
    | with_reducible exact pc_xr (by assumption)
    | with_reducible exact fr_j_X11_pass_0_16 (by assumption)
    | with_reducible refine pc_nk fun _ => ?_
    | with_reducible refine pc_if ?_ ?_
    | with_reducible refine pc_ck ?_
    | with_reducible refine pc_cb ?_
    | with_reducible refine pc_dv ?_
    | with_reducible refine pc_let fun _ => ?_
    | with_reducible refine pc_letL fun _ => ?_
    | with_reducible refine pc_ldN fun _ => ?_
    | with_reducible refine pc_ldL fun _ => ?_
    | with_reducible refine pc_ldR fun _ => ?_
    | with_reducible refine pc_put (eqF.sN (by assumption) (by decide)) fun _ _ => ?_
    | with_reducible refine pc_put (eqF.sL (by assumption) (by decide)) fun _ _ => ?_
    | with_reducible refine pc_put (eqF.sR (by assumption) (by decide)) fun _ _ => ?_
    | with_reducible refine pc_stN (by decide) (by assumption) fun _ _ => ?_
    | with_reducible refine pc_stL (by decide) (by assumption) fun _ _ => ?_
    | with_reducible refine pc_stR (by decide) (by assumption) fun _ _ => ?_
    | with_reducible refine pc_cpN (by decide) (by assumption) fun _ _ => ?_
    | with_reducible refine pc_pure fun _ => ?_
    | exact pc_some (by assumption)
    | exact pc_some (eqF.bX (by assumption))
    | exact pc_some trivial
    | dsimp only
theorem fr_f_X11_pass {m0 : MM} {m : MM} {l0 : Nat} {l1 : Int} (h : eqF [2, 6, 11, 25] m0 m) : Pc (f_X11_pass m l0 l1) (RF [2, 6, 11, 25] m0) := by
  unfold f_X11_pass
  repeat' first
    | with_reducible exact pc_x0
    | with_reducible exact pc_xt (by assumption)
    | with_reducible exact pc_xr (by assumption)
    | with_reducible exact fr_j_X11_pass_0_15 (by assumption)
    | with_reducible exact fr_j_X11_pass_0_16 (by assumption)
    | with_reducible refine pc_nk fun _ => ?_
    | with_reducible refine pc_if ?_ ?_
    | with_reducible refine pc_ck ?_
    | with_reducible refine pc_cb ?_
    | with_reducible refine pc_dv ?_
    | with_reducible refine pc_let fun _ => ?_
    | with_reducible refine pc_letL fun _ => ?_
    | with_reducible refine pc_ldN fun _ => ?_
    | with_reducible refine pc_ldL fun _ => ?_
    | with_reducible refine pc_ldR fun _ => ?_
    | with_reducible refine pc_put (eqF.sN (by assumption) (by decide)) fun _ _ => ?_
    | with_reducible refine pc_put (eqF.sL (by assumption) (by decide)) fun _ _ => ?_
    | with_reducible refine pc_put (eqF.sR (by assumption) (by decide)) fun _ _ => ?_
    | with_reducible refine pc_stN (by decide) (by assumption) fun _ _ => ?_
    | with_reducible refine pc_stL (by decide) (by assumption) fun _ _ => ?_
    | with_reducible refine pc_stR (by decide) (by assumption) fun _ _ => ?_
    | with_reducible refine pc_cpN (by decide) (by assumption) fun _ _ => ?_
    | with_reducible refine pc_pure fun _ => ?_
    | exact pc_some (by assumption)
    | exact pc_some (eqF.bX (by assumption))
    | exact pc_some trivial
    | dsimp only
theorem fr_j_X11_piece_0_25 {m0 : MM} {m : MM} {l0 : Nat} {l1 : Int} {l2 : Int} {s0 : Int} (h : eqF [] m0 m) : Pc (j_X11_piece_0_25 m l0 l1 l2 s0) (RF [] m0) := by
  unfold j_X11_piece_0_25
  repeat' first
    | with_reducible exact pc_x0
    | with_reducible exact pc_xt (by assumption)
    | with_reducible exact pc_xr (by assumption)
    | with_reducible refine pc_nk fun _ => ?_
    | with_reducible refine pc_if ?_ ?_
    | with_reducible refine pc_ck ?_
    | with_reducible refine pc_cb ?_
    | with_reducible refine pc_dv ?_
    | with_reducible refine pc_let fun _ => ?_
    | with_reducible refine pc_letL fun _ => ?_
    | with_reducible refine pc_ldN fun _ => ?_
    | with_reducible refine pc_ldL fun _ => ?_
    | with_reducible refine pc_ldR fun _ => ?_
    | with_reducible refine pc_put (eqF.sN (by assumption) (by decide)) fun _ _ => ?_
    | with_reducible refine pc_put (eqF.sL (by assumption) (by decide)) fun _ _ => ?_
    | with_reducible refine pc_put (eqF.sR (by assumption) (by decide)) fun _ _ => ?_
    | with_reducible refine pc_stN (by decide) (by assumption) fun _ _ => ?_
    | with_reducible refine pc_stL (by decide) (by assumption) fun _ _ => ?_
    | with_reducible refine pc_stR (by decide) (by assumption) fun _ _ => ?_
    | with_reducible refine pc_cpN (by decide) (by assumption) fun _ _ => ?_
    | with_reducible refine pc_bV (fr_f_X11_requireArgument (m0 := _) eqF.rf) (by decide) (by assumption) (fun _ _ => ?_) (fun _ _ _ => ?_)
    | with_reducible refine pc_pure fun _ => ?_
    | exact pc_some (by assumption)
    | exact pc_some (eqF.bX (by assumption))
    | exact pc_some trivial
    | dsimp only
theorem fr_j_X11_piece_0_24 {m0 : MM} {m : MM} {l0 : Nat} {l1 : Int} {l2 : Int} (h : eqF [] m0 m) : Pc (j_X11_piece_0_24 m l0 l1 l2) (RF [] m0) := by
  unfold j_X11_piece_0_24
  repeat' first
    | with_reducible exact pc_x0
    | with_reducible exact pc_xt (by assumption)
    | with_reducible exact pc_xr (by assumption)
    | with_reducible exact fr_j_X11_piece_0_25 (by assumption)
    | with_reducible refine pc_nk fun _ => ?_
    | with_reducible refine pc_if ?_ ?_
    | with_reducible refine pc_ck ?_
    | with_reducible refine pc_cb ?_
    | with_reducible refine pc_dv ?_
    | with_reducible refine pc_let fun _ => ?_
    | with_reducible refine pc_letL fun _ => ?_
    | with_reducible refine pc_ldN fun _ => ?_
    | with_reducible refine pc_ldL fun _ => ?_
    | with_reducible refine pc_ldR fun _ => ?_
    | with_reducible refine pc_put (eqF.sN (by assumption) (by decide)) fun _ _ => ?_
    | with_reducible refine pc_put (eqF.sL (by assumption) (by decide)) fun _ _ => ?_
    | with_reducible refine pc_put (eqF.sR (by assumption) (by decide)) fun _ _ => ?_
    | with_reducible refine pc_stN (by decide) (by assumption) fun _ _ => ?_
    | with_reducible refine pc_stL (by decide) (by assumption) fun _ _ => ?_
    | with_reducible refine pc_stR (by decide) (by assumption) fun _ _ => ?_
    | with_reducible refine pc_cpN (by decide) (by assumption) fun _ _ => ?_
    | with_reducible refine pc_pure fun _ => ?_
    | exact pc_some (by assumption)
    | exact pc_some (eqF.bX (by assumption))
    | exact pc_some trivial
    | dsimp only
theorem fr_f_X11_piece {m0 : MM} {m : MM} {l0 : Nat} {l1 : Int} {l2 : Int} (h : eqF [] m0 m) : Pc (f_X11_piece m l0 l1 l2) (RF [] m0) := by
  unfold f_X11_piece
  repeat' first
    | with_reducible exact pc_x0
    | with_reducible exact pc_xt (by assumption)
    | with_reducible exact pc_xr (by assumption)
    | with_reducible exact fr_j_X11_piece_0_24 (by assumption)
    | with_reducible exact fr_j_X11_piece_0_25 (by assumption)
    | with_reducible refine pc_nk fun _ => ?_
    | with_reducible refine pc_if ?_ ?_
    | with_reducible refine pc_ck ?_
    | with_reducible refine pc_cb ?_
    | with_reducible refine pc_dv ?_
    | with_reducible refine pc_let fun _ => ?_
    | with_reducible refine pc_letL fun _ => ?_
    | with_reducible refine pc_ldN fun _ => ?_
    | with_reducible refine pc_ldL fun _ => ?_
    | with_reducible refine pc_ldR fun _ => ?_
    | with_reducible refine pc_put (eqF.sN (by assumption) (by decide)) fun _ _ => ?_
    | with_reducible refine pc_put (eqF.sL (by assumption) (by decide)) fun _ _ => ?_
    | with_reducible refine pc_put (eqF.sR (by assumption) (by decide)) fun _ _ => ?_
    | with_reducible refine pc_stN (by decide) (by assumption) fun _ _ => ?_
    | with_reducible refine pc_stL (by decide) (by assumption) fun _ _ => ?_
    | with_reducible refine pc_stR (by decide) (by assumption) fun _ _ => ?_
    | with_reducible refine pc_cpN (by decide) (by assumption) fun _ _ => ?_
    | with_reducible refine pc_bV (fr_f_X11_requireIndex (m0 := _) eqF.rf) (by decide) (by assumption) (fun _ _ => ?_) (fun _ _ _ => ?_)
    | with_reducible refine pc_pure fun _ => ?_
    | exact pc_some (by assumption)
    | exact pc_some (eqF.bX (by assumption))
    | exact pc_some trivial
    | dsimp only
theorem fr_j_X11_place_0_42 {m0 : MM} {m : MM} {l3 : Int} {l4 : Int} {l5 : Nat} {s0 : Int} (h : eqF [] m0 m) : Pc (j_X11_place_0_42 m l3 l4 l5 s0) (RF [] m0) := by
  unfold j_X11_place_0_42
  repeat' first
    | with_reducible exact pc_x0
    | with_reducible exact pc_xt (by assumption)
    | with_reducible exact pc_xr (by assumption)
    | with_reducible refine pc_nk fun _ => ?_
    | with_reducible refine pc_if ?_ ?_
    | with_reducible refine pc_ck ?_
    | with_reducible refine pc_cb ?_
    | with_reducible refine pc_dv ?_
    | with_reducible refine pc_let fun _ => ?_
    | with_reducible refine pc_letL fun _ => ?_
    | with_reducible refine pc_ldN fun _ => ?_
    | with_reducible refine pc_ldL fun _ => ?_
    | with_reducible refine pc_ldR fun _ => ?_
    | with_reducible refine pc_put (eqF.sN (by assumption) (by decide)) fun _ _ => ?_
    | with_reducible refine pc_put (eqF.sL (by assumption) (by decide)) fun _ _ => ?_
    | with_reducible refine pc_put (eqF.sR (by assumption) (by decide)) fun _ _ => ?_
    | with_reducible refine pc_stN (by decide) (by assumption) fun _ _ => ?_
    | with_reducible refine pc_stL (by decide) (by assumption) fun _ _ => ?_
    | with_reducible refine pc_stR (by decide) (by assumption) fun _ _ => ?_
    | with_reducible refine pc_cpN (by decide) (by assumption) fun _ _ => ?_
    | with_reducible refine pc_bV (fr_f_X11_requireArgument (m0 := _) eqF.rf) (by decide) (by assumption) (fun _ _ => ?_) (fun _ _ _ => ?_)
    | with_reducible refine pc_pure fun _ => ?_
    | exact pc_some (by assumption)
    | exact pc_some (eqF.bX (by assumption))
    | exact pc_some trivial
    | dsimp only
theorem fr_j_X11_place_0_41 {m0 : MM} {m : MM} {l3 : Int} {l4 : Int} {l5 : Nat} (h : eqF [] m0 m) : Pc (j_X11_place_0_41 m l3 l4 l5) (RF [] m0) := by
  unfold j_X11_place_0_41
  repeat' first
    | with_reducible exact pc_x0
    | with_reducible exact pc_xt (by assumption)
    | with_reducible exact pc_xr (by assumption)
    | with_reducible exact fr_j_X11_place_0_42 (by assumption)
    | with_reducible refine pc_nk fun _ => ?_
    | with_reducible refine pc_if ?_ ?_
    | with_reducible refine pc_ck ?_
    | with_reducible refine pc_cb ?_
    | with_reducible refine pc_dv ?_
    | with_reducible refine pc_let fun _ => ?_
    | with_reducible refine pc_letL fun _ => ?_
    | with_reducible refine pc_ldN fun _ => ?_
    | with_reducible refine pc_ldL fun _ => ?_
    | with_reducible refine pc_ldR fun _ => ?_
    | with_reducible refine pc_put (eqF.sN (by assumption) (by decide)) fun _ _ => ?_
    | with_reducible refine pc_put (eqF.sL (by assumption) (by decide)) fun _ _ => ?_
    | with_reducible refine pc_put (eqF.sR (by assumption) (by decide)) fun _ _ => ?_
    | with_reducible refine pc_stN (by decide) (by assumption) fun _ _ => ?_
    | with_reducible refine pc_stL (by decide) (by assumption) fun _ _ => ?_
    | with_reducible refine pc_stR (by decide) (by assumption) fun _ _ => ?_
    | with_reducible refine pc_cpN (by decide) (by assumption) fun _ _ => ?_
    | with_reducible refine pc_pure fun _ => ?_
    | exact pc_some (by assumption)
    | exact pc_some (eqF.bX (by assumption))
    | exact pc_some trivial
    | dsimp only
theorem fr_j_X11_place_0_23 {m0 : MM} {m : MM} {l3 : Int} {l4 : Int} {l5 : Nat} {s0 : Int} (h : eqF [] m0 m) : Pc (j_X11_place_0_23 m l3 l4 l5 s0) (RF [] m0) := by
  unfold j_X11_place_0_23
  repeat' first
    | with_reducible exact pc_x0
    | with_reducible exact pc_xt (by assumption)
    | with_reducible exact pc_xr (by assumption)
    | with_reducible exact fr_j_X11_place_0_41 (by assumption)
    | with_reducible exact fr_j_X11_place_0_42 (by assumption)
    | with_reducible refine pc_nk fun _ => ?_
    | with_reducible refine pc_if ?_ ?_
    | with_reducible refine pc_ck ?_
    | with_reducible refine pc_cb ?_
    | with_reducible refine pc_dv ?_
    | with_reducible refine pc_let fun _ => ?_
    | with_reducible refine pc_letL fun _ => ?_
    | with_reducible refine pc_ldN fun _ => ?_
    | with_reducible refine pc_ldL fun _ => ?_
    | with_reducible refine pc_ldR fun _ => ?_
    | with_reducible refine pc_put (eqF.sN (by assumption) (by decide)) fun _ _ => ?_
    | with_reducible refine pc_put (eqF.sL (by assumption) (by decide)) fun _ _ => ?_
    | with_reducible refine pc_put (eqF.sR (by assumption) (by decide)) fun _ _ => ?_
    | with_reducible refine pc_stN (by decide) (by assumption) fun _ _ => ?_
    | with_reducible refine pc_stL (by decide) (by assumption) fun _ _ => ?_
    | with_reducible refine pc_stR (by decide) (by assumption) fun _ _ => ?_
    | with_reducible refine pc_cpN (by decide) (by assumption) fun _ _ => ?_
    | with_reducible refine pc_bV (fr_f_X11_requireIndex (m0 := _) eqF.rf) (by decide) (by assumption) (fun _ _ => ?_) (fun _ _ _ => ?_)
    | with_reducible refine pc_pure fun _ => ?_
    | exact pc_some (by assumption)
    | exact pc_some (eqF.bX (by assumption))
    | exact pc_some trivial
    | dsimp only
theorem fr_f_X11_place {m0 : MM} {m : MM} {l0 : Nat} {l1 : Int} {l2 : Int} {l3 : Int} {l4 : Int} (h : eqF [] m0 m) : Pc (f_X11_place m l0 l1 l2 l3 l4) (RF [] m0) := by
  unfold f_X11_place
  repeat' first
    | with_reducible exact pc_x0
    | with_reducible exact pc_xt (by assumption)
    | with_reducible exact pc_xr (by assumption)
    | with_reducible exact fr_j_X11_place_0_23 (by assumption)
    | with_reducible refine pc_nk fun _ => ?_
    | with_reducible refine pc_if ?_ ?_
    | with_reducible refine pc_ck ?_
    | with_reducible refine pc_cb ?_
    | with_reducible refine pc_dv ?_
    | with_reducible refine pc_let fun _ => ?_
    | with_reducible refine pc_letL fun _ => ?_
    | with_reducible refine pc_ldN fun _ => ?_
    | with_reducible refine pc_ldL fun _ => ?_
    | with_reducible refine pc_ldR fun _ => ?_
    | with_reducible refine pc_put (eqF.sN (by assumption) (by decide)) fun _ _ => ?_
    | with_reducible refine pc_put (eqF.sL (by assumption) (by decide)) fun _ _ => ?_
    | with_reducible refine pc_put (eqF.sR (by assumption) (by decide)) fun _ _ => ?_
    | with_reducible refine pc_stN (by decide) (by assumption) fun _ _ => ?_
    | with_reducible refine pc_stL (by decide) (by assumption) fun _ _ => ?_
    | with_reducible refine pc_stR (by decide) (by assumption) fun _ _ => ?_
    | with_reducible refine pc_cpN (by decide) (by assumption) fun _ _ => ?_
    | with_reducible refine pc_bR (fr_f_X11_bookAt (m0 := _) eqF.rf) (by decide) (by assumption) (fun _ _ _ => ?_) (fun _ _ _ => ?_)
    | with_reducible refine pc_bR (fr_f_X11_pageOf (m0 := _) eqF.rf) (by decide) (by assumption) (fun _ _ _ => ?_) (fun _ _ _ => ?_)
    | with_reducible refine pc_pure fun _ => ?_
    | exact pc_some (by assumption)
    | exact pc_some (eqF.bX (by assumption))
    | exact pc_some trivial
    | dsimp only
theorem fr_f_X11_presses {m0 : MM} {m : MM} {l0 : Nat} {l1 : Int} (h : eqF [] m0 m) : Pc (f_X11_presses m l0 l1) (RF [] m0) := by
  unfold f_X11_presses
  repeat' first
    | with_reducible exact pc_x0
    | with_reducible exact pc_xt (by assumption)
    | with_reducible exact pc_xr (by assumption)
    | with_reducible refine pc_nk fun _ => ?_
    | with_reducible refine pc_if ?_ ?_
    | with_reducible refine pc_ck ?_
    | with_reducible refine pc_cb ?_
    | with_reducible refine pc_dv ?_
    | with_reducible refine pc_let fun _ => ?_
    | with_reducible refine pc_letL fun _ => ?_
    | with_reducible refine pc_ldN fun _ => ?_
    | with_reducible refine pc_ldL fun _ => ?_
    | with_reducible refine pc_ldR fun _ => ?_
    | with_reducible refine pc_put (eqF.sN (by assumption) (by decide)) fun _ _ => ?_
    | with_reducible refine pc_put (eqF.sL (by assumption) (by decide)) fun _ _ => ?_
    | with_reducible refine pc_put (eqF.sR (by assumption) (by decide)) fun _ _ => ?_
    | with_reducible refine pc_stN (by decide) (by assumption) fun _ _ => ?_
    | with_reducible refine pc_stL (by decide) (by assumption) fun _ _ => ?_
    | with_reducible refine pc_stR (by decide) (by assumption) fun _ _ => ?_
    | with_reducible refine pc_cpN (by decide) (by assumption) fun _ _ => ?_
    | with_reducible refine pc_bR (fr_f_X11_bookAt (m0 := _) eqF.rf) (by decide) (by assumption) (fun _ _ _ => ?_) (fun _ _ _ => ?_)
    | with_reducible refine pc_pure fun _ => ?_
    | exact pc_some (by assumption)
    | exact pc_some (eqF.bX (by assumption))
    | exact pc_some trivial
    | dsimp only
theorem fr_f_X8_takeHeap {m0 : MM} {m : MM} {l0 : Nat} {l1 : Nat} {l2 : Int} {l3 : Int} (h : eqF [8] m0 m) : Pc (f_X8_takeHeap m l0 l1 l2 l3) (RF [8] m0) := by
  unfold f_X8_takeHeap
  repeat' first
    | with_reducible exact pc_x0
    | with_reducible exact pc_xt (by assumption)
    | with_reducible exact pc_xr (by assumption)
    | with_reducible refine pc_nk fun _ => ?_
    | with_reducible refine pc_if ?_ ?_
    | with_reducible refine pc_ck ?_
    | with_reducible refine pc_cb ?_
    | with_reducible refine pc_dv ?_
    | with_reducible refine pc_let fun _ => ?_
    | with_reducible refine pc_letL fun _ => ?_
    | with_reducible refine pc_ldN fun _ => ?_
    | with_reducible refine pc_ldL fun _ => ?_
    | with_reducible refine pc_ldR fun _ => ?_
    | with_reducible refine pc_put (eqF.sN (by assumption) (by decide)) fun _ _ => ?_
    | with_reducible refine pc_put (eqF.sL (by assumption) (by decide)) fun _ _ => ?_
    | with_reducible refine pc_put (eqF.sR (by assumption) (by decide)) fun _ _ => ?_
    | with_reducible refine pc_stN (by decide) (by assumption) fun _ _ => ?_
    | with_reducible refine pc_stL (by decide) (by assumption) fun _ _ => ?_
    | with_reducible refine pc_stR (by decide) (by assumption) fun _ _ => ?_
    | with_reducible refine pc_cpN (by decide) (by assumption) fun _ _ => ?_
    | with_reducible refine pc_pure fun _ => ?_
    | exact pc_some (by assumption)
    | exact pc_some (eqF.bX (by assumption))
    | exact pc_some trivial
    | dsimp only
theorem fr_j_X11_print_0_111 {m0 : MM} {m : MM} {l0 : Nat} {l4 : Nat} {l6 : Nat} (h : eqF [2, 6, 8, 58] m0 m) : Pc (j_X11_print_0_111 m l0 l4 l6) (RF [2, 6, 8, 58] m0) := by
  unfold j_X11_print_0_111
  repeat' first
    | with_reducible exact pc_x0
    | with_reducible exact pc_xt (by assumption)
    | with_reducible exact pc_xr (by assumption)
    | with_reducible refine pc_nk fun _ => ?_
    | with_reducible refine pc_if ?_ ?_
    | with_reducible refine pc_ck ?_
    | with_reducible refine pc_cb ?_
    | with_reducible refine pc_dv ?_
    | with_reducible refine pc_let fun _ => ?_
    | with_reducible refine pc_letL fun _ => ?_
    | with_reducible refine pc_ldN fun _ => ?_
    | with_reducible refine pc_ldL fun _ => ?_
    | with_reducible refine pc_ldR fun _ => ?_
    | with_reducible refine pc_put (eqF.sN (by assumption) (by decide)) fun _ _ => ?_
    | with_reducible refine pc_put (eqF.sL (by assumption) (by decide)) fun _ _ => ?_
    | with_reducible refine pc_put (eqF.sR (by assumption) (by decide)) fun _ _ => ?_
    | with_reducible refine pc_stN (by decide) (by assumption) fun _ _ => ?_
    | with_reducible refine pc_stL (by decide) (by assumption) fun _ _ => ?_
    | with_reducible refine pc_stR (by decide) (by assumption) fun _ _ => ?_
    | with_reducible refine pc_cpN (by decide) (by assumption) fun _ _ => ?_
    | with_reducible refine pc_pure fun _ => ?_
    | exact pc_some (by assumption)
    | exact pc_some (eqF.bX (by assumption))
    | exact pc_some trivial
    | dsimp only
theorem fr_j_X11_print_0_63 {m0 : MM} {m : MM} {l0 : Nat} {l4 : Nat} {l5 : Nat} {l6 : Nat} {l7 : Nat} {s0 : Int} (h : eqF [2, 6, 8, 58] m0 m) : Pc (j_X11_print_0_63 m l0 l4 l5 l6 l7 s0) (RF [2, 6, 8, 58] m0) := by
  unfold j_X11_print_0_63
  repeat' first
    | with_reducible exact pc_x0
    | with_reducible exact pc_xt (by assumption)
    | with_reducible exact pc_xr (by assumption)
    | with_reducible exact fr_j_X11_print_0_111 (by assumption)
    | with_reducible refine pc_nk fun _ => ?_
    | with_reducible refine pc_if ?_ ?_
    | with_reducible refine pc_ck ?_
    | with_reducible refine pc_cb ?_
    | with_reducible refine pc_dv ?_
    | with_reducible refine pc_let fun _ => ?_
    | with_reducible refine pc_letL fun _ => ?_
    | with_reducible refine pc_ldN fun _ => ?_
    | with_reducible refine pc_ldL fun _ => ?_
    | with_reducible refine pc_ldR fun _ => ?_
    | with_reducible refine pc_put (eqF.sN (by assumption) (by decide)) fun _ _ => ?_
    | with_reducible refine pc_put (eqF.sL (by assumption) (by decide)) fun _ _ => ?_
    | with_reducible refine pc_put (eqF.sR (by assumption) (by decide)) fun _ _ => ?_
    | with_reducible refine pc_stN (by decide) (by assumption) fun _ _ => ?_
    | with_reducible refine pc_stL (by decide) (by assumption) fun _ _ => ?_
    | with_reducible refine pc_stR (by decide) (by assumption) fun _ _ => ?_
    | with_reducible refine pc_cpN (by decide) (by assumption) fun _ _ => ?_
    | with_reducible refine pc_bV (fr_f_X11_requireState (m0 := _) eqF.rf) (by decide) (by assumption) (fun _ _ => ?_) (fun _ _ _ => ?_)
    | with_reducible refine pc_bV (fr_f_X8_takeHeap (m0 := _) eqF.rf) (by decide) (by assumption) (fun _ _ => ?_) (fun _ _ _ => ?_)
    | with_reducible refine pc_pure fun _ => ?_
    | exact pc_some (by assumption)
    | exact pc_some (eqF.bX (by assumption))
    | exact pc_some trivial
    | dsimp only
theorem fr_j_X11_print_0_62 {m0 : MM} {m : MM} {l0 : Nat} {l4 : Nat} {l5 : Nat} {l6 : Nat} {l7 : Nat} (h : eqF [2, 6, 8, 58] m0 m) : Pc (j_X11_print_0_62 m l0 l4 l5 l6 l7) (RF [2, 6, 8, 58] m0) := by
  unfold j_X11_print_0_62
  repeat' first
    | with_reducible exact pc_x0
    | with_reducible exact pc_xt (by assumption)
    | with_reducible exact pc_xr (by assumption)
    | with_reducible exact fr_j_X11_print_0_63 (by assumption)
    | with_reducible refine pc_nk fun _ => ?_
    | with_reducible refine pc_if ?_ ?_
    | with_reducible refine pc_ck ?_
    | with_reducible refine pc_cb ?_
    | with_reducible refine pc_dv ?_
    | with_reducible refine pc_let fun _ => ?_
    | with_reducible refine pc_letL fun _ => ?_
    | with_reducible refine pc_ldN fun _ => ?_
    | with_reducible refine pc_ldL fun _ => ?_
    | with_reducible refine pc_ldR fun _ => ?_
    | with_reducible refine pc_put (eqF.sN (by assumption) (by decide)) fun _ _ => ?_
    | with_reducible refine pc_put (eqF.sL (by assumption) (by decide)) fun _ _ => ?_
    | with_reducible refine pc_put (eqF.sR (by assumption) (by decide)) fun _ _ => ?_
    | with_reducible refine pc_stN (by decide) (by assumption) fun _ _ => ?_
    | with_reducible refine pc_stL (by decide) (by assumption) fun _ _ => ?_
    | with_reducible refine pc_stR (by decide) (by assumption) fun _ _ => ?_
    | with_reducible refine pc_cpN (by decide) (by assumption) fun _ _ => ?_
    | with_reducible refine pc_pure fun _ => ?_
    | exact pc_some (by assumption)
    | exact pc_some (eqF.bX (by assumption))
    | exact pc_some trivial
    | dsimp only
theorem fr_f_X11_print {m0 : MM} {m : MM} {l0 : Nat} {l1 : Int} {l2 : Int} {l3 : Int} (h : eqF [2, 6, 8, 58] m0 m) : Pc (f_X11_print m l0 l1 l2 l3) (RF [2, 6, 8, 58] m0) := by
  unfold f_X11_print
  repeat' first
    | with_reducible exact pc_x0
    | with_reducible exact pc_xt (by assumption)
    | with_reducible exact pc_xr (by assumption)
    | with_reducible exact fr_j_X11_print_0_62 (by assumption)
    | with_reducible exact fr_j_X11_print_0_63 (by assumption)
    | with_reducible refine pc_nk fun _ => ?_
    | with_reducible refine pc_if ?_ ?_
    | with_reducible refine pc_ck ?_
    | with_reducible refine pc_cb ?_
    | with_reducible refine pc_dv ?_
    | with_reducible refine pc_let fun _ => ?_
    | with_reducible refine pc_letL fun _ => ?_
    | with_reducible refine pc_ldN fun _ => ?_
    | with_reducible refine pc_ldL fun _ => ?_
    | with_reducible refine pc_ldR fun _ => ?_
    | with_reducible refine pc_put (eqF.sN (by assumption) (by decide)) fun _ _ => ?_
    | with_reducible refine pc_put (eqF.sL (by assumption) (by decide)) fun _ _ => ?_
    | with_reducible refine pc_put (eqF.sR (by assumption) (by decide)) fun _ _ => ?_
    | with_reducible refine pc_stN (by decide) (by assumption) fun _ _ => ?_
    | with_reducible refine pc_stL (by decide) (by assumption) fun _ _ => ?_
    | with_reducible refine pc_stR (by decide) (by assumption) fun _ _ => ?_
    | with_reducible refine pc_cpN (by decide) (by assumption) fun _ _ => ?_
    | with_reducible refine pc_bR (fr_f_X11_bookAt (m0 := _) eqF.rf) (by decide) (by assumption) (fun _ _ _ => ?_) (fun _ _ _ => ?_)
    | with_reducible refine pc_bR (fr_f_X11_formeOf (m0 := _) eqF.rf) (by decide) (by assumption) (fun _ _ _ => ?_) (fun _ _ _ => ?_)
    | with_reducible refine pc_bR (fr_f_X11_pressAt (m0 := _) eqF.rf) (by decide) (by assumption) (fun _ _ _ => ?_) (fun _ _ _ => ?_)
    | with_reducible refine pc_pure fun _ => ?_
    | exact pc_some (by assumption)
    | exact pc_some (eqF.bX (by assumption))
    | exact pc_some trivial
    | dsimp only
theorem fr_f_X3_boxForNext {m0 : MM} {m : MM} {l0 : Nat} {l1 : Int} (h : eqF [3] m0 m) : Pc (f_X3_boxForNext m l0 l1) (RF [3] m0) := by
  unfold f_X3_boxForNext
  repeat' first
    | with_reducible exact pc_x0
    | with_reducible exact pc_xt (by assumption)
    | with_reducible exact pc_xr (by assumption)
    | with_reducible refine pc_nk fun _ => ?_
    | with_reducible refine pc_if ?_ ?_
    | with_reducible refine pc_ck ?_
    | with_reducible refine pc_cb ?_
    | with_reducible refine pc_dv ?_
    | with_reducible refine pc_let fun _ => ?_
    | with_reducible refine pc_letL fun _ => ?_
    | with_reducible refine pc_ldN fun _ => ?_
    | with_reducible refine pc_ldL fun _ => ?_
    | with_reducible refine pc_ldR fun _ => ?_
    | with_reducible refine pc_put (eqF.sN (by assumption) (by decide)) fun _ _ => ?_
    | with_reducible refine pc_put (eqF.sL (by assumption) (by decide)) fun _ _ => ?_
    | with_reducible refine pc_put (eqF.sR (by assumption) (by decide)) fun _ _ => ?_
    | with_reducible refine pc_stN (by decide) (by assumption) fun _ _ => ?_
    | with_reducible refine pc_stL (by decide) (by assumption) fun _ _ => ?_
    | with_reducible refine pc_stR (by decide) (by assumption) fun _ _ => ?_
    | with_reducible refine pc_cpN (by decide) (by assumption) fun _ _ => ?_
    | with_reducible refine pc_pure fun _ => ?_
    | exact pc_some (by assumption)
    | exact pc_some (eqF.bX (by assumption))
    | exact pc_some trivial
    | dsimp only
theorem fr_j_X5_clear_5_49 {m0 : MM} {m : MM} {l0 : Nat} {l1 : Nat} {l2 : Nat} {l3 : Int} {l4 : Int} (h : eqF [3, 22, 23, 24, 35, 36] m0 m) : Pc (j_X5_clear_5_49 m l0 l1 l2 l3 l4) (fun z => Sum.elim (fun s => eqF [3, 22, 23, 24, 35, 36] m0 s.2.2) (fun z => eqF [3, 22, 23, 24, 35, 36] m0 z.2) z) := by
  unfold j_X5_clear_5_49
  repeat' first
    | with_reducible exact pc_x0
    | with_reducible exact pc_xt (by assumption)
    | with_reducible exact pc_xr (by assumption)
    | with_reducible refine pc_nk fun _ => ?_
    | with_reducible refine pc_if ?_ ?_
    | with_reducible refine pc_ck ?_
    | with_reducible refine pc_cb ?_
    | with_reducible refine pc_dv ?_
    | with_reducible refine pc_let fun _ => ?_
    | with_reducible refine pc_letL fun _ => ?_
    | with_reducible refine pc_ldN fun _ => ?_
    | with_reducible refine pc_ldL fun _ => ?_
    | with_reducible refine pc_ldR fun _ => ?_
    | with_reducible refine pc_put (eqF.sN (by assumption) (by decide)) fun _ _ => ?_
    | with_reducible refine pc_put (eqF.sL (by assumption) (by decide)) fun _ _ => ?_
    | with_reducible refine pc_put (eqF.sR (by assumption) (by decide)) fun _ _ => ?_
    | with_reducible refine pc_stN (by decide) (by assumption) fun _ _ => ?_
    | with_reducible refine pc_stL (by decide) (by assumption) fun _ _ => ?_
    | with_reducible refine pc_stR (by decide) (by assumption) fun _ _ => ?_
    | with_reducible refine pc_cpN (by decide) (by assumption) fun _ _ => ?_
    | with_reducible refine pc_pure fun _ => ?_
    | exact pc_some (by assumption)
    | exact pc_some (eqF.bX (by assumption))
    | exact pc_some trivial
    | dsimp only
theorem fr_b_X5_clear_5 {m0 : MM} {l0 : Nat} {l1 : Nat} {l2 : Nat} {l3 : Int} {l4 : Int} {mm : MM} (h : eqF [3, 22, 23, 24, 35, 36] m0 mm) : Pc (b_X5_clear_5 l0 l1 l2 l3 l4 mm) (fun z => Sum.elim (fun s => eqF [3, 22, 23, 24, 35, 36] m0 s.2.2) (fun z => eqF [3, 22, 23, 24, 35, 36] m0 z.2) z) := by
  unfold b_X5_clear_5
  repeat' first
    | with_reducible exact pc_x0
    | with_reducible exact pc_xt (by assumption)
    | with_reducible exact pc_xr (by assumption)
    | with_reducible exact fr_j_X5_clear_5_49 (by assumption)
    | with_reducible refine pc_nk fun _ => ?_
    | with_reducible refine pc_if ?_ ?_
    | with_reducible refine pc_ck ?_
    | with_reducible refine pc_cb ?_
    | with_reducible refine pc_dv ?_
    | with_reducible refine pc_let fun _ => ?_
    | with_reducible refine pc_letL fun _ => ?_
    | with_reducible refine pc_ldN fun _ => ?_
    | with_reducible refine pc_ldL fun _ => ?_
    | with_reducible refine pc_ldR fun _ => ?_
    | with_reducible refine pc_put (eqF.sN (by assumption) (by decide)) fun _ _ => ?_
    | with_reducible refine pc_put (eqF.sL (by assumption) (by decide)) fun _ _ => ?_
    | with_reducible refine pc_put (eqF.sR (by assumption) (by decide)) fun _ _ => ?_
    | with_reducible refine pc_stN (by decide) (by assumption) fun _ _ => ?_
    | with_reducible refine pc_stL (by decide) (by assumption) fun _ _ => ?_
    | with_reducible refine pc_stR (by decide) (by assumption) fun _ _ => ?_
    | with_reducible refine pc_cpN (by decide) (by assumption) fun _ _ => ?_
    | with_reducible refine pc_bI (fr_f_X3_boxForNext (m0 := _) eqF.rf) (by decide) (by assumption) (fun _ _ _ => ?_) (fun _ _ _ => ?_)
    | with_reducible refine pc_bV (fr_f_X1_putOn (m0 := _) eqF.rf) (by decide) (by assumption) (fun _ _ => ?_) (fun _ _ _ => ?_)
    | with_reducible refine pc_pure fun _ => ?_
    | exact pc_some (by assumption)
    | exact pc_some (eqF.bX (by assumption))
    | exact pc_some trivial
    | dsimp only
theorem fr_j_X5_clear_0_71 {m0 : MM} {m : MM} {l3 : Int} (h : eqF [3, 22, 23, 24, 35, 36] m0 m) : Pc (j_X5_clear_0_71 m l3) (RF [3, 22, 23, 24, 35, 36] m0) := by
  unfold j_X5_clear_0_71
  repeat' first
    | with_reducible exact pc_x0
    | with_reducible exact pc_xt (by assumption)
    | with_reducible exact pc_xr (by assumption)
    | with_reducible refine pc_nk fun _ => ?_
    | with_reducible refine pc_if ?_ ?_
    | with_reducible refine pc_ck ?_
    | with_reducible refine pc_cb ?_
    | with_reducible refine pc_dv ?_
    | with_reducible refine pc_let fun _ => ?_
    | with_reducible refine pc_letL fun _ => ?_
    | with_reducible refine pc_ldN fun _ => ?_
    | with_reducible refine pc_ldL fun _ => ?_
    | with_reducible refine pc_ldR fun _ => ?_
    | with_reducible refine pc_put (eqF.sN (by assumption) (by decide)) fun _ _ => ?_
    | with_reducible refine pc_put (eqF.sL (by assumption) (by decide)) fun _ _ => ?_
    | with_reducible refine pc_put (eqF.sR (by assumption) (by decide)) fun _ _ => ?_
    | with_reducible refine pc_stN (by decide) (by assumption) fun _ _ => ?_
    | with_reducible refine pc_stL (by decide) (by assumption) fun _ _ => ?_
    | with_reducible refine pc_stR (by decide) (by assumption) fun _ _ => ?_
    | with_reducible refine pc_cpN (by decide) (by assumption) fun _ _ => ?_
    | with_reducible refine pc_pure fun _ => ?_
    | exact pc_some (by assumption)
    | exact pc_some (eqF.bX (by assumption))
    | exact pc_some trivial
    | dsimp only
theorem fr_f_X5_clear {m0 : MM} {m : MM} {l0 : Nat} {l1 : Nat} {l2 : Nat} (h : eqF [3, 22, 23, 24, 35, 36] m0 m) : Pc (f_X5_clear m l0 l1 l2) (RF [3, 22, 23, 24, 35, 36] m0) := by
  unfold f_X5_clear
  repeat' first
    | with_reducible exact pc_x0
    | with_reducible exact pc_xt (by assumption)
    | with_reducible exact pc_xr (by assumption)
    | with_reducible exact fr_j_X5_clear_0_71 (by assumption)
    | with_reducible refine pc_nk fun _ => ?_
    | with_reducible refine pc_if ?_ ?_
    | with_reducible refine pc_ck ?_
    | with_reducible refine pc_cb ?_
    | with_reducible refine pc_dv ?_
    | with_reducible refine pc_let fun _ => ?_
    | with_reducible refine pc_letL fun _ => ?_
    | with_reducible refine pc_ldN fun _ => ?_
    | with_reducible refine pc_ldL fun _ => ?_
    | with_reducible refine pc_ldR fun _ => ?_
    | with_reducible refine pc_put (eqF.sN (by assumption) (by decide)) fun _ _ => ?_
    | with_reducible refine pc_put (eqF.sL (by assumption) (by decide)) fun _ _ => ?_
    | with_reducible refine pc_put (eqF.sR (by assumption) (by decide)) fun _ _ => ?_
    | with_reducible refine pc_stN (by decide) (by assumption) fun _ _ => ?_
    | with_reducible refine pc_stL (by decide) (by assumption) fun _ _ => ?_
    | with_reducible refine pc_stR (by decide) (by assumption) fun _ _ => ?_
    | with_reducible refine pc_cpN (by decide) (by assumption) fun _ _ => ?_
    | with_reducible refine pc_lp (fun s => eqF [3, 22, 23, 24, 35, 36] m0 s.2.2) (fun z => eqF [3, 22, 23, 24, 35, 36] m0 z.2) (by assumption) (fun s hs => fr_b_X5_clear_5 hs) (fun z hz => ?_)
    | with_reducible refine pc_pure fun _ => ?_
    | exact pc_some (by assumption)
    | exact pc_some (eqF.bX (by assumption))
    | exact pc_some trivial
    | dsimp only
theorem fr_b_X11_putAway_53 {m0 : MM} {l0 : Nat} {l4 : Nat} {l5 : Nat} {l7 : Nat} {l8 : Int} {l6 : Int} {l9 : Int} {mm : MM} (h : eqF [2, 3, 22, 23, 24, 35, 36] m0 mm) : Pc (b_X11_putAway_53 l0 l4 l5 l7 l8 l6 l9 mm) (fun z => Sum.elim (fun s => eqF [2, 3, 22, 23, 24, 35, 36] m0 s.2.2) (fun z => eqF [2, 3, 22, 23, 24, 35, 36] m0 z.2) z) := by
  unfold b_X11_putAway_53
  repeat' first
    | with_reducible exact pc_x0
    | with_reducible exact pc_xt (by assumption)
    | with_reducible exact pc_xr (by assumption)
    | with_reducible refine pc_nk fun _ => ?_
    | with_reducible refine pc_if ?_ ?_
    | with_reducible refine pc_ck ?_
    | with_reducible refine pc_cb ?_
    | with_reducible refine pc_dv ?_
    | with_reducible refine pc_let fun _ => ?_
    | with_reducible refine pc_letL fun _ => ?_
    | with_reducible refine pc_ldN fun _ => ?_
    | with_reducible refine pc_ldL fun _ => ?_
    | with_reducible refine pc_ldR fun _ => ?_
    | with_reducible refine pc_put (eqF.sN (by assumption) (by decide)) fun _ _ => ?_
    | with_reducible refine pc_put (eqF.sL (by assumption) (by decide)) fun _ _ => ?_
    | with_reducible refine pc_put (eqF.sR (by assumption) (by decide)) fun _ _ => ?_
    | with_reducible refine pc_stN (by decide) (by assumption) fun _ _ => ?_
    | with_reducible refine pc_stL (by decide) (by assumption) fun _ _ => ?_
    | with_reducible refine pc_stR (by decide) (by assumption) fun _ _ => ?_
    | with_reducible refine pc_cpN (by decide) (by assumption) fun _ _ => ?_
    | with_reducible refine pc_bI (fr_f_X5_clear (m0 := _) eqF.rf) (by decide) (by assumption) (fun _ _ _ => ?_) (fun _ _ _ => ?_)
    | with_reducible refine pc_pure fun _ => ?_
    | exact pc_some (by assumption)
    | exact pc_some (eqF.bX (by assumption))
    | exact pc_some trivial
    | dsimp only
theorem fr_j_X11_putAway_0_92 {m0 : MM} {m : MM} {l4 : Nat} {l6 : Int} (h : eqF [2, 3, 22, 23, 24, 35, 36] m0 m) : Pc (j_X11_putAway_0_92 m l4 l6) (RF [2, 3, 22, 23, 24, 35, 36] m0) := by
  unfold j_X11_putAway_0_92
  repeat' first
    | with_reducible exact pc_x0
    | with_reducible exact pc_xt (by assumption)
    | with_reducible exact pc_xr (by assumption)
    | with_reducible refine pc_nk fun _ => ?_
    | with_reducible refine pc_if ?_ ?_
    | with_reducible refine pc_ck ?_
    | with_reducible refine pc_cb ?_
    | with_reducible refine pc_dv ?_
    | with_reducible refine pc_let fun _ => ?_
    | with_reducible refine pc_letL fun _ => ?_
    | with_reducible refine pc_ldN fun _ => ?_
    | with_reducible refine pc_ldL fun _ => ?_
    | with_reducible refine pc_ldR fun _ => ?_
    | with_reducible refine pc_put (eqF.sN (by assumption) (by decide)) fun _ _ => ?_
    | with_reducible refine pc_put (eqF.sL (by assumption) (by decide)) fun _ _ => ?_
    | with_reducible refine pc_put (eqF.sR (by assumption) (by decide)) fun _ _ => ?_
    | with_reducible refine pc_stN (by decide) (by assumption) fun _ _ => ?_
    | with_reducible refine pc_stL (by decide) (by assumption) fun _ _ => ?_
    | with_reducible refine pc_stR (by decide) (by assumption) fun _ _ => ?_
    | with_reducible refine pc_cpN (by decide) (by assumption) fun _ _ => ?_
    | with_reducible refine pc_pure fun _ => ?_
    | exact pc_some (by assumption)
    | exact pc_some (eqF.bX (by assumption))
    | exact pc_some trivial
    | dsimp only
theorem fr_j_X11_putAway_0_32 {m0 : MM} {m : MM} {l0 : Nat} {l4 : Nat} {l5 : Nat} {s0 : Int} (h : eqF [2, 3, 22, 23, 24, 35, 36] m0 m) : Pc (j_X11_putAway_0_32 m l0 l4 l5 s0) (RF [2, 3, 22, 23, 24, 35, 36] m0) := by
  unfold j_X11_putAway_0_32
  repeat' first
    | with_reducible exact pc_x0
    | with_reducible exact pc_xt (by assumption)
    | with_reducible exact pc_xr (by assumption)
    | with_reducible exact fr_j_X11_putAway_0_92 (by assumption)
    | with_reducible refine pc_nk fun _ => ?_
    | with_reducible refine pc_if ?_ ?_
    | with_reducible refine pc_ck ?_
    | with_reducible refine pc_cb ?_
    | with_reducible refine pc_dv ?_
    | with_reducible refine pc_let fun _ => ?_
    | with_reducible refine pc_letL fun _ => ?_
    | with_reducible refine pc_ldN fun _ => ?_
    | with_reducible refine pc_ldL fun _ => ?_
    | with_reducible refine pc_ldR fun _ => ?_
    | with_reducible refine pc_put (eqF.sN (by assumption) (by decide)) fun _ _ => ?_
    | with_reducible refine pc_put (eqF.sL (by assumption) (by decide)) fun _ _ => ?_
    | with_reducible refine pc_put (eqF.sR (by assumption) (by decide)) fun _ _ => ?_
    | with_reducible refine pc_stN (by decide) (by assumption) fun _ _ => ?_
    | with_reducible refine pc_stL (by decide) (by assumption) fun _ _ => ?_
    | with_reducible refine pc_stR (by decide) (by assumption) fun _ _ => ?_
    | with_reducible refine pc_cpN (by decide) (by assumption) fun _ _ => ?_
    | with_reducible refine pc_bV (fr_f_X11_requireState (m0 := _) eqF.rf) (by decide) (by assumption) (fun _ _ => ?_) (fun _ _ _ => ?_)
    | with_reducible refine pc_lp (fun s => eqF [2, 3, 22, 23, 24, 35, 36] m0 s.2.2) (fun z => eqF [2, 3, 22, 23, 24, 35, 36] m0 z.2) (by assumption) (fun s hs => fr_b_X11_putAway_53 hs) (fun z hz => ?_)
    | with_reducible refine pc_pure fun _ => ?_
    | exact pc_some (by assumption)
    | exact pc_some (eqF.bX (by assumption))
    | exact pc_some trivial
    | dsimp only
theorem fr_f_X11_putAway {m0 : MM} {m : MM} {l0 : Nat} {l1 : Int} {l2 : Int} {l3 : Int} (h : eqF [2, 3, 22, 23, 24, 35, 36] m0 m) : Pc (f_X11_putAway m l0 l1 l2 l3) (RF [2, 3, 22, 23, 24, 35, 36] m0) := by
  unfold f_X11_putAway
  repeat' first
    | with_reducible exact pc_x0
    | with_reducible exact pc_xt (by assumption)
    | with_reducible exact pc_xr (by assumption)
    | with_reducible exact fr_j_X11_putAway_0_32 (by assumption)
    | with_reducible refine pc_nk fun _ => ?_
    | with_reducible refine pc_if ?_ ?_
    | with_reducible refine pc_ck ?_
    | with_reducible refine pc_cb ?_
    | with_reducible refine pc_dv ?_
    | with_reducible refine pc_let fun _ => ?_
    | with_reducible refine pc_letL fun _ => ?_
    | with_reducible refine pc_ldN fun _ => ?_
    | with_reducible refine pc_ldL fun _ => ?_
    | with_reducible refine pc_ldR fun _ => ?_
    | with_reducible refine pc_put (eqF.sN (by assumption) (by decide)) fun _ _ => ?_
    | with_reducible refine pc_put (eqF.sL (by assumption) (by decide)) fun _ _ => ?_
    | with_reducible refine pc_put (eqF.sR (by assumption) (by decide)) fun _ _ => ?_
    | with_reducible refine pc_stN (by decide) (by assumption) fun _ _ => ?_
    | with_reducible refine pc_stL (by decide) (by assumption) fun _ _ => ?_
    | with_reducible refine pc_stR (by decide) (by assumption) fun _ _ => ?_
    | with_reducible refine pc_cpN (by decide) (by assumption) fun _ _ => ?_
    | with_reducible refine pc_bR (fr_f_X11_bookAt (m0 := _) eqF.rf) (by decide) (by assumption) (fun _ _ _ => ?_) (fun _ _ _ => ?_)
    | with_reducible refine pc_bR (fr_f_X11_formeOf (m0 := _) eqF.rf) (by decide) (by assumption) (fun _ _ _ => ?_) (fun _ _ _ => ?_)
    | with_reducible refine pc_bR (fr_f_X11_handAt (m0 := _) eqF.rf) (by decide) (by assumption) (fun _ _ _ => ?_) (fun _ _ _ => ?_)
    | with_reducible refine pc_pure fun _ => ?_
    | exact pc_some (by assumption)
    | exact pc_some (eqF.bX (by assumption))
    | exact pc_some trivial
    | dsimp only
theorem fr_b_X4_fillOut_41 {m0 : MM} {l0 : Nat} {l1 : Nat} {l2 : Int} {l4 : Int} {l5 : Int} {l3 : Int} {l6 : Int} {mm : MM} (h : eqF [28, 29, 32] m0 mm) : Pc (b_X4_fillOut_41 l0 l1 l2 l4 l5 l3 l6 mm) (fun z => Sum.elim (fun s => eqF [28, 29, 32] m0 s.2.2) (fun z => eqF [28, 29, 32] m0 z.2) z) := by
  unfold b_X4_fillOut_41
  repeat' first
    | with_reducible exact pc_x0
    | with_reducible exact pc_xt (by assumption)
    | with_reducible exact pc_xr (by assumption)
    | with_reducible refine pc_nk fun _ => ?_
    | with_reducible refine pc_if ?_ ?_
    | with_reducible refine pc_ck ?_
    | with_reducible refine pc_cb ?_
    | with_reducible refine pc_dv ?_
    | with_reducible refine pc_let fun _ => ?_
    | with_reducible refine pc_letL fun _ => ?_
    | with_reducible refine pc_ldN fun _ => ?_
    | with_reducible refine pc_ldL fun _ => ?_
    | with_reducible refine pc_ldR fun _ => ?_
    | with_reducible refine pc_put (eqF.sN (by assumption) (by decide)) fun _ _ => ?_
    | with_reducible refine pc_put (eqF.sL (by assumption) (by decide)) fun _ _ => ?_
    | with_reducible refine pc_put (eqF.sR (by assumption) (by decide)) fun _ _ => ?_
    | with_reducible refine pc_stN (by decide) (by assumption) fun _ _ => ?_
    | with_reducible refine pc_stL (by decide) (by assumption) fun _ _ => ?_
    | with_reducible refine pc_stR (by decide) (by assumption) fun _ _ => ?_
    | with_reducible refine pc_cpN (by decide) (by assumption) fun _ _ => ?_
    | with_reducible refine pc_pure fun _ => ?_
    | exact pc_some (by assumption)
    | exact pc_some (eqF.bX (by assumption))
    | exact pc_some trivial
    | dsimp only
theorem fr_j_X4_fillOut_27_74 {m0 : MM} {m : MM} {l0 : Nat} {l1 : Nat} {l2 : Int} {l3 : Int} {l4 : Int} {l5 : Int} (h : eqF [28, 29, 32] m0 m) : Pc (j_X4_fillOut_27_74 m l0 l1 l2 l3 l4 l5) (fun z => Sum.elim (fun s => eqF [28, 29, 32] m0 s.2.2) (fun z => eqF [28, 29, 32] m0 z.2) z) := by
  unfold j_X4_fillOut_27_74
  repeat' first
    | with_reducible exact pc_x0
    | with_reducible exact pc_xt (by assumption)
    | with_reducible exact pc_xr (by assumption)
    | with_reducible refine pc_nk fun _ => ?_
    | with_reducible refine pc_if ?_ ?_
    | with_reducible refine pc_ck ?_
    | with_reducible refine pc_cb ?_
    | with_reducible refine pc_dv ?_
    | with_reducible refine pc_let fun _ => ?_
    | with_reducible refine pc_letL fun _ => ?_
    | with_reducible refine pc_ldN fun _ => ?_
    | with_reducible refine pc_ldL fun _ => ?_
    | with_reducible refine pc_ldR fun _ => ?_
    | with_reducible refine pc_put (eqF.sN (by assumption) (by decide)) fun _ _ => ?_
    | with_reducible refine pc_put (eqF.sL (by assumption) (by decide)) fun _ _ => ?_
    | with_reducible refine pc_put (eqF.sR (by assumption) (by decide)) fun _ _ => ?_
    | with_reducible refine pc_stN (by decide) (by assumption) fun _ _ => ?_
    | with_reducible refine pc_stL (by decide) (by assumption) fun _ _ => ?_
    | with_reducible refine pc_stR (by decide) (by assumption) fun _ _ => ?_
    | with_reducible refine pc_cpN (by decide) (by assumption) fun _ _ => ?_
    | with_reducible refine pc_pure fun _ => ?_
    | exact pc_some (by assumption)
    | exact pc_some (eqF.bX (by assumption))
    | exact pc_some trivial
    | dsimp only
theorem fr_b_X4_fillOut_27 {m0 : MM} {l0 : Nat} {l1 : Nat} {l2 : Int} {l4 : Int} {l3 : Int} {l5 : Int} {mm : MM} (h : eqF [28, 29, 32] m0 mm) : Pc (b_X4_fillOut_27 l0 l1 l2 l4 l3 l5 mm) (fun z => Sum.elim (fun s => eqF [28, 29, 32] m0 s.2.2) (fun z => eqF [28, 29, 32] m0 z.2) z) := by
  unfold b_X4_fillOut_27
  repeat' first
    | with_reducible exact pc_x0
    | with_reducible exact pc_xt (by assumption)
    | with_reducible exact pc_xr (by assumption)
    | with_reducible exact fr_j_X4_fillOut_27_74 (by assumption)
    | with_reducible refine pc_nk fun _ => ?_
    | with_reducible refine pc_if ?_ ?_
    | with_reducible refine pc_ck ?_
    | with_reducible refine pc_cb ?_
    | with_reducible refine pc_dv ?_
    | with_reducible refine pc_let fun _ => ?_
    | with_reducible refine pc_letL fun _ => ?_
    | with_reducible refine pc_ldN fun _ => ?_
    | with_reducible refine pc_ldL fun _ => ?_
    | with_reducible refine pc_ldR fun _ => ?_
    | with_reducible refine pc_put (eqF.sN (by assumption) (by decide)) fun _ _ => ?_
    | with_reducible refine pc_put (eqF.sL (by assumption) (by decide)) fun _ _ => ?_
    | with_reducible refine pc_put (eqF.sR (by assumption) (by decide)) fun _ _ => ?_
    | with_reducible refine pc_stN (by decide) (by assumption) fun _ _ => ?_
    | with_reducible refine pc_stL (by decide) (by assumption) fun _ _ => ?_
    | with_reducible refine pc_stR (by decide) (by assumption) fun _ _ => ?_
    | with_reducible refine pc_cpN (by decide) (by assumption) fun _ _ => ?_
    | with_reducible refine pc_lp (fun s => eqF [28, 29, 32] m0 s.2.2) (fun z => eqF [28, 29, 32] m0 z.2) (by assumption) (fun s hs => fr_b_X4_fillOut_41 hs) (fun z hz => ?_)
    | with_reducible refine pc_pure fun _ => ?_
    | exact pc_some (by assumption)
    | exact pc_some (eqF.bX (by assumption))
    | exact pc_some trivial
    | dsimp only
theorem fr_b_X4_fillOut_88 {m0 : MM} {l0 : Nat} {l1 : Nat} {l2 : Int} {l4 : Int} {l3 : Int} {l5 : Int} {mm : MM} (h : eqF [28, 29, 32] m0 mm) : Pc (b_X4_fillOut_88 l0 l1 l2 l4 l3 l5 mm) (fun z => Sum.elim (fun s => eqF [28, 29, 32] m0 s.2.2) (fun z => eqF [28, 29, 32] m0 z.2) z) := by
  unfold b_X4_fillOut_88
  repeat' first
    | with_reducible exact pc_x0
    | with_reducible exact pc_xt (by assumption)
    | with_reducible exact pc_xr (by assumption)
    | with_reducible refine pc_nk fun _ => ?_
    | with_reducible refine pc_if ?_ ?_
    | with_reducible refine pc_ck ?_
    | with_reducible refine pc_cb ?_
    | with_reducible refine pc_dv ?_
    | with_reducible refine pc_let fun _ => ?_
    | with_reducible refine pc_letL fun _ => ?_
    | with_reducible refine pc_ldN fun _ => ?_
    | with_reducible refine pc_ldL fun _ => ?_
    | with_reducible refine pc_ldR fun _ => ?_
    | with_reducible refine pc_put (eqF.sN (by assumption) (by decide)) fun _ _ => ?_
    | with_reducible refine pc_put (eqF.sL (by assumption) (by decide)) fun _ _ => ?_
    | with_reducible refine pc_put (eqF.sR (by assumption) (by decide)) fun _ _ => ?_
    | with_reducible refine pc_stN (by decide) (by assumption) fun _ _ => ?_
    | with_reducible refine pc_stL (by decide) (by assumption) fun _ _ => ?_
    | with_reducible refine pc_stR (by decide) (by assumption) fun _ _ => ?_
    | with_reducible refine pc_cpN (by decide) (by assumption) fun _ _ => ?_
    | with_reducible refine pc_pure fun _ => ?_
    | exact pc_some (by assumption)
    | exact pc_some (eqF.bX (by assumption))
    | exact pc_some trivial
    | dsimp only
theorem fr_j_X4_fillOut_0_155 {m0 : MM} {m : MM} {l0 : Nat} {l2 : Int} {l3 : Int} (h : eqF [28, 29, 32] m0 m) : Pc (j_X4_fillOut_0_155 m l0 l2 l3) (RF [28, 29, 32] m0) := by
  unfold j_X4_fillOut_0_155
  repeat' first
    | with_reducible exact pc_x0
    | with_reducible exact pc_xt (by assumption)
    | with_reducible exact pc_xr (by assumption)
    | with_reducible refine pc_nk fun _ => ?_
    | with_reducible refine pc_if ?_ ?_
    | with_reducible refine pc_ck ?_
    | with_reducible refine pc_cb ?_
    | with_reducible refine pc_dv ?_
    | with_reducible refine pc_let fun _ => ?_
    | with_reducible refine pc_letL fun _ => ?_
    | with_reducible refine pc_ldN fun _ => ?_
    | with_reducible refine pc_ldL fun _ => ?_
    | with_reducible refine pc_ldR fun _ => ?_
    | with_reducible refine pc_put (eqF.sN (by assumption) (by decide)) fun _ _ => ?_
    | with_reducible refine pc_put (eqF.sL (by assumption) (by decide)) fun _ _ => ?_
    | with_reducible refine pc_put (eqF.sR (by assumption) (by decide)) fun _ _ => ?_
    | with_reducible refine pc_stN (by decide) (by assumption) fun _ _ => ?_
    | with_reducible refine pc_stL (by decide) (by assumption) fun _ _ => ?_
    | with_reducible refine pc_stR (by decide) (by assumption) fun _ _ => ?_
    | with_reducible refine pc_cpN (by decide) (by assumption) fun _ _ => ?_
    | with_reducible refine pc_pure fun _ => ?_
    | exact pc_some (by assumption)
    | exact pc_some (eqF.bX (by assumption))
    | exact pc_some trivial
    | dsimp only
theorem fr_j_X4_fillOut_0_80 {m0 : MM} {m : MM} {l0 : Nat} {l1 : Nat} {l2 : Int} {l3 : Int} {l4 : Int} (h : eqF [28, 29, 32] m0 m) : Pc (j_X4_fillOut_0_80 m l0 l1 l2 l3 l4) (RF [28, 29, 32] m0) := by
  unfold j_X4_fillOut_0_80
  repeat' first
    | with_reducible exact pc_x0
    | with_reducible exact pc_xt (by assumption)
    | with_reducible exact pc_xr (by assumption)
    | with_reducible exact fr_j_X4_fillOut_0_155 (by assumption)
    | with_reducible refine pc_nk fun _ => ?_
    | with_reducible refine pc_if ?_ ?_
    | with_reducible refine pc_ck ?_
    | with_reducible refine pc_cb ?_
    | with_reducible refine pc_dv ?_
    | with_reducible refine pc_let fun _ => ?_
    | with_reducible refine pc_letL fun _ => ?_
    | with_reducible refine pc_ldN fun _ => ?_
    | with_reducible refine pc_ldL fun _ => ?_
    | with_reducible refine pc_ldR fun _ => ?_
    | with_reducible refine pc_put (eqF.sN (by assumption) (by decide)) fun _ _ => ?_
    | with_reducible refine pc_put (eqF.sL (by assumption) (by decide)) fun _ _ => ?_
    | with_reducible refine pc_put (eqF.sR (by assumption) (by decide)) fun _ _ => ?_
    | with_reducible refine pc_stN (by decide) (by assumption) fun _ _ => ?_
    | with_reducible refine pc_stL (by decide) (by assumption) fun _ _ => ?_
    | with_reducible refine pc_stR (by decide) (by assumption) fun _ _ => ?_
    | with_reducible refine pc_cpN (by decide) (by assumption) fun _ _ => ?_
    | with_reducible refine pc_lp (fun s => eqF [28, 29, 32] m0 s.2.2) (fun z => eqF [28, 29, 32] m0 z.2) (by assumption) (fun s hs => fr_b_X4_fillOut_88 hs) (fun z hz => ?_)
    | with_reducible refine pc_pure fun _ => ?_
    | exact pc_some (by assumption)
    | exact pc_some (eqF.bX (by assumption))
    | exact pc_some trivial
    | dsimp only
theorem fr_f_X4_fillOut {m0 : MM} {m : MM} {l0 : Nat} {l1 : Nat} {l2 : Int} (h : eqF [28, 29, 32] m0 m) : Pc (f_X4_fillOut m l0 l1 l2) (RF [28, 29, 32] m0) := by
  unfold f_X4_fillOut
  repeat' first
    | with_reducible exact pc_x0
    | with_reducible exact pc_xt (by assumption)
    | with_reducible exact pc_xr (by assumption)
    | with_reducible exact fr_j_X4_fillOut_0_80 (by assumption)
    | with_reducible refine pc_nk fun _ => ?_
    | with_reducible refine pc_if ?_ ?_
    | with_reducible refine pc_ck ?_
    | with_reducible refine pc_cb ?_
    | with_reducible refine pc_dv ?_
    | with_reducible refine pc_let fun _ => ?_
    | with_reducible refine pc_letL fun _ => ?_
    | with_reducible refine pc_ldN fun _ => ?_
    | with_reducible refine pc_ldL fun _ => ?_
    | with_reducible refine pc_ldR fun _ => ?_
    | with_reducible refine pc_put (eqF.sN (by assumption) (by decide)) fun _ _ => ?_
    | with_reducible refine pc_put (eqF.sL (by assumption) (by decide)) fun _ _ => ?_
    | with_reducible refine pc_put (eqF.sR (by assumption) (by decide)) fun _ _ => ?_
    | with_reducible refine pc_stN (by decide) (by assumption) fun _ _ => ?_
    | with_reducible refine pc_stL (by decide) (by assumption) fun _ _ => ?_
    | with_reducible refine pc_stR (by decide) (by assumption) fun _ _ => ?_
    | with_reducible refine pc_cpN (by decide) (by assumption) fun _ _ => ?_
    | with_reducible refine pc_lp (fun s => eqF [28, 29, 32] m0 s.2.2) (fun z => eqF [28, 29, 32] m0 z.2) (by assumption) (fun s hs => fr_b_X4_fillOut_27 hs) (fun z hz => ?_)
    | with_reducible refine pc_pure fun _ => ?_
    | exact pc_some (by assumption)
    | exact pc_some (eqF.bX (by assumption))
    | exact pc_some trivial
    | dsimp only
theorem fr_f_X4_addWord {m0 : MM} {m : MM} {l0 : Nat} {l1 : Int} {l2 : Int} (h : eqF [4, 27, 28, 29] m0 m) : Pc (f_X4_addWord m l0 l1 l2) (RF [4, 27, 28, 29] m0) := by
  unfold f_X4_addWord
  repeat' first
    | with_reducible exact pc_x0
    | with_reducible exact pc_xt (by assumption)
    | with_reducible exact pc_xr (by assumption)
    | with_reducible refine pc_nk fun _ => ?_
    | with_reducible refine pc_if ?_ ?_
    | with_reducible refine pc_ck ?_
    | with_reducible refine pc_cb ?_
    | with_reducible refine pc_dv ?_
    | with_reducible refine pc_let fun _ => ?_
    | with_reducible refine pc_letL fun _ => ?_
    | with_reducible refine pc_ldN fun _ => ?_
    | with_reducible refine pc_ldL fun _ => ?_
    | with_reducible refine pc_ldR fun _ => ?_
    | with_reducible refine pc_put (eqF.sN (by assumption) (by decide)) fun _ _ => ?_
    | with_reducible refine pc_put (eqF.sL (by assumption) (by decide)) fun _ _ => ?_
    | with_reducible refine pc_put (eqF.sR (by assumption) (by decide)) fun _ _ => ?_
    | with_reducible refine pc_stN (by decide) (by assumption) fun _ _ => ?_
    | with_reducible refine pc_stL (by decide) (by assumption) fun _ _ => ?_
    | with_reducible refine pc_stR (by decide) (by assumption) fun _ _ => ?_
    | with_reducible refine pc_cpN (by decide) (by assumption) fun _ _ => ?_
    | with_reducible refine pc_pure fun _ => ?_
    | exact pc_some (by assumption)
    | exact pc_some (eqF.bX (by assumption))
    | exact pc_some trivial
    | dsimp only
theorem fr_f_X3_skipsNow {m0 : MM} {m : MM} {l0 : Nat} (h : eqF [3] m0 m) : Pc (f_X3_skipsNow m l0) (RF [3] m0) := by
  unfold f_X3_skipsNow
  repeat' first
    | with_reducible exact pc_x0
    | with_reducible exact pc_xt (by assumption)
    | with_reducible exact pc_xr (by assumption)
    | with_reducible refine pc_nk fun _ => ?_
    | with_reducible refine pc_if ?_ ?_
    | with_reducible refine pc_ck ?_
    | with_reducible refine pc_cb ?_
    | with_reducible refine pc_dv ?_
    | with_reducible refine pc_let fun _ => ?_
    | with_reducible refine pc_letL fun _ => ?_
    | with_reducible refine pc_ldN fun _ => ?_
    | with_reducible refine pc_ldL fun _ => ?_
    | with_reducible refine pc_ldR fun _ => ?_
    | with_reducible refine pc_put (eqF.sN (by assumption) (by decide)) fun _ _ => ?_
    | with_reducible refine pc_put (eqF.sL (by assumption) (by decide)) fun _ _ => ?_
    | with_reducible refine pc_put (eqF.sR (by assumption) (by decide)) fun _ _ => ?_
    | with_reducible refine pc_stN (by decide) (by assumption) fun _ _ => ?_
    | with_reducible refine pc_stL (by decide) (by assumption) fun _ _ => ?_
    | with_reducible refine pc_stR (by decide) (by assumption) fun _ _ => ?_
    | with_reducible refine pc_cpN (by decide) (by assumption) fun _ _ => ?_
    | with_reducible refine pc_pure fun _ => ?_
    | exact pc_some (by assumption)
    | exact pc_some (eqF.bX (by assumption))
    | exact pc_some trivial
    | dsimp only
theorem fr_j_X4_goOnBehind_0_50 {m0 : MM} {m : MM} {s0 : Nat} {s1 : Int} (h : eqF [3, 4] m0 m) : Pc (j_X4_goOnBehind_0_50 m s0 s1) (RF [3, 4] m0) := by
  unfold j_X4_goOnBehind_0_50
  repeat' first
    | with_reducible exact pc_x0
    | with_reducible exact pc_xt (by assumption)
    | with_reducible exact pc_xr (by assumption)
    | with_reducible refine pc_nk fun _ => ?_
    | with_reducible refine pc_if ?_ ?_
    | with_reducible refine pc_ck ?_
    | with_reducible refine pc_cb ?_
    | with_reducible refine pc_dv ?_
    | with_reducible refine pc_let fun _ => ?_
    | with_reducible refine pc_letL fun _ => ?_
    | with_reducible refine pc_ldN fun _ => ?_
    | with_reducible refine pc_ldL fun _ => ?_
    | with_reducible refine pc_ldR fun _ => ?_
    | with_reducible refine pc_put (eqF.sN (by assumption) (by decide)) fun _ _ => ?_
    | with_reducible refine pc_put (eqF.sL (by assumption) (by decide)) fun _ _ => ?_
    | with_reducible refine pc_put (eqF.sR (by assumption) (by decide)) fun _ _ => ?_
    | with_reducible refine pc_stN (by decide) (by assumption) fun _ _ => ?_
    | with_reducible refine pc_stL (by decide) (by assumption) fun _ _ => ?_
    | with_reducible refine pc_stR (by decide) (by assumption) fun _ _ => ?_
    | with_reducible refine pc_cpN (by decide) (by assumption) fun _ _ => ?_
    | with_reducible refine pc_pure fun _ => ?_
    | exact pc_some (by assumption)
    | exact pc_some (eqF.bX (by assumption))
    | exact pc_some trivial
    | dsimp only
theorem fr_j_X4_goOnBehind_0_29 {m0 : MM} {m : MM} {l0 : Nat} {l4 : Int} {s0 : Int} (h : eqF [3, 4] m0 m) : Pc (j_X4_goOnBehind_0_29 m l0 l4 s0) (RF [3, 4] m0) := by
  unfold j_X4_goOnBehind_0_29
  repeat' first
    | with_reducible exact pc_x0
    | with_reducible exact pc_xt (by assumption)
    | with_reducible exact pc_xr (by assumption)
    | with_reducible exact fr_j_X4_goOnBehind_0_50 (by assumption)
    | with_reducible refine pc_nk fun _ => ?_
    | with_reducible refine pc_if ?_ ?_
    | with_reducible refine pc_ck ?_
    | with_reducible refine pc_cb ?_
    | with_reducible refine pc_dv ?_
    | with_reducible refine pc_let fun _ => ?_
    | with_reducible refine pc_letL fun _ => ?_
    | with_reducible refine pc_ldN fun _ => ?_
    | with_reducible refine pc_ldL fun _ => ?_
    | with_reducible refine pc_ldR fun _ => ?_
    | with_reducible refine pc_put (eqF.sN (by assumption) (by decide)) fun _ _ => ?_
    | with_reducible refine pc_put (eqF.sL (by assumption) (by decide)) fun _ _ => ?_
    | with_reducible refine pc_put (eqF.sR (by assumption) (by decide)) fun _ _ => ?_
    | with_reducible refine pc_stN (by decide) (by assumption) fun _ _ => ?_
    | with_reducible refine pc_stL (by decide) (by assumption) fun _ _ => ?_
    | with_reducible refine pc_stR (by decide) (by assumption) fun _ _ => ?_
    | with_reducible refine pc_cpN (by decide) (by assumption) fun _ _ => ?_
    | with_reducible refine pc_pure fun _ => ?_
    | exact pc_some (by assumption)
    | exact pc_some (eqF.bX (by assumption))
    | exact pc_some trivial
    | dsimp only
theorem fr_j_X4_goOnBehind_0_28 {m0 : MM} {m : MM} {l0 : Nat} {l4 : Int} (h : eqF [3, 4] m0 m) : Pc (j_X4_goOnBehind_0_28 m l0 l4) (RF [3, 4] m0) := by
  unfold j_X4_goOnBehind_0_28
  repeat' first
    | with_reducible exact pc_x0
    | with_reducible exact pc_xt (by assumption)
    | with_reducible exact pc_xr (by assumption)
    | with_reducible exact fr_j_X4_goOnBehind_0_29 (by assumption)
    | with_reducible refine pc_nk fun _ => ?_
    | with_reducible refine pc_if ?_ ?_
    | with_reducible refine pc_ck ?_
    | with_reducible refine pc_cb ?_
    | with_reducible refine pc_dv ?_
    | with_reducible refine pc_let fun _ => ?_
    | with_reducible refine pc_letL fun _ => ?_
    | with_reducible refine pc_ldN fun _ => ?_
    | with_reducible refine pc_ldL fun _ => ?_
    | with_reducible refine pc_ldR fun _ => ?_
    | with_reducible refine pc_put (eqF.sN (by assumption) (by decide)) fun _ _ => ?_
    | with_reducible refine pc_put (eqF.sL (by assumption) (by decide)) fun _ _ => ?_
    | with_reducible refine pc_put (eqF.sR (by assumption) (by decide)) fun _ _ => ?_
    | with_reducible refine pc_stN (by decide) (by assumption) fun _ _ => ?_
    | with_reducible refine pc_stL (by decide) (by assumption) fun _ _ => ?_
    | with_reducible refine pc_stR (by decide) (by assumption) fun _ _ => ?_
    | with_reducible refine pc_cpN (by decide) (by assumption) fun _ _ => ?_
    | with_reducible refine pc_pure fun _ => ?_
    | exact pc_some (by assumption)
    | exact pc_some (eqF.bX (by assumption))
    | exact pc_some trivial
    | dsimp only
theorem fr_f_X4_goOnBehind {m0 : MM} {m : MM} {l0 : Nat} {l1 : Nat} {l2 : Nat} {l3 : Int} (h : eqF [3, 4] m0 m) : Pc (f_X4_goOnBehind m l0 l1 l2 l3) (RF [3, 4] m0) := by
  unfold f_X4_goOnBehind
  repeat' first
    | with_reducible exact pc_x0
    | with_reducible exact pc_xt (by assumption)
    | with_reducible exact pc_xr (by assumption)
    | with_reducible exact fr_j_X4_goOnBehind_0_28 (by assumption)
    | with_reducible exact fr_j_X4_goOnBehind_0_29 (by assumption)
    | with_reducible refine pc_nk fun _ => ?_
    | with_reducible refine pc_if ?_ ?_
    | with_reducible refine pc_ck ?_
    | with_reducible refine pc_cb ?_
    | with_reducible refine pc_dv ?_
    | with_reducible refine pc_let fun _ => ?_
    | with_reducible refine pc_letL fun _ => ?_
    | with_reducible refine pc_ldN fun _ => ?_
    | with_reducible refine pc_ldL fun _ => ?_
    | with_reducible refine pc_ldR fun _ => ?_
    | with_reducible refine pc_put (eqF.sN (by assumption) (by decide)) fun _ _ => ?_
    | with_reducible refine pc_put (eqF.sL (by assumption) (by decide)) fun _ _ => ?_
    | with_reducible refine pc_put (eqF.sR (by assumption) (by decide)) fun _ _ => ?_
    | with_reducible refine pc_stN (by decide) (by assumption) fun _ _ => ?_
    | with_reducible refine pc_stL (by decide) (by assumption) fun _ _ => ?_
    | with_reducible refine pc_stR (by decide) (by assumption) fun _ _ => ?_
    | with_reducible refine pc_cpN (by decide) (by assumption) fun _ _ => ?_
    | with_reducible refine pc_bI (fr_f_X3_skipsNow (m0 := _) eqF.rf) (by decide) (by assumption) (fun _ _ _ => ?_) (fun _ _ _ => ?_)
    | with_reducible refine pc_pure fun _ => ?_
    | exact pc_some (by assumption)
    | exact pc_some (eqF.bX (by assumption))
    | exact pc_some trivial
    | dsimp only
theorem fr_j_X4_takeLine_29_171 {m0 : MM} {m : MM} {l0 : Nat} {l1 : Nat} {l2 : Nat} {l3 : Int} {l4 : Int} {l5 : Int} {l7 : Int} {s0 : Int} (h : eqF [3, 4, 27, 28, 29, 31, 32, 33] m0 m) : Pc (j_X4_takeLine_29_171 m l0 l1 l2 l3 l4 l5 l7 s0) (fun z => Sum.elim (fun s => eqF [3, 4, 27, 28, 29, 31, 32, 33] m0 s.2.2.2) (fun z => eqF [3, 4, 27, 28, 29, 31, 32, 33] m0 z.2) z) := by
  unfold j_X4_takeLine_29_171
  repeat' first
    | with_reducible exact pc_x0
    | with_reducible exact pc_xt (by assumption)
    | with_reducible exact pc_xr (by assumption)
    | with_reducible refine pc_nk fun _ => ?_
    | with_reducible refine pc_if ?_ ?_
    | with_reducible refine pc_ck ?_
    | with_reducible refine pc_cb ?_
    | with_reducible refine pc_dv ?_
    | with_reducible refine pc_let fun _ => ?_
    | with_reducible refine pc_letL fun _ => ?_
    | with_reducible refine pc_ldN fun _ => ?_
    | with_reducible refine pc_ldL fun _ => ?_
    | with_reducible refine pc_ldR fun _ => ?_
    | with_reducible refine pc_put (eqF.sN (by assumption) (by decide)) fun _ _ => ?_
    | with_reducible refine pc_put (eqF.sL (by assumption) (by decide)) fun _ _ => ?_
    | with_reducible refine pc_put (eqF.sR (by assumption) (by decide)) fun _ _ => ?_
    | with_reducible refine pc_stN (by decide) (by assumption) fun _ _ => ?_
    | with_reducible refine pc_stL (by decide) (by assumption) fun _ _ => ?_
    | with_reducible refine pc_stR (by decide) (by assumption) fun _ _ => ?_
    | with_reducible refine pc_cpN (by decide) (by assumption) fun _ _ => ?_
    | with_reducible refine pc_bV (fr_f_X4_goOnBehind (m0 := _) eqF.rf) (by decide) (by assumption) (fun _ _ => ?_) (fun _ _ _ => ?_)
    | with_reducible refine pc_pure fun _ => ?_
    | exact pc_some (by assumption)
    | exact pc_some (eqF.bX (by assumption))
    | exact pc_some trivial
    | dsimp only
theorem fr_j_X4_takeLine_29_121 {m0 : MM} {m : MM} {l0 : Nat} {l1 : Nat} {l2 : Nat} {l3 : Int} {l4 : Int} {l5 : Int} {l7 : Int} {l8 : Int} {l9 : Int} {l10 : Int} {s0 : Nat} {s1 : Int} {s2 : Int} (h : eqF [3, 4, 27, 28, 29, 31, 32, 33] m0 m) : Pc (j_X4_takeLine_29_121 m l0 l1 l2 l3 l4 l5 l7 l8 l9 l10 s0 s1 s2) (fun z => Sum.elim (fun s => eqF [3, 4, 27, 28, 29, 31, 32, 33] m0 s.2.2.2) (fun z => eqF [3, 4, 27, 28, 29, 31, 32, 33] m0 z.2) z) := by
  unfold j_X4_takeLine_29_121
  repeat' first
    | with_reducible exact pc_x0
    | with_reducible exact pc_xt (by assumption)
    | with_reducible exact pc_xr (by assumption)
    | with_reducible exact fr_j_X4_takeLine_29_171 (by assumption)
    | with_reducible refine pc_nk fun _ => ?_
    | with_reducible refine pc_if ?_ ?_
    | with_reducible refine pc_ck ?_
    | with_reducible refine pc_cb ?_
    | with_reducible refine pc_dv ?_
    | with_reducible refine pc_let fun _ => ?_
    | with_reducible refine pc_letL fun _ => ?_
    | with_reducible refine pc_ldN fun _ => ?_
    | with_reducible refine pc_ldL fun _ => ?_
    | with_reducible refine pc_ldR fun _ => ?_
    | with_reducible refine pc_put (eqF.sN (by assumption) (by decide)) fun _ _ => ?_
    | with_reducible refine pc_put (eqF.sL (by assumption) (by decide)) fun _ _ => ?_
    | with_reducible refine pc_put (eqF.sR (by assumption) (by decide)) fun _ _ => ?_
    | with_reducible refine pc_stN (by decide) (by assumption) fun _ _ => ?_
    | with_reducible refine pc_stL (by decide) (by assumption) fun _ _ => ?_
    | with_reducible refine pc_stR (by decide) (by assumption) fun _ _ => ?_
    | with_reducible refine pc_cpN (by decide) (by assumption) fun _ _ => ?_
    | with_reducible refine pc_bV (fr_f_X4_addWord (m0 := _) eqF.rf) (by decide) (by assumption) (fun _ _ => ?_) (fun _ _ _ => ?_)
    | with_reducible refine pc_pure fun _ => ?_
    | exact pc_some (by assumption)
    | exact pc_some (eqF.bX (by assumption))
    | exact pc_some trivial
    | dsimp only
theorem fr_j_X4_takeLine_29_73 {m0 : MM} {m : MM} {l0 : Nat} {l1 : Nat} {l2 : Nat} {l3 : Int} {l4 : Int} {l5 : Int} {l7 : Int} {s0 : Int} (h : eqF [3, 4, 27, 28, 29, 31, 32, 33] m0 m) : Pc (j_X4_takeLine_29_73 m l0 l1 l2 l3 l4 l5 l7 s0) (fun z => Sum.elim (fun s => eqF [3, 4, 27, 28, 29, 31, 32, 33] m0 s.2.2.2) (fun z => eqF [3, 4, 27, 28, 29, 31, 32, 33] m0 z.2) z) := by
  unfold j_X4_takeLine_29_73
  repeat' first
    | with_reducible exact pc_x0
    | with_reducible exact pc_xt (by assumption)
    | with_reducible exact pc_xr (by assumption)
    | with_reducible exact fr_j_X4_takeLine_29_121 (by assumption)
    | with_reducible refine pc_nk fun _ => ?_
    | with_reducible refine pc_if ?_ ?_
    | with_reducible refine pc_ck ?_
    | with_reducible refine pc_cb ?_
    | with_reducible refine pc_dv ?_
    | with_reducible refine pc_let fun _ => ?_
    | with_reducible refine pc_letL fun _ => ?_
    | with_reducible refine pc_ldN fun _ => ?_
    | with_reducible refine pc_ldL fun _ => ?_
    | with_reducible refine pc_ldR fun _ => ?_
    | with_reducible refine pc_put (eqF.sN (by assumption) (by decide)) fun _ _ => ?_
    | with_reducible refine pc_put (eqF.sL (by assumption) (by decide)) fun _ _ => ?_
    | with_reducible refine pc_put (eqF.sR (by assumption) (by decide)) fun _ _ => ?_
    | with_reducible refine pc_stN (by decide) (by assumption) fun _ _ => ?_
    | with_reducible refine pc_stL (by decide) (by assumption) fun _ _ => ?_
    | with_reducible refine pc_stR (by decide) (by assumption) fun _ _ => ?_
    | with_reducible refine pc_cpN (by decide) (by assumption) fun _ _ => ?_
    | with_reducible refine pc_pure fun _ => ?_
    | exact pc_some (by assumption)
    | exact pc_some (eqF.bX (by assumption))
    | exact pc_some trivial
    | dsimp only
theorem fr_b_X4_takeLine_29 {m0 : MM} {l0 : Nat} {l1 : Nat} {l2 : Nat} {l3 : Int} {l4 : Int} {l5 : Int} {l6 : Int} {l7 : Int} {mm : MM} (h : eqF [3, 4, 27, 28, 29, 31, 32, 33] m0 mm) : Pc (b_X4_takeLine_29 l0 l1 l2 l3 l4 l5 l6 l7 mm) (fun z => Sum.elim (fun s => eqF [3, 4, 27, 28, 29, 31, 32, 33] m0 s.2.2.2) (fun z => eqF [3, 4, 27, 28, 29, 31, 32, 33] m0 z.2) z) := by
  unfold b_X4_takeLine_29
  repeat' first
    | with_reducible exact pc_x0
    | with_reducible exact pc_xt (by assumption)
    | with_reducible exact pc_xr (by assumption)
    | with_reducible exact fr_j_X4_takeLine_29_73 (by assumption)
    | with_reducible refine pc_nk fun _ => ?_
    | with_reducible refine pc_if ?_ ?_
    | with_reducible refine pc_ck ?_
    | with_reducible refine pc_cb ?_
    | with_reducible refine pc_dv ?_
    | with_reducible refine pc_let fun _ => ?_
    | with_reducible refine pc_letL fun _ => ?_
    | with_reducible refine pc_ldN fun _ => ?_
    | with_reducible refine pc_ldL fun _ => ?_
    | with_reducible refine pc_ldR fun _ => ?_
    | with_reducible refine pc_put (eqF.sN (by assumption) (by decide)) fun _ _ => ?_
    | with_reducible refine pc_put (eqF.sL (by assumption) (by decide)) fun _ _ => ?_
    | with_reducible refine pc_put (eqF.sR (by assumption) (by decide)) fun _ _ => ?_
    | with_reducible refine pc_stN (by decide) (by assumption) fun _ _ => ?_
    | with_reducible refine pc_stL (by decide) (by assumption) fun _ _ => ?_
    | with_reducible refine pc_stR (by decide) (by assumption) fun _ _ => ?_
    | with_reducible refine pc_cpN (by decide) (by assumption) fun _ _ => ?_
    | with_reducible refine pc_pure fun _ => ?_
    | exact pc_some (by assumption)
    | exact pc_some (eqF.bX (by assumption))
    | exact pc_some trivial
    | dsimp only
theorem fr_j_X4_takeLine_0_187 {m0 : MM} {m : MM} {l0 : Nat} {l3 : Int} {l5 : Int} (h : eqF [3, 4, 27, 28, 29, 31, 32, 33] m0 m) : Pc (j_X4_takeLine_0_187 m l0 l3 l5) (RF [3, 4, 27, 28, 29, 31, 32, 33] m0) := by
  unfold j_X4_takeLine_0_187
  repeat' first
    | with_reducible exact pc_x0
    | with_reducible exact pc_xt (by assumption)
    | with_reducible exact pc_xr (by assumption)
    | with_reducible refine pc_nk fun _ => ?_
    | with_reducible refine pc_if ?_ ?_
    | with_reducible refine pc_ck ?_
    | with_reducible refine pc_cb ?_
    | with_reducible refine pc_dv ?_
    | with_reducible refine pc_let fun _ => ?_
    | with_reducible refine pc_letL fun _ => ?_
    | with_reducible refine pc_ldN fun _ => ?_
    | with_reducible refine pc_ldL fun _ => ?_
    | with_reducible refine pc_ldR fun _ => ?_
    | with_reducible refine pc_put (eqF.sN (by assumption) (by decide)) fun _ _ => ?_
    | with_reducible refine pc_put (eqF.sL (by assumption) (by decide)) fun _ _ => ?_
    | with_reducible refine pc_put (eqF.sR (by assumption) (by decide)) fun _ _ => ?_
    | with_reducible refine pc_stN (by decide) (by assumption) fun _ _ => ?_
    | with_reducible refine pc_stL (by decide) (by assumption) fun _ _ => ?_
    | with_reducible refine pc_stR (by decide) (by assumption) fun _ _ => ?_
    | with_reducible refine pc_cpN (by decide) (by assumption) fun _ _ => ?_
    | with_reducible refine pc_pure fun _ => ?_
    | exact pc_some (by assumption)
    | exact pc_some (eqF.bX (by assumption))
    | exact pc_some trivial
    | dsimp only
theorem fr_f_X4_takeLine {m0 : MM} {m : MM} {l0 : Nat} {l1 : Nat} {l2 : Nat} {l3 : Int} {l4 : Int} (h : eqF [3, 4, 27, 28, 29, 31, 32, 33] m0 m) : Pc (f_X4_takeLine m l0 l1 l2 l3 l4) (RF [3, 4, 27, 28, 29, 31, 32, 33] m0) := by
  unfold f_X4_takeLine
  repeat' first
    | with_reducible exact pc_x0
    | with_reducible exact pc_xt (by assumption)
    | with_reducible exact pc_xr (by assumption)
    | with_reducible exact fr_j_X4_takeLine_0_187 (by assumption)
    | with_reducible refine pc_nk fun _ => ?_
    | with_reducible refine pc_if ?_ ?_
    | with_reducible refine pc_ck ?_
    | with_reducible refine pc_cb ?_
    | with_reducible refine pc_dv ?_
    | with_reducible refine pc_let fun _ => ?_
    | with_reducible refine pc_letL fun _ => ?_
    | with_reducible refine pc_ldN fun _ => ?_
    | with_reducible refine pc_ldL fun _ => ?_
    | with_reducible refine pc_ldR fun _ => ?_
    | with_reducible refine pc_put (eqF.sN (by assumption) (by decide)) fun _ _ => ?_
    | with_reducible refine pc_put (eqF.sL (by assumption) (by decide)) fun _ _ => ?_
    | with_reducible refine pc_put (eqF.sR (by assumption) (by decide)) fun _ _ => ?_
    | with_reducible refine pc_stN (by decide) (by assumption) fun _ _ => ?_
    | with_reducible refine pc_stL (by decide) (by assumption) fun _ _ => ?_
    | with_reducible refine pc_stR (by decide) (by assumption) fun _ _ => ?_
    | with_reducible refine pc_cpN (by decide) (by assumption) fun _ _ => ?_
    | with_reducible refine pc_lp (fun s => eqF [3, 4, 27, 28, 29, 31, 32, 33] m0 s.2.2.2) (fun z => eqF [3, 4, 27, 28, 29, 31, 32, 33] m0 z.2) (by assumption) (fun s hs => fr_b_X4_takeLine_29 hs) (fun z hz => ?_)
    | with_reducible refine pc_pure fun _ => ?_
    | exact pc_some (by assumption)
    | exact pc_some (eqF.bX (by assumption))
    | exact pc_some trivial
    | dsimp only
theorem fr_b_X4_takeLines_18 {m0 : MM} {l0 : Nat} {l1 : Nat} {l2 : Nat} {l4 : Int} {l5 : Int} {mm : MM} (h : eqF [3, 4, 27, 28, 29, 31, 32, 33] m0 mm) : Pc (b_X4_takeLines_18 l0 l1 l2 l4 l5 mm) (fun z => Sum.elim (fun s => eqF [3, 4, 27, 28, 29, 31, 32, 33] m0 s.2) (fun z => eqF [3, 4, 27, 28, 29, 31, 32, 33] m0 z) z) := by
  unfold b_X4_takeLines_18
  repeat' first
    | with_reducible exact pc_x0
    | with_reducible exact pc_xt (by assumption)
    | with_reducible exact pc_xr (by assumption)
    | with_reducible refine pc_nk fun _ => ?_
    | with_reducible refine pc_if ?_ ?_
    | with_reducible refine pc_ck ?_
    | with_reducible refine pc_cb ?_
    | with_reducible refine pc_dv ?_
    | with_reducible refine pc_let fun _ => ?_
    | with_reducible refine pc_letL fun _ => ?_
    | with_reducible refine pc_ldN fun _ => ?_
    | with_reducible refine pc_ldL fun _ => ?_
    | with_reducible refine pc_ldR fun _ => ?_
    | with_reducible refine pc_put (eqF.sN (by assumption) (by decide)) fun _ _ => ?_
    | with_reducible refine pc_put (eqF.sL (by assumption) (by decide)) fun _ _ => ?_
    | with_reducible refine pc_put (eqF.sR (by assumption) (by decide)) fun _ _ => ?_
    | with_reducible refine pc_stN (by decide) (by assumption) fun _ _ => ?_
    | with_reducible refine pc_stL (by decide) (by assumption) fun _ _ => ?_
    | with_reducible refine pc_stR (by decide) (by assumption) fun _ _ => ?_
    | with_reducible refine pc_cpN (by decide) (by assumption) fun _ _ => ?_
    | with_reducible refine pc_bV (fr_f_X4_takeLine (m0 := _) eqF.rf) (by decide) (by assumption) (fun _ _ => ?_) (fun _ _ _ => ?_)
    | with_reducible refine pc_pure fun _ => ?_
    | exact pc_some (by assumption)
    | exact pc_some (eqF.bX (by assumption))
    | exact pc_some trivial
    | dsimp only
theorem fr_j_X4_takeLines_0_63 {m0 : MM} {m : MM} (h : eqF [3, 4, 27, 28, 29, 31, 32, 33] m0 m) : Pc (j_X4_takeLines_0_63 m) (RF [3, 4, 27, 28, 29, 31, 32, 33] m0) := by
  unfold j_X4_takeLines_0_63
  repeat' first
    | with_reducible exact pc_x0
    | with_reducible exact pc_xt (by assumption)
    | with_reducible exact pc_xr (by assumption)
    | with_reducible refine pc_nk fun _ => ?_
    | with_reducible refine pc_if ?_ ?_
    | with_reducible refine pc_ck ?_
    | with_reducible refine pc_cb ?_
    | with_reducible refine pc_dv ?_
    | with_reducible refine pc_let fun _ => ?_
    | with_reducible refine pc_letL fun _ => ?_
    | with_reducible refine pc_ldN fun _ => ?_
    | with_reducible refine pc_ldL fun _ => ?_
    | with_reducible refine pc_ldR fun _ => ?_
    | with_reducible refine pc_put (eqF.sN (by assumption) (by decide)) fun _ _ => ?_
    | with_reducible refine pc_put (eqF.sL (by assumption) (by decide)) fun _ _ => ?_
    | with_reducible refine pc_put (eqF.sR (by assumption) (by decide)) fun _ _ => ?_
    | with_reducible refine pc_stN (by decide) (by assumption) fun _ _ => ?_
    | with_reducible refine pc_stL (by decide) (by assumption) fun _ _ => ?_
    | with_reducible refine pc_stR (by decide) (by assumption) fun _ _ => ?_
    | with_reducible refine pc_cpN (by decide) (by assumption) fun _ _ => ?_
    | with_reducible refine pc_pure fun _ => ?_
    | exact pc_some (by assumption)
    | exact pc_some (eqF.bX (by assumption))
    | exact pc_some trivial
    | dsimp only
theorem fr_f_X4_takeLines {m0 : MM} {m : MM} {l0 : Nat} {l1 : Nat} {l2 : Nat} {l3 : Int} {l4 : Int} (h : eqF [3, 4, 27, 28, 29, 31, 32, 33] m0 m) : Pc (f_X4_takeLines m l0 l1 l2 l3 l4) (RF [3, 4, 27, 28, 29, 31, 32, 33] m0) := by
  unfold f_X4_takeLines
  repeat' first
    | with_reducible exact pc_x0
    | with_reducible exact pc_xt (by assumption)
    | with_reducible exact pc_xr (by assumption)
    | with_reducible exact fr_j_X4_takeLines_0_63 (by assumption)
    | with_reducible refine pc_nk fun _ => ?_
    | with_reducible refine pc_if ?_ ?_
    | with_reducible refine pc_ck ?_
    | with_reducible refine pc_cb ?_
    | with_reducible refine pc_dv ?_
    | with_reducible refine pc_let fun _ => ?_
    | with_reducible refine pc_letL fun _ => ?_
    | with_reducible refine pc_ldN fun _ => ?_
    | with_reducible refine pc_ldL fun _ => ?_
    | with_reducible refine pc_ldR fun _ => ?_
    | with_reducible refine pc_put (eqF.sN (by assumption) (by decide)) fun _ _ => ?_
    | with_reducible refine pc_put (eqF.sL (by assumption) (by decide)) fun _ _ => ?_
    | with_reducible refine pc_put (eqF.sR (by assumption) (by decide)) fun _ _ => ?_
    | with_reducible refine pc_stN (by decide) (by assumption) fun _ _ => ?_
    | with_reducible refine pc_stL (by decide) (by assumption) fun _ _ => ?_
    | with_reducible refine pc_stR (by decide) (by assumption) fun _ _ => ?_
    | with_reducible refine pc_cpN (by decide) (by assumption) fun _ _ => ?_
    | with_reducible refine pc_lp (fun s => eqF [3, 4, 27, 28, 29, 31, 32, 33] m0 s.2) (fun z => eqF [3, 4, 27, 28, 29, 31, 32, 33] m0 z) (by assumption) (fun s hs => fr_b_X4_takeLines_18 hs) (fun z hz => ?_)
    | with_reducible refine pc_pure fun _ => ?_
    | exact pc_some (by assumption)
    | exact pc_some (eqF.bX (by assumption))
    | exact pc_some trivial
    | dsimp only
theorem fr_b_X4_compose_63 {m0 : MM} {l0 : Nat} {l1 : Nat} {l7 : Int} {mm : MM} (h : eqF [3, 4, 27, 28, 29, 31, 32, 33] m0 mm) : Pc (b_X4_compose_63 l0 l1 l7 mm) (fun z => Sum.elim (fun s => eqF [3, 4, 27, 28, 29, 31, 32, 33] m0 s.2) (fun z => eqF [3, 4, 27, 28, 29, 31, 32, 33] m0 z) z) := by
  unfold b_X4_compose_63
  repeat' first
    | with_reducible exact pc_x0
    | with_reducible exact pc_xt (by assumption)
    | with_reducible exact pc_xr (by assumption)
    | with_reducible refine pc_nk fun _ => ?_
    | with_reducible refine pc_if ?_ ?_
    | with_reducible refine pc_ck ?_
    | with_reducible refine pc_cb ?_
    | with_reducible refine pc_dv ?_
    | with_reducible refine pc_let fun _ => ?_
    | with_reducible refine pc_letL fun _ => ?_
    | with_reducible refine pc_ldN fun _ => ?_
    | with_reducible refine pc_ldL fun _ => ?_
    | with_reducible refine pc_ldR fun _ => ?_
    | with_reducible refine pc_put (eqF.sN (by assumption) (by decide)) fun _ _ => ?_
    | with_reducible refine pc_put (eqF.sL (by assumption) (by decide)) fun _ _ => ?_
    | with_reducible refine pc_put (eqF.sR (by assumption) (by decide)) fun _ _ => ?_
    | with_reducible refine pc_stN (by decide) (by assumption) fun _ _ => ?_
    | with_reducible refine pc_stL (by decide) (by assumption) fun _ _ => ?_
    | with_reducible refine pc_stR (by decide) (by assumption) fun _ _ => ?_
    | with_reducible refine pc_cpN (by decide) (by assumption) fun _ _ => ?_
    | with_reducible refine pc_bV (fr_f_X4_fillOut (m0 := _) eqF.rf) (by decide) (by assumption) (fun _ _ => ?_) (fun _ _ _ => ?_)
    | with_reducible refine pc_pure fun _ => ?_
    | exact pc_some (by assumption)
    | exact pc_some (eqF.bX (by assumption))
    | exact pc_some trivial
    | dsimp only
theorem fr_j_X4_compose_0_85 {m0 : MM} {m : MM} (h : eqF [3, 4, 27, 28, 29, 31, 32, 33] m0 m) : Pc (j_X4_compose_0_85 m) (RF [3, 4, 27, 28, 29, 31, 32, 33] m0) := by
  unfold j_X4_compose_0_85
  repeat' first
    | with_reducible exact pc_x0
    | with_reducible exact pc_xt (by assumption)
    | with_reducible exact pc_xr (by assumption)
    | with_reducible refine pc_nk fun _ => ?_
    | with_reducible refine pc_if ?_ ?_
    | with_reducible refine pc_ck ?_
    | with_reducible refine pc_cb ?_
    | with_reducible refine pc_dv ?_
    | with_reducible refine pc_let fun _ => ?_
    | with_reducible refine pc_letL fun _ => ?_
    | with_reducible refine pc_ldN fun _ => ?_
    | with_reducible refine pc_ldL fun _ => ?_
    | with_reducible refine pc_ldR fun _ => ?_
    | with_reducible refine pc_put (eqF.sN (by assumption) (by decide)) fun _ _ => ?_
    | with_reducible refine pc_put (eqF.sL (by assumption) (by decide)) fun _ _ => ?_
    | with_reducible refine pc_put (eqF.sR (by assumption) (by decide)) fun _ _ => ?_
    | with_reducible refine pc_stN (by decide) (by assumption) fun _ _ => ?_
    | with_reducible refine pc_stL (by decide) (by assumption) fun _ _ => ?_
    | with_reducible refine pc_stR (by decide) (by assumption) fun _ _ => ?_
    | with_reducible refine pc_cpN (by decide) (by assumption) fun _ _ => ?_
    | with_reducible refine pc_pure fun _ => ?_
    | exact pc_some (by assumption)
    | exact pc_some (eqF.bX (by assumption))
    | exact pc_some trivial
    | dsimp only
theorem fr_j_X4_compose_0_60 {m0 : MM} {m : MM} {l0 : Nat} {l1 : Nat} (h : eqF [3, 4, 27, 28, 29, 31, 32, 33] m0 m) : Pc (j_X4_compose_0_60 m l0 l1) (RF [3, 4, 27, 28, 29, 31, 32, 33] m0) := by
  unfold j_X4_compose_0_60
  repeat' first
    | with_reducible exact pc_x0
    | with_reducible exact pc_xt (by assumption)
    | with_reducible exact pc_xr (by assumption)
    | with_reducible exact fr_j_X4_compose_0_85 (by assumption)
    | with_reducible refine pc_nk fun _ => ?_
    | with_reducible refine pc_if ?_ ?_
    | with_reducible refine pc_ck ?_
    | with_reducible refine pc_cb ?_
    | with_reducible refine pc_dv ?_
    | with_reducible refine pc_let fun _ => ?_
    | with_reducible refine pc_letL fun _ => ?_
    | with_reducible refine pc_ldN fun _ => ?_
    | with_reducible refine pc_ldL fun _ => ?_
    | with_reducible refine pc_ldR fun _ => ?_
    | with_reducible refine pc_put (eqF.sN (by assumption) (by decide)) fun _ _ => ?_
    | with_reducible refine pc_put (eqF.sL (by assumption) (by decide)) fun _ _ => ?_
    | with_reducible refine pc_put (eqF.sR (by assumption) (by decide)) fun _ _ => ?_
    | with_reducible refine pc_stN (by decide) (by assumption) fun _ _ => ?_
    | with_reducible refine pc_stL (by decide) (by assumption) fun _ _ => ?_
    | with_reducible refine pc_stR (by decide) (by assumption) fun _ _ => ?_
    | with_reducible refine pc_cpN (by decide) (by assumption) fun _ _ => ?_
    | with_reducible refine pc_lp (fun s => eqF [3, 4, 27, 28, 29, 31, 32, 33] m0 s.2) (fun z => eqF [3, 4, 27, 28, 29, 31, 32, 33] m0 z) (by assumption) (fun s hs => fr_b_X4_compose_63 hs) (fun z hz => ?_)
    | with_reducible refine pc_pure fun _ => ?_
    | exact pc_some (by assumption)
    | exact pc_some (eqF.bX (by assumption))
    | exact pc_some trivial
    | dsimp only
theorem fr_f_X4_compose {m0 : MM} {m : MM} {l0 : Nat} {l1 : Nat} {l2 : Nat} {l3 : Int} {l4 : Int} {l5 : Int} (h : eqF [3, 4, 27, 28, 29, 31, 32, 33] m0 m) : Pc (f_X4_compose m l0 l1 l2 l3 l4 l5) (RF [3, 4, 27, 28, 29, 31, 32, 33] m0) := by
  unfold f_X4_compose
  repeat' first
    | with_reducible exact pc_x0
    | with_reducible exact pc_xt (by assumption)
    | with_reducible exact pc_xr (by assumption)
    | with_reducible exact fr_j_X4_compose_0_60 (by assumption)
    | with_reducible refine pc_nk fun _ => ?_
    | with_reducible refine pc_if ?_ ?_
    | with_reducible refine pc_ck ?_
    | with_reducible refine pc_cb ?_
    | with_reducible refine pc_dv ?_
    | with_reducible refine pc_let fun _ => ?_
    | with_reducible refine pc_letL fun _ => ?_
    | with_reducible refine pc_ldN fun _ => ?_
    | with_reducible refine pc_ldL fun _ => ?_
    | with_reducible refine pc_ldR fun _ => ?_
    | with_reducible refine pc_put (eqF.sN (by assumption) (by decide)) fun _ _ => ?_
    | with_reducible refine pc_put (eqF.sL (by assumption) (by decide)) fun _ _ => ?_
    | with_reducible refine pc_put (eqF.sR (by assumption) (by decide)) fun _ _ => ?_
    | with_reducible refine pc_stN (by decide) (by assumption) fun _ _ => ?_
    | with_reducible refine pc_stL (by decide) (by assumption) fun _ _ => ?_
    | with_reducible refine pc_stR (by decide) (by assumption) fun _ _ => ?_
    | with_reducible refine pc_cpN (by decide) (by assumption) fun _ _ => ?_
    | with_reducible refine pc_bV (fr_f_X4_takeLines (m0 := _) eqF.rf) (by decide) (by assumption) (fun _ _ => ?_) (fun _ _ _ => ?_)
    | with_reducible refine pc_pure fun _ => ?_
    | exact pc_some (by assumption)
    | exact pc_some (eqF.bX (by assumption))
    | exact pc_some trivial
    | dsimp only
theorem fr_j_X5_fillNext_0_159 {m0 : MM} {m : MM} {l0 : Nat} {l5 : Int} {s0 : Nat} {s1 : Int} {s2 : Int} (h : eqF [5, 22, 24, 34, 35, 36, 38] m0 m) : Pc (j_X5_fillNext_0_159 m l0 l5 s0 s1 s2) (RF [5, 22, 24, 34, 35, 36, 38] m0) := by
  unfold j_X5_fillNext_0_159
  repeat' first
    | with_reducible exact pc_x0
    | with_reducible exact pc_xt (by assumption)
    | with_reducible exact pc_xr (by assumption)
    | with_reducible refine pc_nk fun _ => ?_
    | with_reducible refine pc_if ?_ ?_
    | with_reducible refine pc_ck ?_
    | with_reducible refine pc_cb ?_
    | with_reducible refine pc_dv ?_
    | with_reducible refine pc_let fun _ => ?_
    | with_reducible refine pc_letL fun _ => ?_
    | with_reducible refine pc_ldN fun _ => ?_
    | with_reducible refine pc_ldL fun _ => ?_
    | with_reducible refine pc_ldR fun _ => ?_
    | with_reducible refine pc_put (eqF.sN (by assumption) (by decide)) fun _ _ => ?_
    | with_reducible refine pc_put (eqF.sL (by assumption) (by decide)) fun _ _ => ?_
    | with_reducible refine pc_put (eqF.sR (by assumption) (by decide)) fun _ _ => ?_
    | with_reducible refine pc_stN (by decide) (by assumption) fun _ _ => ?_
    | with_reducible refine pc_stL (by decide) (by assumption) fun _ _ => ?_
    | with_reducible refine pc_stR (by decide) (by assumption) fun _ _ => ?_
    | with_reducible refine pc_cpN (by decide) (by assumption) fun _ _ => ?_
    | with_reducible refine pc_pure fun _ => ?_
    | exact pc_some (by assumption)
    | exact pc_some (eqF.bX (by assumption))
    | exact pc_some trivial
    | dsimp only
theorem fr_j_X5_fillNext_0_157 {m0 : MM} {m : MM} {l0 : Nat} {l5 : Int} {l8 : Int} {s0 : Nat} {s1 : Int} (h : eqF [5, 22, 24, 34, 35, 36, 38] m0 m) : Pc (j_X5_fillNext_0_157 m l0 l5 l8 s0 s1) (RF [5, 22, 24, 34, 35, 36, 38] m0) := by
  unfold j_X5_fillNext_0_157
  repeat' first
    | with_reducible exact pc_x0
    | with_reducible exact pc_xt (by assumption)
    | with_reducible exact pc_xr (by assumption)
    | with_reducible exact fr_j_X5_fillNext_0_159 (by assumption)
    | with_reducible refine pc_nk fun _ => ?_
    | with_reducible refine pc_if ?_ ?_
    | with_reducible refine pc_ck ?_
    | with_reducible refine pc_cb ?_
    | with_reducible refine pc_dv ?_
    | with_reducible refine pc_let fun _ => ?_
    | with_reducible refine pc_letL fun _ => ?_
    | with_reducible refine pc_ldN fun _ => ?_
    | with_reducible refine pc_ldL fun _ => ?_
    | with_reducible refine pc_ldR fun _ => ?_
    | with_reducible refine pc_put (eqF.sN (by assumption) (by decide)) fun _ _ => ?_
    | with_reducible refine pc_put (eqF.sL (by assumption) (by decide)) fun _ _ => ?_
    | with_reducible refine pc_put (eqF.sR (by assumption) (by decide)) fun _ _ => ?_
    | with_reducible refine pc_stN (by decide) (by assumption) fun _ _ => ?_
    | with_reducible refine pc_stL (by decide) (by assumption) fun _ _ => ?_
    | with_reducible refine pc_stR (by decide) (by assumption) fun _ _ => ?_
    | with_reducible refine pc_cpN (by decide) (by assumption) fun _ _ => ?_
    | with_reducible refine pc_pure fun _ => ?_
    | exact pc_some (by assumption)
    | exact pc_some (eqF.bX (by assumption))
    | exact pc_some trivial
    | dsimp only
theorem fr_j_X5_fillNext_0_129 {m0 : MM} {m : MM} {l0 : Nat} {l1 : Int} {l4 : Int} {l5 : Int} {l7 : Int} {s0 : Int} (h : eqF [5, 22, 24, 34, 35, 36, 38] m0 m) : Pc (j_X5_fillNext_0_129 m l0 l1 l4 l5 l7 s0) (RF [5, 22, 24, 34, 35, 36, 38] m0) := by
  unfold j_X5_fillNext_0_129
  repeat' first
    | with_reducible exact pc_x0
    | with_reducible exact pc_xt (by assumption)
    | with_reducible exact pc_xr (by assumption)
    | with_reducible exact fr_j_X5_fillNext_0_157 (by assumption)
    | with_reducible exact fr_j_X5_fillNext_0_159 (by assumption)
    | with_reducible refine pc_nk fun _ => ?_
    | with_reducible refine pc_if ?_ ?_
    | with_reducible refine pc_ck ?_
    | with_reducible refine pc_cb ?_
    | with_reducible refine pc_dv ?_
    | with_reducible refine pc_let fun _ => ?_
    | with_reducible refine pc_letL fun _ => ?_
    | with_reducible refine pc_ldN fun _ => ?_
    | with_reducible refine pc_ldL fun _ => ?_
    | with_reducible refine pc_ldR fun _ => ?_
    | with_reducible refine pc_put (eqF.sN (by assumption) (by decide)) fun _ _ => ?_
    | with_reducible refine pc_put (eqF.sL (by assumption) (by decide)) fun _ _ => ?_
    | with_reducible refine pc_put (eqF.sR (by assumption) (by decide)) fun _ _ => ?_
    | with_reducible refine pc_stN (by decide) (by assumption) fun _ _ => ?_
    | with_reducible refine pc_stL (by decide) (by assumption) fun _ _ => ?_
    | with_reducible refine pc_stR (by decide) (by assumption) fun _ _ => ?_
    | with_reducible refine pc_cpN (by decide) (by assumption) fun _ _ => ?_
    | with_reducible refine pc_pure fun _ => ?_
    | exact pc_some (by assumption)
    | exact pc_some (eqF.bX (by assumption))
    | exact pc_some trivial
    | dsimp only
theorem fr_j_X5_fillNext_0_80 {m0 : MM} {m : MM} {l0 : Nat} {l1 : Int} {l2 : Nat} {l4 : Int} {l5 : Int} {l7 : Int} (h : eqF [5, 22, 24, 34, 35, 36, 38] m0 m) : Pc (j_X5_fillNext_0_80 m l0 l1 l2 l4 l5 l7) (RF [5, 22, 24, 34, 35, 36, 38] m0) := by
  unfold j_X5_fillNext_0_80
  repeat' first
    | with_reducible exact pc_x0
    | with_reducible exact pc_xt (by assumption)
    | with_reducible exact pc_xr (by assumption)
    | with_reducible exact fr_j_X5_fillNext_0_129 (by assumption)
    | with_reducible refine pc_nk fun _ => ?_
    | with_reducible refine pc_if ?_ ?_
    | with_reducible refine pc_ck ?_
    | with_reducible refine pc_cb ?_
    | with_reducible refine pc_dv ?_
    | with_reducible refine pc_let fun _ => ?_
    | with_reducible refine pc_letL fun _ => ?_
    | with_reducible refine pc_ldN fun _ => ?_
    | with_reducible refine pc_ldL fun _ => ?_
    | with_reducible refine pc_ldR fun _ => ?_
    | with_reducible refine pc_put (eqF.sN (by assumption) (by decide)) fun _ _ => ?_
    | with_reducible refine pc_put (eqF.sL (by assumption) (by decide)) fun _ _ => ?_
    | with_reducible refine pc_put (eqF.sR (by assumption) (by decide)) fun _ _ => ?_
    | with_reducible refine pc_stN (by decide) (by assumption) fun _ _ => ?_
    | with_reducible refine pc_stL (by decide) (by assumption) fun _ _ => ?_
    | with_reducible refine pc_stR (by decide) (by assumption) fun _ _ => ?_
    | with_reducible refine pc_cpN (by decide) (by assumption) fun _ _ => ?_
    | with_reducible refine pc_pure fun _ => ?_
    | exact pc_some (by assumption)
    | exact pc_some (eqF.bX (by assumption))
    | exact pc_some trivial
    | dsimp only
theorem fr_j_X5_fillNext_0_60 {m0 : MM} {m : MM} {l0 : Nat} {l1 : Int} {l2 : Nat} {l3 : Int} {l4 : Int} {l5 : Int} {l6 : Int} {s0 : Int} (h : eqF [5, 22, 24, 34, 35, 36, 38] m0 m) : Pc (j_X5_fillNext_0_60 m l0 l1 l2 l3 l4 l5 l6 s0) (RF [5, 22, 24, 34, 35, 36, 38] m0) := by
  unfold j_X5_fillNext_0_60
  repeat' first
    | with_reducible exact pc_x0
    | with_reducible exact pc_xt (by assumption)
    | with_reducible exact pc_xr (by assumption)
    | with_reducible exact fr_j_X5_fillNext_0_80 (by assumption)
    | with_reducible refine pc_nk fun _ => ?_
    | with_reducible refine pc_if ?_ ?_
    | with_reducible refine pc_ck ?_
    | with_reducible refine pc_cb ?_
    | with_reducible refine pc_dv ?_
    | with_reducible refine pc_let fun _ => ?_
    | with_reducible refine pc_letL fun _ => ?_
    | with_reducible refine pc_ldN fun _ => ?_
    | with_reducible refine pc_ldL fun _ => ?_
    | with_reducible refine pc_ldR fun _ => ?_
    | with_reducible refine pc_put (eqF.sN (by assumption) (by decide)) fun _ _ => ?_
    | with_reducible refine pc_put (eqF.sL (by assumption) (by decide)) fun _ _ => ?_
    | with_reducible refine pc_put (eqF.sR (by assumption) (by decide)) fun _ _ => ?_
    | with_reducible refine pc_stN (by decide) (by assumption) fun _ _ => ?_
    | with_reducible refine pc_stL (by decide) (by assumption) fun _ _ => ?_
    | with_reducible refine pc_stR (by decide) (by assumption) fun _ _ => ?_
    | with_reducible refine pc_cpN (by decide) (by assumption) fun _ _ => ?_
    | with_reducible refine pc_bI (fr_f_X1_take (m0 := _) eqF.rf) (by decide) (by assumption) (fun _ _ _ => ?_) (fun _ _ _ => ?_)
    | with_reducible refine pc_pure fun _ => ?_
    | exact pc_some (by assumption)
    | exact pc_some (eqF.bX (by assumption))
    | exact pc_some trivial
    | dsimp only
theorem fr_j_X5_fillNext_0_59 {m0 : MM} {m : MM} {l0 : Nat} {l1 : Int} {l2 : Nat} {l3 : Int} {l4 : Int} {l5 : Int} {l6 : Int} (h : eqF [5, 22, 24, 34, 35, 36, 38] m0 m) : Pc (j_X5_fillNext_0_59 m l0 l1 l2 l3 l4 l5 l6) (RF [5, 22, 24, 34, 35, 36, 38] m0) := by
  unfold j_X5_fillNext_0_59
  repeat' first
    | with_reducible exact pc_x0
    | with_reducible exact pc_xt (by assumption)
    | with_reducible exact pc_xr (by assumption)
    | with_reducible exact fr_j_X5_fillNext_0_60 (by assumption)
    | with_reducible refine pc_nk fun _ => ?_
    | with_reducible refine pc_if ?_ ?_
    | with_reducible refine pc_ck ?_
    | with_reducible refine pc_cb ?_
    | with_reducible refine pc_dv ?_
    | with_reducible refine pc_let fun _ => ?_
    | with_reducible refine pc_letL fun _ => ?_
    | with_reducible refine pc_ldN fun _ => ?_
    | with_reducible refine pc_ldL fun _ => ?_
    | with_reducible refine pc_ldR fun _ => ?_
    | with_reducible refine pc_put (eqF.sN (by assumption) (by decide)) fun _ _ => ?_
    | with_reducible refine pc_put (eqF.sL (by assumption) (by decide)) fun _ _ => ?_
    | with_reducible refine pc_put (eqF.sR (by assumption) (by decide)) fun _ _ => ?_
    | with_reducible refine pc_stN (by decide) (by assumption) fun _ _ => ?_
    | with_reducible refine pc_stL (by decide) (by assumption) fun _ _ => ?_
    | with_reducible refine pc_stR (by decide) (by assumption) fun _ _ => ?_
    | with_reducible refine pc_cpN (by decide) (by assumption) fun _ _ => ?_
    | with_reducible refine pc_pure fun _ => ?_
    | exact pc_some (by assumption)
    | exact pc_some (eqF.bX (by assumption))
    | exact pc_some trivial
    | dsimp only
theorem fr_f_X5_fillNext {m0 : MM} {m : MM} {l0 : Nat} {l1 : Int} {l2 : Nat} {l3 : Int} (h : eqF [5, 22, 24, 34, 35, 36, 38] m0 m) : Pc (f_X5_fillNext m l0 l1 l2 l3) (RF [5, 22, 24, 34, 35, 36, 38] m0) := by
  unfold f_X5_fillNext
  repeat' first
    | with_reducible exact pc_x0
    | with_reducible exact pc_xt (by assumption)
    | with_reducible exact pc_xr (by assumption)
    | with_reducible exact fr_j_X5_fillNext_0_59 (by assumption)
    | with_reducible exact fr_j_X5_fillNext_0_60 (by assumption)
    | with_reducible refine pc_nk fun _ => ?_
    | with_reducible refine pc_if ?_ ?_
    | with_reducible refine pc_ck ?_
    | with_reducible refine pc_cb ?_
    | with_reducible refine pc_dv ?_
    | with_reducible refine pc_let fun _ => ?_
    | with_reducible refine pc_letL fun _ => ?_
    | with_reducible refine pc_ldN fun _ => ?_
    | with_reducible refine pc_ldL fun _ => ?_
    | with_reducible refine pc_ldR fun _ => ?_
    | with_reducible refine pc_put (eqF.sN (by assumption) (by decide)) fun _ _ => ?_
    | with_reducible refine pc_put (eqF.sL (by assumption) (by decide)) fun _ _ => ?_
    | with_reducible refine pc_put (eqF.sR (by assumption) (by decide)) fun _ _ => ?_
    | with_reducible refine pc_stN (by decide) (by assumption) fun _ _ => ?_
    | with_reducible refine pc_stL (by decide) (by assumption) fun _ _ => ?_
    | with_reducible refine pc_stR (by decide) (by assumption) fun _ _ => ?_
    | with_reducible refine pc_cpN (by decide) (by assumption) fun _ _ => ?_
    | with_reducible refine pc_bI (fr_f_X1_take (m0 := _) eqF.rf) (by decide) (by assumption) (fun _ _ _ => ?_) (fun _ _ _ => ?_)
    | with_reducible refine pc_pure fun _ => ?_
    | exact pc_some (by assumption)
    | exact pc_some (eqF.bX (by assumption))
    | exact pc_some trivial
    | dsimp only
theorem fr_j_X4_fillWord_12_114 {m0 : MM} {m : MM} {l0 : Nat} {l1 : Int64} {l3 : Nat} {l4 : Int} {l5 : Int} {l6 : Int} {l7 : Int} {l9 : Int} (h : eqF [5, 22, 24, 34, 35, 36, 38] m0 m) : Pc (j_X4_fillWord_12_114 m l0 l1 l3 l4 l5 l6 l7 l9) (fun z => Sum.elim (fun s => eqF [5, 22, 24, 34, 35, 36, 38] m0 s.2.2) (fun z => eqF [5, 22, 24, 34, 35, 36, 38] m0 z.2) z) := by
  unfold j_X4_fillWord_12_114
  repeat' first
    | with_reducible exact pc_x0
    | with_reducible exact pc_xt (by assumption)
    | with_reducible exact pc_xr (by assumption)
    | with_reducible refine pc_nk fun _ => ?_
    | with_reducible refine pc_if ?_ ?_
    | with_reducible refine pc_ck ?_
    | with_reducible refine pc_cb ?_
    | with_reducible refine pc_dv ?_
    | with_reducible refine pc_let fun _ => ?_
    | with_reducible refine pc_letL fun _ => ?_
    | with_reducible refine pc_ldN fun _ => ?_
    | with_reducible refine pc_ldL fun _ => ?_
    | with_reducible refine pc_ldR fun _ => ?_
    | with_reducible refine pc_put (eqF.sN (by assumption) (by decide)) fun _ _ => ?_
    | with_reducible refine pc_put (eqF.sL (by assumption) (by decide)) fun _ _ => ?_
    | with_reducible refine pc_put (eqF.sR (by assumption) (by decide)) fun _ _ => ?_
    | with_reducible refine pc_stN (by decide) (by assumption) fun _ _ => ?_
    | with_reducible refine pc_stL (by decide) (by assumption) fun _ _ => ?_
    | with_reducible refine pc_stR (by decide) (by assumption) fun _ _ => ?_
    | with_reducible refine pc_cpN (by decide) (by assumption) fun _ _ => ?_
    | with_reducible refine pc_pure fun _ => ?_
    | exact pc_some (by assumption)
    | exact pc_some (eqF.bX (by assumption))
    | exact pc_some trivial
    | dsimp only
theorem fr_j_X4_fillWord_12_94 {m0 : MM} {m : MM} {l0 : Nat} {l1 : Int64} {l3 : Nat} {l4 : Int} {l5 : Int} {l6 : Int} {l7 : Int} {l9 : Int} {s0 : Int} (h : eqF [5, 22, 24, 34, 35, 36, 38] m0 m) : Pc (j_X4_fillWord_12_94 m l0 l1 l3 l4 l5 l6 l7 l9 s0) (fun z => Sum.elim (fun s => eqF [5, 22, 24, 34, 35, 36, 38] m0 s.2.2) (fun z => eqF [5, 22, 24, 34, 35, 36, 38] m0 z.2) z) := by
  unfold j_X4_fillWord_12_94
  repeat' first
    | with_reducible exact pc_x0
    | with_reducible exact pc_xt (by assumption)
    | with_reducible exact pc_xr (by assumption)
    | with_reducible exact fr_j_X4_fillWord_12_114 (by assumption)
    | with_reducible refine pc_nk fun _ => ?_
    | with_reducible refine pc_if ?_ ?_
    | with_reducible refine pc_ck ?_
    | with_reducible refine pc_cb ?_
    | with_reducible refine pc_dv ?_
    | with_reducible refine pc_let fun _ => ?_
    | with_reducible refine pc_letL fun _ => ?_
    | with_reducible refine pc_ldN fun _ => ?_
    | with_reducible refine pc_ldL fun _ => ?_
    | with_reducible refine pc_ldR fun _ => ?_
    | with_reducible refine pc_put (eqF.sN (by assumption) (by decide)) fun _ _ => ?_
    | with_reducible refine pc_put (eqF.sL (by assumption) (by decide)) fun _ _ => ?_
    | with_reducible refine pc_put (eqF.sR (by assumption) (by decide)) fun _ _ => ?_
    | with_reducible refine pc_stN (by decide) (by assumption) fun _ _ => ?_
    | with_reducible refine pc_stL (by decide) (by assumption) fun _ _ => ?_
    | with_reducible refine pc_stR (by decide) (by assumption) fun _ _ => ?_
    | with_reducible refine pc_cpN (by decide) (by assumption) fun _ _ => ?_
    | with_reducible refine pc_bI (fr_f_X5_fillNext (m0 := _) eqF.rf) (by decide) (by assumption) (fun _ _ _ => ?_) (fun _ _ _ => ?_)
    | with_reducible refine pc_pure fun _ => ?_
    | exact pc_some (by assumption)
    | exact pc_some (eqF.bX (by assumption))
    | exact pc_some trivial
    | dsimp only
theorem fr_j_X4_fillWord_12_73 {m0 : MM} {m : MM} {l0 : Nat} {l1 : Int64} {l3 : Nat} {l4 : Int} {l5 : Int} {l6 : Int} {l7 : Int} {l8 : Int} {s0 : Int} (h : eqF [5, 22, 24, 34, 35, 36, 38] m0 m) : Pc (j_X4_fillWord_12_73 m l0 l1 l3 l4 l5 l6 l7 l8 s0) (fun z => Sum.elim (fun s => eqF [5, 22, 24, 34, 35, 36, 38] m0 s.2.2) (fun z => eqF [5, 22, 24, 34, 35, 36, 38] m0 z.2) z) := by
  unfold j_X4_fillWord_12_73
  repeat' first
    | with_reducible exact pc_x0
    | with_reducible exact pc_xt (by assumption)
    | with_reducible exact pc_xr (by assumption)
    | with_reducible exact fr_j_X4_fillWord_12_94 (by assumption)
    | with_reducible refine pc_nk fun _ => ?_
    | with_reducible refine pc_if ?_ ?_
    | with_reducible refine pc_ck ?_
    | with_reducible refine pc_cb ?_
    | with_reducible refine pc_dv ?_
    | with_reducible refine pc_let fun _ => ?_
    | with_reducible refine pc_letL fun _ => ?_
    | with_reducible refine pc_ldN fun _ => ?_
    | with_reducible refine pc_ldL fun _ => ?_
    | with_reducible refine pc_ldR fun _ => ?_
    | with_reducible refine pc_put (eqF.sN (by assumption) (by decide)) fun _ _ => ?_
    | with_reducible refine pc_put (eqF.sL (by assumption) (by decide)) fun _ _ => ?_
    | with_reducible refine pc_put (eqF.sR (by assumption) (by decide)) fun _ _ => ?_
    | with_reducible refine pc_stN (by decide) (by assumption) fun _ _ => ?_
    | with_reducible refine pc_stL (by decide) (by assumption) fun _ _ => ?_
    | with_reducible refine pc_stR (by decide) (by assumption) fun _ _ => ?_
    | with_reducible refine pc_cpN (by decide) (by assumption) fun _ _ => ?_
    | with_reducible refine pc_pure fun _ => ?_
    | exact pc_some (by assumption)
    | exact pc_some (eqF.bX (by assumption))
    | exact pc_some trivial
    | dsimp only
theorem fr_j_X4_fillWord_12_72 {m0 : MM} {m : MM} {l0 : Nat} {l1 : Int64} {l3 : Nat} {l4 : Int} {l5 : Int} {l6 : Int} {l7 : Int} {l8 : Int} (h : eqF [5, 22, 24, 34, 35, 36, 38] m0 m) : Pc (j_X4_fillWord_12_72 m l0 l1 l3 l4 l5 l6 l7 l8) (fun z => Sum.elim (fun s => eqF [5, 22, 24, 34, 35, 36, 38] m0 s.2.2) (fun z => eqF [5, 22, 24, 34, 35, 36, 38] m0 z.2) z) := by
  unfold j_X4_fillWord_12_72
  repeat' first
    | with_reducible exact pc_x0
    | with_reducible exact pc_xt (by assumption)
    | with_reducible exact pc_xr (by assumption)
    | with_reducible exact fr_j_X4_fillWord_12_73 (by assumption)
    | with_reducible refine pc_nk fun _ => ?_
    | with_reducible refine pc_if ?_ ?_
    | with_reducible refine pc_ck ?_
    | with_reducible refine pc_cb ?_
    | with_reducible refine pc_dv ?_
    | with_reducible refine pc_let fun _ => ?_
    | with_reducible refine pc_letL fun _ => ?_
    | with_reducible refine pc_ldN fun _ => ?_
    | with_reducible refine pc_ldL fun _ => ?_
    | with_reducible refine pc_ldR fun _ => ?_
    | with_reducible refine pc_put (eqF.sN (by assumption) (by decide)) fun _ _ => ?_
    | with_reducible refine pc_put (eqF.sL (by assumption) (by decide)) fun _ _ => ?_
    | with_reducible refine pc_put (eqF.sR (by assumption) (by decide)) fun _ _ => ?_
    | with_reducible refine pc_stN (by decide) (by assumption) fun _ _ => ?_
    | with_reducible refine pc_stL (by decide) (by assumption) fun _ _ => ?_
    | with_reducible refine pc_stR (by decide) (by assumption) fun _ _ => ?_
    | with_reducible refine pc_cpN (by decide) (by assumption) fun _ _ => ?_
    | with_reducible refine pc_pure fun _ => ?_
    | exact pc_some (by assumption)
    | exact pc_some (eqF.bX (by assumption))
    | exact pc_some trivial
    | dsimp only
theorem fr_j_X4_fillWord_12_49 {m0 : MM} {m : MM} {l0 : Nat} {l1 : Int64} {l3 : Nat} {l4 : Int} {l5 : Int} {l6 : Int} {l7 : Int} {s0 : Int} (h : eqF [5, 22, 24, 34, 35, 36, 38] m0 m) : Pc (j_X4_fillWord_12_49 m l0 l1 l3 l4 l5 l6 l7 s0) (fun z => Sum.elim (fun s => eqF [5, 22, 24, 34, 35, 36, 38] m0 s.2.2) (fun z => eqF [5, 22, 24, 34, 35, 36, 38] m0 z.2) z) := by
  unfold j_X4_fillWord_12_49
  repeat' first
    | with_reducible exact pc_x0
    | with_reducible exact pc_xt (by assumption)
    | with_reducible exact pc_xr (by assumption)
    | with_reducible exact fr_j_X4_fillWord_12_72 (by assumption)
    | with_reducible exact fr_j_X4_fillWord_12_73 (by assumption)
    | with_reducible refine pc_nk fun _ => ?_
    | with_reducible refine pc_if ?_ ?_
    | with_reducible refine pc_ck ?_
    | with_reducible refine pc_cb ?_
    | with_reducible refine pc_dv ?_
    | with_reducible refine pc_let fun _ => ?_
    | with_reducible refine pc_letL fun _ => ?_
    | with_reducible refine pc_ldN fun _ => ?_
    | with_reducible refine pc_ldL fun _ => ?_
    | with_reducible refine pc_ldR fun _ => ?_
    | with_reducible refine pc_put (eqF.sN (by assumption) (by decide)) fun _ _ => ?_
    | with_reducible refine pc_put (eqF.sL (by assumption) (by decide)) fun _ _ => ?_
    | with_reducible refine pc_put (eqF.sR (by assumption) (by decide)) fun _ _ => ?_
    | with_reducible refine pc_stN (by decide) (by assumption) fun _ _ => ?_
    | with_reducible refine pc_stL (by decide) (by assumption) fun _ _ => ?_
    | with_reducible refine pc_stR (by decide) (by assumption) fun _ _ => ?_
    | with_reducible refine pc_cpN (by decide) (by assumption) fun _ _ => ?_
    | with_reducible refine pc_pure fun _ => ?_
    | exact pc_some (by assumption)
    | exact pc_some (eqF.bX (by assumption))
    | exact pc_some trivial
    | dsimp only
theorem fr_b_X4_fillWord_12 {m0 : MM} {l0 : Nat} {l1 : Int64} {l3 : Nat} {l4 : Int} {l6 : Int} {l5 : Int} {l7 : Int} {mm : MM} (h : eqF [5, 22, 24, 34, 35, 36, 38] m0 mm) : Pc (b_X4_fillWord_12 l0 l1 l3 l4 l6 l5 l7 mm) (fun z => Sum.elim (fun s => eqF [5, 22, 24, 34, 35, 36, 38] m0 s.2.2) (fun z => eqF [5, 22, 24, 34, 35, 36, 38] m0 z.2) z) := by
  unfold b_X4_fillWord_12
  repeat' first
    | with_reducible exact pc_x0
    | with_reducible exact pc_xt (by assumption)
    | with_reducible exact pc_xr (by assumption)
    | with_reducible exact fr_j_X4_fillWord_12_49 (by assumption)
    | with_reducible refine pc_nk fun _ => ?_
    | with_reducible refine pc_if ?_ ?_
    | with_reducible refine pc_ck ?_
    | with_reducible refine pc_cb ?_
    | with_reducible refine pc_dv ?_
    | with_reducible refine pc_let fun _ => ?_
    | with_reducible refine pc_letL fun _ => ?_
    | with_reducible refine pc_ldN fun _ => ?_
    | with_reducible refine pc_ldL fun _ => ?_
    | with_reducible refine pc_ldR fun _ => ?_
    | with_reducible refine pc_put (eqF.sN (by assumption) (by decide)) fun _ _ => ?_
    | with_reducible refine pc_put (eqF.sL (by assumption) (by decide)) fun _ _ => ?_
    | with_reducible refine pc_put (eqF.sR (by assumption) (by decide)) fun _ _ => ?_
    | with_reducible refine pc_stN (by decide) (by assumption) fun _ _ => ?_
    | with_reducible refine pc_stL (by decide) (by assumption) fun _ _ => ?_
    | with_reducible refine pc_stR (by decide) (by assumption) fun _ _ => ?_
    | with_reducible refine pc_cpN (by decide) (by assumption) fun _ _ => ?_
    | with_reducible refine pc_pure fun _ => ?_
    | exact pc_some (by assumption)
    | exact pc_some (eqF.bX (by assumption))
    | exact pc_some trivial
    | dsimp only
theorem fr_j_X4_fillWord_0_128 {m0 : MM} {m : MM} {l5 : Int} (h : eqF [5, 22, 24, 34, 35, 36, 38] m0 m) : Pc (j_X4_fillWord_0_128 m l5) (RF [5, 22, 24, 34, 35, 36, 38] m0) := by
  unfold j_X4_fillWord_0_128
  repeat' first
    | with_reducible exact pc_x0
    | with_reducible exact pc_xt (by assumption)
    | with_reducible exact pc_xr (by assumption)
    | with_reducible refine pc_nk fun _ => ?_
    | with_reducible refine pc_if ?_ ?_
    | with_reducible refine pc_ck ?_
    | with_reducible refine pc_cb ?_
    | with_reducible refine pc_dv ?_
    | with_reducible refine pc_let fun _ => ?_
    | with_reducible refine pc_letL fun _ => ?_
    | with_reducible refine pc_ldN fun _ => ?_
    | with_reducible refine pc_ldL fun _ => ?_
    | with_reducible refine pc_ldR fun _ => ?_
    | with_reducible refine pc_put (eqF.sN (by assumption) (by decide)) fun _ _ => ?_
    | with_reducible refine pc_put (eqF.sL (by assumption) (by decide)) fun _ _ => ?_
    | with_reducible refine pc_put (eqF.sR (by assumption) (by decide)) fun _ _ => ?_
    | with_reducible refine pc_stN (by decide) (by assumption) fun _ _ => ?_
    | with_reducible refine pc_stL (by decide) (by assumption) fun _ _ => ?_
    | with_reducible refine pc_stR (by decide) (by assumption) fun _ _ => ?_
    | with_reducible refine pc_cpN (by decide) (by assumption) fun _ _ => ?_
    | with_reducible refine pc_pure fun _ => ?_
    | exact pc_some (by assumption)
    | exact pc_some (eqF.bX (by assumption))
    | exact pc_some trivial
    | dsimp only
theorem fr_f_X4_fillWord {m0 : MM} {m : MM} {l0 : Nat} {l1 : Int64} {l3 : Nat} {l4 : Int} (h : eqF [5, 22, 24, 34, 35, 36, 38] m0 m) : Pc (f_X4_fillWord m l0 l1 l3 l4) (RF [5, 22, 24, 34, 35, 36, 38] m0) := by
  unfold f_X4_fillWord
  repeat' first
    | with_reducible exact pc_x0
    | with_reducible exact pc_xt (by assumption)
    | with_reducible exact pc_xr (by assumption)
    | with_reducible exact fr_j_X4_fillWord_0_128 (by assumption)
    | with_reducible refine pc_nk fun _ => ?_
    | with_reducible refine pc_if ?_ ?_
    | with_reducible refine pc_ck ?_
    | with_reducible refine pc_cb ?_
    | with_reducible refine pc_dv ?_
    | with_reducible refine pc_let fun _ => ?_
    | with_reducible refine pc_letL fun _ => ?_
    | with_reducible refine pc_ldN fun _ => ?_
    | with_reducible refine pc_ldL fun _ => ?_
    | with_reducible refine pc_ldR fun _ => ?_
    | with_reducible refine pc_put (eqF.sN (by assumption) (by decide)) fun _ _ => ?_
    | with_reducible refine pc_put (eqF.sL (by assumption) (by decide)) fun _ _ => ?_
    | with_reducible refine pc_put (eqF.sR (by assumption) (by decide)) fun _ _ => ?_
    | with_reducible refine pc_stN (by decide) (by assumption) fun _ _ => ?_
    | with_reducible refine pc_stL (by decide) (by assumption) fun _ _ => ?_
    | with_reducible refine pc_stR (by decide) (by assumption) fun _ _ => ?_
    | with_reducible refine pc_cpN (by decide) (by assumption) fun _ _ => ?_
    | with_reducible refine pc_lp (fun s => eqF [5, 22, 24, 34, 35, 36, 38] m0 s.2.2) (fun z => eqF [5, 22, 24, 34, 35, 36, 38] m0 z.2) (by assumption) (fun s hs => fr_b_X4_fillWord_12 hs) (fun z hz => ?_)
    | with_reducible refine pc_pure fun _ => ?_
    | exact pc_some (by assumption)
    | exact pc_some (eqF.bX (by assumption))
    | exact pc_some trivial
    | dsimp only
theorem fr_b_X4_fillPlaces_6 {m0 : MM} {l0 : Nat} {l1 : Nat} {l2 : Nat} {l3 : Int} {l4 : Int} {l5 : Int} {mm : MM} (h : eqF [5, 22, 24, 30, 34, 35, 36, 38] m0 mm) : Pc (b_X4_fillPlaces_6 l0 l1 l2 l3 l4 l5 mm) (fun z => Sum.elim (fun s => eqF [5, 22, 24, 30, 34, 35, 36, 38] m0 s.2.2) (fun z => eqF [5, 22, 24, 30, 34, 35, 36, 38] m0 z.2) z) := by
  unfold b_X4_fillPlaces_6
  repeat' first
    | with_reducible exact pc_x0
    | with_reducible exact pc_xt (by assumption)
    | with_reducible exact pc_xr (by assumption)
    | with_reducible refine pc_nk fun _ => ?_
    | with_reducible refine pc_if ?_ ?_
    | with_reducible refine pc_ck ?_
    | with_reducible refine pc_cb ?_
    | with_reducible refine pc_dv ?_
    | with_reducible refine pc_let fun _ => ?_
    | with_reducible refine pc_letL fun _ => ?_
    | with_reducible refine pc_ldN fun _ => ?_
    | with_reducible refine pc_ldL fun _ => ?_
    | with_reducible refine pc_ldR fun _ => ?_
    | with_reducible refine pc_put (eqF.sN (by assumption) (by decide)) fun _ _ => ?_
    | with_reducible refine pc_put (eqF.sL (by assumption) (by decide)) fun _ _ => ?_
    | with_reducible refine pc_put (eqF.sR (by assumption) (by decide)) fun _ _ => ?_
    | with_reducible refine pc_stN (by decide) (by assumption) fun _ _ => ?_
    | with_reducible refine pc_stL (by decide) (by assumption) fun _ _ => ?_
    | with_reducible refine pc_stR (by decide) (by assumption) fun _ _ => ?_
    | with_reducible refine pc_cpN (by decide) (by assumption) fun _ _ => ?_
    | with_reducible refine pc_bI (fr_f_X4_fillWord (m0 := _) eqF.rf) (by decide) (by assumption) (fun _ _ _ => ?_) (fun _ _ _ => ?_)
    | with_reducible refine pc_pure fun _ => ?_
    | exact pc_some (by assumption)
    | exact pc_some (eqF.bX (by assumption))
    | exact pc_some trivial
    | dsimp only
theorem fr_j_X4_fillPlaces_0_64 {m0 : MM} {m : MM} {l0 : Nat} {l4 : Int} (h : eqF [5, 22, 24, 30, 34, 35, 36, 38] m0 m) : Pc (j_X4_fillPlaces_0_64 m l0 l4) (RF [5, 22, 24, 30, 34, 35, 36, 38] m0) := by
  unfold j_X4_fillPlaces_0_64
  repeat' first
    | with_reducible exact pc_x0
    | with_reducible exact pc_xt (by assumption)
    | with_reducible exact pc_xr (by assumption)
    | with_reducible refine pc_nk fun _ => ?_
    | with_reducible refine pc_if ?_ ?_
    | with_reducible refine pc_ck ?_
    | with_reducible refine pc_cb ?_
    | with_reducible refine pc_dv ?_
    | with_reducible refine pc_let fun _ => ?_
    | with_reducible refine pc_letL fun _ => ?_
    | with_reducible refine pc_ldN fun _ => ?_
    | with_reducible refine pc_ldL fun _ => ?_
    | with_reducible refine pc_ldR fun _ => ?_
    | with_reducible refine pc_put (eqF.sN (by assumption) (by decide)) fun _ _ => ?_
    | with_reducible refine pc_put (eqF.sL (by assumption) (by decide)) fun _ _ => ?_
    | with_reducible refine pc_put (eqF.sR (by assumption) (by decide)) fun _ _ => ?_
    | with_reducible refine pc_stN (by decide) (by assumption) fun _ _ => ?_
    | with_reducible refine pc_stL (by decide) (by assumption) fun _ _ => ?_
    | with_reducible refine pc_stR (by decide) (by assumption) fun _ _ => ?_
    | with_reducible refine pc_cpN (by decide) (by assumption) fun _ _ => ?_
    | with_reducible refine pc_pure fun _ => ?_
    | exact pc_some (by assumption)
    | exact pc_some (eqF.bX (by assumption))
    | exact pc_some trivial
    | dsimp only
theorem fr_f_X4_fillPlaces {m0 : MM} {m : MM} {l0 : Nat} {l1 : Nat} {l2 : Nat} {l3 : Int} (h : eqF [5, 22, 24, 30, 34, 35, 36, 38] m0 m) : Pc (f_X4_fillPlaces m l0 l1 l2 l3) (RF [5, 22, 24, 30, 34, 35, 36, 38] m0) := by
  unfold f_X4_fillPlaces
  repeat' first
    | with_reducible exact pc_x0
    | with_reducible exact pc_xt (by assumption)
    | with_reducible exact pc_xr (by assumption)
    | with_reducible exact fr_j_X4_fillPlaces_0_64 (by assumption)
    | with_reducible refine pc_nk fun _ => ?_
    | with_reducible refine pc_if ?_ ?_
    | with_reducible refine pc_ck ?_
    | with_reducible refine pc_cb ?_
    | with_reducible refine pc_dv ?_
    | with_reducible refine pc_let fun _ => ?_
    | with_reducible refine pc_letL fun _ => ?_
    | with_reducible refine pc_ldN fun _ => ?_
    | with_reducible refine pc_ldL fun _ => ?_
    | with_reducible refine pc_ldR fun _ => ?_
    | with_reducible refine pc_put (eqF.sN (by assumption) (by decide)) fun _ _ => ?_
    | with_reducible refine pc_put (eqF.sL (by assumption) (by decide)) fun _ _ => ?_
    | with_reducible refine pc_put (eqF.sR (by assumption) (by decide)) fun _ _ => ?_
    | with_reducible refine pc_stN (by decide) (by assumption) fun _ _ => ?_
    | with_reducible refine pc_stL (by decide) (by assumption) fun _ _ => ?_
    | with_reducible refine pc_stR (by decide) (by assumption) fun _ _ => ?_
    | with_reducible refine pc_cpN (by decide) (by assumption) fun _ _ => ?_
    | with_reducible refine pc_lp (fun s => eqF [5, 22, 24, 30, 34, 35, 36, 38] m0 s.2.2) (fun z => eqF [5, 22, 24, 30, 34, 35, 36, 38] m0 z.2) (by assumption) (fun s hs => fr_b_X4_fillPlaces_6 hs) (fun z hz => ?_)
    | with_reducible refine pc_pure fun _ => ?_
    | exact pc_some (by assumption)
    | exact pc_some (eqF.bX (by assumption))
    | exact pc_some trivial
    | dsimp only
theorem fr_j_X11_set_0_68 {m0 : MM} {m : MM} {l0 : Nat} {l1 : Int} {l2 : Int} {l3 : Int} {l4 : Nat} {l5 : Nat} {l6 : Nat} {l7 : Int} {s0 : Int} (h : eqF [3, 4, 5, 22, 24, 27, 28, 29, 30, 31, 32, 33, 34, 35, 36, 38] m0 m) : Pc (j_X11_set_0_68 m l0 l1 l2 l3 l4 l5 l6 l7 s0) (RF [3, 4, 5, 22, 24, 27, 28, 29, 30, 31, 32, 33, 34, 35, 36, 38] m0) := by
  unfold j_X11_set_0_68
  repeat' first
    | with_reducible exact pc_x0
    | with_reducible exact pc_xt (by assumption)
    | with_reducible exact pc_xr (by assumption)
    | with_reducible refine pc_nk fun _ => ?_
    | with_reducible refine pc_if ?_ ?_
    | with_reducible refine pc_ck ?_
    | with_reducible refine pc_cb ?_
    | with_reducible refine pc_dv ?_
    | with_reducible refine pc_let fun _ => ?_
    | with_reducible refine pc_letL fun _ => ?_
    | with_reducible refine pc_ldN fun _ => ?_
    | with_reducible refine pc_ldL fun _ => ?_
    | with_reducible refine pc_ldR fun _ => ?_
    | with_reducible refine pc_put (eqF.sN (by assumption) (by decide)) fun _ _ => ?_
    | with_reducible refine pc_put (eqF.sL (by assumption) (by decide)) fun _ _ => ?_
    | with_reducible refine pc_put (eqF.sR (by assumption) (by decide)) fun _ _ => ?_
    | with_reducible refine pc_stN (by decide) (by assumption) fun _ _ => ?_
    | with_reducible refine pc_stL (by decide) (by assumption) fun _ _ => ?_
    | with_reducible refine pc_stR (by decide) (by assumption) fun _ _ => ?_
    | with_reducible refine pc_cpN (by decide) (by assumption) fun _ _ => ?_
    | with_reducible refine pc_bI (fr_f_X4_fillPlaces (m0 := _) eqF.rf) (by decide) (by assumption) (fun _ _ _ => ?_) (fun _ _ _ => ?_)
    | with_reducible refine pc_bV (fr_f_X11_requireState (m0 := _) eqF.rf) (by decide) (by assumption) (fun _ _ => ?_) (fun _ _ _ => ?_)
    | with_reducible refine pc_bV (fr_f_X4_compose (m0 := _) eqF.rf) (by decide) (by assumption) (fun _ _ => ?_) (fun _ _ _ => ?_)
    | with_reducible refine pc_pure fun _ => ?_
    | exact pc_some (by assumption)
    | exact pc_some (eqF.bX (by assumption))
    | exact pc_some trivial
    | dsimp only
theorem fr_j_X11_set_0_46 {m0 : MM} {m : MM} {l0 : Nat} {l1 : Int} {l2 : Int} {l3 : Int} {l4 : Nat} {l5 : Nat} {l6 : Nat} {s0 : Int} (h : eqF [3, 4, 5, 22, 24, 27, 28, 29, 30, 31, 32, 33, 34, 35, 36, 38] m0 m) : Pc (j_X11_set_0_46 m l0 l1 l2 l3 l4 l5 l6 s0) (RF [3, 4, 5, 22, 24, 27, 28, 29, 30, 31, 32, 33, 34, 35, 36, 38] m0) := by
  unfold j_X11_set_0_46
  repeat' first
    | with_reducible exact pc_x0
    | with_reducible exact pc_xt (by assumption)
    | with_reducible exact pc_xr (by assumption)
    | with_reducible exact fr_j_X11_set_0_68 (by assumption)
    | with_reducible refine pc_nk fun _ => ?_
    | with_reducible refine pc_if ?_ ?_
    | with_reducible refine pc_ck ?_
    | with_reducible refine pc_cb ?_
    | with_reducible refine pc_dv ?_
    | with_reducible refine pc_let fun _ => ?_
    | with_reducible refine pc_letL fun _ => ?_
    | with_reducible refine pc_ldN fun _ => ?_
    | with_reducible refine pc_ldL fun _ => ?_
    | with_reducible refine pc_ldR fun _ => ?_
    | with_reducible refine pc_put (eqF.sN (by assumption) (by decide)) fun _ _ => ?_
    | with_reducible refine pc_put (eqF.sL (by assumption) (by decide)) fun _ _ => ?_
    | with_reducible refine pc_put (eqF.sR (by assumption) (by decide)) fun _ _ => ?_
    | with_reducible refine pc_stN (by decide) (by assumption) fun _ _ => ?_
    | with_reducible refine pc_stL (by decide) (by assumption) fun _ _ => ?_
    | with_reducible refine pc_stR (by decide) (by assumption) fun _ _ => ?_
    | with_reducible refine pc_cpN (by decide) (by assumption) fun _ _ => ?_
    | with_reducible refine pc_bV (fr_f_X11_requireState (m0 := _) eqF.rf) (by decide) (by assumption) (fun _ _ => ?_) (fun _ _ _ => ?_)
    | with_reducible refine pc_pure fun _ => ?_
    | exact pc_some (by assumption)
    | exact pc_some (eqF.bX (by assumption))
    | exact pc_some trivial
    | dsimp only
theorem fr_j_X11_set_0_45 {m0 : MM} {m : MM} {l0 : Nat} {l1 : Int} {l2 : Int} {l3 : Int} {l4 : Nat} {l5 : Nat} {l6 : Nat} (h : eqF [3, 4, 5, 22, 24, 27, 28, 29, 30, 31, 32, 33, 34, 35, 36, 38] m0 m) : Pc (j_X11_set_0_45 m l0 l1 l2 l3 l4 l5 l6) (RF [3, 4, 5, 22, 24, 27, 28, 29, 30, 31, 32, 33, 34, 35, 36, 38] m0) := by
  unfold j_X11_set_0_45
  repeat' first
    | with_reducible exact pc_x0
    | with_reducible exact pc_xt (by assumption)
    | with_reducible exact pc_xr (by assumption)
    | with_reducible exact fr_j_X11_set_0_46 (by assumption)
    | with_reducible refine pc_nk fun _ => ?_
    | with_reducible refine pc_if ?_ ?_
    | with_reducible refine pc_ck ?_
    | with_reducible refine pc_cb ?_
    | with_reducible refine pc_dv ?_
    | with_reducible refine pc_let fun _ => ?_
    | with_reducible refine pc_letL fun _ => ?_
    | with_reducible refine pc_ldN fun _ => ?_
    | with_reducible refine pc_ldL fun _ => ?_
    | with_reducible refine pc_ldR fun _ => ?_
    | with_reducible refine pc_put (eqF.sN (by assumption) (by decide)) fun _ _ => ?_
    | with_reducible refine pc_put (eqF.sL (by assumption) (by decide)) fun _ _ => ?_
    | with_reducible refine pc_put (eqF.sR (by assumption) (by decide)) fun _ _ => ?_
    | with_reducible refine pc_stN (by decide) (by assumption) fun _ _ => ?_
    | with_reducible refine pc_stL (by decide) (by assumption) fun _ _ => ?_
    | with_reducible refine pc_stR (by decide) (by assumption) fun _ _ => ?_
    | with_reducible refine pc_cpN (by decide) (by assumption) fun _ _ => ?_
    | with_reducible refine pc_pure fun _ => ?_
    | exact pc_some (by assumption)
    | exact pc_some (eqF.bX (by assumption))
    | exact pc_some trivial
    | dsimp only
theorem fr_f_X11_set {m0 : MM} {m : MM} {l0 : Nat} {l1 : Int} {l2 : Int} {l3 : Int} (h : eqF [3, 4, 5, 22, 24, 27, 28, 29, 30, 31, 32, 33, 34, 35, 36, 38] m0 m) : Pc (f_X11_set m l0 l1 l2 l3) (RF [3, 4, 5, 22, 24, 27, 28, 29, 30, 31, 32, 33, 34, 35, 36, 38] m0) := by
  unfold f_X11_set
  repeat' first
    | with_reducible exact pc_x0
    | with_reducible exact pc_xt (by assumption)
    | with_reducible exact pc_xr (by assumption)
    | with_reducible exact fr_j_X11_set_0_45 (by assumption)
    | with_reducible exact fr_j_X11_set_0_46 (by assumption)
    | with_reducible refine pc_nk fun _ => ?_
    | with_reducible refine pc_if ?_ ?_
    | with_reducible refine pc_ck ?_
    | with_reducible refine pc_cb ?_
    | with_reducible refine pc_dv ?_
    | with_reducible refine pc_let fun _ => ?_
    | with_reducible refine pc_letL fun _ => ?_
    | with_reducible refine pc_ldN fun _ => ?_
    | with_reducible refine pc_ldL fun _ => ?_
    | with_reducible refine pc_ldR fun _ => ?_
    | with_reducible refine pc_put (eqF.sN (by assumption) (by decide)) fun _ _ => ?_
    | with_reducible refine pc_put (eqF.sL (by assumption) (by decide)) fun _ _ => ?_
    | with_reducible refine pc_put (eqF.sR (by assumption) (by decide)) fun _ _ => ?_
    | with_reducible refine pc_stN (by decide) (by assumption) fun _ _ => ?_
    | with_reducible refine pc_stL (by decide) (by assumption) fun _ _ => ?_
    | with_reducible refine pc_stR (by decide) (by assumption) fun _ _ => ?_
    | with_reducible refine pc_cpN (by decide) (by assumption) fun _ _ => ?_
    | with_reducible refine pc_bR (fr_f_X11_bookAt (m0 := _) eqF.rf) (by decide) (by assumption) (fun _ _ _ => ?_) (fun _ _ _ => ?_)
    | with_reducible refine pc_bR (fr_f_X11_handAt (m0 := _) eqF.rf) (by decide) (by assumption) (fun _ _ _ => ?_) (fun _ _ _ => ?_)
    | with_reducible refine pc_bR (fr_f_X11_pageOf (m0 := _) eqF.rf) (by decide) (by assumption) (fun _ _ _ => ?_) (fun _ _ _ => ?_)
    | with_reducible refine pc_pure fun _ => ?_
    | exact pc_some (by assumption)
    | exact pc_some (eqF.bX (by assumption))
    | exact pc_some trivial
    | dsimp only
theorem fr_j_X11_shared_0_112 {m0 : MM} {m : MM} {l7 : Int} {s0 : Int} (h : eqF [] m0 m) : Pc (j_X11_shared_0_112 m l7 s0) (RF [] m0) := by
  unfold j_X11_shared_0_112
  repeat' first
    | with_reducible exact pc_x0
    | with_reducible exact pc_xt (by assumption)
    | with_reducible exact pc_xr (by assumption)
    | with_reducible refine pc_nk fun _ => ?_
    | with_reducible refine pc_if ?_ ?_
    | with_reducible refine pc_ck ?_
    | with_reducible refine pc_cb ?_
    | with_reducible refine pc_dv ?_
    | with_reducible refine pc_let fun _ => ?_
    | with_reducible refine pc_letL fun _ => ?_
    | with_reducible refine pc_ldN fun _ => ?_
    | with_reducible refine pc_ldL fun _ => ?_
    | with_reducible refine pc_ldR fun _ => ?_
    | with_reducible refine pc_put (eqF.sN (by assumption) (by decide)) fun _ _ => ?_
    | with_reducible refine pc_put (eqF.sL (by assumption) (by decide)) fun _ _ => ?_
    | with_reducible refine pc_put (eqF.sR (by assumption) (by decide)) fun _ _ => ?_
    | with_reducible refine pc_stN (by decide) (by assumption) fun _ _ => ?_
    | with_reducible refine pc_stL (by decide) (by assumption) fun _ _ => ?_
    | with_reducible refine pc_stR (by decide) (by assumption) fun _ _ => ?_
    | with_reducible refine pc_cpN (by decide) (by assumption) fun _ _ => ?_
    | with_reducible refine pc_pure fun _ => ?_
    | exact pc_some (by assumption)
    | exact pc_some (eqF.bX (by assumption))
    | exact pc_some trivial
    | dsimp only
theorem fr_j_X11_shared_0_111 {m0 : MM} {m : MM} {l7 : Int} (h : eqF [] m0 m) : Pc (j_X11_shared_0_111 m l7) (RF [] m0) := by
  unfold j_X11_shared_0_111
  repeat' first
    | with_reducible exact pc_x0
    | with_reducible exact pc_xt (by assumption)
    | with_reducible exact pc_xr (by assumption)
    | with_reducible exact fr_j_X11_shared_0_112 (by assumption)
    | with_reducible refine pc_nk fun _ => ?_
    | with_reducible refine pc_if ?_ ?_
    | with_reducible refine pc_ck ?_
    | with_reducible refine pc_cb ?_
    | with_reducible refine pc_dv ?_
    | with_reducible refine pc_let fun _ => ?_
    | with_reducible refine pc_letL fun _ => ?_
    | with_reducible refine pc_ldN fun _ => ?_
    | with_reducible refine pc_ldL fun _ => ?_
    | with_reducible refine pc_ldR fun _ => ?_
    | with_reducible refine pc_put (eqF.sN (by assumption) (by decide)) fun _ _ => ?_
    | with_reducible refine pc_put (eqF.sL (by assumption) (by decide)) fun _ _ => ?_
    | with_reducible refine pc_put (eqF.sR (by assumption) (by decide)) fun _ _ => ?_
    | with_reducible refine pc_stN (by decide) (by assumption) fun _ _ => ?_
    | with_reducible refine pc_stL (by decide) (by assumption) fun _ _ => ?_
    | with_reducible refine pc_stR (by decide) (by assumption) fun _ _ => ?_
    | with_reducible refine pc_cpN (by decide) (by assumption) fun _ _ => ?_
    | with_reducible refine pc_pure fun _ => ?_
    | exact pc_some (by assumption)
    | exact pc_some (eqF.bX (by assumption))
    | exact pc_some trivial
    | dsimp only
theorem fr_j_X11_shared_0_85 {m0 : MM} {m : MM} {l5 : Nat} {l6 : Nat} {l7 : Int} (h : eqF [] m0 m) : Pc (j_X11_shared_0_85 m l5 l6 l7) (RF [] m0) := by
  unfold j_X11_shared_0_85
  repeat' first
    | with_reducible exact pc_x0
    | with_reducible exact pc_xt (by assumption)
    | with_reducible exact pc_xr (by assumption)
    | with_reducible exact fr_j_X11_shared_0_111 (by assumption)
    | with_reducible exact fr_j_X11_shared_0_112 (by assumption)
    | with_reducible refine pc_nk fun _ => ?_
    | with_reducible refine pc_if ?_ ?_
    | with_reducible refine pc_ck ?_
    | with_reducible refine pc_cb ?_
    | with_reducible refine pc_dv ?_
    | with_reducible refine pc_let fun _ => ?_
    | with_reducible refine pc_letL fun _ => ?_
    | with_reducible refine pc_ldN fun _ => ?_
    | with_reducible refine pc_ldL fun _ => ?_
    | with_reducible refine pc_ldR fun _ => ?_
    | with_reducible refine pc_put (eqF.sN (by assumption) (by decide)) fun _ _ => ?_
    | with_reducible refine pc_put (eqF.sL (by assumption) (by decide)) fun _ _ => ?_
    | with_reducible refine pc_put (eqF.sR (by assumption) (by decide)) fun _ _ => ?_
    | with_reducible refine pc_stN (by decide) (by assumption) fun _ _ => ?_
    | with_reducible refine pc_stL (by decide) (by assumption) fun _ _ => ?_
    | with_reducible refine pc_stR (by decide) (by assumption) fun _ _ => ?_
    | with_reducible refine pc_cpN (by decide) (by assumption) fun _ _ => ?_
    | with_reducible refine pc_pure fun _ => ?_
    | exact pc_some (by assumption)
    | exact pc_some (eqF.bX (by assumption))
    | exact pc_some trivial
    | dsimp only
theorem fr_j_X11_shared_0_33 {m0 : MM} {m : MM} {l0 : Nat} {l5 : Nat} {l6 : Nat} {s0 : Int} (h : eqF [] m0 m) : Pc (j_X11_shared_0_33 m l0 l5 l6 s0) (RF [] m0) := by
  unfold j_X11_shared_0_33
  repeat' first
    | with_reducible exact pc_x0
    | with_reducible exact pc_xt (by assumption)
    | with_reducible exact pc_xr (by assumption)
    | with_reducible exact fr_j_X11_shared_0_85 (by assumption)
    | with_reducible refine pc_nk fun _ => ?_
    | with_reducible refine pc_if ?_ ?_
    | with_reducible refine pc_ck ?_
    | with_reducible refine pc_cb ?_
    | with_reducible refine pc_dv ?_
    | with_reducible refine pc_let fun _ => ?_
    | with_reducible refine pc_letL fun _ => ?_
    | with_reducible refine pc_ldN fun _ => ?_
    | with_reducible refine pc_ldL fun _ => ?_
    | with_reducible refine pc_ldR fun _ => ?_
    | with_reducible refine pc_put (eqF.sN (by assumption) (by decide)) fun _ _ => ?_
    | with_reducible refine pc_put (eqF.sL (by assumption) (by decide)) fun _ _ => ?_
    | with_reducible refine pc_put (eqF.sR (by assumption) (by decide)) fun _ _ => ?_
    | with_reducible refine pc_stN (by decide) (by assumption) fun _ _ => ?_
    | with_reducible refine pc_stL (by decide) (by assumption) fun _ _ => ?_
    | with_reducible refine pc_stR (by decide) (by assumption) fun _ _ => ?_
    | with_reducible refine pc_cpN (by decide) (by assumption) fun _ _ => ?_
    | with_reducible refine pc_bV (fr_f_X11_requireArgument (m0 := _) eqF.rf) (by decide) (by assumption) (fun _ _ => ?_) (fun _ _ _ => ?_)
    | with_reducible refine pc_pure fun _ => ?_
    | exact pc_some (by assumption)
    | exact pc_some (eqF.bX (by assumption))
    | exact pc_some trivial
    | dsimp only
theorem fr_f_X11_shared {m0 : MM} {m : MM} {l0 : Nat} {l1 : Int} {l2 : Int} {l3 : Int} (h : eqF [] m0 m) : Pc (f_X11_shared m l0 l1 l2 l3) (RF [] m0) := by
  unfold f_X11_shared
  repeat' first
    | with_reducible exact pc_x0
    | with_reducible exact pc_xt (by assumption)
    | with_reducible exact pc_xr (by assumption)
    | with_reducible exact fr_j_X11_shared_0_33 (by assumption)
    | with_reducible refine pc_nk fun _ => ?_
    | with_reducible refine pc_if ?_ ?_
    | with_reducible refine pc_ck ?_
    | with_reducible refine pc_cb ?_
    | with_reducible refine pc_dv ?_
    | with_reducible refine pc_let fun _ => ?_
    | with_reducible refine pc_letL fun _ => ?_
    | with_reducible refine pc_ldN fun _ => ?_
    | with_reducible refine pc_ldL fun _ => ?_
    | with_reducible refine pc_ldR fun _ => ?_
    | with_reducible refine pc_put (eqF.sN (by assumption) (by decide)) fun _ _ => ?_
    | with_reducible refine pc_put (eqF.sL (by assumption) (by decide)) fun _ _ => ?_
    | with_reducible refine pc_put (eqF.sR (by assumption) (by decide)) fun _ _ => ?_
    | with_reducible refine pc_stN (by decide) (by assumption) fun _ _ => ?_
    | with_reducible refine pc_stL (by decide) (by assumption) fun _ _ => ?_
    | with_reducible refine pc_stR (by decide) (by assumption) fun _ _ => ?_
    | with_reducible refine pc_cpN (by decide) (by assumption) fun _ _ => ?_
    | with_reducible refine pc_bR (fr_f_X11_bookAt (m0 := _) eqF.rf) (by decide) (by assumption) (fun _ _ _ => ?_) (fun _ _ _ => ?_)
    | with_reducible refine pc_bR (fr_f_X11_formeOf (m0 := _) eqF.rf) (by decide) (by assumption) (fun _ _ _ => ?_) (fun _ _ _ => ?_)
    | with_reducible refine pc_pure fun _ => ?_
    | exact pc_some (by assumption)
    | exact pc_some (eqF.bX (by assumption))
    | exact pc_some trivial
    | dsimp only
theorem fr_j_X10_addSpelling_0_42 {m0 : MM} {m : MM} {l0 : Nat} (h : eqF [10, 53, 54] m0 m) : Pc (j_X10_addSpelling_0_42 m l0) (RF [10, 53, 54] m0) := by
  unfold j_X10_addSpelling_0_42
  repeat' first
    | with_reducible exact pc_x0
    | with_reducible exact pc_xt (by assumption)
    | with_reducible exact pc_xr (by assumption)
    | with_reducible refine pc_nk fun _ => ?_
    | with_reducible refine pc_if ?_ ?_
    | with_reducible refine pc_ck ?_
    | with_reducible refine pc_cb ?_
    | with_reducible refine pc_dv ?_
    | with_reducible refine pc_let fun _ => ?_
    | with_reducible refine pc_letL fun _ => ?_
    | with_reducible refine pc_ldN fun _ => ?_
    | with_reducible refine pc_ldL fun _ => ?_
    | with_reducible refine pc_ldR fun _ => ?_
    | with_reducible refine pc_put (eqF.sN (by assumption) (by decide)) fun _ _ => ?_
    | with_reducible refine pc_put (eqF.sL (by assumption) (by decide)) fun _ _ => ?_
    | with_reducible refine pc_put (eqF.sR (by assumption) (by decide)) fun _ _ => ?_
    | with_reducible refine pc_stN (by decide) (by assumption) fun _ _ => ?_
    | with_reducible refine pc_stL (by decide) (by assumption) fun _ _ => ?_
    | with_reducible refine pc_stR (by decide) (by assumption) fun _ _ => ?_
    | with_reducible refine pc_cpN (by decide) (by assumption) fun _ _ => ?_
    | with_reducible refine pc_pure fun _ => ?_
    | exact pc_some (by assumption)
    | exact pc_some (eqF.bX (by assumption))
    | exact pc_some trivial
    | dsimp only
theorem fr_f_X10_addSpelling {m0 : MM} {m : MM} {l0 : Nat} {l1 : Int64} {l3 : Int64} (h : eqF [10, 53, 54] m0 m) : Pc (f_X10_addSpelling m l0 l1 l3) (RF [10, 53, 54] m0) := by
  unfold f_X10_addSpelling
  repeat' first
    | with_reducible exact pc_x0
    | with_reducible exact pc_xt (by assumption)
    | with_reducible exact pc_xr (by assumption)
    | with_reducible exact fr_j_X10_addSpelling_0_42 (by assumption)
    | with_reducible refine pc_nk fun _ => ?_
    | with_reducible refine pc_if ?_ ?_
    | with_reducible refine pc_ck ?_
    | with_reducible refine pc_cb ?_
    | with_reducible refine pc_dv ?_
    | with_reducible refine pc_let fun _ => ?_
    | with_reducible refine pc_letL fun _ => ?_
    | with_reducible refine pc_ldN fun _ => ?_
    | with_reducible refine pc_ldL fun _ => ?_
    | with_reducible refine pc_ldR fun _ => ?_
    | with_reducible refine pc_put (eqF.sN (by assumption) (by decide)) fun _ _ => ?_
    | with_reducible refine pc_put (eqF.sL (by assumption) (by decide)) fun _ _ => ?_
    | with_reducible refine pc_put (eqF.sR (by assumption) (by decide)) fun _ _ => ?_
    | with_reducible refine pc_stN (by decide) (by assumption) fun _ _ => ?_
    | with_reducible refine pc_stL (by decide) (by assumption) fun _ _ => ?_
    | with_reducible refine pc_stR (by decide) (by assumption) fun _ _ => ?_
    | with_reducible refine pc_cpN (by decide) (by assumption) fun _ _ => ?_
    | with_reducible refine pc_pure fun _ => ?_
    | exact pc_some (by assumption)
    | exact pc_some (eqF.bX (by assumption))
    | exact pc_some trivial
    | dsimp only
theorem fr_f_X10_isPair {m0 : MM} {m : MM} {l0 : Nat} (h : eqF [51, 52] m0 m) : Pc (f_X10_isPair m l0) (RF [51, 52] m0) := by
  unfold f_X10_isPair
  repeat' first
    | with_reducible exact pc_x0
    | with_reducible exact pc_xt (by assumption)
    | with_reducible exact pc_xr (by assumption)
    | with_reducible refine pc_nk fun _ => ?_
    | with_reducible refine pc_if ?_ ?_
    | with_reducible refine pc_ck ?_
    | with_reducible refine pc_cb ?_
    | with_reducible refine pc_dv ?_
    | with_reducible refine pc_let fun _ => ?_
    | with_reducible refine pc_letL fun _ => ?_
    | with_reducible refine pc_ldN fun _ => ?_
    | with_reducible refine pc_ldL fun _ => ?_
    | with_reducible refine pc_ldR fun _ => ?_
    | with_reducible refine pc_put (eqF.sN (by assumption) (by decide)) fun _ _ => ?_
    | with_reducible refine pc_put (eqF.sL (by assumption) (by decide)) fun _ _ => ?_
    | with_reducible refine pc_put (eqF.sR (by assumption) (by decide)) fun _ _ => ?_
    | with_reducible refine pc_stN (by decide) (by assumption) fun _ _ => ?_
    | with_reducible refine pc_stL (by decide) (by assumption) fun _ _ => ?_
    | with_reducible refine pc_stR (by decide) (by assumption) fun _ _ => ?_
    | with_reducible refine pc_cpN (by decide) (by assumption) fun _ _ => ?_
    | with_reducible refine pc_bI (fr_f_X10_splitText (m0 := _) eqF.rf) (by decide) (by assumption) (fun _ _ _ => ?_) (fun _ _ _ => ?_)
    | with_reducible refine pc_pure fun _ => ?_
    | exact pc_some (by assumption)
    | exact pc_some (eqF.bX (by assumption))
    | exact pc_some trivial
    | dsimp only
theorem fr_j_X11_spelling_0_117 {m0 : MM} {m : MM} {l0 : Nat} {l1 : Int64} {l3 : Int64} {s0 : Int} (h : eqF [10, 51, 52, 53, 54] m0 m) : Pc (j_X11_spelling_0_117 m l0 l1 l3 s0) (RF [10, 51, 52, 53, 54] m0) := by
  unfold j_X11_spelling_0_117
  repeat' first
    | with_reducible exact pc_x0
    | with_reducible exact pc_xt (by assumption)
    | with_reducible exact pc_xr (by assumption)
    | with_reducible refine pc_nk fun _ => ?_
    | with_reducible refine pc_if ?_ ?_
    | with_reducible refine pc_ck ?_
    | with_reducible refine pc_cb ?_
    | with_reducible refine pc_dv ?_
    | with_reducible refine pc_let fun _ => ?_
    | with_reducible refine pc_letL fun _ => ?_
    | with_reducible refine pc_ldN fun _ => ?_
    | with_reducible refine pc_ldL fun _ => ?_
    | with_reducible refine pc_ldR fun _ => ?_
    | with_reducible refine pc_put (eqF.sN (by assumption) (by decide)) fun _ _ => ?_
    | with_reducible refine pc_put (eqF.sL (by assumption) (by decide)) fun _ _ => ?_
    | with_reducible refine pc_put (eqF.sR (by assumption) (by decide)) fun _ _ => ?_
    | with_reducible refine pc_stN (by decide) (by assumption) fun _ _ => ?_
    | with_reducible refine pc_stL (by decide) (by assumption) fun _ _ => ?_
    | with_reducible refine pc_stR (by decide) (by assumption) fun _ _ => ?_
    | with_reducible refine pc_cpN (by decide) (by assumption) fun _ _ => ?_
    | with_reducible refine pc_bI (fr_f_X10_addSpelling (m0 := _) eqF.rf) (by decide) (by assumption) (fun _ _ _ => ?_) (fun _ _ _ => ?_)
    | with_reducible refine pc_bV (fr_f_X11_requireState (m0 := _) eqF.rf) (by decide) (by assumption) (fun _ _ => ?_) (fun _ _ _ => ?_)
    | with_reducible refine pc_pure fun _ => ?_
    | exact pc_some (by assumption)
    | exact pc_some (eqF.bX (by assumption))
    | exact pc_some trivial
    | dsimp only
theorem fr_j_X11_spelling_0_116 {m0 : MM} {m : MM} {l0 : Nat} {l1 : Int64} {l3 : Int64} (h : eqF [10, 51, 52, 53, 54] m0 m) : Pc (j_X11_spelling_0_116 m l0 l1 l3) (RF [10, 51, 52, 53, 54] m0) := by
  unfold j_X11_spelling_0_116
  repeat' first
    | with_reducible exact pc_x0
    | with_reducible exact pc_xt (by assumption)
    | with_reducible exact pc_xr (by assumption)
    | with_reducible exact fr_j_X11_spelling_0_117 (by assumption)
    | with_reducible refine pc_nk fun _ => ?_
    | with_reducible refine pc_if ?_ ?_
    | with_reducible refine pc_ck ?_
    | with_reducible refine pc_cb ?_
    | with_reducible refine pc_dv ?_
    | with_reducible refine pc_let fun _ => ?_
    | with_reducible refine pc_letL fun _ => ?_
    | with_reducible refine pc_ldN fun _ => ?_
    | with_reducible refine pc_ldL fun _ => ?_
    | with_reducible refine pc_ldR fun _ => ?_
    | with_reducible refine pc_put (eqF.sN (by assumption) (by decide)) fun _ _ => ?_
    | with_reducible refine pc_put (eqF.sL (by assumption) (by decide)) fun _ _ => ?_
    | with_reducible refine pc_put (eqF.sR (by assumption) (by decide)) fun _ _ => ?_
    | with_reducible refine pc_stN (by decide) (by assumption) fun _ _ => ?_
    | with_reducible refine pc_stL (by decide) (by assumption) fun _ _ => ?_
    | with_reducible refine pc_stR (by decide) (by assumption) fun _ _ => ?_
    | with_reducible refine pc_cpN (by decide) (by assumption) fun _ _ => ?_
    | with_reducible refine pc_pure fun _ => ?_
    | exact pc_some (by assumption)
    | exact pc_some (eqF.bX (by assumption))
    | exact pc_some trivial
    | dsimp only
theorem fr_j_X11_spelling_0_90 {m0 : MM} {m : MM} {l0 : Nat} {l1 : Int64} {l3 : Int64} {s0 : Int} (h : eqF [10, 51, 52, 53, 54] m0 m) : Pc (j_X11_spelling_0_90 m l0 l1 l3 s0) (RF [10, 51, 52, 53, 54] m0) := by
  unfold j_X11_spelling_0_90
  repeat' first
    | with_reducible exact pc_x0
    | with_reducible exact pc_xt (by assumption)
    | with_reducible exact pc_xr (by assumption)
    | with_reducible exact fr_j_X11_spelling_0_116 (by assumption)
    | with_reducible exact fr_j_X11_spelling_0_117 (by assumption)
    | with_reducible refine pc_nk fun _ => ?_
    | with_reducible refine pc_if ?_ ?_
    | with_reducible refine pc_ck ?_
    | with_reducible refine pc_cb ?_
    | with_reducible refine pc_dv ?_
    | with_reducible refine pc_let fun _ => ?_
    | with_reducible refine pc_letL fun _ => ?_
    | with_reducible refine pc_ldN fun _ => ?_
    | with_reducible refine pc_ldL fun _ => ?_
    | with_reducible refine pc_ldR fun _ => ?_
    | with_reducible refine pc_put (eqF.sN (by assumption) (by decide)) fun _ _ => ?_
    | with_reducible refine pc_put (eqF.sL (by assumption) (by decide)) fun _ _ => ?_
    | with_reducible refine pc_put (eqF.sR (by assumption) (by decide)) fun _ _ => ?_
    | with_reducible refine pc_stN (by decide) (by assumption) fun _ _ => ?_
    | with_reducible refine pc_stL (by decide) (by assumption) fun _ _ => ?_
    | with_reducible refine pc_stR (by decide) (by assumption) fun _ _ => ?_
    | with_reducible refine pc_cpN (by decide) (by assumption) fun _ _ => ?_
    | with_reducible refine pc_bV (fr_f_X11_requireArgument (m0 := _) eqF.rf) (by decide) (by assumption) (fun _ _ => ?_) (fun _ _ _ => ?_)
    | with_reducible refine pc_pure fun _ => ?_
    | exact pc_some (by assumption)
    | exact pc_some (eqF.bX (by assumption))
    | exact pc_some trivial
    | dsimp only
theorem fr_j_X11_spelling_0_89 {m0 : MM} {m : MM} {l0 : Nat} {l1 : Int64} {l3 : Int64} (h : eqF [10, 51, 52, 53, 54] m0 m) : Pc (j_X11_spelling_0_89 m l0 l1 l3) (RF [10, 51, 52, 53, 54] m0) := by
  unfold j_X11_spelling_0_89
  repeat' first
    | with_reducible exact pc_x0
    | with_reducible exact pc_xt (by assumption)
    | with_reducible exact pc_xr (by assumption)
    | with_reducible exact fr_j_X11_spelling_0_90 (by assumption)
    | with_reducible refine pc_nk fun _ => ?_
    | with_reducible refine pc_if ?_ ?_
    | with_reducible refine pc_ck ?_
    | with_reducible refine pc_cb ?_
    | with_reducible refine pc_dv ?_
    | with_reducible refine pc_let fun _ => ?_
    | with_reducible refine pc_letL fun _ => ?_
    | with_reducible refine pc_ldN fun _ => ?_
    | with_reducible refine pc_ldL fun _ => ?_
    | with_reducible refine pc_ldR fun _ => ?_
    | with_reducible refine pc_put (eqF.sN (by assumption) (by decide)) fun _ _ => ?_
    | with_reducible refine pc_put (eqF.sL (by assumption) (by decide)) fun _ _ => ?_
    | with_reducible refine pc_put (eqF.sR (by assumption) (by decide)) fun _ _ => ?_
    | with_reducible refine pc_stN (by decide) (by assumption) fun _ _ => ?_
    | with_reducible refine pc_stL (by decide) (by assumption) fun _ _ => ?_
    | with_reducible refine pc_stR (by decide) (by assumption) fun _ _ => ?_
    | with_reducible refine pc_cpN (by decide) (by assumption) fun _ _ => ?_
    | with_reducible refine pc_pure fun _ => ?_
    | exact pc_some (by assumption)
    | exact pc_some (eqF.bX (by assumption))
    | exact pc_some trivial
    | dsimp only
theorem fr_j_X11_spelling_0_58 {m0 : MM} {m : MM} {l0 : Nat} {l1 : Int64} {l3 : Int64} {s0 : Int} (h : eqF [10, 51, 52, 53, 54] m0 m) : Pc (j_X11_spelling_0_58 m l0 l1 l3 s0) (RF [10, 51, 52, 53, 54] m0) := by
  unfold j_X11_spelling_0_58
  repeat' first
    | with_reducible exact pc_x0
    | with_reducible exact pc_xt (by assumption)
    | with_reducible exact pc_xr (by assumption)
    | with_reducible exact fr_j_X11_spelling_0_89 (by assumption)
    | with_reducible exact fr_j_X11_spelling_0_90 (by assumption)
    | with_reducible refine pc_nk fun _ => ?_
    | with_reducible refine pc_if ?_ ?_
    | with_reducible refine pc_ck ?_
    | with_reducible refine pc_cb ?_
    | with_reducible refine pc_dv ?_
    | with_reducible refine pc_let fun _ => ?_
    | with_reducible refine pc_letL fun _ => ?_
    | with_reducible refine pc_ldN fun _ => ?_
    | with_reducible refine pc_ldL fun _ => ?_
    | with_reducible refine pc_ldR fun _ => ?_
    | with_reducible refine pc_put (eqF.sN (by assumption) (by decide)) fun _ _ => ?_
    | with_reducible refine pc_put (eqF.sL (by assumption) (by decide)) fun _ _ => ?_
    | with_reducible refine pc_put (eqF.sR (by assumption) (by decide)) fun _ _ => ?_
    | with_reducible refine pc_stN (by decide) (by assumption) fun _ _ => ?_
    | with_reducible refine pc_stL (by decide) (by assumption) fun _ _ => ?_
    | with_reducible refine pc_stR (by decide) (by assumption) fun _ _ => ?_
    | with_reducible refine pc_cpN (by decide) (by assumption) fun _ _ => ?_
    | with_reducible refine pc_bV (fr_f_X11_requireArgument (m0 := _) eqF.rf) (by decide) (by assumption) (fun _ _ => ?_) (fun _ _ _ => ?_)
    | with_reducible refine pc_pure fun _ => ?_
    | exact pc_some (by assumption)
    | exact pc_some (eqF.bX (by assumption))
    | exact pc_some trivial
    | dsimp only
theorem fr_j_X11_spelling_0_57 {m0 : MM} {m : MM} {l0 : Nat} {l1 : Int64} {l3 : Int64} (h : eqF [10, 51, 52, 53, 54] m0 m) : Pc (j_X11_spelling_0_57 m l0 l1 l3) (RF [10, 51, 52, 53, 54] m0) := by
  unfold j_X11_spelling_0_57
  repeat' first
    | with_reducible exact pc_x0
    | with_reducible exact pc_xt (by assumption)
    | with_reducible exact pc_xr (by assumption)
    | with_reducible exact fr_j_X11_spelling_0_58 (by assumption)
    | with_reducible refine pc_nk fun _ => ?_
    | with_reducible refine pc_if ?_ ?_
    | with_reducible refine pc_ck ?_
    | with_reducible refine pc_cb ?_
    | with_reducible refine pc_dv ?_
    | with_reducible refine pc_let fun _ => ?_
    | with_reducible refine pc_letL fun _ => ?_
    | with_reducible refine pc_ldN fun _ => ?_
    | with_reducible refine pc_ldL fun _ => ?_
    | with_reducible refine pc_ldR fun _ => ?_
    | with_reducible refine pc_put (eqF.sN (by assumption) (by decide)) fun _ _ => ?_
    | with_reducible refine pc_put (eqF.sL (by assumption) (by decide)) fun _ _ => ?_
    | with_reducible refine pc_put (eqF.sR (by assumption) (by decide)) fun _ _ => ?_
    | with_reducible refine pc_stN (by decide) (by assumption) fun _ _ => ?_
    | with_reducible refine pc_stL (by decide) (by assumption) fun _ _ => ?_
    | with_reducible refine pc_stR (by decide) (by assumption) fun _ _ => ?_
    | with_reducible refine pc_cpN (by decide) (by assumption) fun _ _ => ?_
    | with_reducible refine pc_pure fun _ => ?_
    | exact pc_some (by assumption)
    | exact pc_some (eqF.bX (by assumption))
    | exact pc_some trivial
    | dsimp only
theorem fr_f_X11_spelling {m0 : MM} {m : MM} {l0 : Nat} (h : eqF [10, 51, 52, 53, 54] m0 m) : Pc (f_X11_spelling m l0) (RF [10, 51, 52, 53, 54] m0) := by
  unfold f_X11_spelling
  repeat' first
    | with_reducible exact pc_x0
    | with_reducible exact pc_xt (by assumption)
    | with_reducible exact pc_xr (by assumption)
    | with_reducible exact fr_j_X11_spelling_0_57 (by assumption)
    | with_reducible exact fr_j_X11_spelling_0_58 (by assumption)
    | with_reducible refine pc_nk fun _ => ?_
    | with_reducible refine pc_if ?_ ?_
    | with_reducible refine pc_ck ?_
    | with_reducible refine pc_cb ?_
    | with_reducible refine pc_dv ?_
    | with_reducible refine pc_let fun _ => ?_
    | with_reducible refine pc_letL fun _ => ?_
    | with_reducible refine pc_ldN fun _ => ?_
    | with_reducible refine pc_ldL fun _ => ?_
    | with_reducible refine pc_ldR fun _ => ?_
    | with_reducible refine pc_put (eqF.sN (by assumption) (by decide)) fun _ _ => ?_
    | with_reducible refine pc_put (eqF.sL (by assumption) (by decide)) fun _ _ => ?_
    | with_reducible refine pc_put (eqF.sR (by assumption) (by decide)) fun _ _ => ?_
    | with_reducible refine pc_stN (by decide) (by assumption) fun _ _ => ?_
    | with_reducible refine pc_stL (by decide) (by assumption) fun _ _ => ?_
    | with_reducible refine pc_stR (by decide) (by assumption) fun _ _ => ?_
    | with_reducible refine pc_cpN (by decide) (by assumption) fun _ _ => ?_
    | with_reducible refine pc_bI (fr_f_X10_isPair (m0 := _) eqF.rf) (by decide) (by assumption) (fun _ _ _ => ?_) (fun _ _ _ => ?_)
    | with_reducible refine pc_bV (fr_f_X11_requireArgument (m0 := _) eqF.rf) (by decide) (by assumption) (fun _ _ => ?_) (fun _ _ _ => ?_)
    | with_reducible refine pc_pure fun _ => ?_
    | exact pc_some (by assumption)
    | exact pc_some (eqF.bX (by assumption))
    | exact pc_some trivial
    | dsimp only
theorem fr_j_X11_state_0_30 {m0 : MM} {m : MM} {l2 : Int} {l3 : Int} {l4 : Nat} {s0 : Int} (h : eqF [] m0 m) : Pc (j_X11_state_0_30 m l2 l3 l4 s0) (RF [] m0) := by
  unfold j_X11_state_0_30
  repeat' first
    | with_reducible exact pc_x0
    | with_reducible exact pc_xt (by assumption)
    | with_reducible exact pc_xr (by assumption)
    | with_reducible refine pc_nk fun _ => ?_
    | with_reducible refine pc_if ?_ ?_
    | with_reducible refine pc_ck ?_
    | with_reducible refine pc_cb ?_
    | with_reducible refine pc_dv ?_
    | with_reducible refine pc_let fun _ => ?_
    | with_reducible refine pc_letL fun _ => ?_
    | with_reducible refine pc_ldN fun _ => ?_
    | with_reducible refine pc_ldL fun _ => ?_
    | with_reducible refine pc_ldR fun _ => ?_
    | with_reducible refine pc_put (eqF.sN (by assumption) (by decide)) fun _ _ => ?_
    | with_reducible refine pc_put (eqF.sL (by assumption) (by decide)) fun _ _ => ?_
    | with_reducible refine pc_put (eqF.sR (by assumption) (by decide)) fun _ _ => ?_
    | with_reducible refine pc_stN (by decide) (by assumption) fun _ _ => ?_
    | with_reducible refine pc_stL (by decide) (by assumption) fun _ _ => ?_
    | with_reducible refine pc_stR (by decide) (by assumption) fun _ _ => ?_
    | with_reducible refine pc_cpN (by decide) (by assumption) fun _ _ => ?_
    | with_reducible refine pc_bV (fr_f_X11_requireIndex (m0 := _) eqF.rf) (by decide) (by assumption) (fun _ _ => ?_) (fun _ _ _ => ?_)
    | with_reducible refine pc_bV (fr_f_X11_requireState (m0 := _) eqF.rf) (by decide) (by assumption) (fun _ _ => ?_) (fun _ _ _ => ?_)
    | with_reducible refine pc_pure fun _ => ?_
    | exact pc_some (by assumption)
    | exact pc_some (eqF.bX (by assumption))
    | exact pc_some trivial
    | dsimp only
theorem fr_j_X11_state_0_29 {m0 : MM} {m : MM} {l2 : Int} {l3 : Int} {l4 : Nat} (h : eqF [] m0 m) : Pc (j_X11_state_0_29 m l2 l3 l4) (RF [] m0) := by
  unfold j_X11_state_0_29
  repeat' first
    | with_reducible exact pc_x0
    | with_reducible exact pc_xt (by assumption)
    | with_reducible exact pc_xr (by assumption)
    | with_reducible exact fr_j_X11_state_0_30 (by assumption)
    | with_reducible refine pc_nk fun _ => ?_
    | with_reducible refine pc_if ?_ ?_
    | with_reducible refine pc_ck ?_
    | with_reducible refine pc_cb ?_
    | with_reducible refine pc_dv ?_
    | with_reducible refine pc_let fun _ => ?_
    | with_reducible refine pc_letL fun _ => ?_
    | with_reducible refine pc_ldN fun _ => ?_
    | with_reducible refine pc_ldL fun _ => ?_
    | with_reducible refine pc_ldR fun _ => ?_
    | with_reducible refine pc_put (eqF.sN (by assumption) (by decide)) fun _ _ => ?_
    | with_reducible refine pc_put (eqF.sL (by assumption) (by decide)) fun _ _ => ?_
    | with_reducible refine pc_put (eqF.sR (by assumption) (by decide)) fun _ _ => ?_
    | with_reducible refine pc_stN (by decide) (by assumption) fun _ _ => ?_
    | with_reducible refine pc_stL (by decide) (by assumption) fun _ _ => ?_
    | with_reducible refine pc_stR (by decide) (by assumption) fun _ _ => ?_
    | with_reducible refine pc_cpN (by decide) (by assumption) fun _ _ => ?_
    | with_reducible refine pc_pure fun _ => ?_
    | exact pc_some (by assumption)
    | exact pc_some (eqF.bX (by assumption))
    | exact pc_some trivial
    | dsimp only
theorem fr_f_X11_state {m0 : MM} {m : MM} {l0 : Nat} {l1 : Int} {l2 : Int} {l3 : Int} (h : eqF [] m0 m) : Pc (f_X11_state m l0 l1 l2 l3) (RF [] m0) := by
  unfold f_X11_state
  repeat' first
    | with_reducible exact pc_x0
    | with_reducible exact pc_xt (by assumption)
    | with_reducible exact pc_xr (by assumption)
    | with_reducible exact fr_j_X11_state_0_29 (by assumption)
    | with_reducible exact fr_j_X11_state_0_30 (by assumption)
    | with_reducible refine pc_nk fun _ => ?_
    | with_reducible refine pc_if ?_ ?_
    | with_reducible refine pc_ck ?_
    | with_reducible refine pc_cb ?_
    | with_reducible refine pc_dv ?_
    | with_reducible refine pc_let fun _ => ?_
    | with_reducible refine pc_letL fun _ => ?_
    | with_reducible refine pc_ldN fun _ => ?_
    | with_reducible refine pc_ldL fun _ => ?_
    | with_reducible refine pc_ldR fun _ => ?_
    | with_reducible refine pc_put (eqF.sN (by assumption) (by decide)) fun _ _ => ?_
    | with_reducible refine pc_put (eqF.sL (by assumption) (by decide)) fun _ _ => ?_
    | with_reducible refine pc_put (eqF.sR (by assumption) (by decide)) fun _ _ => ?_
    | with_reducible refine pc_stN (by decide) (by assumption) fun _ _ => ?_
    | with_reducible refine pc_stL (by decide) (by assumption) fun _ _ => ?_
    | with_reducible refine pc_stR (by decide) (by assumption) fun _ _ => ?_
    | with_reducible refine pc_cpN (by decide) (by assumption) fun _ _ => ?_
    | with_reducible refine pc_bR (fr_f_X11_bookAt (m0 := _) eqF.rf) (by decide) (by assumption) (fun _ _ _ => ?_) (fun _ _ _ => ?_)
    | with_reducible refine pc_pure fun _ => ?_
    | exact pc_some (by assumption)
    | exact pc_some (eqF.bX (by assumption))
    | exact pc_some trivial
    | dsimp only
theorem fr_f_X10_add {m0 : MM} {m : MM} {l0 : Nat} {l1 : Int} (h : eqF [10, 50] m0 m) : Pc (f_X10_add m l0 l1) (RF [10, 50] m0) := by
  unfold f_X10_add
  repeat' first
    | with_reducible exact pc_x0
    | with_reducible exact pc_xt (by assumption)
    | with_reducible exact pc_xr (by assumption)
    | with_reducible refine pc_nk fun _ => ?_
    | with_reducible refine pc_if ?_ ?_
    | with_reducible refine pc_ck ?_
    | with_reducible refine pc_cb ?_
    | with_reducible refine pc_dv ?_
    | with_reducible refine pc_let fun _ => ?_
    | with_reducible refine pc_letL fun _ => ?_
    | with_reducible refine pc_ldN fun _ => ?_
    | with_reducible refine pc_ldL fun _ => ?_
    | with_reducible refine pc_ldR fun _ => ?_
    | with_reducible refine pc_put (eqF.sN (by assumption) (by decide)) fun _ _ => ?_
    | with_reducible refine pc_put (eqF.sL (by assumption) (by decide)) fun _ _ => ?_
    | with_reducible refine pc_put (eqF.sR (by assumption) (by decide)) fun _ _ => ?_
    | with_reducible refine pc_stN (by decide) (by assumption) fun _ _ => ?_
    | with_reducible refine pc_stL (by decide) (by assumption) fun _ _ => ?_
    | with_reducible refine pc_stR (by decide) (by assumption) fun _ _ => ?_
    | with_reducible refine pc_cpN (by decide) (by assumption) fun _ _ => ?_
    | with_reducible refine pc_pure fun _ => ?_
    | exact pc_some (by assumption)
    | exact pc_some (eqF.bX (by assumption))
    | exact pc_some trivial
    | dsimp only
theorem fr_b_X11_type_22 {m0 : MM} {l0 : Nat} {l1 : Int64} {l3 : Int} {l4 : Int} {mm : MM} (h : eqF [10, 50] m0 mm) : Pc (b_X11_type_22 l0 l1 l3 l4 mm) (fun z => Sum.elim (fun s => eqF [10, 50] m0 s.2) (Sum.elim (RF [10, 50] m0) (fun z => eqF [10, 50] m0 z)) z) := by
  unfold b_X11_type_22
  repeat' first
    | with_reducible exact pc_x0
    | with_reducible exact pc_xt (by assumption)
    | with_reducible exact pc_xr (by assumption)
    | with_reducible refine pc_nk fun _ => ?_
    | with_reducible refine pc_if ?_ ?_
    | with_reducible refine pc_ck ?_
    | with_reducible refine pc_cb ?_
    | with_reducible refine pc_dv ?_
    | with_reducible refine pc_let fun _ => ?_
    | with_reducible refine pc_letL fun _ => ?_
    | with_reducible refine pc_ldN fun _ => ?_
    | with_reducible refine pc_ldL fun _ => ?_
    | with_reducible refine pc_ldR fun _ => ?_
    | with_reducible refine pc_put (eqF.sN (by assumption) (by decide)) fun _ _ => ?_
    | with_reducible refine pc_put (eqF.sL (by assumption) (by decide)) fun _ _ => ?_
    | with_reducible refine pc_put (eqF.sR (by assumption) (by decide)) fun _ _ => ?_
    | with_reducible refine pc_stN (by decide) (by assumption) fun _ _ => ?_
    | with_reducible refine pc_stL (by decide) (by assumption) fun _ _ => ?_
    | with_reducible refine pc_stR (by decide) (by assumption) fun _ _ => ?_
    | with_reducible refine pc_cpN (by decide) (by assumption) fun _ _ => ?_
    | with_reducible refine pc_bV (fr_f_X11_requireArgument (m0 := _) eqF.rf) (by decide) (by assumption) (fun _ _ => ?_) (fun _ _ _ => ?_)
    | with_reducible refine pc_pure fun _ => ?_
    | exact pc_some (by assumption)
    | exact pc_some (eqF.bX (by assumption))
    | exact pc_some trivial
    | dsimp only
theorem fr_b_X11_type_71 {m0 : MM} {l0 : Nat} {l1 : Int64} {l3 : Int} {l4 : Int} {mm : MM} (h : eqF [10, 50] m0 mm) : Pc (b_X11_type_71 l0 l1 l3 l4 mm) (fun z => Sum.elim (fun s => eqF [10, 50] m0 s.2) (fun z => eqF [10, 50] m0 z) z) := by
  unfold b_X11_type_71
  repeat' first
    | with_reducible exact pc_x0
    | with_reducible exact pc_xt (by assumption)
    | with_reducible exact pc_xr (by assumption)
    | with_reducible refine pc_nk fun _ => ?_
    | with_reducible refine pc_if ?_ ?_
    | with_reducible refine pc_ck ?_
    | with_reducible refine pc_cb ?_
    | with_reducible refine pc_dv ?_
    | with_reducible refine pc_let fun _ => ?_
    | with_reducible refine pc_letL fun _ => ?_
    | with_reducible refine pc_ldN fun _ => ?_
    | with_reducible refine pc_ldL fun _ => ?_
    | with_reducible refine pc_ldR fun _ => ?_
    | with_reducible refine pc_put (eqF.sN (by assumption) (by decide)) fun _ _ => ?_
    | with_reducible refine pc_put (eqF.sL (by assumption) (by decide)) fun _ _ => ?_
    | with_reducible refine pc_put (eqF.sR (by assumption) (by decide)) fun _ _ => ?_
    | with_reducible refine pc_stN (by decide) (by assumption) fun _ _ => ?_
    | with_reducible refine pc_stL (by decide) (by assumption) fun _ _ => ?_
    | with_reducible refine pc_stR (by decide) (by assumption) fun _ _ => ?_
    | with_reducible refine pc_cpN (by decide) (by assumption) fun _ _ => ?_
    | with_reducible refine pc_bV (fr_f_X10_add (m0 := _) eqF.rf) (by decide) (by assumption) (fun _ _ => ?_) (fun _ _ _ => ?_)
    | with_reducible refine pc_pure fun _ => ?_
    | exact pc_some (by assumption)
    | exact pc_some (eqF.bX (by assumption))
    | exact pc_some trivial
    | dsimp only
theorem fr_j_X11_type_0_96 {m0 : MM} {m : MM} {l0 : Nat} (h : eqF [10, 50] m0 m) : Pc (j_X11_type_0_96 m l0) (RF [10, 50] m0) := by
  unfold j_X11_type_0_96
  repeat' first
    | with_reducible exact pc_x0
    | with_reducible exact pc_xt (by assumption)
    | with_reducible exact pc_xr (by assumption)
    | with_reducible refine pc_nk fun _ => ?_
    | with_reducible refine pc_if ?_ ?_
    | with_reducible refine pc_ck ?_
    | with_reducible refine pc_cb ?_
    | with_reducible refine pc_dv ?_
    | with_reducible refine pc_let fun _ => ?_
    | with_reducible refine pc_letL fun _ => ?_
    | with_reducible refine pc_ldN fun _ => ?_
    | with_reducible refine pc_ldL fun _ => ?_
    | with_reducible refine pc_ldR fun _ => ?_
    | with_reducible refine pc_put (eqF.sN (by assumption) (by decide)) fun _ _ => ?_
    | with_reducible refine pc_put (eqF.sL (by assumption) (by decide)) fun _ _ => ?_
    | with_reducible refine pc_put (eqF.sR (by assumption) (by decide)) fun _ _ => ?_
    | with_reducible refine pc_stN (by decide) (by assumption) fun _ _ => ?_
    | with_reducible refine pc_stL (by decide) (by assumption) fun _ _ => ?_
    | with_reducible refine pc_stR (by decide) (by assumption) fun _ _ => ?_
    | with_reducible refine pc_cpN (by decide) (by assumption) fun _ _ => ?_
    | with_reducible refine pc_pure fun _ => ?_
    | exact pc_some (by assumption)
    | exact pc_some (eqF.bX (by assumption))
    | exact pc_some trivial
    | dsimp only
theorem fr_j_X11_type_0_65 {m0 : MM} {m : MM} {l0 : Nat} {l1 : Int64} {l3 : Int} {s0 : Int} (h : eqF [10, 50] m0 m) : Pc (j_X11_type_0_65 m l0 l1 l3 s0) (RF [10, 50] m0) := by
  unfold j_X11_type_0_65
  repeat' first
    | with_reducible exact pc_x0
    | with_reducible exact pc_xt (by assumption)
    | with_reducible exact pc_xr (by assumption)
    | with_reducible exact fr_j_X11_type_0_96 (by assumption)
    | with_reducible refine pc_nk fun _ => ?_
    | with_reducible refine pc_if ?_ ?_
    | with_reducible refine pc_ck ?_
    | with_reducible refine pc_cb ?_
    | with_reducible refine pc_dv ?_
    | with_reducible refine pc_let fun _ => ?_
    | with_reducible refine pc_letL fun _ => ?_
    | with_reducible refine pc_ldN fun _ => ?_
    | with_reducible refine pc_ldL fun _ => ?_
    | with_reducible refine pc_ldR fun _ => ?_
    | with_reducible refine pc_put (eqF.sN (by assumption) (by decide)) fun _ _ => ?_
    | with_reducible refine pc_put (eqF.sL (by assumption) (by decide)) fun _ _ => ?_
    | with_reducible refine pc_put (eqF.sR (by assumption) (by decide)) fun _ _ => ?_
    | with_reducible refine pc_stN (by decide) (by assumption) fun _ _ => ?_
    | with_reducible refine pc_stL (by decide) (by assumption) fun _ _ => ?_
    | with_reducible refine pc_stR (by decide) (by assumption) fun _ _ => ?_
    | with_reducible refine pc_cpN (by decide) (by assumption) fun _ _ => ?_
    | with_reducible refine pc_bV (fr_f_X11_requireState (m0 := _) eqF.rf) (by decide) (by assumption) (fun _ _ => ?_) (fun _ _ _ => ?_)
    | with_reducible refine pc_lp (fun s => eqF [10, 50] m0 s.2) (fun z => eqF [10, 50] m0 z) (by assumption) (fun s hs => fr_b_X11_type_71 hs) (fun z hz => ?_)
    | with_reducible refine pc_pure fun _ => ?_
    | exact pc_some (by assumption)
    | exact pc_some (eqF.bX (by assumption))
    | exact pc_some trivial
    | dsimp only
theorem fr_j_X11_type_0_46 {m0 : MM} {m : MM} {l0 : Nat} {l1 : Int64} {l3 : Int} (h : eqF [10, 50] m0 m) : Pc (j_X11_type_0_46 m l0 l1 l3) (RF [10, 50] m0) := by
  unfold j_X11_type_0_46
  repeat' first
    | with_reducible exact pc_x0
    | with_reducible exact pc_xt (by assumption)
    | with_reducible exact pc_xr (by assumption)
    | with_reducible exact fr_j_X11_type_0_65 (by assumption)
    | with_reducible refine pc_nk fun _ => ?_
    | with_reducible refine pc_if ?_ ?_
    | with_reducible refine pc_ck ?_
    | with_reducible refine pc_cb ?_
    | with_reducible refine pc_dv ?_
    | with_reducible refine pc_let fun _ => ?_
    | with_reducible refine pc_letL fun _ => ?_
    | with_reducible refine pc_ldN fun _ => ?_
    | with_reducible refine pc_ldL fun _ => ?_
    | with_reducible refine pc_ldR fun _ => ?_
    | with_reducible refine pc_put (eqF.sN (by assumption) (by decide)) fun _ _ => ?_
    | with_reducible refine pc_put (eqF.sL (by assumption) (by decide)) fun _ _ => ?_
    | with_reducible refine pc_put (eqF.sR (by assumption) (by decide)) fun _ _ => ?_
    | with_reducible refine pc_stN (by decide) (by assumption) fun _ _ => ?_
    | with_reducible refine pc_stL (by decide) (by assumption) fun _ _ => ?_
    | with_reducible refine pc_stR (by decide) (by assumption) fun _ _ => ?_
    | with_reducible refine pc_cpN (by decide) (by assumption) fun _ _ => ?_
    | with_reducible refine pc_pure fun _ => ?_
    | exact pc_some (by assumption)
    | exact pc_some (eqF.bX (by assumption))
    | exact pc_some trivial
    | dsimp only
theorem fr_j_X11_type_0_16 {m0 : MM} {m : MM} {l0 : Nat} {l1 : Int64} {l3 : Int} {s0 : Int} (h : eqF [10, 50] m0 m) : Pc (j_X11_type_0_16 m l0 l1 l3 s0) (RF [10, 50] m0) := by
  unfold j_X11_type_0_16
  repeat' first
    | with_reducible exact pc_x0
    | with_reducible exact pc_xt (by assumption)
    | with_reducible exact pc_xr (by assumption)
    | with_reducible exact fr_j_X11_type_0_46 (by assumption)
    | with_reducible refine pc_nk fun _ => ?_
    | with_reducible refine pc_if ?_ ?_
    | with_reducible refine pc_ck ?_
    | with_reducible refine pc_cb ?_
    | with_reducible refine pc_dv ?_
    | with_reducible refine pc_let fun _ => ?_
    | with_reducible refine pc_letL fun _ => ?_
    | with_reducible refine pc_ldN fun _ => ?_
    | with_reducible refine pc_ldL fun _ => ?_
    | with_reducible refine pc_ldR fun _ => ?_
    | with_reducible refine pc_put (eqF.sN (by assumption) (by decide)) fun _ _ => ?_
    | with_reducible refine pc_put (eqF.sL (by assumption) (by decide)) fun _ _ => ?_
    | with_reducible refine pc_put (eqF.sR (by assumption) (by decide)) fun _ _ => ?_
    | with_reducible refine pc_stN (by decide) (by assumption) fun _ _ => ?_
    | with_reducible refine pc_stL (by decide) (by assumption) fun _ _ => ?_
    | with_reducible refine pc_stR (by decide) (by assumption) fun _ _ => ?_
    | with_reducible refine pc_cpN (by decide) (by assumption) fun _ _ => ?_
    | with_reducible refine pc_bV (fr_f_X11_requireArgument (m0 := _) eqF.rf) (by decide) (by assumption) (fun _ _ => ?_) (fun _ _ _ => ?_)
    | with_reducible refine pc_lpr (fun s => eqF [10, 50] m0 s.2) (RF [10, 50] m0) (fun z => eqF [10, 50] m0 z) (by assumption) (fun s hs => fr_b_X11_type_22 hs) (fun r hr => ?_) (fun z hz => ?_)
    | with_reducible refine pc_pure fun _ => ?_
    | exact pc_some (by assumption)
    | exact pc_some (eqF.bX (by assumption))
    | exact pc_some trivial
    | dsimp only
theorem fr_j_X11_type_0_15 {m0 : MM} {m : MM} {l0 : Nat} {l1 : Int64} {l3 : Int} (h : eqF [10, 50] m0 m) : Pc (j_X11_type_0_15 m l0 l1 l3) (RF [10, 50] m0) := by
  unfold j_X11_type_0_15
  repeat' first
    | with_reducible exact pc_x0
    | with_reducible exact pc_xt (by assumption)
    | with_reducible exact pc_xr (by assumption)
    | with_reducible exact fr_j_X11_type_0_16 (by assumption)
    | with_reducible refine pc_nk fun _ => ?_
    | with_reducible refine pc_if ?_ ?_
    | with_reducible refine pc_ck ?_
    | with_reducible refine pc_cb ?_
    | with_reducible refine pc_dv ?_
    | with_reducible refine pc_let fun _ => ?_
    | with_reducible refine pc_letL fun _ => ?_
    | with_reducible refine pc_ldN fun _ => ?_
    | with_reducible refine pc_ldL fun _ => ?_
    | with_reducible refine pc_ldR fun _ => ?_
    | with_reducible refine pc_put (eqF.sN (by assumption) (by decide)) fun _ _ => ?_
    | with_reducible refine pc_put (eqF.sL (by assumption) (by decide)) fun _ _ => ?_
    | with_reducible refine pc_put (eqF.sR (by assumption) (by decide)) fun _ _ => ?_
    | with_reducible refine pc_stN (by decide) (by assumption) fun _ _ => ?_
    | with_reducible refine pc_stL (by decide) (by assumption) fun _ _ => ?_
    | with_reducible refine pc_stR (by decide) (by assumption) fun _ _ => ?_
    | with_reducible refine pc_cpN (by decide) (by assumption) fun _ _ => ?_
    | with_reducible refine pc_pure fun _ => ?_
    | exact pc_some (by assumption)
    | exact pc_some (eqF.bX (by assumption))
    | exact pc_some trivial
    | dsimp only
theorem fr_f_X11_type {m0 : MM} {m : MM} {l0 : Nat} {l1 : Int64} {l3 : Int} (h : eqF [10, 50] m0 m) : Pc (f_X11_type m l0 l1 l3) (RF [10, 50] m0) := by
  unfold f_X11_type
  repeat' first
    | with_reducible exact pc_x0
    | with_reducible exact pc_xt (by assumption)
    | with_reducible exact pc_xr (by assumption)
    | with_reducible exact fr_j_X11_type_0_15 (by assumption)
    | with_reducible exact fr_j_X11_type_0_16 (by assumption)
    | with_reducible refine pc_nk fun _ => ?_
    | with_reducible refine pc_if ?_ ?_
    | with_reducible refine pc_ck ?_
    | with_reducible refine pc_cb ?_
    | with_reducible refine pc_dv ?_
    | with_reducible refine pc_let fun _ => ?_
    | with_reducible refine pc_letL fun _ => ?_
    | with_reducible refine pc_ldN fun _ => ?_
    | with_reducible refine pc_ldL fun _ => ?_
    | with_reducible refine pc_ldR fun _ => ?_
    | with_reducible refine pc_put (eqF.sN (by assumption) (by decide)) fun _ _ => ?_
    | with_reducible refine pc_put (eqF.sL (by assumption) (by decide)) fun _ _ => ?_
    | with_reducible refine pc_put (eqF.sR (by assumption) (by decide)) fun _ _ => ?_
    | with_reducible refine pc_stN (by decide) (by assumption) fun _ _ => ?_
    | with_reducible refine pc_stL (by decide) (by assumption) fun _ _ => ?_
    | with_reducible refine pc_stR (by decide) (by assumption) fun _ _ => ?_
    | with_reducible refine pc_cpN (by decide) (by assumption) fun _ _ => ?_
    | with_reducible refine pc_pure fun _ => ?_
    | exact pc_some (by assumption)
    | exact pc_some (eqF.bX (by assumption))
    | exact pc_some trivial
    | dsimp only
theorem fr_j_X11_wear_0_29 {m0 : MM} {m : MM} {l0 : Nat} {l1 : Int} {s0 : Int} (h : eqF [21] m0 m) : Pc (j_X11_wear_0_29 m l0 l1 s0) (RF [21] m0) := by
  unfold j_X11_wear_0_29
  repeat' first
    | with_reducible exact pc_x0
    | with_reducible exact pc_xt (by assumption)
    | with_reducible exact pc_xr (by assumption)
    | with_reducible refine pc_nk fun _ => ?_
    | with_reducible refine pc_if ?_ ?_
    | with_reducible refine pc_ck ?_
    | with_reducible refine pc_cb ?_
    | with_reducible refine pc_dv ?_
    | with_reducible refine pc_let fun _ => ?_
    | with_reducible refine pc_letL fun _ => ?_
    | with_reducible refine pc_ldN fun _ => ?_
    | with_reducible refine pc_ldL fun _ => ?_
    | with_reducible refine pc_ldR fun _ => ?_
    | with_reducible refine pc_put (eqF.sN (by assumption) (by decide)) fun _ _ => ?_
    | with_reducible refine pc_put (eqF.sL (by assumption) (by decide)) fun _ _ => ?_
    | with_reducible refine pc_put (eqF.sR (by assumption) (by decide)) fun _ _ => ?_
    | with_reducible refine pc_stN (by decide) (by assumption) fun _ _ => ?_
    | with_reducible refine pc_stL (by decide) (by assumption) fun _ _ => ?_
    | with_reducible refine pc_stR (by decide) (by assumption) fun _ _ => ?_
    | with_reducible refine pc_cpN (by decide) (by assumption) fun _ _ => ?_
    | with_reducible refine pc_bV (fr_f_X11_requireState (m0 := _) eqF.rf) (by decide) (by assumption) (fun _ _ => ?_) (fun _ _ _ => ?_)
    | with_reducible refine pc_pure fun _ => ?_
    | exact pc_some (by assumption)
    | exact pc_some (eqF.bX (by assumption))
    | exact pc_some trivial
    | dsimp only
theorem fr_f_X11_wear {m0 : MM} {m : MM} {l0 : Nat} {l1 : Int} (h : eqF [21] m0 m) : Pc (f_X11_wear m l0 l1) (RF [21] m0) := by
  unfold f_X11_wear
  repeat' first
    | with_reducible exact pc_x0
    | with_reducible exact pc_xt (by assumption)
    | with_reducible exact pc_xr (by assumption)
    | with_reducible exact fr_j_X11_wear_0_29 (by assumption)
    | with_reducible refine pc_nk fun _ => ?_
    | with_reducible refine pc_if ?_ ?_
    | with_reducible refine pc_ck ?_
    | with_reducible refine pc_cb ?_
    | with_reducible refine pc_dv ?_
    | with_reducible refine pc_let fun _ => ?_
    | with_reducible refine pc_letL fun _ => ?_
    | with_reducible refine pc_ldN fun _ => ?_
    | with_reducible refine pc_ldL fun _ => ?_
    | with_reducible refine pc_ldR fun _ => ?_
    | with_reducible refine pc_put (eqF.sN (by assumption) (by decide)) fun _ _ => ?_
    | with_reducible refine pc_put (eqF.sL (by assumption) (by decide)) fun _ _ => ?_
    | with_reducible refine pc_put (eqF.sR (by assumption) (by decide)) fun _ _ => ?_
    | with_reducible refine pc_stN (by decide) (by assumption) fun _ _ => ?_
    | with_reducible refine pc_stL (by decide) (by assumption) fun _ _ => ?_
    | with_reducible refine pc_stR (by decide) (by assumption) fun _ _ => ?_
    | with_reducible refine pc_cpN (by decide) (by assumption) fun _ _ => ?_
    | with_reducible refine pc_bV (fr_f_X11_requireIndex (m0 := _) eqF.rf) (by decide) (by assumption) (fun _ _ => ?_) (fun _ _ _ => ?_)
    | with_reducible refine pc_pure fun _ => ?_
    | exact pc_some (by assumption)
    | exact pc_some (eqF.bX (by assumption))
    | exact pc_some trivial
    | dsimp only
theorem fr_f_X6_init {m0 : MM} {m : MM} {l0 : Nat} (h : eqF [6] m0 m) : Pc (f_X6_init m l0) (RF [6] m0) := by
  unfold f_X6_init
  repeat' first
    | with_reducible exact pc_x0
    | with_reducible exact pc_xt (by assumption)
    | with_reducible exact pc_xr (by assumption)
    | with_reducible refine pc_nk fun _ => ?_
    | with_reducible refine pc_if ?_ ?_
    | with_reducible refine pc_ck ?_
    | with_reducible refine pc_cb ?_
    | with_reducible refine pc_dv ?_
    | with_reducible refine pc_let fun _ => ?_
    | with_reducible refine pc_letL fun _ => ?_
    | with_reducible refine pc_ldN fun _ => ?_
    | with_reducible refine pc_ldL fun _ => ?_
    | with_reducible refine pc_ldR fun _ => ?_
    | with_reducible refine pc_put (eqF.sN (by assumption) (by decide)) fun _ _ => ?_
    | with_reducible refine pc_put (eqF.sL (by assumption) (by decide)) fun _ _ => ?_
    | with_reducible refine pc_put (eqF.sR (by assumption) (by decide)) fun _ _ => ?_
    | with_reducible refine pc_stN (by decide) (by assumption) fun _ _ => ?_
    | with_reducible refine pc_stL (by decide) (by assumption) fun _ _ => ?_
    | with_reducible refine pc_stR (by decide) (by assumption) fun _ _ => ?_
    | with_reducible refine pc_cpN (by decide) (by assumption) fun _ _ => ?_
    | with_reducible refine pc_pure fun _ => ?_
    | exact pc_some (by assumption)
    | exact pc_some (eqF.bX (by assumption))
    | exact pc_some trivial
    | dsimp only
theorem fr_f_X11_wipe {m0 : MM} {m : MM} {l0 : Nat} (h : eqF [10] m0 m) : Pc (f_X11_wipe m l0) (RF [10] m0) := by
  unfold f_X11_wipe
  repeat' first
    | with_reducible exact pc_x0
    | with_reducible exact pc_xt (by assumption)
    | with_reducible exact pc_xr (by assumption)
    | with_reducible refine pc_nk fun _ => ?_
    | with_reducible refine pc_if ?_ ?_
    | with_reducible refine pc_ck ?_
    | with_reducible refine pc_cb ?_
    | with_reducible refine pc_dv ?_
    | with_reducible refine pc_let fun _ => ?_
    | with_reducible refine pc_letL fun _ => ?_
    | with_reducible refine pc_ldN fun _ => ?_
    | with_reducible refine pc_ldL fun _ => ?_
    | with_reducible refine pc_ldR fun _ => ?_
    | with_reducible refine pc_put (eqF.sN (by assumption) (by decide)) fun _ _ => ?_
    | with_reducible refine pc_put (eqF.sL (by assumption) (by decide)) fun _ _ => ?_
    | with_reducible refine pc_put (eqF.sR (by assumption) (by decide)) fun _ _ => ?_
    | with_reducible refine pc_stN (by decide) (by assumption) fun _ _ => ?_
    | with_reducible refine pc_stL (by decide) (by assumption) fun _ _ => ?_
    | with_reducible refine pc_stR (by decide) (by assumption) fun _ _ => ?_
    | with_reducible refine pc_cpN (by decide) (by assumption) fun _ _ => ?_
    | with_reducible refine pc_pure fun _ => ?_
    | exact pc_some (by assumption)
    | exact pc_some (eqF.bX (by assumption))
    | exact pc_some trivial
    | dsimp only
theorem fr_f_X12_holds {m0 : MM} {m : MM} {l0 : Nat} {l1 : Int} (h : eqF [12] m0 m) : Pc (f_X12_holds m l0 l1) (RF [12] m0) := by
  unfold f_X12_holds
  repeat' first
    | with_reducible exact pc_x0
    | with_reducible exact pc_xt (by assumption)
    | with_reducible exact pc_xr (by assumption)
    | with_reducible refine pc_nk fun _ => ?_
    | with_reducible refine pc_if ?_ ?_
    | with_reducible refine pc_ck ?_
    | with_reducible refine pc_cb ?_
    | with_reducible refine pc_dv ?_
    | with_reducible refine pc_let fun _ => ?_
    | with_reducible refine pc_letL fun _ => ?_
    | with_reducible refine pc_ldN fun _ => ?_
    | with_reducible refine pc_ldL fun _ => ?_
    | with_reducible refine pc_ldR fun _ => ?_
    | with_reducible refine pc_put (eqF.sN (by assumption) (by decide)) fun _ _ => ?_
    | with_reducible refine pc_put (eqF.sL (by assumption) (by decide)) fun _ _ => ?_
    | with_reducible refine pc_put (eqF.sR (by assumption) (by decide)) fun _ _ => ?_
    | with_reducible refine pc_stN (by decide) (by assumption) fun _ _ => ?_
    | with_reducible refine pc_stL (by decide) (by assumption) fun _ _ => ?_
    | with_reducible refine pc_stR (by decide) (by assumption) fun _ _ => ?_
    | with_reducible refine pc_cpN (by decide) (by assumption) fun _ _ => ?_
    | with_reducible refine pc_pure fun _ => ?_
    | exact pc_some (by assumption)
    | exact pc_some (eqF.bX (by assumption))
    | exact pc_some trivial
    | dsimp only
theorem fr_j_X12_account_0_56 {m0 : MM} {m : MM} {l0 : Nat} {l1 : Int} {l2 : Int} {s0 : Nat} {s1 : Int} (h : eqF [12] m0 m) : Pc (j_X12_account_0_56 m l0 l1 l2 s0 s1) (RF [12] m0) := by
  unfold j_X12_account_0_56
  repeat' first
    | with_reducible exact pc_x0
    | with_reducible exact pc_xt (by assumption)
    | with_reducible exact pc_xr (by assumption)
    | with_reducible refine pc_nk fun _ => ?_
    | with_reducible refine pc_if ?_ ?_
    | with_reducible refine pc_ck ?_
    | with_reducible refine pc_cb ?_
    | with_reducible refine pc_dv ?_
    | with_reducible refine pc_let fun _ => ?_
    | with_reducible refine pc_letL fun _ => ?_
    | with_reducible refine pc_ldN fun _ => ?_
    | with_reducible refine pc_ldL fun _ => ?_
    | with_reducible refine pc_ldR fun _ => ?_
    | with_reducible refine pc_put (eqF.sN (by assumption) (by decide)) fun _ _ => ?_
    | with_reducible refine pc_put (eqF.sL (by assumption) (by decide)) fun _ _ => ?_
    | with_reducible refine pc_put (eqF.sR (by assumption) (by decide)) fun _ _ => ?_
    | with_reducible refine pc_stN (by decide) (by assumption) fun _ _ => ?_
    | with_reducible refine pc_stL (by decide) (by assumption) fun _ _ => ?_
    | with_reducible refine pc_stR (by decide) (by assumption) fun _ _ => ?_
    | with_reducible refine pc_cpN (by decide) (by assumption) fun _ _ => ?_
    | with_reducible refine pc_bI (fr_f_X12_holds (m0 := _) eqF.rf) (by decide) (by assumption) (fun _ _ _ => ?_) (fun _ _ _ => ?_)
    | with_reducible refine pc_pure fun _ => ?_
    | exact pc_some (by assumption)
    | exact pc_some (eqF.bX (by assumption))
    | exact pc_some trivial
    | dsimp only
theorem fr_j_X12_account_0_35 {m0 : MM} {m : MM} {l0 : Nat} {l1 : Int} {l2 : Int} {l3 : Int} {s0 : Int} (h : eqF [12] m0 m) : Pc (j_X12_account_0_35 m l0 l1 l2 l3 s0) (RF [12] m0) := by
  unfold j_X12_account_0_35
  repeat' first
    | with_reducible exact pc_x0
    | with_reducible exact pc_xt (by assumption)
    | with_reducible exact pc_xr (by assumption)
    | with_reducible exact fr_j_X12_account_0_56 (by assumption)
    | with_reducible refine pc_nk fun _ => ?_
    | with_reducible refine pc_if ?_ ?_
    | with_reducible refine pc_ck ?_
    | with_reducible refine pc_cb ?_
    | with_reducible refine pc_dv ?_
    | with_reducible refine pc_let fun _ => ?_
    | with_reducible refine pc_letL fun _ => ?_
    | with_reducible refine pc_ldN fun _ => ?_
    | with_reducible refine pc_ldL fun _ => ?_
    | with_reducible refine pc_ldR fun _ => ?_
    | with_reducible refine pc_put (eqF.sN (by assumption) (by decide)) fun _ _ => ?_
    | with_reducible refine pc_put (eqF.sL (by assumption) (by decide)) fun _ _ => ?_
    | with_reducible refine pc_put (eqF.sR (by assumption) (by decide)) fun _ _ => ?_
    | with_reducible refine pc_stN (by decide) (by assumption) fun _ _ => ?_
    | with_reducible refine pc_stL (by decide) (by assumption) fun _ _ => ?_
    | with_reducible refine pc_stR (by decide) (by assumption) fun _ _ => ?_
    | with_reducible refine pc_cpN (by decide) (by assumption) fun _ _ => ?_
    | with_reducible refine pc_pure fun _ => ?_
    | exact pc_some (by assumption)
    | exact pc_some (eqF.bX (by assumption))
    | exact pc_some trivial
    | dsimp only
theorem fr_j_X12_account_0_32 {m0 : MM} {m : MM} {l0 : Nat} {l1 : Int} {l2 : Int} {l3 : Int} {s0 : Int} {s1 : Int} {s2 : Int} (h : eqF [12] m0 m) : Pc (j_X12_account_0_32 m l0 l1 l2 l3 s0 s1 s2) (RF [12] m0) := by
  unfold j_X12_account_0_32
  repeat' first
    | with_reducible exact pc_x0
    | with_reducible exact pc_xt (by assumption)
    | with_reducible exact pc_xr (by assumption)
    | with_reducible exact fr_j_X12_account_0_35 (by assumption)
    | with_reducible refine pc_nk fun _ => ?_
    | with_reducible refine pc_if ?_ ?_
    | with_reducible refine pc_ck ?_
    | with_reducible refine pc_cb ?_
    | with_reducible refine pc_dv ?_
    | with_reducible refine pc_let fun _ => ?_
    | with_reducible refine pc_letL fun _ => ?_
    | with_reducible refine pc_ldN fun _ => ?_
    | with_reducible refine pc_ldL fun _ => ?_
    | with_reducible refine pc_ldR fun _ => ?_
    | with_reducible refine pc_put (eqF.sN (by assumption) (by decide)) fun _ _ => ?_
    | with_reducible refine pc_put (eqF.sL (by assumption) (by decide)) fun _ _ => ?_
    | with_reducible refine pc_put (eqF.sR (by assumption) (by decide)) fun _ _ => ?_
    | with_reducible refine pc_stN (by decide) (by assumption) fun _ _ => ?_
    | with_reducible refine pc_stL (by decide) (by assumption) fun _ _ => ?_
    | with_reducible refine pc_stR (by decide) (by assumption) fun _ _ => ?_
    | with_reducible refine pc_cpN (by decide) (by assumption) fun _ _ => ?_
    | with_reducible refine pc_pure fun _ => ?_
    | exact pc_some (by assumption)
    | exact pc_some (eqF.bX (by assumption))
    | exact pc_some trivial
    | dsimp only
theorem fr_f_X12_account {m0 : MM} {m : MM} {l0 : Nat} {l1 : Int} {l2 : Int} (h : eqF [12] m0 m) : Pc (f_X12_account m l0 l1 l2) (RF [12] m0) := by
  unfold f_X12_account
  repeat' first
    | with_reducible exact pc_x0
    | with_reducible exact pc_xt (by assumption)
    | with_reducible exact pc_xr (by assumption)
    | with_reducible exact fr_j_X12_account_0_32 (by assumption)
    | with_reducible exact fr_j_X12_account_0_35 (by assumption)
    | with_reducible refine pc_nk fun _ => ?_
    | with_reducible refine pc_if ?_ ?_
    | with_reducible refine pc_ck ?_
    | with_reducible refine pc_cb ?_
    | with_reducible refine pc_dv ?_
    | with_reducible refine pc_let fun _ => ?_
    | with_reducible refine pc_letL fun _ => ?_
    | with_reducible refine pc_ldN fun _ => ?_
    | with_reducible refine pc_ldL fun _ => ?_
    | with_reducible refine pc_ldR fun _ => ?_
    | with_reducible refine pc_put (eqF.sN (by assumption) (by decide)) fun _ _ => ?_
    | with_reducible refine pc_put (eqF.sL (by assumption) (by decide)) fun _ _ => ?_
    | with_reducible refine pc_put (eqF.sR (by assumption) (by decide)) fun _ _ => ?_
    | with_reducible refine pc_stN (by decide) (by assumption) fun _ _ => ?_
    | with_reducible refine pc_stL (by decide) (by assumption) fun _ _ => ?_
    | with_reducible refine pc_stR (by decide) (by assumption) fun _ _ => ?_
    | with_reducible refine pc_cpN (by decide) (by assumption) fun _ _ => ?_
    | with_reducible refine pc_pure fun _ => ?_
    | exact pc_some (by assumption)
    | exact pc_some (eqF.bX (by assumption))
    | exact pc_some trivial
    | dsimp only
theorem fr_b_X12_findSure_11 {m0 : MM} {l0 : Nat} {l1 : Int} {l2 : Int} {l3 : Int} {mm : MM} (h : eqF [127] m0 mm) : Pc (b_X12_findSure_11 l0 l1 l2 l3 mm) (fun z => Sum.elim (fun s => eqF [127] m0 s.2) (fun z => eqF [127] m0 z) z) := by
  unfold b_X12_findSure_11
  repeat' first
    | with_reducible exact pc_x0
    | with_reducible exact pc_xt (by assumption)
    | with_reducible exact pc_xr (by assumption)
    | with_reducible refine pc_nk fun _ => ?_
    | with_reducible refine pc_if ?_ ?_
    | with_reducible refine pc_ck ?_
    | with_reducible refine pc_cb ?_
    | with_reducible refine pc_dv ?_
    | with_reducible refine pc_let fun _ => ?_
    | with_reducible refine pc_letL fun _ => ?_
    | with_reducible refine pc_ldN fun _ => ?_
    | with_reducible refine pc_ldL fun _ => ?_
    | with_reducible refine pc_ldR fun _ => ?_
    | with_reducible refine pc_put (eqF.sN (by assumption) (by decide)) fun _ _ => ?_
    | with_reducible refine pc_put (eqF.sL (by assumption) (by decide)) fun _ _ => ?_
    | with_reducible refine pc_put (eqF.sR (by assumption) (by decide)) fun _ _ => ?_
    | with_reducible refine pc_stN (by decide) (by assumption) fun _ _ => ?_
    | with_reducible refine pc_stL (by decide) (by assumption) fun _ _ => ?_
    | with_reducible refine pc_stR (by decide) (by assumption) fun _ _ => ?_
    | with_reducible refine pc_cpN (by decide) (by assumption) fun _ _ => ?_
    | with_reducible refine pc_pure fun _ => ?_
    | exact pc_some (by assumption)
    | exact pc_some (eqF.bX (by assumption))
    | exact pc_some trivial
    | dsimp only
theorem fr_j_X12_findSure_71_118 {m0 : MM} {m : MM} {l0 : Nat} {l1 : Int} {l2 : Int} {l3 : Int} {l4 : Int} {l5 : Int} {l6 : Int} {s0 : Nat} {s1 : Int} {s2 : Int} {s3 : Int} (h : eqF [127] m0 m) : Pc (j_X12_findSure_71_118 m l0 l1 l2 l3 l4 l5 l6 s0 s1 s2 s3) (fun z => Sum.elim (fun s => eqF [127] m0 s.2) (fun z => eqF [127] m0 z) z) := by
  unfold j_X12_findSure_71_118
  repeat' first
    | with_reducible exact pc_x0
    | with_reducible exact pc_xt (by assumption)
    | with_reducible exact pc_xr (by assumption)
    | with_reducible refine pc_nk fun _ => ?_
    | with_reducible refine pc_if ?_ ?_
    | with_reducible refine pc_ck ?_
    | with_reducible refine pc_cb ?_
    | with_reducible refine pc_dv ?_
    | with_reducible refine pc_let fun _ => ?_
    | with_reducible refine pc_letL fun _ => ?_
    | with_reducible refine pc_ldN fun _ => ?_
    | with_reducible refine pc_ldL fun _ => ?_
    | with_reducible refine pc_ldR fun _ => ?_
    | with_reducible refine pc_put (eqF.sN (by assumption) (by decide)) fun _ _ => ?_
    | with_reducible refine pc_put (eqF.sL (by assumption) (by decide)) fun _ _ => ?_
    | with_reducible refine pc_put (eqF.sR (by assumption) (by decide)) fun _ _ => ?_
    | with_reducible refine pc_stN (by decide) (by assumption) fun _ _ => ?_
    | with_reducible refine pc_stL (by decide) (by assumption) fun _ _ => ?_
    | with_reducible refine pc_stR (by decide) (by assumption) fun _ _ => ?_
    | with_reducible refine pc_cpN (by decide) (by assumption) fun _ _ => ?_
    | with_reducible refine pc_pure fun _ => ?_
    | exact pc_some (by assumption)
    | exact pc_some (eqF.bX (by assumption))
    | exact pc_some trivial
    | dsimp only
theorem fr_j_X12_findSure_71_117 {m0 : MM} {m : MM} {l0 : Nat} {l1 : Int} {l2 : Int} {l3 : Int} {l4 : Int} {l5 : Int} {l6 : Int} {s0 : Nat} {s1 : Int} {s2 : Int} (h : eqF [127] m0 m) : Pc (j_X12_findSure_71_117 m l0 l1 l2 l3 l4 l5 l6 s0 s1 s2) (fun z => Sum.elim (fun s => eqF [127] m0 s.2) (fun z => eqF [127] m0 z) z) := by
  unfold j_X12_findSure_71_117
  repeat' first
    | with_reducible exact pc_x0
    | with_reducible exact pc_xt (by assumption)
    | with_reducible exact pc_xr (by assumption)
    | with_reducible exact fr_j_X12_findSure_71_118 (by assumption)
    | with_reducible refine pc_nk fun _ => ?_
    | with_reducible refine pc_if ?_ ?_
    | with_reducible refine pc_ck ?_
    | with_reducible refine pc_cb ?_
    | with_reducible refine pc_dv ?_
    | with_reducible refine pc_let fun _ => ?_
    | with_reducible refine pc_letL fun _ => ?_
    | with_reducible refine pc_ldN fun _ => ?_
    | with_reducible refine pc_ldL fun _ => ?_
    | with_reducible refine pc_ldR fun _ => ?_
    | with_reducible refine pc_put (eqF.sN (by assumption) (by decide)) fun _ _ => ?_
    | with_reducible refine pc_put (eqF.sL (by assumption) (by decide)) fun _ _ => ?_
    | with_reducible refine pc_put (eqF.sR (by assumption) (by decide)) fun _ _ => ?_
    | with_reducible refine pc_stN (by decide) (by assumption) fun _ _ => ?_
    | with_reducible refine pc_stL (by decide) (by assumption) fun _ _ => ?_
    | with_reducible refine pc_stR (by decide) (by assumption) fun _ _ => ?_
    | with_reducible refine pc_cpN (by decide) (by assumption) fun _ _ => ?_
    | with_reducible refine pc_pure fun _ => ?_
    | exact pc_some (by assumption)
    | exact pc_some (eqF.bX (by assumption))
    | exact pc_some trivial
    | dsimp only
theorem fr_b_X12_findSure_71 {m0 : MM} {l0 : Nat} {l1 : Int} {l2 : Int} {l3 : Int} {l4 : Int} {l5 : Int} {l6 : Int} {mm : MM} (h : eqF [127] m0 mm) : Pc (b_X12_findSure_71 l0 l1 l2 l3 l4 l5 l6 mm) (fun z => Sum.elim (fun s => eqF [127] m0 s.2) (fun z => eqF [127] m0 z) z) := by
  unfold b_X12_findSure_71
  repeat' first
    | with_reducible exact pc_x0
    | with_reducible exact pc_xt (by assumption)
    | with_reducible exact pc_xr (by assumption)
    | with_reducible exact fr_j_X12_findSure_71_117 (by assumption)
    | with_reducible exact fr_j_X12_findSure_71_118 (by assumption)
    | with_reducible refine pc_nk fun _ => ?_
    | with_reducible refine pc_if ?_ ?_
    | with_reducible refine pc_ck ?_
    | with_reducible refine pc_cb ?_
    | with_reducible refine pc_dv ?_
    | with_reducible refine pc_let fun _ => ?_
    | with_reducible refine pc_letL fun _ => ?_
    | with_reducible refine pc_ldN fun _ => ?_
    | with_reducible refine pc_ldL fun _ => ?_
    | with_reducible refine pc_ldR fun _ => ?_
    | with_reducible refine pc_put (eqF.sN (by assumption) (by decide)) fun _ _ => ?_
    | with_reducible refine pc_put (eqF.sL (by assumption) (by decide)) fun _ _ => ?_
    | with_reducible refine pc_put (eqF.sR (by assumption) (by decide)) fun _ _ => ?_
    | with_reducible refine pc_stN (by decide) (by assumption) fun _ _ => ?_
    | with_reducible refine pc_stL (by decide) (by assumption) fun _ _ => ?_
    | with_reducible refine pc_stR (by decide) (by assumption) fun _ _ => ?_
    | with_reducible refine pc_cpN (by decide) (by assumption) fun _ _ => ?_
    | with_reducible refine pc_pure fun _ => ?_
    | exact pc_some (by assumption)
    | exact pc_some (eqF.bX (by assumption))
    | exact pc_some trivial
    | dsimp only
theorem fr_j_X12_findSure_42_126 {m0 : MM} {m : MM} {l0 : Nat} {l1 : Int} {l2 : Int} {l3 : Int} {l4 : Int} (h : eqF [127] m0 m) : Pc (j_X12_findSure_42_126 m l0 l1 l2 l3 l4) (fun z => Sum.elim (fun s => eqF [127] m0 s.2) (fun z => eqF [127] m0 z) z) := by
  unfold j_X12_findSure_42_126
  repeat' first
    | with_reducible exact pc_x0
    | with_reducible exact pc_xt (by assumption)
    | with_reducible exact pc_xr (by assumption)
    | with_reducible refine pc_nk fun _ => ?_
    | with_reducible refine pc_if ?_ ?_
    | with_reducible refine pc_ck ?_
    | with_reducible refine pc_cb ?_
    | with_reducible refine pc_dv ?_
    | with_reducible refine pc_let fun _ => ?_
    | with_reducible refine pc_letL fun _ => ?_
    | with_reducible refine pc_ldN fun _ => ?_
    | with_reducible refine pc_ldL fun _ => ?_
    | with_reducible refine pc_ldR fun _ => ?_
    | with_reducible refine pc_put (eqF.sN (by assumption) (by decide)) fun _ _ => ?_
    | with_reducible refine pc_put (eqF.sL (by assumption) (by decide)) fun _ _ => ?_
    | with_reducible refine pc_put (eqF.sR (by assumption) (by decide)) fun _ _ => ?_
    | with_reducible refine pc_stN (by decide) (by assumption) fun _ _ => ?_
    | with_reducible refine pc_stL (by decide) (by assumption) fun _ _ => ?_
    | with_reducible refine pc_stR (by decide) (by assumption) fun _ _ => ?_
    | with_reducible refine pc_cpN (by decide) (by assumption) fun _ _ => ?_
    | with_reducible refine pc_pure fun _ => ?_
    | exact pc_some (by assumption)
    | exact pc_some (eqF.bX (by assumption))
    | exact pc_some trivial
    | dsimp only
theorem fr_b_X12_findSure_42 {m0 : MM} {l0 : Nat} {l1 : Int} {l2 : Int} {l3 : Int} {l4 : Int} {mm : MM} (h : eqF [127] m0 mm) : Pc (b_X12_findSure_42 l0 l1 l2 l3 l4 mm) (fun z => Sum.elim (fun s => eqF [127] m0 s.2) (fun z => eqF [127] m0 z) z) := by
  unfold b_X12_findSure_42
  repeat' first
    | with_reducible exact pc_x0
    | with_reducible exact pc_xt (by assumption)
    | with_reducible exact pc_xr (by assumption)
    | with_reducible exact fr_j_X12_findSure_42_126 (by assumption)
    | with_reducible refine pc_nk fun _ => ?_
    | with_reducible refine pc_if ?_ ?_
    | with_reducible refine pc_ck ?_
    | with_reducible refine pc_cb ?_
    | with_reducible refine pc_dv ?_
    | with_reducible refine pc_let fun _ => ?_
    | with_reducible refine pc_letL fun _ => ?_
    | with_reducible refine pc_ldN fun _ => ?_
    | with_reducible refine pc_ldL fun _ => ?_
    | with_reducible refine pc_ldR fun _ => ?_
    | with_reducible refine pc_put (eqF.sN (by assumption) (by decide)) fun _ _ => ?_
    | with_reducible refine pc_put (eqF.sL (by assumption) (by decide)) fun _ _ => ?_
    | with_reducible refine pc_put (eqF.sR (by assumption) (by decide)) fun _ _ => ?_
    | with_reducible refine pc_stN (by decide) (by assumption) fun _ _ => ?_
    | with_reducible refine pc_stL (by decide) (by assumption) fun _ _ => ?_
    | with_reducible refine pc_stR (by decide) (by assumption) fun _ _ => ?_
    | with_reducible refine pc_cpN (by decide) (by assumption) fun _ _ => ?_
    | with_reducible refine pc_lp (fun s => eqF [127] m0 s.2) (fun z => eqF [127] m0 z) (by assumption) (fun s hs => fr_b_X12_findSure_71 hs) (fun z hz => ?_)
    | with_reducible refine pc_pure fun _ => ?_
    | exact pc_some (by assumption)
    | exact pc_some (eqF.bX (by assumption))
    | exact pc_some trivial
    | dsimp only
theorem fr_j_X12_findSure_31_132 {m0 : MM} {m : MM} {l0 : Nat} {l1 : Int} {l2 : Int} {l3 : Int} (h : eqF [127] m0 m) : Pc (j_X12_findSure_31_132 m l0 l1 l2 l3) (fun z => Sum.elim (fun s => eqF [127] m0 s.2) (fun z => eqF [127] m0 z) z) := by
  unfold j_X12_findSure_31_132
  repeat' first
    | with_reducible exact pc_x0
    | with_reducible exact pc_xt (by assumption)
    | with_reducible exact pc_xr (by assumption)
    | with_reducible refine pc_nk fun _ => ?_
    | with_reducible refine pc_if ?_ ?_
    | with_reducible refine pc_ck ?_
    | with_reducible refine pc_cb ?_
    | with_reducible refine pc_dv ?_
    | with_reducible refine pc_let fun _ => ?_
    | with_reducible refine pc_letL fun _ => ?_
    | with_reducible refine pc_ldN fun _ => ?_
    | with_reducible refine pc_ldL fun _ => ?_
    | with_reducible refine pc_ldR fun _ => ?_
    | with_reducible refine pc_put (eqF.sN (by assumption) (by decide)) fun _ _ => ?_
    | with_reducible refine pc_put (eqF.sL (by assumption) (by decide)) fun _ _ => ?_
    | with_reducible refine pc_put (eqF.sR (by assumption) (by decide)) fun _ _ => ?_
    | with_reducible refine pc_stN (by decide) (by assumption) fun _ _ => ?_
    | with_reducible refine pc_stL (by decide) (by assumption) fun _ _ => ?_
    | with_reducible refine pc_stR (by decide) (by assumption) fun _ _ => ?_
    | with_reducible refine pc_cpN (by decide) (by assumption) fun _ _ => ?_
    | with_reducible refine pc_pure fun _ => ?_
    | exact pc_some (by assumption)
    | exact pc_some (eqF.bX (by assumption))
    | exact pc_some trivial
    | dsimp only
theorem fr_b_X12_findSure_31 {m0 : MM} {l0 : Nat} {l1 : Int} {l2 : Int} {l3 : Int} {mm : MM} (h : eqF [127] m0 mm) : Pc (b_X12_findSure_31 l0 l1 l2 l3 mm) (fun z => Sum.elim (fun s => eqF [127] m0 s.2) (fun z => eqF [127] m0 z) z) := by
  unfold b_X12_findSure_31
  repeat' first
    | with_reducible exact pc_x0
    | with_reducible exact pc_xt (by assumption)
    | with_reducible exact pc_xr (by assumption)
    | with_reducible exact fr_j_X12_findSure_31_132 (by assumption)
    | with_reducible refine pc_nk fun _ => ?_
    | with_reducible refine pc_if ?_ ?_
    | with_reducible refine pc_ck ?_
    | with_reducible refine pc_cb ?_
    | with_reducible refine pc_dv ?_
    | with_reducible refine pc_let fun _ => ?_
    | with_reducible refine pc_letL fun _ => ?_
    | with_reducible refine pc_ldN fun _ => ?_
    | with_reducible refine pc_ldL fun _ => ?_
    | with_reducible refine pc_ldR fun _ => ?_
    | with_reducible refine pc_put (eqF.sN (by assumption) (by decide)) fun _ _ => ?_
    | with_reducible refine pc_put (eqF.sL (by assumption) (by decide)) fun _ _ => ?_
    | with_reducible refine pc_put (eqF.sR (by assumption) (by decide)) fun _ _ => ?_
    | with_reducible refine pc_stN (by decide) (by assumption) fun _ _ => ?_
    | with_reducible refine pc_stL (by decide) (by assumption) fun _ _ => ?_
    | with_reducible refine pc_stR (by decide) (by assumption) fun _ _ => ?_
    | with_reducible refine pc_cpN (by decide) (by assumption) fun _ _ => ?_
    | with_reducible refine pc_lp (fun s => eqF [127] m0 s.2) (fun z => eqF [127] m0 z) (by assumption) (fun s hs => fr_b_X12_findSure_42 hs) (fun z hz => ?_)
    | with_reducible refine pc_pure fun _ => ?_
    | exact pc_some (by assumption)
    | exact pc_some (eqF.bX (by assumption))
    | exact pc_some trivial
    | dsimp only
theorem fr_j_X12_findSure_0_138 {m0 : MM} {m : MM} (h : eqF [127] m0 m) : Pc (j_X12_findSure_0_138 m) (RF [127] m0) := by
  unfold j_X12_findSure_0_138
  repeat' first
    | with_reducible exact pc_x0
    | with_reducible exact pc_xt (by assumption)
    | with_reducible exact pc_xr (by assumption)
    | with_reducible refine pc_nk fun _ => ?_
    | with_reducible refine pc_if ?_ ?_
    | with_reducible refine pc_ck ?_
    | with_reducible refine pc_cb ?_
    | with_reducible refine pc_dv ?_
    | with_reducible refine pc_let fun _ => ?_
    | with_reducible refine pc_letL fun _ => ?_
    | with_reducible refine pc_ldN fun _ => ?_
    | with_reducible refine pc_ldL fun _ => ?_
    | with_reducible refine pc_ldR fun _ => ?_
    | with_reducible refine pc_put (eqF.sN (by assumption) (by decide)) fun _ _ => ?_
    | with_reducible refine pc_put (eqF.sL (by assumption) (by decide)) fun _ _ => ?_
    | with_reducible refine pc_put (eqF.sR (by assumption) (by decide)) fun _ _ => ?_
    | with_reducible refine pc_stN (by decide) (by assumption) fun _ _ => ?_
    | with_reducible refine pc_stL (by decide) (by assumption) fun _ _ => ?_
    | with_reducible refine pc_stR (by decide) (by assumption) fun _ _ => ?_
    | with_reducible refine pc_cpN (by decide) (by assumption) fun _ _ => ?_
    | with_reducible refine pc_pure fun _ => ?_
    | exact pc_some (by assumption)
    | exact pc_some (eqF.bX (by assumption))
    | exact pc_some trivial
    | dsimp only
theorem fr_j_X12_findSure_0_29 {m0 : MM} {m : MM} {l0 : Nat} {l1 : Int} {l2 : Int} (h : eqF [127] m0 m) : Pc (j_X12_findSure_0_29 m l0 l1 l2) (RF [127] m0) := by
  unfold j_X12_findSure_0_29
  repeat' first
    | with_reducible exact pc_x0
    | with_reducible exact pc_xt (by assumption)
    | with_reducible exact pc_xr (by assumption)
    | with_reducible exact fr_j_X12_findSure_0_138 (by assumption)
    | with_reducible refine pc_nk fun _ => ?_
    | with_reducible refine pc_if ?_ ?_
    | with_reducible refine pc_ck ?_
    | with_reducible refine pc_cb ?_
    | with_reducible refine pc_dv ?_
    | with_reducible refine pc_let fun _ => ?_
    | with_reducible refine pc_letL fun _ => ?_
    | with_reducible refine pc_ldN fun _ => ?_
    | with_reducible refine pc_ldL fun _ => ?_
    | with_reducible refine pc_ldR fun _ => ?_
    | with_reducible refine pc_put (eqF.sN (by assumption) (by decide)) fun _ _ => ?_
    | with_reducible refine pc_put (eqF.sL (by assumption) (by decide)) fun _ _ => ?_
    | with_reducible refine pc_put (eqF.sR (by assumption) (by decide)) fun _ _ => ?_
    | with_reducible refine pc_stN (by decide) (by assumption) fun _ _ => ?_
    | with_reducible refine pc_stL (by decide) (by assumption) fun _ _ => ?_
    | with_reducible refine pc_stR (by decide) (by assumption) fun _ _ => ?_
    | with_reducible refine pc_cpN (by decide) (by assumption) fun _ _ => ?_
    | with_reducible refine pc_lp (fun s => eqF [127] m0 s.2) (fun z => eqF [127] m0 z) (by assumption) (fun s hs => fr_b_X12_findSure_31 hs) (fun z hz => ?_)
    | with_reducible refine pc_pure fun _ => ?_
    | exact pc_some (by assumption)
    | exact pc_some (eqF.bX (by assumption))
    | exact pc_some trivial
    | dsimp only
theorem fr_f_X12_findSure {m0 : MM} {m : MM} {l0 : Nat} {l1 : Int} (h : eqF [127] m0 m) : Pc (f_X12_findSure m l0 l1) (RF [127] m0) := by
  unfold f_X12_findSure
  repeat' first
    | with_reducible exact pc_x0
    | with_reducible exact pc_xt (by assumption)
    | with_reducible exact pc_xr (by assumption)
    | with_reducible exact fr_j_X12_findSure_0_29 (by assumption)
    | with_reducible refine pc_nk fun _ => ?_
    | with_reducible refine pc_if ?_ ?_
    | with_reducible refine pc_ck ?_
    | with_reducible refine pc_cb ?_
    | with_reducible refine pc_dv ?_
    | with_reducible refine pc_let fun _ => ?_
    | with_reducible refine pc_letL fun _ => ?_
    | with_reducible refine pc_ldN fun _ => ?_
    | with_reducible refine pc_ldL fun _ => ?_
    | with_reducible refine pc_ldR fun _ => ?_
    | with_reducible refine pc_put (eqF.sN (by assumption) (by decide)) fun _ _ => ?_
    | with_reducible refine pc_put (eqF.sL (by assumption) (by decide)) fun _ _ => ?_
    | with_reducible refine pc_put (eqF.sR (by assumption) (by decide)) fun _ _ => ?_
    | with_reducible refine pc_stN (by decide) (by assumption) fun _ _ => ?_
    | with_reducible refine pc_stL (by decide) (by assumption) fun _ _ => ?_
    | with_reducible refine pc_stR (by decide) (by assumption) fun _ _ => ?_
    | with_reducible refine pc_cpN (by decide) (by assumption) fun _ _ => ?_
    | with_reducible refine pc_lp (fun s => eqF [127] m0 s.2) (fun z => eqF [127] m0 z) (by assumption) (fun s hs => fr_b_X12_findSure_11 hs) (fun z hz => ?_)
    | with_reducible refine pc_pure fun _ => ?_
    | exact pc_some (by assumption)
    | exact pc_some (eqF.bX (by assumption))
    | exact pc_some trivial
    | dsimp only
theorem fr_j_X12_ahead_81_123 {m0 : MM} {m : MM} {l0 : Nat} {l2 : Int} {l3 : Int} {l5 : Int} {l6 : Int} {l7 : Int} {s0 : Nat} {s1 : Int} {s2 : Int} {s3 : Int} (h : eqF [12, 127] m0 m) : Pc (j_X12_ahead_81_123 m l0 l2 l3 l5 l6 l7 s0 s1 s2 s3) (fun z => Sum.elim (fun s => eqF [12, 127] m0 s.2) (fun z => eqF [12, 127] m0 z) z) := by
  unfold j_X12_ahead_81_123
  repeat' first
    | with_reducible exact pc_x0
    | with_reducible exact pc_xt (by assumption)
    | with_reducible exact pc_xr (by assumption)
    | with_reducible refine pc_nk fun _ => ?_
    | with_reducible refine pc_if ?_ ?_
    | with_reducible refine pc_ck ?_
    | with_reducible refine pc_cb ?_
    | with_reducible refine pc_dv ?_
    | with_reducible refine pc_let fun _ => ?_
    | with_reducible refine pc_letL fun _ => ?_
    | with_reducible refine pc_ldN fun _ => ?_
    | with_reducible refine pc_ldL fun _ => ?_
    | with_reducible refine pc_ldR fun _ => ?_
    | with_reducible refine pc_put (eqF.sN (by assumption) (by decide)) fun _ _ => ?_
    | with_reducible refine pc_put (eqF.sL (by assumption) (by decide)) fun _ _ => ?_
    | with_reducible refine pc_put (eqF.sR (by assumption) (by decide)) fun _ _ => ?_
    | with_reducible refine pc_stN (by decide) (by assumption) fun _ _ => ?_
    | with_reducible refine pc_stL (by decide) (by assumption) fun _ _ => ?_
    | with_reducible refine pc_stR (by decide) (by assumption) fun _ _ => ?_
    | with_reducible refine pc_cpN (by decide) (by assumption) fun _ _ => ?_
    | with_reducible refine pc_pure fun _ => ?_
    | exact pc_some (by assumption)
    | exact pc_some (eqF.bX (by assumption))
    | exact pc_some trivial
    | dsimp only
theorem fr_b_X12_ahead_81 {m0 : MM} {l0 : Nat} {l2 : Int} {l3 : Int} {l5 : Int} {l6 : Int} {l7 : Int} {mm : MM} (h : eqF [12, 127] m0 mm) : Pc (b_X12_ahead_81 l0 l2 l3 l5 l6 l7 mm) (fun z => Sum.elim (fun s => eqF [12, 127] m0 s.2) (fun z => eqF [12, 127] m0 z) z) := by
  unfold b_X12_ahead_81
  repeat' first
    | with_reducible exact pc_x0
    | with_reducible exact pc_xt (by assumption)
    | with_reducible exact pc_xr (by assumption)
    | with_reducible exact fr_j_X12_ahead_81_123 (by assumption)
    | with_reducible refine pc_nk fun _ => ?_
    | with_reducible refine pc_if ?_ ?_
    | with_reducible refine pc_ck ?_
    | with_reducible refine pc_cb ?_
    | with_reducible refine pc_dv ?_
    | with_reducible refine pc_let fun _ => ?_
    | with_reducible refine pc_letL fun _ => ?_
    | with_reducible refine pc_ldN fun _ => ?_
    | with_reducible refine pc_ldL fun _ => ?_
    | with_reducible refine pc_ldR fun _ => ?_
    | with_reducible refine pc_put (eqF.sN (by assumption) (by decide)) fun _ _ => ?_
    | with_reducible refine pc_put (eqF.sL (by assumption) (by decide)) fun _ _ => ?_
    | with_reducible refine pc_put (eqF.sR (by assumption) (by decide)) fun _ _ => ?_
    | with_reducible refine pc_stN (by decide) (by assumption) fun _ _ => ?_
    | with_reducible refine pc_stL (by decide) (by assumption) fun _ _ => ?_
    | with_reducible refine pc_stR (by decide) (by assumption) fun _ _ => ?_
    | with_reducible refine pc_cpN (by decide) (by assumption) fun _ _ => ?_
    | with_reducible refine pc_pure fun _ => ?_
    | exact pc_some (by assumption)
    | exact pc_some (eqF.bX (by assumption))
    | exact pc_some trivial
    | dsimp only
theorem fr_j_X12_ahead_71_131 {m0 : MM} {m : MM} {l0 : Nat} {l2 : Int} {l3 : Int} {l5 : Int} {l6 : Int} (h : eqF [12, 127] m0 m) : Pc (j_X12_ahead_71_131 m l0 l2 l3 l5 l6) (fun z => Sum.elim (fun s => eqF [12, 127] m0 s.2) (fun z => eqF [12, 127] m0 z) z) := by
  unfold j_X12_ahead_71_131
  repeat' first
    | with_reducible exact pc_x0
    | with_reducible exact pc_xt (by assumption)
    | with_reducible exact pc_xr (by assumption)
    | with_reducible refine pc_nk fun _ => ?_
    | with_reducible refine pc_if ?_ ?_
    | with_reducible refine pc_ck ?_
    | with_reducible refine pc_cb ?_
    | with_reducible refine pc_dv ?_
    | with_reducible refine pc_let fun _ => ?_
    | with_reducible refine pc_letL fun _ => ?_
    | with_reducible refine pc_ldN fun _ => ?_
    | with_reducible refine pc_ldL fun _ => ?_
    | with_reducible refine pc_ldR fun _ => ?_
    | with_reducible refine pc_put (eqF.sN (by assumption) (by decide)) fun _ _ => ?_
    | with_reducible refine pc_put (eqF.sL (by assumption) (by decide)) fun _ _ => ?_
    | with_reducible refine pc_put (eqF.sR (by assumption) (by decide)) fun _ _ => ?_
    | with_reducible refine pc_stN (by decide) (by assumption) fun _ _ => ?_
    | with_reducible refine pc_stL (by decide) (by assumption) fun _ _ => ?_
    | with_reducible refine pc_stR (by decide) (by assumption) fun _ _ => ?_
    | with_reducible refine pc_cpN (by decide) (by assumption) fun _ _ => ?_
    | with_reducible refine pc_pure fun _ => ?_
    | exact pc_some (by assumption)
    | exact pc_some (eqF.bX (by assumption))
    | exact pc_some trivial
    | dsimp only
theorem fr_b_X12_ahead_71 {m0 : MM} {l0 : Nat} {l2 : Int} {l3 : Int} {l5 : Int} {l6 : Int} {mm : MM} (h : eqF [12, 127] m0 mm) : Pc (b_X12_ahead_71 l0 l2 l3 l5 l6 mm) (fun z => Sum.elim (fun s => eqF [12, 127] m0 s.2) (fun z => eqF [12, 127] m0 z) z) := by
  unfold b_X12_ahead_71
  repeat' first
    | with_reducible exact pc_x0
    | with_reducible exact pc_xt (by assumption)
    | with_reducible exact pc_xr (by assumption)
    | with_reducible exact fr_j_X12_ahead_71_131 (by assumption)
    | with_reducible refine pc_nk fun _ => ?_
    | with_reducible refine pc_if ?_ ?_
    | with_reducible refine pc_ck ?_
    | with_reducible refine pc_cb ?_
    | with_reducible refine pc_dv ?_
    | with_reducible refine pc_let fun _ => ?_
    | with_reducible refine pc_letL fun _ => ?_
    | with_reducible refine pc_ldN fun _ => ?_
    | with_reducible refine pc_ldL fun _ => ?_
    | with_reducible refine pc_ldR fun _ => ?_
    | with_reducible refine pc_put (eqF.sN (by assumption) (by decide)) fun _ _ => ?_
    | with_reducible refine pc_put (eqF.sL (by assumption) (by decide)) fun _ _ => ?_
    | with_reducible refine pc_put (eqF.sR (by assumption) (by decide)) fun _ _ => ?_
    | with_reducible refine pc_stN (by decide) (by assumption) fun _ _ => ?_
    | with_reducible refine pc_stL (by decide) (by assumption) fun _ _ => ?_
    | with_reducible refine pc_stR (by decide) (by assumption) fun _ _ => ?_
    | with_reducible refine pc_cpN (by decide) (by assumption) fun _ _ => ?_
    | with_reducible refine pc_lp (fun s => eqF [12, 127] m0 s.2) (fun z => eqF [12, 127] m0 z) (by assumption) (fun s hs => fr_b_X12_ahead_81 hs) (fun z hz => ?_)
    | with_reducible refine pc_pure fun _ => ?_
    | exact pc_some (by assumption)
    | exact pc_some (eqF.bX (by assumption))
    | exact pc_some trivial
    | dsimp only
theorem fr_j_X12_ahead_0_137 {m0 : MM} {m : MM} {l0 : Nat} {l2 : Int} {l3 : Int} (h : eqF [12, 127] m0 m) : Pc (j_X12_ahead_0_137 m l0 l2 l3) (RF [12, 127] m0) := by
  unfold j_X12_ahead_0_137
  repeat' first
    | with_reducible exact pc_x0
    | with_reducible exact pc_xt (by assumption)
    | with_reducible exact pc_xr (by assumption)
    | with_reducible refine pc_nk fun _ => ?_
    | with_reducible refine pc_if ?_ ?_
    | with_reducible refine pc_ck ?_
    | with_reducible refine pc_cb ?_
    | with_reducible refine pc_dv ?_
    | with_reducible refine pc_let fun _ => ?_
    | with_reducible refine pc_letL fun _ => ?_
    | with_reducible refine pc_ldN fun _ => ?_
    | with_reducible refine pc_ldL fun _ => ?_
    | with_reducible refine pc_ldR fun _ => ?_
    | with_reducible refine pc_put (eqF.sN (by assumption) (by decide)) fun _ _ => ?_
    | with_reducible refine pc_put (eqF.sL (by assumption) (by decide)) fun _ _ => ?_
    | with_reducible refine pc_put (eqF.sR (by assumption) (by decide)) fun _ _ => ?_
    | with_reducible refine pc_stN (by decide) (by assumption) fun _ _ => ?_
    | with_reducible refine pc_stL (by decide) (by assumption) fun _ _ => ?_
    | with_reducible refine pc_stR (by decide) (by assumption) fun _ _ => ?_
    | with_reducible refine pc_cpN (by decide) (by assumption) fun _ _ => ?_
    | with_reducible refine pc_pure fun _ => ?_
    | exact pc_some (by assumption)
    | exact pc_some (eqF.bX (by assumption))
    | exact pc_some trivial
    | dsimp only
theorem fr_j_X12_ahead_0_45 {m0 : MM} {m : MM} {l0 : Nat} {l1 : Int} {l2 : Int} {l3 : Int} {s0 : Nat} {s1 : Int} (h : eqF [12, 127] m0 m) : Pc (j_X12_ahead_0_45 m l0 l1 l2 l3 s0 s1) (RF [12, 127] m0) := by
  unfold j_X12_ahead_0_45
  repeat' first
    | with_reducible exact pc_x0
    | with_reducible exact pc_xt (by assumption)
    | with_reducible exact pc_xr (by assumption)
    | with_reducible exact fr_j_X12_ahead_0_137 (by assumption)
    | with_reducible refine pc_nk fun _ => ?_
    | with_reducible refine pc_if ?_ ?_
    | with_reducible refine pc_ck ?_
    | with_reducible refine pc_cb ?_
    | with_reducible refine pc_dv ?_
    | with_reducible refine pc_let fun _ => ?_
    | with_reducible refine pc_letL fun _ => ?_
    | with_reducible refine pc_ldN fun _ => ?_
    | with_reducible refine pc_ldL fun _ => ?_
    | with_reducible refine pc_ldR fun _ => ?_
    | with_reducible refine pc_put (eqF.sN (by assumption) (by decide)) fun _ _ => ?_
    | with_reducible refine pc_put (eqF.sL (by assumption) (by decide)) fun _ _ => ?_
    | with_reducible refine pc_put (eqF.sR (by assumption) (by decide)) fun _ _ => ?_
    | with_reducible refine pc_stN (by decide) (by assumption) fun _ _ => ?_
    | with_reducible refine pc_stL (by decide) (by assumption) fun _ _ => ?_
    | with_reducible refine pc_stR (by decide) (by assumption) fun _ _ => ?_
    | with_reducible refine pc_cpN (by decide) (by assumption) fun _ _ => ?_
    | with_reducible refine pc_bI (fr_f_X12_holds (m0 := _) eqF.rf) (by decide) (by assumption) (fun _ _ _ => ?_) (fun _ _ _ => ?_)
    | with_reducible refine pc_bV (fr_f_X12_findSure (m0 := _) eqF.rf) (by decide) (by assumption) (fun _ _ => ?_) (fun _ _ _ => ?_)
    | with_reducible refine pc_lp (fun s => eqF [12, 127] m0 s.2) (fun z => eqF [12, 127] m0 z) (by assumption) (fun s hs => fr_b_X12_ahead_71 hs) (fun z hz => ?_)
    | with_reducible refine pc_pure fun _ => ?_
    | exact pc_some (by assumption)
    | exact pc_some (eqF.bX (by assumption))
    | exact pc_some trivial
    | dsimp only
theorem fr_j_X12_ahead_0_23 {m0 : MM} {m : MM} {l0 : Nat} {l1 : Int} {l2 : Int} {l3 : Int} {s0 : Int} (h : eqF [12, 127] m0 m) : Pc (j_X12_ahead_0_23 m l0 l1 l2 l3 s0) (RF [12, 127] m0) := by
  unfold j_X12_ahead_0_23
  repeat' first
    | with_reducible exact pc_x0
    | with_reducible exact pc_xt (by assumption)
    | with_reducible exact pc_xr (by assumption)
    | with_reducible exact fr_j_X12_ahead_0_45 (by assumption)
    | with_reducible refine pc_nk fun _ => ?_
    | with_reducible refine pc_if ?_ ?_
    | with_reducible refine pc_ck ?_
    | with_reducible refine pc_cb ?_
    | with_reducible refine pc_dv ?_
    | with_reducible refine pc_let fun _ => ?_
    | with_reducible refine pc_letL fun _ => ?_
    | with_reducible refine pc_ldN fun _ => ?_
    | with_reducible refine pc_ldL fun _ => ?_
    | with_reducible refine pc_ldR fun _ => ?_
    | with_reducible refine pc_put (eqF.sN (by assumption) (by decide)) fun _ _ => ?_
    | with_reducible refine pc_put (eqF.sL (by assumption) (by decide)) fun _ _ => ?_
    | with_reducible refine pc_put (eqF.sR (by assumption) (by decide)) fun _ _ => ?_
    | with_reducible refine pc_stN (by decide) (by assumption) fun _ _ => ?_
    | with_reducible refine pc_stL (by decide) (by assumption) fun _ _ => ?_
    | with_reducible refine pc_stR (by decide) (by assumption) fun _ _ => ?_
    | with_reducible refine pc_cpN (by decide) (by assumption) fun _ _ => ?_
    | with_reducible refine pc_pure fun _ => ?_
    | exact pc_some (by assumption)
    | exact pc_some (eqF.bX (by assumption))
    | exact pc_some trivial
    | dsimp only
theorem fr_j_X12_ahead_0_22 {m0 : MM} {m : MM} {l0 : Nat} {l1 : Int} {l2 : Int} {l3 : Int} (h : eqF [12, 127] m0 m) : Pc (j_X12_ahead_0_22 m l0 l1 l2 l3) (RF [12, 127] m0) := by
  unfold j_X12_ahead_0_22
  repeat' first
    | with_reducible exact pc_x0
    | with_reducible exact pc_xt (by assumption)
    | with_reducible exact pc_xr (by assumption)
    | with_reducible exact fr_j_X12_ahead_0_23 (by assumption)
    | with_reducible refine pc_nk fun _ => ?_
    | with_reducible refine pc_if ?_ ?_
    | with_reducible refine pc_ck ?_
    | with_reducible refine pc_cb ?_
    | with_reducible refine pc_dv ?_
    | with_reducible refine pc_let fun _ => ?_
    | with_reducible refine pc_letL fun _ => ?_
    | with_reducible refine pc_ldN fun _ => ?_
    | with_reducible refine pc_ldL fun _ => ?_
    | with_reducible refine pc_ldR fun _ => ?_
    | with_reducible refine pc_put (eqF.sN (by assumption) (by decide)) fun _ _ => ?_
    | with_reducible refine pc_put (eqF.sL (by assumption) (by decide)) fun _ _ => ?_
    | with_reducible refine pc_put (eqF.sR (by assumption) (by decide)) fun _ _ => ?_
    | with_reducible refine pc_stN (by decide) (by assumption) fun _ _ => ?_
    | with_reducible refine pc_stL (by decide) (by assumption) fun _ _ => ?_
    | with_reducible refine pc_stR (by decide) (by assumption) fun _ _ => ?_
    | with_reducible refine pc_cpN (by decide) (by assumption) fun _ _ => ?_
    | with_reducible refine pc_pure fun _ => ?_
    | exact pc_some (by assumption)
    | exact pc_some (eqF.bX (by assumption))
    | exact pc_some trivial
    | dsimp only
theorem fr_f_X12_ahead {m0 : MM} {m : MM} {l0 : Nat} {l1 : Int} {l2 : Int} {l3 : Int} (h : eqF [12, 127] m0 m) : Pc (f_X12_ahead m l0 l1 l2 l3) (RF [12, 127] m0) := by
  unfold f_X12_ahead
  repeat' first
    | with_reducible exact pc_x0
    | with_reducible exact pc_xt (by assumption)
    | with_reducible exact pc_xr (by assumption)
    | with_reducible exact fr_j_X12_ahead_0_22 (by assumption)
    | with_reducible exact fr_j_X12_ahead_0_23 (by assumption)
    | with_reducible refine pc_nk fun _ => ?_
    | with_reducible refine pc_if ?_ ?_
    | with_reducible refine pc_ck ?_
    | with_reducible refine pc_cb ?_
    | with_reducible refine pc_dv ?_
    | with_reducible refine pc_let fun _ => ?_
    | with_reducible refine pc_letL fun _ => ?_
    | with_reducible refine pc_ldN fun _ => ?_
    | with_reducible refine pc_ldL fun _ => ?_
    | with_reducible refine pc_ldR fun _ => ?_
    | with_reducible refine pc_put (eqF.sN (by assumption) (by decide)) fun _ _ => ?_
    | with_reducible refine pc_put (eqF.sL (by assumption) (by decide)) fun _ _ => ?_
    | with_reducible refine pc_put (eqF.sR (by assumption) (by decide)) fun _ _ => ?_
    | with_reducible refine pc_stN (by decide) (by assumption) fun _ _ => ?_
    | with_reducible refine pc_stL (by decide) (by assumption) fun _ _ => ?_
    | with_reducible refine pc_stR (by decide) (by assumption) fun _ _ => ?_
    | with_reducible refine pc_cpN (by decide) (by assumption) fun _ _ => ?_
    | with_reducible refine pc_pure fun _ => ?_
    | exact pc_some (by assumption)
    | exact pc_some (eqF.bX (by assumption))
    | exact pc_some trivial
    | dsimp only
theorem fr_j_X12_alike_0_125 {m0 : MM} {m : MM} {l3 : Int} (h : eqF [12] m0 m) : Pc (j_X12_alike_0_125 m l3) (RF [12] m0) := by
  unfold j_X12_alike_0_125
  repeat' first
    | with_reducible exact pc_x0
    | with_reducible exact pc_xt (by assumption)
    | with_reducible exact pc_xr (by assumption)
    | with_reducible refine pc_nk fun _ => ?_
    | with_reducible refine pc_if ?_ ?_
    | with_reducible refine pc_ck ?_
    | with_reducible refine pc_cb ?_
    | with_reducible refine pc_dv ?_
    | with_reducible refine pc_let fun _ => ?_
    | with_reducible refine pc_letL fun _ => ?_
    | with_reducible refine pc_ldN fun _ => ?_
    | with_reducible refine pc_ldL fun _ => ?_
    | with_reducible refine pc_ldR fun _ => ?_
    | with_reducible refine pc_put (eqF.sN (by assumption) (by decide)) fun _ _ => ?_
    | with_reducible refine pc_put (eqF.sL (by assumption) (by decide)) fun _ _ => ?_
    | with_reducible refine pc_put (eqF.sR (by assumption) (by decide)) fun _ _ => ?_
    | with_reducible refine pc_stN (by decide) (by assumption) fun _ _ => ?_
    | with_reducible refine pc_stL (by decide) (by assumption) fun _ _ => ?_
    | with_reducible refine pc_stR (by decide) (by assumption) fun _ _ => ?_
    | with_reducible refine pc_cpN (by decide) (by assumption) fun _ _ => ?_
    | with_reducible refine pc_pure fun _ => ?_
    | exact pc_some (by assumption)
    | exact pc_some (eqF.bX (by assumption))
    | exact pc_some trivial
    | dsimp only
theorem fr_j_X12_alike_0_28 {m0 : MM} {m : MM} {l0 : Nat} {l1 : Int} {l2 : Int} {s0 : Nat} {s1 : Int} (h : eqF [12] m0 m) : Pc (j_X12_alike_0_28 m l0 l1 l2 s0 s1) (RF [12] m0) := by
  unfold j_X12_alike_0_28
  repeat' first
    | with_reducible exact pc_x0
    | with_reducible exact pc_xt (by assumption)
    | with_reducible exact pc_xr (by assumption)
    | with_reducible exact fr_j_X12_alike_0_125 (by assumption)
    | with_reducible refine pc_nk fun _ => ?_
    | with_reducible refine pc_if ?_ ?_
    | with_reducible refine pc_ck ?_
    | with_reducible refine pc_cb ?_
    | with_reducible refine pc_dv ?_
    | with_reducible refine pc_let fun _ => ?_
    | with_reducible refine pc_letL fun _ => ?_
    | with_reducible refine pc_ldN fun _ => ?_
    | with_reducible refine pc_ldL fun _ => ?_
    | with_reducible refine pc_ldR fun _ => ?_
    | with_reducible refine pc_put (eqF.sN (by assumption) (by decide)) fun _ _ => ?_
    | with_reducible refine pc_put (eqF.sL (by assumption) (by decide)) fun _ _ => ?_
    | with_reducible refine pc_put (eqF.sR (by assumption) (by decide)) fun _ _ => ?_
    | with_reducible refine pc_stN (by decide) (by assumption) fun _ _ => ?_
    | with_reducible refine pc_stL (by decide) (by assumption) fun _ _ => ?_
    | with_reducible refine pc_stR (by decide) (by assumption) fun _ _ => ?_
    | with_reducible refine pc_cpN (by decide) (by assumption) fun _ _ => ?_
    | with_reducible refine pc_bI (fr_f_X12_holds (m0 := _) eqF.rf) (by decide) (by assumption) (fun _ _ _ => ?_) (fun _ _ _ => ?_)
    | with_reducible refine pc_pure fun _ => ?_
    | exact pc_some (by assumption)
    | exact pc_some (eqF.bX (by assumption))
    | exact pc_some trivial
    | dsimp only
theorem fr_f_X12_alike {m0 : MM} {m : MM} {l0 : Nat} {l1 : Int} {l2 : Int} (h : eqF [12] m0 m) : Pc (f_X12_alike m l0 l1 l2) (RF [12] m0) := by
  unfold f_X12_alike
  repeat' first
    | with_reducible exact pc_x0
    | with_reducible exact pc_xt (by assumption)
    | with_reducible exact pc_xr (by assumption)
    | with_reducible exact fr_j_X12_alike_0_28 (by assumption)
    | with_reducible refine pc_nk fun _ => ?_
    | with_reducible refine pc_if ?_ ?_
    | with_reducible refine pc_ck ?_
    | with_reducible refine pc_cb ?_
    | with_reducible refine pc_dv ?_
    | with_reducible refine pc_let fun _ => ?_
    | with_reducible refine pc_letL fun _ => ?_
    | with_reducible refine pc_ldN fun _ => ?_
    | with_reducible refine pc_ldL fun _ => ?_
    | with_reducible refine pc_ldR fun _ => ?_
    | with_reducible refine pc_put (eqF.sN (by assumption) (by decide)) fun _ _ => ?_
    | with_reducible refine pc_put (eqF.sL (by assumption) (by decide)) fun _ _ => ?_
    | with_reducible refine pc_put (eqF.sR (by assumption) (by decide)) fun _ _ => ?_
    | with_reducible refine pc_stN (by decide) (by assumption) fun _ _ => ?_
    | with_reducible refine pc_stL (by decide) (by assumption) fun _ _ => ?_
    | with_reducible refine pc_stR (by decide) (by assumption) fun _ _ => ?_
    | with_reducible refine pc_cpN (by decide) (by assumption) fun _ _ => ?_
    | with_reducible refine pc_pure fun _ => ?_
    | exact pc_some (by assumption)
    | exact pc_some (eqF.bX (by assumption))
    | exact pc_some trivial
    | dsimp only
theorem fr_b_X12_bind_127 {m0 : MM} {l0 : Nat} {l1 : Int} {l4 : Int} {l5 : Int} {mm : MM} (h : eqF [12, 79, 126] m0 mm) : Pc (b_X12_bind_127 l0 l1 l4 l5 mm) (fun z => Sum.elim (fun s => eqF [12, 79, 126] m0 s.2) (fun z => eqF [12, 79, 126] m0 z) z) := by
  unfold b_X12_bind_127
  repeat' first
    | with_reducible exact pc_x0
    | with_reducible exact pc_xt (by assumption)
    | with_reducible exact pc_xr (by assumption)
    | with_reducible refine pc_nk fun _ => ?_
    | with_reducible refine pc_if ?_ ?_
    | with_reducible refine pc_ck ?_
    | with_reducible refine pc_cb ?_
    | with_reducible refine pc_dv ?_
    | with_reducible refine pc_let fun _ => ?_
    | with_reducible refine pc_letL fun _ => ?_
    | with_reducible refine pc_ldN fun _ => ?_
    | with_reducible refine pc_ldL fun _ => ?_
    | with_reducible refine pc_ldR fun _ => ?_
    | with_reducible refine pc_put (eqF.sN (by assumption) (by decide)) fun _ _ => ?_
    | with_reducible refine pc_put (eqF.sL (by assumption) (by decide)) fun _ _ => ?_
    | with_reducible refine pc_put (eqF.sR (by assumption) (by decide)) fun _ _ => ?_
    | with_reducible refine pc_stN (by decide) (by assumption) fun _ _ => ?_
    | with_reducible refine pc_stL (by decide) (by assumption) fun _ _ => ?_
    | with_reducible refine pc_stR (by decide) (by assumption) fun _ _ => ?_
    | with_reducible refine pc_cpN (by decide) (by assumption) fun _ _ => ?_
    | with_reducible refine pc_pure fun _ => ?_
    | exact pc_some (by assumption)
    | exact pc_some (eqF.bX (by assumption))
    | exact pc_some trivial
    | dsimp only
theorem fr_j_X12_bind_113_186 {m0 : MM} {m : MM} {l0 : Nat} {l1 : Int} {l4 : Int} (h : eqF [12, 79, 126] m0 m) : Pc (j_X12_bind_113_186 m l0 l1 l4) (fun z => Sum.elim (fun s => eqF [12, 79, 126] m0 s.2) (fun z => eqF [12, 79, 126] m0 z) z) := by
  unfold j_X12_bind_113_186
  repeat' first
    | with_reducible exact pc_x0
    | with_reducible exact pc_xt (by assumption)
    | with_reducible exact pc_xr (by assumption)
    | with_reducible refine pc_nk fun _ => ?_
    | with_reducible refine pc_if ?_ ?_
    | with_reducible refine pc_ck ?_
    | with_reducible refine pc_cb ?_
    | with_reducible refine pc_dv ?_
    | with_reducible refine pc_let fun _ => ?_
    | with_reducible refine pc_letL fun _ => ?_
    | with_reducible refine pc_ldN fun _ => ?_
    | with_reducible refine pc_ldL fun _ => ?_
    | with_reducible refine pc_ldR fun _ => ?_
    | with_reducible refine pc_put (eqF.sN (by assumption) (by decide)) fun _ _ => ?_
    | with_reducible refine pc_put (eqF.sL (by assumption) (by decide)) fun _ _ => ?_
    | with_reducible refine pc_put (eqF.sR (by assumption) (by decide)) fun _ _ => ?_
    | with_reducible refine pc_stN (by decide) (by assumption) fun _ _ => ?_
    | with_reducible refine pc_stL (by decide) (by assumption) fun _ _ => ?_
    | with_reducible refine pc_stR (by decide) (by assumption) fun _ _ => ?_
    | with_reducible refine pc_cpN (by decide) (by assumption) fun _ _ => ?_
    | with_reducible refine pc_pure fun _ => ?_
    | exact pc_some (by assumption)
    | exact pc_some (eqF.bX (by assumption))
    | exact pc_some trivial
    | dsimp only
theorem fr_b_X12_bind_113 {m0 : MM} {l0 : Nat} {l1 : Int} {l4 : Int} {mm : MM} (h : eqF [12, 79, 126] m0 mm) : Pc (b_X12_bind_113 l0 l1 l4 mm) (fun z => Sum.elim (fun s => eqF [12, 79, 126] m0 s.2) (fun z => eqF [12, 79, 126] m0 z) z) := by
  unfold b_X12_bind_113
  repeat' first
    | with_reducible exact pc_x0
    | with_reducible exact pc_xt (by assumption)
    | with_reducible exact pc_xr (by assumption)
    | with_reducible exact fr_j_X12_bind_113_186 (by assumption)
    | with_reducible refine pc_nk fun _ => ?_
    | with_reducible refine pc_if ?_ ?_
    | with_reducible refine pc_ck ?_
    | with_reducible refine pc_cb ?_
    | with_reducible refine pc_dv ?_
    | with_reducible refine pc_let fun _ => ?_
    | with_reducible refine pc_letL fun _ => ?_
    | with_reducible refine pc_ldN fun _ => ?_
    | with_reducible refine pc_ldL fun _ => ?_
    | with_reducible refine pc_ldR fun _ => ?_
    | with_reducible refine pc_put (eqF.sN (by assumption) (by decide)) fun _ _ => ?_
    | with_reducible refine pc_put (eqF.sL (by assumption) (by decide)) fun _ _ => ?_
    | with_reducible refine pc_put (eqF.sR (by assumption) (by decide)) fun _ _ => ?_
    | with_reducible refine pc_stN (by decide) (by assumption) fun _ _ => ?_
    | with_reducible refine pc_stL (by decide) (by assumption) fun _ _ => ?_
    | with_reducible refine pc_stR (by decide) (by assumption) fun _ _ => ?_
    | with_reducible refine pc_cpN (by decide) (by assumption) fun _ _ => ?_
    | with_reducible refine pc_lp (fun s => eqF [12, 79, 126] m0 s.2) (fun z => eqF [12, 79, 126] m0 z) (by assumption) (fun s hs => fr_b_X12_bind_127 hs) (fun z hz => ?_)
    | with_reducible refine pc_pure fun _ => ?_
    | exact pc_some (by assumption)
    | exact pc_some (eqF.bX (by assumption))
    | exact pc_some trivial
    | dsimp only
theorem fr_j_X12_bind_0_192 {m0 : MM} {m : MM} {l0 : Nat} {l1 : Int} (h : eqF [12, 79, 126] m0 m) : Pc (j_X12_bind_0_192 m l0 l1) (RF [12, 79, 126] m0) := by
  unfold j_X12_bind_0_192
  repeat' first
    | with_reducible exact pc_x0
    | with_reducible exact pc_xt (by assumption)
    | with_reducible exact pc_xr (by assumption)
    | with_reducible refine pc_nk fun _ => ?_
    | with_reducible refine pc_if ?_ ?_
    | with_reducible refine pc_ck ?_
    | with_reducible refine pc_cb ?_
    | with_reducible refine pc_dv ?_
    | with_reducible refine pc_let fun _ => ?_
    | with_reducible refine pc_letL fun _ => ?_
    | with_reducible refine pc_ldN fun _ => ?_
    | with_reducible refine pc_ldL fun _ => ?_
    | with_reducible refine pc_ldR fun _ => ?_
    | with_reducible refine pc_put (eqF.sN (by assumption) (by decide)) fun _ _ => ?_
    | with_reducible refine pc_put (eqF.sL (by assumption) (by decide)) fun _ _ => ?_
    | with_reducible refine pc_put (eqF.sR (by assumption) (by decide)) fun _ _ => ?_
    | with_reducible refine pc_stN (by decide) (by assumption) fun _ _ => ?_
    | with_reducible refine pc_stL (by decide) (by assumption) fun _ _ => ?_
    | with_reducible refine pc_stR (by decide) (by assumption) fun _ _ => ?_
    | with_reducible refine pc_cpN (by decide) (by assumption) fun _ _ => ?_
    | with_reducible refine pc_pure fun _ => ?_
    | exact pc_some (by assumption)
    | exact pc_some (eqF.bX (by assumption))
    | exact pc_some trivial
    | dsimp only
theorem fr_j_X12_bind_0_95 {m0 : MM} {m : MM} {l0 : Nat} {l1 : Int} {s0 : Nat} {s1 : Int} (h : eqF [12, 79, 126] m0 m) : Pc (j_X12_bind_0_95 m l0 l1 s0 s1) (RF [12, 79, 126] m0) := by
  unfold j_X12_bind_0_95
  repeat' first
    | with_reducible exact pc_x0
    | with_reducible exact pc_xt (by assumption)
    | with_reducible exact pc_xr (by assumption)
    | with_reducible exact fr_j_X12_bind_0_192 (by assumption)
    | with_reducible refine pc_nk fun _ => ?_
    | with_reducible refine pc_if ?_ ?_
    | with_reducible refine pc_ck ?_
    | with_reducible refine pc_cb ?_
    | with_reducible refine pc_dv ?_
    | with_reducible refine pc_let fun _ => ?_
    | with_reducible refine pc_letL fun _ => ?_
    | with_reducible refine pc_ldN fun _ => ?_
    | with_reducible refine pc_ldL fun _ => ?_
    | with_reducible refine pc_ldR fun _ => ?_
    | with_reducible refine pc_put (eqF.sN (by assumption) (by decide)) fun _ _ => ?_
    | with_reducible refine pc_put (eqF.sL (by assumption) (by decide)) fun _ _ => ?_
    | with_reducible refine pc_put (eqF.sR (by assumption) (by decide)) fun _ _ => ?_
    | with_reducible refine pc_stN (by decide) (by assumption) fun _ _ => ?_
    | with_reducible refine pc_stL (by decide) (by assumption) fun _ _ => ?_
    | with_reducible refine pc_stR (by decide) (by assumption) fun _ _ => ?_
    | with_reducible refine pc_cpN (by decide) (by assumption) fun _ _ => ?_
    | with_reducible refine pc_bI (fr_f_X12_holds (m0 := _) eqF.rf) (by decide) (by assumption) (fun _ _ _ => ?_) (fun _ _ _ => ?_)
    | with_reducible refine pc_lp (fun s => eqF [12, 79, 126] m0 s.2) (fun z => eqF [12, 79, 126] m0 z) (by assumption) (fun s hs => fr_b_X12_bind_113 hs) (fun z hz => ?_)
    | with_reducible refine pc_pure fun _ => ?_
    | exact pc_some (by assumption)
    | exact pc_some (eqF.bX (by assumption))
    | exact pc_some trivial
    | dsimp only
theorem fr_j_X12_bind_0_77 {m0 : MM} {m : MM} {l0 : Nat} {l1 : Int} {l2 : Int} {l3 : Int} (h : eqF [12, 79, 126] m0 m) : Pc (j_X12_bind_0_77 m l0 l1 l2 l3) (RF [12, 79, 126] m0) := by
  unfold j_X12_bind_0_77
  repeat' first
    | with_reducible exact pc_x0
    | with_reducible exact pc_xt (by assumption)
    | with_reducible exact pc_xr (by assumption)
    | with_reducible exact fr_j_X12_bind_0_95 (by assumption)
    | with_reducible refine pc_nk fun _ => ?_
    | with_reducible refine pc_if ?_ ?_
    | with_reducible refine pc_ck ?_
    | with_reducible refine pc_cb ?_
    | with_reducible refine pc_dv ?_
    | with_reducible refine pc_let fun _ => ?_
    | with_reducible refine pc_letL fun _ => ?_
    | with_reducible refine pc_ldN fun _ => ?_
    | with_reducible refine pc_ldL fun _ => ?_
    | with_reducible refine pc_ldR fun _ => ?_
    | with_reducible refine pc_put (eqF.sN (by assumption) (by decide)) fun _ _ => ?_
    | with_reducible refine pc_put (eqF.sL (by assumption) (by decide)) fun _ _ => ?_
    | with_reducible refine pc_put (eqF.sR (by assumption) (by decide)) fun _ _ => ?_
    | with_reducible refine pc_stN (by decide) (by assumption) fun _ _ => ?_
    | with_reducible refine pc_stL (by decide) (by assumption) fun _ _ => ?_
    | with_reducible refine pc_stR (by decide) (by assumption) fun _ _ => ?_
    | with_reducible refine pc_cpN (by decide) (by assumption) fun _ _ => ?_
    | with_reducible refine pc_pure fun _ => ?_
    | exact pc_some (by assumption)
    | exact pc_some (eqF.bX (by assumption))
    | exact pc_some trivial
    | dsimp only
theorem fr_j_X12_bind_0_24 {m0 : MM} {m : MM} {l0 : Nat} {l1 : Int} {l2 : Int} {s0 : Int} (h : eqF [12, 79, 126] m0 m) : Pc (j_X12_bind_0_24 m l0 l1 l2 s0) (RF [12, 79, 126] m0) := by
  unfold j_X12_bind_0_24
  repeat' first
    | with_reducible exact pc_x0
    | with_reducible exact pc_xt (by assumption)
    | with_reducible exact pc_xr (by assumption)
    | with_reducible exact fr_j_X12_bind_0_77 (by assumption)
    | with_reducible refine pc_nk fun _ => ?_
    | with_reducible refine pc_if ?_ ?_
    | with_reducible refine pc_ck ?_
    | with_reducible refine pc_cb ?_
    | with_reducible refine pc_dv ?_
    | with_reducible refine pc_let fun _ => ?_
    | with_reducible refine pc_letL fun _ => ?_
    | with_reducible refine pc_ldN fun _ => ?_
    | with_reducible refine pc_ldL fun _ => ?_
    | with_reducible refine pc_ldR fun _ => ?_
    | with_reducible refine pc_put (eqF.sN (by assumption) (by decide)) fun _ _ => ?_
    | with_reducible refine pc_put (eqF.sL (by assumption) (by decide)) fun _ _ => ?_
    | with_reducible refine pc_put (eqF.sR (by assumption) (by decide)) fun _ _ => ?_
    | with_reducible refine pc_stN (by decide) (by assumption) fun _ _ => ?_
    | with_reducible refine pc_stL (by decide) (by assumption) fun _ _ => ?_
    | with_reducible refine pc_stR (by decide) (by assumption) fun _ _ => ?_
    | with_reducible refine pc_cpN (by decide) (by assumption) fun _ _ => ?_
    | with_reducible refine pc_pure fun _ => ?_
    | exact pc_some (by assumption)
    | exact pc_some (eqF.bX (by assumption))
    | exact pc_some trivial
    | dsimp only
theorem fr_j_X12_bind_0_23 {m0 : MM} {m : MM} {l0 : Nat} {l1 : Int} {l2 : Int} (h : eqF [12, 79, 126] m0 m) : Pc (j_X12_bind_0_23 m l0 l1 l2) (RF [12, 79, 126] m0) := by
  unfold j_X12_bind_0_23
  repeat' first
    | with_reducible exact pc_x0
    | with_reducible exact pc_xt (by assumption)
    | with_reducible exact pc_xr (by assumption)
    | with_reducible exact fr_j_X12_bind_0_24 (by assumption)
    | with_reducible refine pc_nk fun _ => ?_
    | with_reducible refine pc_if ?_ ?_
    | with_reducible refine pc_ck ?_
    | with_reducible refine pc_cb ?_
    | with_reducible refine pc_dv ?_
    | with_reducible refine pc_let fun _ => ?_
    | with_reducible refine pc_letL fun _ => ?_
    | with_reducible refine pc_ldN fun _ => ?_
    | with_reducible refine pc_ldL fun _ => ?_
    | with_reducible refine pc_ldR fun _ => ?_
    | with_reducible refine pc_put (eqF.sN (by assumption) (by decide)) fun _ _ => ?_
    | with_reducible refine pc_put (eqF.sL (by assumption) (by decide)) fun _ _ => ?_
    | with_reducible refine pc_put (eqF.sR (by assumption) (by decide)) fun _ _ => ?_
    | with_reducible refine pc_stN (by decide) (by assumption) fun _ _ => ?_
    | with_reducible refine pc_stL (by decide) (by assumption) fun _ _ => ?_
    | with_reducible refine pc_stR (by decide) (by assumption) fun _ _ => ?_
    | with_reducible refine pc_cpN (by decide) (by assumption) fun _ _ => ?_
    | with_reducible refine pc_pure fun _ => ?_
    | exact pc_some (by assumption)
    | exact pc_some (eqF.bX (by assumption))
    | exact pc_some trivial
    | dsimp only
theorem fr_f_X12_bind {m0 : MM} {m : MM} {l0 : Nat} {l1 : Int} (h : eqF [12, 79, 126] m0 m) : Pc (f_X12_bind m l0 l1) (RF [12, 79, 126] m0) := by
  unfold f_X12_bind
  repeat' first
    | with_reducible exact pc_x0
    | with_reducible exact pc_xt (by assumption)
    | with_reducible exact pc_xr (by assumption)
    | with_reducible exact fr_j_X12_bind_0_23 (by assumption)
    | with_reducible exact fr_j_X12_bind_0_24 (by assumption)
    | with_reducible refine pc_nk fun _ => ?_
    | with_reducible refine pc_if ?_ ?_
    | with_reducible refine pc_ck ?_
    | with_reducible refine pc_cb ?_
    | with_reducible refine pc_dv ?_
    | with_reducible refine pc_let fun _ => ?_
    | with_reducible refine pc_letL fun _ => ?_
    | with_reducible refine pc_ldN fun _ => ?_
    | with_reducible refine pc_ldL fun _ => ?_
    | with_reducible refine pc_ldR fun _ => ?_
    | with_reducible refine pc_put (eqF.sN (by assumption) (by decide)) fun _ _ => ?_
    | with_reducible refine pc_put (eqF.sL (by assumption) (by decide)) fun _ _ => ?_
    | with_reducible refine pc_put (eqF.sR (by assumption) (by decide)) fun _ _ => ?_
    | with_reducible refine pc_stN (by decide) (by assumption) fun _ _ => ?_
    | with_reducible refine pc_stL (by decide) (by assumption) fun _ _ => ?_
    | with_reducible refine pc_stR (by decide) (by assumption) fun _ _ => ?_
    | with_reducible refine pc_cpN (by decide) (by assumption) fun _ _ => ?_
    | with_reducible refine pc_pure fun _ => ?_
    | exact pc_some (by assumption)
    | exact pc_some (eqF.bX (by assumption))
    | exact pc_some trivial
    | dsimp only
theorem fr_j_X12_book_0_103 {m0 : MM} {m : MM} {l0 : Nat} {l1 : Int} {l2 : Int} {l3 : Int} {l4 : Int} {l5 : Int} {s0 : Nat} {s1 : Int} (h : eqF [12, 73, 74, 75, 76, 77] m0 m) : Pc (j_X12_book_0_103 m l0 l1 l2 l3 l4 l5 s0 s1) (RF [12, 73, 74, 75, 76, 77] m0) := by
  unfold j_X12_book_0_103
  repeat' first
    | with_reducible exact pc_x0
    | with_reducible exact pc_xt (by assumption)
    | with_reducible exact pc_xr (by assumption)
    | with_reducible refine pc_nk fun _ => ?_
    | with_reducible refine pc_if ?_ ?_
    | with_reducible refine pc_ck ?_
    | with_reducible refine pc_cb ?_
    | with_reducible refine pc_dv ?_
    | with_reducible refine pc_let fun _ => ?_
    | with_reducible refine pc_letL fun _ => ?_
    | with_reducible refine pc_ldN fun _ => ?_
    | with_reducible refine pc_ldL fun _ => ?_
    | with_reducible refine pc_ldR fun _ => ?_
    | with_reducible refine pc_put (eqF.sN (by assumption) (by decide)) fun _ _ => ?_
    | with_reducible refine pc_put (eqF.sL (by assumption) (by decide)) fun _ _ => ?_
    | with_reducible refine pc_put (eqF.sR (by assumption) (by decide)) fun _ _ => ?_
    | with_reducible refine pc_stN (by decide) (by assumption) fun _ _ => ?_
    | with_reducible refine pc_stL (by decide) (by assumption) fun _ _ => ?_
    | with_reducible refine pc_stR (by decide) (by assumption) fun _ _ => ?_
    | with_reducible refine pc_cpN (by decide) (by assumption) fun _ _ => ?_
    | with_reducible refine pc_bI (fr_f_X12_holds (m0 := _) eqF.rf) (by decide) (by assumption) (fun _ _ _ => ?_) (fun _ _ _ => ?_)
    | with_reducible refine pc_pure fun _ => ?_
    | exact pc_some (by assumption)
    | exact pc_some (eqF.bX (by assumption))
    | exact pc_some trivial
    | dsimp only
theorem fr_j_X12_book_0_78 {m0 : MM} {m : MM} {l0 : Nat} {l1 : Int} {l2 : Int} {l3 : Int} {l4 : Int} {l5 : Int} {s0 : Int} (h : eqF [12, 73, 74, 75, 76, 77] m0 m) : Pc (j_X12_book_0_78 m l0 l1 l2 l3 l4 l5 s0) (RF [12, 73, 74, 75, 76, 77] m0) := by
  unfold j_X12_book_0_78
  repeat' first
    | with_reducible exact pc_x0
    | with_reducible exact pc_xt (by assumption)
    | with_reducible exact pc_xr (by assumption)
    | with_reducible exact fr_j_X12_book_0_103 (by assumption)
    | with_reducible refine pc_nk fun _ => ?_
    | with_reducible refine pc_if ?_ ?_
    | with_reducible refine pc_ck ?_
    | with_reducible refine pc_cb ?_
    | with_reducible refine pc_dv ?_
    | with_reducible refine pc_let fun _ => ?_
    | with_reducible refine pc_letL fun _ => ?_
    | with_reducible refine pc_ldN fun _ => ?_
    | with_reducible refine pc_ldL fun _ => ?_
    | with_reducible refine pc_ldR fun _ => ?_
    | with_reducible refine pc_put (eqF.sN (by assumption) (by decide)) fun _ _ => ?_
    | with_reducible refine pc_put (eqF.sL (by assumption) (by decide)) fun _ _ => ?_
    | with_reducible refine pc_put (eqF.sR (by assumption) (by decide)) fun _ _ => ?_
    | with_reducible refine pc_stN (by decide) (by assumption) fun _ _ => ?_
    | with_reducible refine pc_stL (by decide) (by assumption) fun _ _ => ?_
    | with_reducible refine pc_stR (by decide) (by assumption) fun _ _ => ?_
    | with_reducible refine pc_cpN (by decide) (by assumption) fun _ _ => ?_
    | with_reducible refine pc_pure fun _ => ?_
    | exact pc_some (by assumption)
    | exact pc_some (eqF.bX (by assumption))
    | exact pc_some trivial
    | dsimp only
theorem fr_j_X12_book_0_77 {m0 : MM} {m : MM} {l0 : Nat} {l1 : Int} {l2 : Int} {l3 : Int} {l4 : Int} {l5 : Int} (h : eqF [12, 73, 74, 75, 76, 77] m0 m) : Pc (j_X12_book_0_77 m l0 l1 l2 l3 l4 l5) (RF [12, 73, 74, 75, 76, 77] m0) := by
  unfold j_X12_book_0_77
  repeat' first
    | with_reducible exact pc_x0
    | with_reducible exact pc_xt (by assumption)
    | with_reducible exact pc_xr (by assumption)
    | with_reducible exact fr_j_X12_book_0_78 (by assumption)
    | with_reducible refine pc_nk fun _ => ?_
    | with_reducible refine pc_if ?_ ?_
    | with_reducible refine pc_ck ?_
    | with_reducible refine pc_cb ?_
    | with_reducible refine pc_dv ?_
    | with_reducible refine pc_let fun _ => ?_
    | with_reducible refine pc_letL fun _ => ?_
    | with_reducible refine pc_ldN fun _ => ?_
    | with_reducible refine pc_ldL fun _ => ?_
    | with_reducible refine pc_ldR fun _ => ?_
    | with_reducible refine pc_put (eqF.sN (by assumption) (by decide)) fun _ _ => ?_
    | with_reducible refine pc_put (eqF.sL (by assumption) (by decide)) fun _ _ => ?_
    | with_reducible refine pc_put (eqF.sR (by assumption) (by decide)) fun _ _ => ?_
    | with_reducible refine pc_stN (by decide) (by assumption) fun _ _ => ?_
    | with_reducible refine pc_stL (by decide) (by assumption) fun _ _ => ?_
    | with_reducible refine pc_stR (by decide) (by assumption) fun _ _ => ?_
    | with_reducible refine pc_cpN (by decide) (by assumption) fun _ _ => ?_
    | with_reducible refine pc_pure fun _ => ?_
    | exact pc_some (by assumption)
    | exact pc_some (eqF.bX (by assumption))
    | exact pc_some trivial
    | dsimp only
theorem fr_j_X12_book_0_21 {m0 : MM} {m : MM} {l0 : Nat} {l1 : Int} {l2 : Int} {l3 : Int} {l4 : Int} {l5 : Int} {s0 : Int} (h : eqF [12, 73, 74, 75, 76, 77] m0 m) : Pc (j_X12_book_0_21 m l0 l1 l2 l3 l4 l5 s0) (RF [12, 73, 74, 75, 76, 77] m0) := by
  unfold j_X12_book_0_21
  repeat' first
    | with_reducible exact pc_x0
    | with_reducible exact pc_xt (by assumption)
    | with_reducible exact pc_xr (by assumption)
    | with_reducible exact fr_j_X12_book_0_77 (by assumption)
    | with_reducible exact fr_j_X12_book_0_78 (by assumption)
    | with_reducible refine pc_nk fun _ => ?_
    | with_reducible refine pc_if ?_ ?_
    | with_reducible refine pc_ck ?_
    | with_reducible refine pc_cb ?_
    | with_reducible refine pc_dv ?_
    | with_reducible refine pc_let fun _ => ?_
    | with_reducible refine pc_letL fun _ => ?_
    | with_reducible refine pc_ldN fun _ => ?_
    | with_reducible refine pc_ldL fun _ => ?_
    | with_reducible refine pc_ldR fun _ => ?_
    | with_reducible refine pc_put (eqF.sN (by assumption) (by decide)) fun _ _ => ?_
    | with_reducible refine pc_put (eqF.sL (by assumption) (by decide)) fun _ _ => ?_
    | with_reducible refine pc_put (eqF.sR (by assumption) (by decide)) fun _ _ => ?_
    | with_reducible refine pc_stN (by decide) (by assumption) fun _ _ => ?_
    | with_reducible refine pc_stL (by decide) (by assumption) fun _ _ => ?_
    | with_reducible refine pc_stR (by decide) (by assumption) fun _ _ => ?_
    | with_reducible refine pc_cpN (by decide) (by assumption) fun _ _ => ?_
    | with_reducible refine pc_pure fun _ => ?_
    | exact pc_some (by assumption)
    | exact pc_some (eqF.bX (by assumption))
    | exact pc_some trivial
    | dsimp only
theorem fr_j_X12_book_0_16 {m0 : MM} {m : MM} {l0 : Nat} {l1 : Int} {l2 : Int} {l3 : Int} {l4 : Int} {l5 : Int} (h : eqF [12, 73, 74, 75, 76, 77] m0 m) : Pc (j_X12_book_0_16 m l0 l1 l2 l3 l4 l5) (RF [12, 73, 74, 75, 76, 77] m0) := by
  unfold j_X12_book_0_16
  repeat' first
    | with_reducible exact pc_x0
    | with_reducible exact pc_xt (by assumption)
    | with_reducible exact pc_xr (by assumption)
    | with_reducible exact fr_j_X12_book_0_21 (by assumption)
    | with_reducible refine pc_nk fun _ => ?_
    | with_reducible refine pc_if ?_ ?_
    | with_reducible refine pc_ck ?_
    | with_reducible refine pc_cb ?_
    | with_reducible refine pc_dv ?_
    | with_reducible refine pc_let fun _ => ?_
    | with_reducible refine pc_letL fun _ => ?_
    | with_reducible refine pc_ldN fun _ => ?_
    | with_reducible refine pc_ldL fun _ => ?_
    | with_reducible refine pc_ldR fun _ => ?_
    | with_reducible refine pc_put (eqF.sN (by assumption) (by decide)) fun _ _ => ?_
    | with_reducible refine pc_put (eqF.sL (by assumption) (by decide)) fun _ _ => ?_
    | with_reducible refine pc_put (eqF.sR (by assumption) (by decide)) fun _ _ => ?_
    | with_reducible refine pc_stN (by decide) (by assumption) fun _ _ => ?_
    | with_reducible refine pc_stL (by decide) (by assumption) fun _ _ => ?_
    | with_reducible refine pc_stR (by decide) (by assumption) fun _ _ => ?_
    | with_reducible refine pc_cpN (by decide) (by assumption) fun _ _ => ?_
    | with_reducible refine pc_pure fun _ => ?_
    | exact pc_some (by assumption)
    | exact pc_some (eqF.bX (by assumption))
    | exact pc_some trivial
    | dsimp only
theorem fr_f_X12_book {m0 : MM} {m : MM} {l0 : Nat} {l1 : Int} {l2 : Int} {l3 : Int} {l4 : Int} {l5 : Int} (h : eqF [12, 73, 74, 75, 76, 77] m0 m) : Pc (f_X12_book m l0 l1 l2 l3 l4 l5) (RF [12, 73, 74, 75, 76, 77] m0) := by
  unfold f_X12_book
  repeat' first
    | with_reducible exact pc_x0
    | with_reducible exact pc_xt (by assumption)
    | with_reducible exact pc_xr (by assumption)
    | with_reducible exact fr_j_X12_book_0_16 (by assumption)
    | with_reducible exact fr_j_X12_book_0_21 (by assumption)
    | with_reducible refine pc_nk fun _ => ?_
    | with_reducible refine pc_if ?_ ?_
    | with_reducible refine pc_ck ?_
    | with_reducible refine pc_cb ?_
    | with_reducible refine pc_dv ?_
    | with_reducible refine pc_let fun _ => ?_
    | with_reducible refine pc_letL fun _ => ?_
    | with_reducible refine pc_ldN fun _ => ?_
    | with_reducible refine pc_ldL fun _ => ?_
    | with_reducible refine pc_ldR fun _ => ?_
    | with_reducible refine pc_put (eqF.sN (by assumption) (by decide)) fun _ _ => ?_
    | with_reducible refine pc_put (eqF.sL (by assumption) (by decide)) fun _ _ => ?_
    | with_reducible refine pc_put (eqF.sR (by assumption) (by decide)) fun _ _ => ?_
    | with_reducible refine pc_stN (by decide) (by assumption) fun _ _ => ?_
    | with_reducible refine pc_stL (by decide) (by assumption) fun _ _ => ?_
    | with_reducible refine pc_stR (by decide) (by assumption) fun _ _ => ?_
    | with_reducible refine pc_cpN (by decide) (by assumption) fun _ _ => ?_
    | with_reducible refine pc_pure fun _ => ?_
    | exact pc_some (by assumption)
    | exact pc_some (eqF.bX (by assumption))
    | exact pc_some trivial
    | dsimp only
theorem fr_j_X12_box_0_66 {m0 : MM} {m : MM} {l3 : Int} (h : eqF [12] m0 m) : Pc (j_X12_box_0_66 m l3) (RF [12] m0) := by
  unfold j_X12_box_0_66
  repeat' first
    | with_reducible exact pc_x0
    | with_reducible exact pc_xt (by assumption)
    | with_reducible exact pc_xr (by assumption)
    | with_reducible refine pc_nk fun _ => ?_
    | with_reducible refine pc_if ?_ ?_
    | with_reducible refine pc_ck ?_
    | with_reducible refine pc_cb ?_
    | with_reducible refine pc_dv ?_
    | with_reducible refine pc_let fun _ => ?_
    | with_reducible refine pc_letL fun _ => ?_
    | with_reducible refine pc_ldN fun _ => ?_
    | with_reducible refine pc_ldL fun _ => ?_
    | with_reducible refine pc_ldR fun _ => ?_
    | with_reducible refine pc_put (eqF.sN (by assumption) (by decide)) fun _ _ => ?_
    | with_reducible refine pc_put (eqF.sL (by assumption) (by decide)) fun _ _ => ?_
    | with_reducible refine pc_put (eqF.sR (by assumption) (by decide)) fun _ _ => ?_
    | with_reducible refine pc_stN (by decide) (by assumption) fun _ _ => ?_
    | with_reducible refine pc_stL (by decide) (by assumption) fun _ _ => ?_
    | with_reducible refine pc_stR (by decide) (by assumption) fun _ _ => ?_
    | with_reducible refine pc_cpN (by decide) (by assumption) fun _ _ => ?_
    | with_reducible refine pc_pure fun _ => ?_
    | exact pc_some (by assumption)
    | exact pc_some (eqF.bX (by assumption))
    | exact pc_some trivial
    | dsimp only
theorem fr_j_X12_box_0_24 {m0 : MM} {m : MM} {l0 : Nat} {l1 : Int} {l2 : Int} {s0 : Nat} {s1 : Int} (h : eqF [12] m0 m) : Pc (j_X12_box_0_24 m l0 l1 l2 s0 s1) (RF [12] m0) := by
  unfold j_X12_box_0_24
  repeat' first
    | with_reducible exact pc_x0
    | with_reducible exact pc_xt (by assumption)
    | with_reducible exact pc_xr (by assumption)
    | with_reducible exact fr_j_X12_box_0_66 (by assumption)
    | with_reducible refine pc_nk fun _ => ?_
    | with_reducible refine pc_if ?_ ?_
    | with_reducible refine pc_ck ?_
    | with_reducible refine pc_cb ?_
    | with_reducible refine pc_dv ?_
    | with_reducible refine pc_let fun _ => ?_
    | with_reducible refine pc_letL fun _ => ?_
    | with_reducible refine pc_ldN fun _ => ?_
    | with_reducible refine pc_ldL fun _ => ?_
    | with_reducible refine pc_ldR fun _ => ?_
    | with_reducible refine pc_put (eqF.sN (by assumption) (by decide)) fun _ _ => ?_
    | with_reducible refine pc_put (eqF.sL (by assumption) (by decide)) fun _ _ => ?_
    | with_reducible refine pc_put (eqF.sR (by assumption) (by decide)) fun _ _ => ?_
    | with_reducible refine pc_stN (by decide) (by assumption) fun _ _ => ?_
    | with_reducible refine pc_stL (by decide) (by assumption) fun _ _ => ?_
    | with_reducible refine pc_stR (by decide) (by assumption) fun _ _ => ?_
    | with_reducible refine pc_cpN (by decide) (by assumption) fun _ _ => ?_
    | with_reducible refine pc_bI (fr_f_X12_holds (m0 := _) eqF.rf) (by decide) (by assumption) (fun _ _ _ => ?_) (fun _ _ _ => ?_)
    | with_reducible refine pc_pure fun _ => ?_
    | exact pc_some (by assumption)
    | exact pc_some (eqF.bX (by assumption))
    | exact pc_some trivial
    | dsimp only
theorem fr_f_X12_box {m0 : MM} {m : MM} {l0 : Nat} {l1 : Int} {l2 : Int} (h : eqF [12] m0 m) : Pc (f_X12_box m l0 l1 l2) (RF [12] m0) := by
  unfold f_X12_box
  repeat' first
    | with_reducible exact pc_x0
    | with_reducible exact pc_xt (by assumption)
    | with_reducible exact pc_xr (by assumption)
    | with_reducible exact fr_j_X12_box_0_24 (by assumption)
    | with_reducible refine pc_nk fun _ => ?_
    | with_reducible refine pc_if ?_ ?_
    | with_reducible refine pc_ck ?_
    | with_reducible refine pc_cb ?_
    | with_reducible refine pc_dv ?_
    | with_reducible refine pc_let fun _ => ?_
    | with_reducible refine pc_letL fun _ => ?_
    | with_reducible refine pc_ldN fun _ => ?_
    | with_reducible refine pc_ldL fun _ => ?_
    | with_reducible refine pc_ldR fun _ => ?_
    | with_reducible refine pc_put (eqF.sN (by assumption) (by decide)) fun _ _ => ?_
    | with_reducible refine pc_put (eqF.sL (by assumption) (by decide)) fun _ _ => ?_
    | with_reducible refine pc_put (eqF.sR (by assumption) (by decide)) fun _ _ => ?_
    | with_reducible refine pc_stN (by decide) (by assumption) fun _ _ => ?_
    | with_reducible refine pc_stL (by decide) (by assumption) fun _ _ => ?_
    | with_reducible refine pc_stR (by decide) (by assumption) fun _ _ => ?_
    | with_reducible refine pc_cpN (by decide) (by assumption) fun _ _ => ?_
    | with_reducible refine pc_pure fun _ => ?_
    | exact pc_some (by assumption)
    | exact pc_some (eqF.bX (by assumption))
    | exact pc_some trivial
    | dsimp only
theorem fr_j_X12_cancel_63_97 {m0 : MM} {m : MM} {l0 : Nat} {l1 : Int} {l3 : Int} {l6 : Int} {s0 : Int} {s1 : Int} (h : eqF [12, 126] m0 m) : Pc (j_X12_cancel_63_97 m l0 l1 l3 l6 s0 s1) (fun z => Sum.elim (fun s => eqF [12, 126] m0 s.2.2) (fun z => eqF [12, 126] m0 z.2) z) := by
  unfold j_X12_cancel_63_97
  repeat' first
    | with_reducible exact pc_x0
    | with_reducible exact pc_xt (by assumption)
    | with_reducible exact pc_xr (by assumption)
    | with_reducible refine pc_nk fun _ => ?_
    | with_reducible refine pc_if ?_ ?_
    | with_reducible refine pc_ck ?_
    | with_reducible refine pc_cb ?_
    | with_reducible refine pc_dv ?_
    | with_reducible refine pc_let fun _ => ?_
    | with_reducible refine pc_letL fun _ => ?_
    | with_reducible refine pc_ldN fun _ => ?_
    | with_reducible refine pc_ldL fun _ => ?_
    | with_reducible refine pc_ldR fun _ => ?_
    | with_reducible refine pc_put (eqF.sN (by assumption) (by decide)) fun _ _ => ?_
    | with_reducible refine pc_put (eqF.sL (by assumption) (by decide)) fun _ _ => ?_
    | with_reducible refine pc_put (eqF.sR (by assumption) (by decide)) fun _ _ => ?_
    | with_reducible refine pc_stN (by decide) (by assumption) fun _ _ => ?_
    | with_reducible refine pc_stL (by decide) (by assumption) fun _ _ => ?_
    | with_reducible refine pc_stR (by decide) (by assumption) fun _ _ => ?_
    | with_reducible refine pc_cpN (by decide) (by assumption) fun _ _ => ?_
    | with_reducible refine pc_pure fun _ => ?_
    | exact pc_some (by assumption)
    | exact pc_some (eqF.bX (by assumption))
    | exact pc_some trivial
    | dsimp only
theorem fr_b_X12_cancel_63 {m0 : MM} {l0 : Nat} {l1 : Int} {l3 : Int} {l5 : Int} {l6 : Int} {mm : MM} (h : eqF [12, 126] m0 mm) : Pc (b_X12_cancel_63 l0 l1 l3 l5 l6 mm) (fun z => Sum.elim (fun s => eqF [12, 126] m0 s.2.2) (fun z => eqF [12, 126] m0 z.2) z) := by
  unfold b_X12_cancel_63
  repeat' first
    | with_reducible exact pc_x0
    | with_reducible exact pc_xt (by assumption)
    | with_reducible exact pc_xr (by assumption)
    | with_reducible exact fr_j_X12_cancel_63_97 (by assumption)
    | with_reducible refine pc_nk fun _ => ?_
    | with_reducible refine pc_if ?_ ?_
    | with_reducible refine pc_ck ?_
    | with_reducible refine pc_cb ?_
    | with_reducible refine pc_dv ?_
    | with_reducible refine pc_let fun _ => ?_
    | with_reducible refine pc_letL fun _ => ?_
    | with_reducible refine pc_ldN fun _ => ?_
    | with_reducible refine pc_ldL fun _ => ?_
    | with_reducible refine pc_ldR fun _ => ?_
    | with_reducible refine pc_put (eqF.sN (by assumption) (by decide)) fun _ _ => ?_
    | with_reducible refine pc_put (eqF.sL (by assumption) (by decide)) fun _ _ => ?_
    | with_reducible refine pc_put (eqF.sR (by assumption) (by decide)) fun _ _ => ?_
    | with_reducible refine pc_stN (by decide) (by assumption) fun _ _ => ?_
    | with_reducible refine pc_stL (by decide) (by assumption) fun _ _ => ?_
    | with_reducible refine pc_stR (by decide) (by assumption) fun _ _ => ?_
    | with_reducible refine pc_cpN (by decide) (by assumption) fun _ _ => ?_
    | with_reducible refine pc_pure fun _ => ?_
    | exact pc_some (by assumption)
    | exact pc_some (eqF.bX (by assumption))
    | exact pc_some trivial
    | dsimp only
theorem fr_j_X12_cancel_0_119 {m0 : MM} {m : MM} {l5 : Int} (h : eqF [12, 126] m0 m) : Pc (j_X12_cancel_0_119 m l5) (RF [12, 126] m0) := by
  unfold j_X12_cancel_0_119
  repeat' first
    | with_reducible exact pc_x0
    | with_reducible exact pc_xt (by assumption)
    | with_reducible exact pc_xr (by assumption)
    | with_reducible refine pc_nk fun _ => ?_
    | with_reducible refine pc_if ?_ ?_
    | with_reducible refine pc_ck ?_
    | with_reducible refine pc_cb ?_
    | with_reducible refine pc_dv ?_
    | with_reducible refine pc_let fun _ => ?_
    | with_reducible refine pc_letL fun _ => ?_
    | with_reducible refine pc_ldN fun _ => ?_
    | with_reducible refine pc_ldL fun _ => ?_
    | with_reducible refine pc_ldR fun _ => ?_
    | with_reducible refine pc_put (eqF.sN (by assumption) (by decide)) fun _ _ => ?_
    | with_reducible refine pc_put (eqF.sL (by assumption) (by decide)) fun _ _ => ?_
    | with_reducible refine pc_put (eqF.sR (by assumption) (by decide)) fun _ _ => ?_
    | with_reducible refine pc_stN (by decide) (by assumption) fun _ _ => ?_
    | with_reducible refine pc_stL (by decide) (by assumption) fun _ _ => ?_
    | with_reducible refine pc_stR (by decide) (by assumption) fun _ _ => ?_
    | with_reducible refine pc_cpN (by decide) (by assumption) fun _ _ => ?_
    | with_reducible refine pc_pure fun _ => ?_
    | exact pc_some (by assumption)
    | exact pc_some (eqF.bX (by assumption))
    | exact pc_some trivial
    | dsimp only
theorem fr_j_X12_cancel_0_49 {m0 : MM} {m : MM} {l0 : Nat} {l1 : Int} {l2 : Int} {l3 : Int} {s0 : Nat} {s1 : Int} (h : eqF [12, 126] m0 m) : Pc (j_X12_cancel_0_49 m l0 l1 l2 l3 s0 s1) (RF [12, 126] m0) := by
  unfold j_X12_cancel_0_49
  repeat' first
    | with_reducible exact pc_x0
    | with_reducible exact pc_xt (by assumption)
    | with_reducible exact pc_xr (by assumption)
    | with_reducible exact fr_j_X12_cancel_0_119 (by assumption)
    | with_reducible refine pc_nk fun _ => ?_
    | with_reducible refine pc_if ?_ ?_
    | with_reducible refine pc_ck ?_
    | with_reducible refine pc_cb ?_
    | with_reducible refine pc_dv ?_
    | with_reducible refine pc_let fun _ => ?_
    | with_reducible refine pc_letL fun _ => ?_
    | with_reducible refine pc_ldN fun _ => ?_
    | with_reducible refine pc_ldL fun _ => ?_
    | with_reducible refine pc_ldR fun _ => ?_
    | with_reducible refine pc_put (eqF.sN (by assumption) (by decide)) fun _ _ => ?_
    | with_reducible refine pc_put (eqF.sL (by assumption) (by decide)) fun _ _ => ?_
    | with_reducible refine pc_put (eqF.sR (by assumption) (by decide)) fun _ _ => ?_
    | with_reducible refine pc_stN (by decide) (by assumption) fun _ _ => ?_
    | with_reducible refine pc_stL (by decide) (by assumption) fun _ _ => ?_
    | with_reducible refine pc_stR (by decide) (by assumption) fun _ _ => ?_
    | with_reducible refine pc_cpN (by decide) (by assumption) fun _ _ => ?_
    | with_reducible refine pc_bI (fr_f_X12_holds (m0 := _) eqF.rf) (by decide) (by assumption) (fun _ _ _ => ?_) (fun _ _ _ => ?_)
    | with_reducible refine pc_lp (fun s => eqF [12, 126] m0 s.2.2) (fun z => eqF [12, 126] m0 z.2) (by assumption) (fun s hs => fr_b_X12_cancel_63 hs) (fun z hz => ?_)
    | with_reducible refine pc_pure fun _ => ?_
    | exact pc_some (by assumption)
    | exact pc_some (eqF.bX (by assumption))
    | exact pc_some trivial
    | dsimp only
theorem fr_j_X12_cancel_0_23 {m0 : MM} {m : MM} {l0 : Nat} {l1 : Int} {l2 : Int} {l3 : Int} {s0 : Int} (h : eqF [12, 126] m0 m) : Pc (j_X12_cancel_0_23 m l0 l1 l2 l3 s0) (RF [12, 126] m0) := by
  unfold j_X12_cancel_0_23
  repeat' first
    | with_reducible exact pc_x0
    | with_reducible exact pc_xt (by assumption)
    | with_reducible exact pc_xr (by assumption)
    | with_reducible exact fr_j_X12_cancel_0_49 (by assumption)
    | with_reducible refine pc_nk fun _ => ?_
    | with_reducible refine pc_if ?_ ?_
    | with_reducible refine pc_ck ?_
    | with_reducible refine pc_cb ?_
    | with_reducible refine pc_dv ?_
    | with_reducible refine pc_let fun _ => ?_
    | with_reducible refine pc_letL fun _ => ?_
    | with_reducible refine pc_ldN fun _ => ?_
    | with_reducible refine pc_ldL fun _ => ?_
    | with_reducible refine pc_ldR fun _ => ?_
    | with_reducible refine pc_put (eqF.sN (by assumption) (by decide)) fun _ _ => ?_
    | with_reducible refine pc_put (eqF.sL (by assumption) (by decide)) fun _ _ => ?_
    | with_reducible refine pc_put (eqF.sR (by assumption) (by decide)) fun _ _ => ?_
    | with_reducible refine pc_stN (by decide) (by assumption) fun _ _ => ?_
    | with_reducible refine pc_stL (by decide) (by assumption) fun _ _ => ?_
    | with_reducible refine pc_stR (by decide) (by assumption) fun _ _ => ?_
    | with_reducible refine pc_cpN (by decide) (by assumption) fun _ _ => ?_
    | with_reducible refine pc_pure fun _ => ?_
    | exact pc_some (by assumption)
    | exact pc_some (eqF.bX (by assumption))
    | exact pc_some trivial
    | dsimp only
theorem fr_j_X12_cancel_0_22 {m0 : MM} {m : MM} {l0 : Nat} {l1 : Int} {l2 : Int} {l3 : Int} (h : eqF [12, 126] m0 m) : Pc (j_X12_cancel_0_22 m l0 l1 l2 l3) (RF [12, 126] m0) := by
  unfold j_X12_cancel_0_22
  repeat' first
    | with_reducible exact pc_x0
    | with_reducible exact pc_xt (by assumption)
    | with_reducible exact pc_xr (by assumption)
    | with_reducible exact fr_j_X12_cancel_0_23 (by assumption)
    | with_reducible refine pc_nk fun _ => ?_
    | with_reducible refine pc_if ?_ ?_
    | with_reducible refine pc_ck ?_
    | with_reducible refine pc_cb ?_
    | with_reducible refine pc_dv ?_
    | with_reducible refine pc_let fun _ => ?_
    | with_reducible refine pc_letL fun _ => ?_
    | with_reducible refine pc_ldN fun _ => ?_
    | with_reducible refine pc_ldL fun _ => ?_
    | with_reducible refine pc_ldR fun _ => ?_
    | with_reducible refine pc_put (eqF.sN (by assumption) (by decide)) fun _ _ => ?_
    | with_reducible refine pc_put (eqF.sL (by assumption) (by decide)) fun _ _ => ?_
    | with_reducible refine pc_put (eqF.sR (by assumption) (by decide)) fun _ _ => ?_
    | with_reducible refine pc_stN (by decide) (by assumption) fun _ _ => ?_
    | with_reducible refine pc_stL (by decide) (by assumption) fun _ _ => ?_
    | with_reducible refine pc_stR (by decide) (by assumption) fun _ _ => ?_
    | with_reducible refine pc_cpN (by decide) (by assumption) fun _ _ => ?_
    | with_reducible refine pc_pure fun _ => ?_
    | exact pc_some (by assumption)
    | exact pc_some (eqF.bX (by assumption))
    | exact pc_some trivial
    | dsimp only
theorem fr_f_X12_cancel {m0 : MM} {m : MM} {l0 : Nat} {l1 : Int} {l2 : Int} {l3 : Int} (h : eqF [12, 126] m0 m) : Pc (f_X12_cancel m l0 l1 l2 l3) (RF [12, 126] m0) := by
  unfold f_X12_cancel
  repeat' first
    | with_reducible exact pc_x0
    | with_reducible exact pc_xt (by assumption)
    | with_reducible exact pc_xr (by assumption)
    | with_reducible exact fr_j_X12_cancel_0_22 (by assumption)
    | with_reducible exact fr_j_X12_cancel_0_23 (by assumption)
    | with_reducible refine pc_nk fun _ => ?_
    | with_reducible refine pc_if ?_ ?_
    | with_reducible refine pc_ck ?_
    | with_reducible refine pc_cb ?_
    | with_reducible refine pc_dv ?_
    | with_reducible refine pc_let fun _ => ?_
    | with_reducible refine pc_letL fun _ => ?_
    | with_reducible refine pc_ldN fun _ => ?_
    | with_reducible refine pc_ldL fun _ => ?_
    | with_reducible refine pc_ldR fun _ => ?_
    | with_reducible refine pc_put (eqF.sN (by assumption) (by decide)) fun _ _ => ?_
    | with_reducible refine pc_put (eqF.sL (by assumption) (by decide)) fun _ _ => ?_
    | with_reducible refine pc_put (eqF.sR (by assumption) (by decide)) fun _ _ => ?_
    | with_reducible refine pc_stN (by decide) (by assumption) fun _ _ => ?_
    | with_reducible refine pc_stL (by decide) (by assumption) fun _ _ => ?_
    | with_reducible refine pc_stR (by decide) (by assumption) fun _ _ => ?_
    | with_reducible refine pc_cpN (by decide) (by assumption) fun _ _ => ?_
    | with_reducible refine pc_pure fun _ => ?_
    | exact pc_some (by assumption)
    | exact pc_some (eqF.bX (by assumption))
    | exact pc_some trivial
    | dsimp only
theorem fr_f_X12_puts {m0 : MM} {m : MM} {l0 : Nat} {l1 : Int} {l2 : Int} (h : eqF [64, 65, 66] m0 m) : Pc (f_X12_puts m l0 l1 l2) (RF [64, 65, 66] m0) := by
  unfold f_X12_puts
  repeat' first
    | with_reducible exact pc_x0
    | with_reducible exact pc_xt (by assumption)
    | with_reducible exact pc_xr (by assumption)
    | with_reducible refine pc_nk fun _ => ?_
    | with_reducible refine pc_if ?_ ?_
    | with_reducible refine pc_ck ?_
    | with_reducible refine pc_cb ?_
    | with_reducible refine pc_dv ?_
    | with_reducible refine pc_let fun _ => ?_
    | with_reducible refine pc_letL fun _ => ?_
    | with_reducible refine pc_ldN fun _ => ?_
    | with_reducible refine pc_ldL fun _ => ?_
    | with_reducible refine pc_ldR fun _ => ?_
    | with_reducible refine pc_put (eqF.sN (by assumption) (by decide)) fun _ _ => ?_
    | with_reducible refine pc_put (eqF.sL (by assumption) (by decide)) fun _ _ => ?_
    | with_reducible refine pc_put (eqF.sR (by assumption) (by decide)) fun _ _ => ?_
    | with_reducible refine pc_stN (by decide) (by assumption) fun _ _ => ?_
    | with_reducible refine pc_stL (by decide) (by assumption) fun _ _ => ?_
    | with_reducible refine pc_stR (by decide) (by assumption) fun _ _ => ?_
    | with_reducible refine pc_cpN (by decide) (by assumption) fun _ _ => ?_
    | with_reducible refine pc_pure fun _ => ?_
    | exact pc_some (by assumption)
    | exact pc_some (eqF.bX (by assumption))
    | exact pc_some trivial
    | dsimp only
theorem fr_b_X12_cast_52 {m0 : MM} {l0 : Nat} {l1 : Int} {l2 : Int} {l3 : Int} {mm : MM} (h : eqF [12, 62, 63, 64, 65, 66] m0 mm) : Pc (b_X12_cast_52 l0 l1 l2 l3 mm) (fun z => Sum.elim (fun s => eqF [12, 62, 63, 64, 65, 66] m0 s.2) (fun z => eqF [12, 62, 63, 64, 65, 66] m0 z) z) := by
  unfold b_X12_cast_52
  repeat' first
    | with_reducible exact pc_x0
    | with_reducible exact pc_xt (by assumption)
    | with_reducible exact pc_xr (by assumption)
    | with_reducible refine pc_nk fun _ => ?_
    | with_reducible refine pc_if ?_ ?_
    | with_reducible refine pc_ck ?_
    | with_reducible refine pc_cb ?_
    | with_reducible refine pc_dv ?_
    | with_reducible refine pc_let fun _ => ?_
    | with_reducible refine pc_letL fun _ => ?_
    | with_reducible refine pc_ldN fun _ => ?_
    | with_reducible refine pc_ldL fun _ => ?_
    | with_reducible refine pc_ldR fun _ => ?_
    | with_reducible refine pc_put (eqF.sN (by assumption) (by decide)) fun _ _ => ?_
    | with_reducible refine pc_put (eqF.sL (by assumption) (by decide)) fun _ _ => ?_
    | with_reducible refine pc_put (eqF.sR (by assumption) (by decide)) fun _ _ => ?_
    | with_reducible refine pc_stN (by decide) (by assumption) fun _ _ => ?_
    | with_reducible refine pc_stL (by decide) (by assumption) fun _ _ => ?_
    | with_reducible refine pc_stR (by decide) (by assumption) fun _ _ => ?_
    | with_reducible refine pc_cpN (by decide) (by assumption) fun _ _ => ?_
    | with_reducible refine pc_bV (fr_f_X12_puts (m0 := _) eqF.rf) (by decide) (by assumption) (fun _ _ => ?_) (fun _ _ _ => ?_)
    | with_reducible refine pc_pure fun _ => ?_
    | exact pc_some (by assumption)
    | exact pc_some (eqF.bX (by assumption))
    | exact pc_some trivial
    | dsimp only
theorem fr_j_X12_cast_0_102 {m0 : MM} {m : MM} {l0 : Nat} (h : eqF [12, 62, 63, 64, 65, 66] m0 m) : Pc (j_X12_cast_0_102 m l0) (RF [12, 62, 63, 64, 65, 66] m0) := by
  unfold j_X12_cast_0_102
  repeat' first
    | with_reducible exact pc_x0
    | with_reducible exact pc_xt (by assumption)
    | with_reducible exact pc_xr (by assumption)
    | with_reducible refine pc_nk fun _ => ?_
    | with_reducible refine pc_if ?_ ?_
    | with_reducible refine pc_ck ?_
    | with_reducible refine pc_cb ?_
    | with_reducible refine pc_dv ?_
    | with_reducible refine pc_let fun _ => ?_
    | with_reducible refine pc_letL fun _ => ?_
    | with_reducible refine pc_ldN fun _ => ?_
    | with_reducible refine pc_ldL fun _ => ?_
    | with_reducible refine pc_ldR fun _ => ?_
    | with_reducible refine pc_put (eqF.sN (by assumption) (by decide)) fun _ _ => ?_
    | with_reducible refine pc_put (eqF.sL (by assumption) (by decide)) fun _ _ => ?_
    | with_reducible refine pc_put (eqF.sR (by assumption) (by decide)) fun _ _ => ?_
    | with_reducible refine pc_stN (by decide) (by assumption) fun _ _ => ?_
    | with_reducible refine pc_stL (by decide) (by assumption) fun _ _ => ?_
    | with_reducible refine pc_stR (by decide) (by assumption) fun _ _ => ?_
    | with_reducible refine pc_cpN (by decide) (by assumption) fun _ _ => ?_
    | with_reducible refine pc_pure fun _ => ?_
    | exact pc_some (by assumption)
    | exact pc_some (eqF.bX (by assumption))
    | exact pc_some trivial
    | dsimp only
theorem fr_j_X12_cast_0_42 {m0 : MM} {m : MM} {l0 : Nat} {l1 : Int} {l2 : Int} {s0 : Nat} {s1 : Int} (h : eqF [12, 62, 63, 64, 65, 66] m0 m) : Pc (j_X12_cast_0_42 m l0 l1 l2 s0 s1) (RF [12, 62, 63, 64, 65, 66] m0) := by
  unfold j_X12_cast_0_42
  repeat' first
    | with_reducible exact pc_x0
    | with_reducible exact pc_xt (by assumption)
    | with_reducible exact pc_xr (by assumption)
    | with_reducible exact fr_j_X12_cast_0_102 (by assumption)
    | with_reducible refine pc_nk fun _ => ?_
    | with_reducible refine pc_if ?_ ?_
    | with_reducible refine pc_ck ?_
    | with_reducible refine pc_cb ?_
    | with_reducible refine pc_dv ?_
    | with_reducible refine pc_let fun _ => ?_
    | with_reducible refine pc_letL fun _ => ?_
    | with_reducible refine pc_ldN fun _ => ?_
    | with_reducible refine pc_ldL fun _ => ?_
    | with_reducible refine pc_ldR fun _ => ?_
    | with_reducible refine pc_put (eqF.sN (by assumption) (by decide)) fun _ _ => ?_
    | with_reducible refine pc_put (eqF.sL (by assumption) (by decide)) fun _ _ => ?_
    | with_reducible refine pc_put (eqF.sR (by assumption) (by decide)) fun _ _ => ?_
    | with_reducible refine pc_stN (by decide) (by assumption) fun _ _ => ?_
    | with_reducible refine pc_stL (by decide) (by assumption) fun _ _ => ?_
    | with_reducible refine pc_stR (by decide) (by assumption) fun _ _ => ?_
    | with_reducible refine pc_cpN (by decide) (by assumption) fun _ _ => ?_
    | with_reducible refine pc_bI (fr_f_X12_holds (m0 := _) eqF.rf) (by decide) (by assumption) (fun _ _ _ => ?_) (fun _ _ _ => ?_)
    | with_reducible refine pc_lp (fun s => eqF [12, 62, 63, 64, 65, 66] m0 s.2) (fun z => eqF [12, 62, 63, 64, 65, 66] m0 z) (by assumption) (fun s hs => fr_b_X12_cast_52 hs) (fun z hz => ?_)
    | with_reducible refine pc_pure fun _ => ?_
    | exact pc_some (by assumption)
    | exact pc_some (eqF.bX (by assumption))
    | exact pc_some trivial
    | dsimp only
theorem fr_j_X12_cast_0_21 {m0 : MM} {m : MM} {l0 : Nat} {l1 : Int} {l2 : Int} {s0 : Nat} (h : eqF [12, 62, 63, 64, 65, 66] m0 m) : Pc (j_X12_cast_0_21 m l0 l1 l2 s0) (RF [12, 62, 63, 64, 65, 66] m0) := by
  unfold j_X12_cast_0_21
  repeat' first
    | with_reducible exact pc_x0
    | with_reducible exact pc_xt (by assumption)
    | with_reducible exact pc_xr (by assumption)
    | with_reducible exact fr_j_X12_cast_0_42 (by assumption)
    | with_reducible refine pc_nk fun _ => ?_
    | with_reducible refine pc_if ?_ ?_
    | with_reducible refine pc_ck ?_
    | with_reducible refine pc_cb ?_
    | with_reducible refine pc_dv ?_
    | with_reducible refine pc_let fun _ => ?_
    | with_reducible refine pc_letL fun _ => ?_
    | with_reducible refine pc_ldN fun _ => ?_
    | with_reducible refine pc_ldL fun _ => ?_
    | with_reducible refine pc_ldR fun _ => ?_
    | with_reducible refine pc_put (eqF.sN (by assumption) (by decide)) fun _ _ => ?_
    | with_reducible refine pc_put (eqF.sL (by assumption) (by decide)) fun _ _ => ?_
    | with_reducible refine pc_put (eqF.sR (by assumption) (by decide)) fun _ _ => ?_
    | with_reducible refine pc_stN (by decide) (by assumption) fun _ _ => ?_
    | with_reducible refine pc_stL (by decide) (by assumption) fun _ _ => ?_
    | with_reducible refine pc_stR (by decide) (by assumption) fun _ _ => ?_
    | with_reducible refine pc_cpN (by decide) (by assumption) fun _ _ => ?_
    | with_reducible refine pc_pure fun _ => ?_
    | exact pc_some (by assumption)
    | exact pc_some (eqF.bX (by assumption))
    | exact pc_some trivial
    | dsimp only
theorem fr_f_X12_cast {m0 : MM} {m : MM} {l0 : Nat} {l1 : Int} {l2 : Int} (h : eqF [12, 62, 63, 64, 65, 66] m0 m) : Pc (f_X12_cast m l0 l1 l2) (RF [12, 62, 63, 64, 65, 66] m0) := by
  unfold f_X12_cast
  repeat' first
    | with_reducible exact pc_x0
    | with_reducible exact pc_xt (by assumption)
    | with_reducible exact pc_xr (by assumption)
    | with_reducible exact fr_j_X12_cast_0_21 (by assumption)
    | with_reducible exact fr_j_X12_cast_0_42 (by assumption)
    | with_reducible refine pc_nk fun _ => ?_
    | with_reducible refine pc_if ?_ ?_
    | with_reducible refine pc_ck ?_
    | with_reducible refine pc_cb ?_
    | with_reducible refine pc_dv ?_
    | with_reducible refine pc_let fun _ => ?_
    | with_reducible refine pc_letL fun _ => ?_
    | with_reducible refine pc_ldN fun _ => ?_
    | with_reducible refine pc_ldL fun _ => ?_
    | with_reducible refine pc_ldR fun _ => ?_
    | with_reducible refine pc_put (eqF.sN (by assumption) (by decide)) fun _ _ => ?_
    | with_reducible refine pc_put (eqF.sL (by assumption) (by decide)) fun _ _ => ?_
    | with_reducible refine pc_put (eqF.sR (by assumption) (by decide)) fun _ _ => ?_
    | with_reducible refine pc_stN (by decide) (by assumption) fun _ _ => ?_
    | with_reducible refine pc_stL (by decide) (by assumption) fun _ _ => ?_
    | with_reducible refine pc_stR (by decide) (by assumption) fun _ _ => ?_
    | with_reducible refine pc_cpN (by decide) (by assumption) fun _ _ => ?_
    | with_reducible refine pc_pure fun _ => ?_
    | exact pc_some (by assumption)
    | exact pc_some (eqF.bX (by assumption))
    | exact pc_some trivial
    | dsimp only
theorem fr_j_X12_castOff_0_78 {m0 : MM} {m : MM} {l0 : Nat} {l1 : Int} {l2 : Int} {s0 : Nat} {s1 : Int} (h : eqF [12, 78] m0 m) : Pc (j_X12_castOff_0_78 m l0 l1 l2 s0 s1) (RF [12, 78] m0) := by
  unfold j_X12_castOff_0_78
  repeat' first
    | with_reducible exact pc_x0
    | with_reducible exact pc_xt (by assumption)
    | with_reducible exact pc_xr (by assumption)
    | with_reducible refine pc_nk fun _ => ?_
    | with_reducible refine pc_if ?_ ?_
    | with_reducible refine pc_ck ?_
    | with_reducible refine pc_cb ?_
    | with_reducible refine pc_dv ?_
    | with_reducible refine pc_let fun _ => ?_
    | with_reducible refine pc_letL fun _ => ?_
    | with_reducible refine pc_ldN fun _ => ?_
    | with_reducible refine pc_ldL fun _ => ?_
    | with_reducible refine pc_ldR fun _ => ?_
    | with_reducible refine pc_put (eqF.sN (by assumption) (by decide)) fun _ _ => ?_
    | with_reducible refine pc_put (eqF.sL (by assumption) (by decide)) fun _ _ => ?_
    | with_reducible refine pc_put (eqF.sR (by assumption) (by decide)) fun _ _ => ?_
    | with_reducible refine pc_stN (by decide) (by assumption) fun _ _ => ?_
    | with_reducible refine pc_stL (by decide) (by assumption) fun _ _ => ?_
    | with_reducible refine pc_stR (by decide) (by assumption) fun _ _ => ?_
    | with_reducible refine pc_cpN (by decide) (by assumption) fun _ _ => ?_
    | with_reducible refine pc_bI (fr_f_X12_holds (m0 := _) eqF.rf) (by decide) (by assumption) (fun _ _ _ => ?_) (fun _ _ _ => ?_)
    | with_reducible refine pc_pure fun _ => ?_
    | exact pc_some (by assumption)
    | exact pc_some (eqF.bX (by assumption))
    | exact pc_some trivial
    | dsimp only
theorem fr_j_X12_castOff_0_41 {m0 : MM} {m : MM} {l0 : Nat} {l1 : Int} {l2 : Int} {l3 : Int} {s0 : Int} (h : eqF [12, 78] m0 m) : Pc (j_X12_castOff_0_41 m l0 l1 l2 l3 s0) (RF [12, 78] m0) := by
  unfold j_X12_castOff_0_41
  repeat' first
    | with_reducible exact pc_x0
    | with_reducible exact pc_xt (by assumption)
    | with_reducible exact pc_xr (by assumption)
    | with_reducible exact fr_j_X12_castOff_0_78 (by assumption)
    | with_reducible refine pc_nk fun _ => ?_
    | with_reducible refine pc_if ?_ ?_
    | with_reducible refine pc_ck ?_
    | with_reducible refine pc_cb ?_
    | with_reducible refine pc_dv ?_
    | with_reducible refine pc_let fun _ => ?_
    | with_reducible refine pc_letL fun _ => ?_
    | with_reducible refine pc_ldN fun _ => ?_
    | with_reducible refine pc_ldL fun _ => ?_
    | with_reducible refine pc_ldR fun _ => ?_
    | with_reducible refine pc_put (eqF.sN (by assumption) (by decide)) fun _ _ => ?_
    | with_reducible refine pc_put (eqF.sL (by assumption) (by decide)) fun _ _ => ?_
    | with_reducible refine pc_put (eqF.sR (by assumption) (by decide)) fun _ _ => ?_
    | with_reducible refine pc_stN (by decide) (by assumption) fun _ _ => ?_
    | with_reducible refine pc_stL (by decide) (by assumption) fun _ _ => ?_
    | with_reducible refine pc_stR (by decide) (by assumption) fun _ _ => ?_
    | with_reducible refine pc_cpN (by decide) (by assumption) fun _ _ => ?_
    | with_reducible refine pc_pure fun _ => ?_
    | exact pc_some (by assumption)
    | exact pc_some (eqF.bX (by assumption))
    | exact pc_some trivial
    | dsimp only
theorem fr_j_X12_castOff_0_40 {m0 : MM} {m : MM} {l0 : Nat} {l1 : Int} {l2 : Int} {l3 : Int} (h : eqF [12, 78] m0 m) : Pc (j_X12_castOff_0_40 m l0 l1 l2 l3) (RF [12, 78] m0) := by
  unfold j_X12_castOff_0_40
  repeat' first
    | with_reducible exact pc_x0
    | with_reducible exact pc_xt (by assumption)
    | with_reducible exact pc_xr (by assumption)
    | with_reducible exact fr_j_X12_castOff_0_41 (by assumption)
    | with_reducible refine pc_nk fun _ => ?_
    | with_reducible refine pc_if ?_ ?_
    | with_reducible refine pc_ck ?_
    | with_reducible refine pc_cb ?_
    | with_reducible refine pc_dv ?_
    | with_reducible refine pc_let fun _ => ?_
    | with_reducible refine pc_letL fun _ => ?_
    | with_reducible refine pc_ldN fun _ => ?_
    | with_reducible refine pc_ldL fun _ => ?_
    | with_reducible refine pc_ldR fun _ => ?_
    | with_reducible refine pc_put (eqF.sN (by assumption) (by decide)) fun _ _ => ?_
    | with_reducible refine pc_put (eqF.sL (by assumption) (by decide)) fun _ _ => ?_
    | with_reducible refine pc_put (eqF.sR (by assumption) (by decide)) fun _ _ => ?_
    | with_reducible refine pc_stN (by decide) (by assumption) fun _ _ => ?_
    | with_reducible refine pc_stL (by decide) (by assumption) fun _ _ => ?_
    | with_reducible refine pc_stR (by decide) (by assumption) fun _ _ => ?_
    | with_reducible refine pc_cpN (by decide) (by assumption) fun _ _ => ?_
    | with_reducible refine pc_pure fun _ => ?_
    | exact pc_some (by assumption)
    | exact pc_some (eqF.bX (by assumption))
    | exact pc_some trivial
    | dsimp only
theorem fr_f_X12_castOff {m0 : MM} {m : MM} {l0 : Nat} {l1 : Int} {l2 : Int} (h : eqF [12, 78] m0 m) : Pc (f_X12_castOff m l0 l1 l2) (RF [12, 78] m0) := by
  unfold f_X12_castOff
  repeat' first
    | with_reducible exact pc_x0
    | with_reducible exact pc_xt (by assumption)
    | with_reducible exact pc_xr (by assumption)
    | with_reducible exact fr_j_X12_castOff_0_40 (by assumption)
    | with_reducible exact fr_j_X12_castOff_0_41 (by assumption)
    | with_reducible refine pc_nk fun _ => ?_
    | with_reducible refine pc_if ?_ ?_
    | with_reducible refine pc_ck ?_
    | with_reducible refine pc_cb ?_
    | with_reducible refine pc_dv ?_
    | with_reducible refine pc_let fun _ => ?_
    | with_reducible refine pc_letL fun _ => ?_
    | with_reducible refine pc_ldN fun _ => ?_
    | with_reducible refine pc_ldL fun _ => ?_
    | with_reducible refine pc_ldR fun _ => ?_
    | with_reducible refine pc_put (eqF.sN (by assumption) (by decide)) fun _ _ => ?_
    | with_reducible refine pc_put (eqF.sL (by assumption) (by decide)) fun _ _ => ?_
    | with_reducible refine pc_put (eqF.sR (by assumption) (by decide)) fun _ _ => ?_
    | with_reducible refine pc_stN (by decide) (by assumption) fun _ _ => ?_
    | with_reducible refine pc_stL (by decide) (by assumption) fun _ _ => ?_
    | with_reducible refine pc_stR (by decide) (by assumption) fun _ _ => ?_
    | with_reducible refine pc_cpN (by decide) (by assumption) fun _ _ => ?_
    | with_reducible refine pc_pure fun _ => ?_
    | exact pc_some (by assumption)
    | exact pc_some (eqF.bX (by assumption))
    | exact pc_some trivial
    | dsimp only
theorem fr_j_X12_character_236_279 {m0 : MM} {m : MM} {l0 : Nat} {l7 : Int} {l8 : Int} {l9 : Int} {l10 : Int} {l11 : Int} {l12 : Int} {l13 : Int} {l14 : Int} {s0 : Int} (h : eqF [12] m0 m) : Pc (j_X12_character_236_279 m l0 l7 l8 l9 l10 l11 l12 l13 l14 s0) (fun z => Sum.elim (fun _ => True) (Sum.elim (RF [12] m0) (fun _ => True)) z) := by
  unfold j_X12_character_236_279
  repeat' first
    | with_reducible exact pc_x0
    | with_reducible exact pc_xt (by assumption)
    | with_reducible exact pc_xr (by assumption)
    | with_reducible refine pc_nk fun _ => ?_
    | with_reducible refine pc_if ?_ ?_
    | with_reducible refine pc_ck ?_
    | with_reducible refine pc_cb ?_
    | with_reducible refine pc_dv ?_
    | with_reducible refine pc_let fun _ => ?_
    | with_reducible refine pc_letL fun _ => ?_
    | with_reducible refine pc_ldN fun _ => ?_
    | with_reducible refine pc_ldL fun _ => ?_
    | with_reducible refine pc_ldR fun _ => ?_
    | with_reducible refine pc_put (eqF.sN (by assumption) (by decide)) fun _ _ => ?_
    | with_reducible refine pc_put (eqF.sL (by assumption) (by decide)) fun _ _ => ?_
    | with_reducible refine pc_put (eqF.sR (by assumption) (by decide)) fun _ _ => ?_
    | with_reducible refine pc_stN (by decide) (by assumption) fun _ _ => ?_
    | with_reducible refine pc_stL (by decide) (by assumption) fun _ _ => ?_
    | with_reducible refine pc_stR (by decide) (by assumption) fun _ _ => ?_
    | with_reducible refine pc_cpN (by decide) (by assumption) fun _ _ => ?_
    | with_reducible refine pc_pure fun _ => ?_
    | exact pc_some (by assumption)
    | exact pc_some (eqF.bX (by assumption))
    | exact pc_some trivial
    | dsimp only
theorem fr_j_X12_character_236_274 {m0 : MM} {m : MM} {l0 : Nat} {l7 : Int} {l8 : Int} {l9 : Int} {l10 : Int} {l11 : Int} {l12 : Int} {l13 : Int} {l14 : Int} (h : eqF [12] m0 m) : Pc (j_X12_character_236_274 m l0 l7 l8 l9 l10 l11 l12 l13 l14) (fun z => Sum.elim (fun _ => True) (Sum.elim (RF [12] m0) (fun _ => True)) z) := by
  unfold j_X12_character_236_274
  repeat' first
    | with_reducible exact pc_x0
    | with_reducible exact pc_xt (by assumption)
    | with_reducible exact pc_xr (by assumption)
    | with_reducible exact fr_j_X12_character_236_279 (by assumption)
    | with_reducible refine pc_nk fun _ => ?_
    | with_reducible refine pc_if ?_ ?_
    | with_reducible refine pc_ck ?_
    | with_reducible refine pc_cb ?_
    | with_reducible refine pc_dv ?_
    | with_reducible refine pc_let fun _ => ?_
    | with_reducible refine pc_letL fun _ => ?_
    | with_reducible refine pc_ldN fun _ => ?_
    | with_reducible refine pc_ldL fun _ => ?_
    | with_reducible refine pc_ldR fun _ => ?_
    | with_reducible refine pc_put (eqF.sN (by assumption) (by decide)) fun _ _ => ?_
    | with_reducible refine pc_put (eqF.sL (by assumption) (by decide)) fun _ _ => ?_
    | with_reducible refine pc_put (eqF.sR (by assumption) (by decide)) fun _ _ => ?_
    | with_reducible refine pc_stN (by decide) (by assumption) fun _ _ => ?_
    | with_reducible refine pc_stL (by decide) (by assumption) fun _ _ => ?_
    | with_reducible refine pc_stR (by decide) (by assumption) fun _ _ => ?_
    | with_reducible refine pc_cpN (by decide) (by assumption) fun _ _ => ?_
    | with_reducible refine pc_pure fun _ => ?_
    | exact pc_some (by assumption)
    | exact pc_some (eqF.bX (by assumption))
    | exact pc_some trivial
    | dsimp only
theorem fr_b_X12_character_236 {m0 : MM} {m : MM} {l0 : Nat} {l7 : Int} {l8 : Int} {l9 : Int} {l11 : Int} {l12 : Int} {l10 : Int} {l13 : Int} (h : eqF [12] m0 m) : Pc (b_X12_character_236 m l0 l7 l8 l9 l11 l12 l10 l13) (fun z => Sum.elim (fun _ => True) (Sum.elim (RF [12] m0) (fun _ => True)) z) := by
  unfold b_X12_character_236
  repeat' first
    | with_reducible exact pc_x0
    | with_reducible exact pc_xt (by assumption)
    | with_reducible exact pc_xr (by assumption)
    | with_reducible exact fr_j_X12_character_236_274 (by assumption)
    | with_reducible exact fr_j_X12_character_236_279 (by assumption)
    | with_reducible refine pc_nk fun _ => ?_
    | with_reducible refine pc_if ?_ ?_
    | with_reducible refine pc_ck ?_
    | with_reducible refine pc_cb ?_
    | with_reducible refine pc_dv ?_
    | with_reducible refine pc_let fun _ => ?_
    | with_reducible refine pc_letL fun _ => ?_
    | with_reducible refine pc_ldN fun _ => ?_
    | with_reducible refine pc_ldL fun _ => ?_
    | with_reducible refine pc_ldR fun _ => ?_
    | with_reducible refine pc_put (eqF.sN (by assumption) (by decide)) fun _ _ => ?_
    | with_reducible refine pc_put (eqF.sL (by assumption) (by decide)) fun _ _ => ?_
    | with_reducible refine pc_put (eqF.sR (by assumption) (by decide)) fun _ _ => ?_
    | with_reducible refine pc_stN (by decide) (by assumption) fun _ _ => ?_
    | with_reducible refine pc_stL (by decide) (by assumption) fun _ _ => ?_
    | with_reducible refine pc_stR (by decide) (by assumption) fun _ _ => ?_
    | with_reducible refine pc_cpN (by decide) (by assumption) fun _ _ => ?_
    | with_reducible refine pc_pure fun _ => ?_
    | exact pc_some (by assumption)
    | exact pc_some (eqF.bX (by assumption))
    | exact pc_some trivial
    | dsimp only
theorem fr_j_X12_character_121_352 {m0 : MM} {m : MM} {l0 : Nat} {l7 : Int} {l8 : Int} {l9 : Int} {l10 : Int} {l11 : Int} (h : eqF [12] m0 m) : Pc (j_X12_character_121_352 m l0 l7 l8 l9 l10 l11) (fun z => Sum.elim (fun _ => True) (Sum.elim (RF [12] m0) (fun _ => True)) z) := by
  unfold j_X12_character_121_352
  repeat' first
    | with_reducible exact pc_x0
    | with_reducible exact pc_xt (by assumption)
    | with_reducible exact pc_xr (by assumption)
    | with_reducible refine pc_nk fun _ => ?_
    | with_reducible refine pc_if ?_ ?_
    | with_reducible refine pc_ck ?_
    | with_reducible refine pc_cb ?_
    | with_reducible refine pc_dv ?_
    | with_reducible refine pc_let fun _ => ?_
    | with_reducible refine pc_letL fun _ => ?_
    | with_reducible refine pc_ldN fun _ => ?_
    | with_reducible refine pc_ldL fun _ => ?_
    | with_reducible refine pc_ldR fun _ => ?_
    | with_reducible refine pc_put (eqF.sN (by assumption) (by decide)) fun _ _ => ?_
    | with_reducible refine pc_put (eqF.sL (by assumption) (by decide)) fun _ _ => ?_
    | with_reducible refine pc_put (eqF.sR (by assumption) (by decide)) fun _ _ => ?_
    | with_reducible refine pc_stN (by decide) (by assumption) fun _ _ => ?_
    | with_reducible refine pc_stL (by decide) (by assumption) fun _ _ => ?_
    | with_reducible refine pc_stR (by decide) (by assumption) fun _ _ => ?_
    | with_reducible refine pc_cpN (by decide) (by assumption) fun _ _ => ?_
    | with_reducible refine pc_pure fun _ => ?_
    | exact pc_some (by assumption)
    | exact pc_some (eqF.bX (by assumption))
    | exact pc_some trivial
    | dsimp only
theorem fr_j_X12_character_121_219 {m0 : MM} {m : MM} {l0 : Nat} {l7 : Int} {l8 : Int} {l9 : Int} {l10 : Int} {l11 : Int} {s0 : Int} (h : eqF [12] m0 m) : Pc (j_X12_character_121_219 m l0 l7 l8 l9 l10 l11 s0) (fun z => Sum.elim (fun _ => True) (Sum.elim (RF [12] m0) (fun _ => True)) z) := by
  unfold j_X12_character_121_219
  repeat' first
    | with_reducible exact pc_x0
    | with_reducible exact pc_xt (by assumption)
    | with_reducible exact pc_xr (by assumption)
    | with_reducible exact fr_j_X12_character_121_352 (by assumption)
    | with_reducible refine pc_nk fun _ => ?_
    | with_reducible refine pc_if ?_ ?_
    | with_reducible refine pc_ck ?_
    | with_reducible refine pc_cb ?_
    | with_reducible refine pc_dv ?_
    | with_reducible refine pc_let fun _ => ?_
    | with_reducible refine pc_letL fun _ => ?_
    | with_reducible refine pc_ldN fun _ => ?_
    | with_reducible refine pc_ldL fun _ => ?_
    | with_reducible refine pc_ldR fun _ => ?_
    | with_reducible refine pc_put (eqF.sN (by assumption) (by decide)) fun _ _ => ?_
    | with_reducible refine pc_put (eqF.sL (by assumption) (by decide)) fun _ _ => ?_
    | with_reducible refine pc_put (eqF.sR (by assumption) (by decide)) fun _ _ => ?_
    | with_reducible refine pc_stN (by decide) (by assumption) fun _ _ => ?_
    | with_reducible refine pc_stL (by decide) (by assumption) fun _ _ => ?_
    | with_reducible refine pc_stR (by decide) (by assumption) fun _ _ => ?_
    | with_reducible refine pc_cpN (by decide) (by assumption) fun _ _ => ?_
    | with_reducible refine pc_lpr (fun _ => True) (RF [12] m0) (fun _ => True) trivial (fun s _ => fr_b_X12_character_236 (by assumption)) (fun r hr => ?_) (fun z hz => ?_)
    | with_reducible refine pc_pure fun _ => ?_
    | exact pc_some (by assumption)
    | exact pc_some (eqF.bX (by assumption))
    | exact pc_some trivial
    | dsimp only
theorem fr_b_X12_character_121 {m0 : MM} {m : MM} {l0 : Nat} {l7 : Int} {l8 : Int} {l9 : Int} {l10 : Int} {l11 : Int} (h : eqF [12] m0 m) : Pc (b_X12_character_121 m l0 l7 l8 l9 l10 l11) (fun z => Sum.elim (fun _ => True) (Sum.elim (RF [12] m0) (fun _ => True)) z) := by
  unfold b_X12_character_121
  repeat' first
    | with_reducible exact pc_x0
    | with_reducible exact pc_xt (by assumption)
    | with_reducible exact pc_xr (by assumption)
    | with_reducible exact fr_j_X12_character_121_219 (by assumption)
    | with_reducible refine pc_nk fun _ => ?_
    | with_reducible refine pc_if ?_ ?_
    | with_reducible refine pc_ck ?_
    | with_reducible refine pc_cb ?_
    | with_reducible refine pc_dv ?_
    | with_reducible refine pc_let fun _ => ?_
    | with_reducible refine pc_letL fun _ => ?_
    | with_reducible refine pc_ldN fun _ => ?_
    | with_reducible refine pc_ldL fun _ => ?_
    | with_reducible refine pc_ldR fun _ => ?_
    | with_reducible refine pc_put (eqF.sN (by assumption) (by decide)) fun _ _ => ?_
    | with_reducible refine pc_put (eqF.sL (by assumption) (by decide)) fun _ _ => ?_
    | with_reducible refine pc_put (eqF.sR (by assumption) (by decide)) fun _ _ => ?_
    | with_reducible refine pc_stN (by decide) (by assumption) fun _ _ => ?_
    | with_reducible refine pc_stL (by decide) (by assumption) fun _ _ => ?_
    | with_reducible refine pc_stR (by decide) (by assumption) fun _ _ => ?_
    | with_reducible refine pc_cpN (by decide) (by assumption) fun _ _ => ?_
    | with_reducible refine pc_pure fun _ => ?_
    | exact pc_some (by assumption)
    | exact pc_some (eqF.bX (by assumption))
    | exact pc_some trivial
    | dsimp only
theorem fr_j_X12_character_0_358 {m0 : MM} {m : MM} (h : eqF [12] m0 m) : Pc (j_X12_character_0_358 m) (RF [12] m0) := by
  unfold j_X12_character_0_358
  repeat' first
    | with_reducible exact pc_x0
    | with_reducible exact pc_xt (by assumption)
    | with_reducible exact pc_xr (by assumption)
    | with_reducible refine pc_nk fun _ => ?_
    | with_reducible refine pc_if ?_ ?_
    | with_reducible refine pc_ck ?_
    | with_reducible refine pc_cb ?_
    | with_reducible refine pc_dv ?_
    | with_reducible refine pc_let fun _ => ?_
    | with_reducible refine pc_letL fun _ => ?_
    | with_reducible refine pc_ldN fun _ => ?_
    | with_reducible refine pc_ldL fun _ => ?_
    | with_reducible refine pc_ldR fun _ => ?_
    | with_reducible refine pc_put (eqF.sN (by assumption) (by decide)) fun _ _ => ?_
    | with_reducible refine pc_put (eqF.sL (by assumption) (by decide)) fun _ _ => ?_
    | with_reducible refine pc_put (eqF.sR (by assumption) (by decide)) fun _ _ => ?_
    | with_reducible refine pc_stN (by decide) (by assumption) fun _ _ => ?_
    | with_reducible refine pc_stL (by decide) (by assumption) fun _ _ => ?_
    | with_reducible refine pc_stR (by decide) (by assumption) fun _ _ => ?_
    | with_reducible refine pc_cpN (by decide) (by assumption) fun _ _ => ?_
    | with_reducible refine pc_pure fun _ => ?_
    | exact pc_some (by assumption)
    | exact pc_some (eqF.bX (by assumption))
    | exact pc_some trivial
    | dsimp only
theorem fr_j_X12_character_0_59 {m0 : MM} {m : MM} {l0 : Nat} {l1 : Int} {l2 : Int} {l3 : Int} {l4 : Int} {l5 : Int} {s0 : Nat} {s1 : Int} (h : eqF [12] m0 m) : Pc (j_X12_character_0_59 m l0 l1 l2 l3 l4 l5 s0 s1) (RF [12] m0) := by
  unfold j_X12_character_0_59
  repeat' first
    | with_reducible exact pc_x0
    | with_reducible exact pc_xt (by assumption)
    | with_reducible exact pc_xr (by assumption)
    | with_reducible exact fr_j_X12_character_0_358 (by assumption)
    | with_reducible refine pc_nk fun _ => ?_
    | with_reducible refine pc_if ?_ ?_
    | with_reducible refine pc_ck ?_
    | with_reducible refine pc_cb ?_
    | with_reducible refine pc_dv ?_
    | with_reducible refine pc_let fun _ => ?_
    | with_reducible refine pc_letL fun _ => ?_
    | with_reducible refine pc_ldN fun _ => ?_
    | with_reducible refine pc_ldL fun _ => ?_
    | with_reducible refine pc_ldR fun _ => ?_
    | with_reducible refine pc_put (eqF.sN (by assumption) (by decide)) fun _ _ => ?_
    | with_reducible refine pc_put (eqF.sL (by assumption) (by decide)) fun _ _ => ?_
    | with_reducible refine pc_put (eqF.sR (by assumption) (by decide)) fun _ _ => ?_
    | with_reducible refine pc_stN (by decide) (by assumption) fun _ _ => ?_
    | with_reducible refine pc_stL (by decide) (by assumption) fun _ _ => ?_
    | with_reducible refine pc_stR (by decide) (by assumption) fun _ _ => ?_
    | with_reducible refine pc_cpN (by decide) (by assumption) fun _ _ => ?_
    | with_reducible refine pc_bI (fr_f_X12_holds (m0 := _) eqF.rf) (by decide) (by assumption) (fun _ _ _ => ?_) (fun _ _ _ => ?_)
    | with_reducible refine pc_lpr (fun _ => True) (RF [12] m0) (fun _ => True) trivial (fun s _ => fr_b_X12_character_121 (by assumption)) (fun r hr => ?_) (fun z hz => ?_)
    | with_reducible refine pc_pure fun _ => ?_
    | exact pc_some (by assumption)
    | exact pc_some (eqF.bX (by assumption))
    | exact pc_some trivial
    | dsimp only
theorem fr_j_X12_character_0_33 {m0 : MM} {m : MM} {l0 : Nat} {l1 : Int} {l2 : Int} {l3 : Int} {l4 : Int} {l5 : Int} {s0 : Int} (h : eqF [12] m0 m) : Pc (j_X12_character_0_33 m l0 l1 l2 l3 l4 l5 s0) (RF [12] m0) := by
  unfold j_X12_character_0_33
  repeat' first
    | with_reducible exact pc_x0
    | with_reducible exact pc_xt (by assumption)
    | with_reducible exact pc_xr (by assumption)
    | with_reducible exact fr_j_X12_character_0_59 (by assumption)
    | with_reducible refine pc_nk fun _ => ?_
    | with_reducible refine pc_if ?_ ?_
    | with_reducible refine pc_ck ?_
    | with_reducible refine pc_cb ?_
    | with_reducible refine pc_dv ?_
    | with_reducible refine pc_let fun _ => ?_
    | with_reducible refine pc_letL fun _ => ?_
    | with_reducible refine pc_ldN fun _ => ?_
    | with_reducible refine pc_ldL fun _ => ?_
    | with_reducible refine pc_ldR fun _ => ?_
    | with_reducible refine pc_put (eqF.sN (by assumption) (by decide)) fun _ _ => ?_
    | with_reducible refine pc_put (eqF.sL (by assumption) (by decide)) fun _ _ => ?_
    | with_reducible refine pc_put (eqF.sR (by assumption) (by decide)) fun _ _ => ?_
    | with_reducible refine pc_stN (by decide) (by assumption) fun _ _ => ?_
    | with_reducible refine pc_stL (by decide) (by assumption) fun _ _ => ?_
    | with_reducible refine pc_stR (by decide) (by assumption) fun _ _ => ?_
    | with_reducible refine pc_cpN (by decide) (by assumption) fun _ _ => ?_
    | with_reducible refine pc_pure fun _ => ?_
    | exact pc_some (by assumption)
    | exact pc_some (eqF.bX (by assumption))
    | exact pc_some trivial
    | dsimp only
theorem fr_j_X12_character_0_32 {m0 : MM} {m : MM} {l0 : Nat} {l1 : Int} {l2 : Int} {l3 : Int} {l4 : Int} {l5 : Int} (h : eqF [12] m0 m) : Pc (j_X12_character_0_32 m l0 l1 l2 l3 l4 l5) (RF [12] m0) := by
  unfold j_X12_character_0_32
  repeat' first
    | with_reducible exact pc_x0
    | with_reducible exact pc_xt (by assumption)
    | with_reducible exact pc_xr (by assumption)
    | with_reducible exact fr_j_X12_character_0_33 (by assumption)
    | with_reducible refine pc_nk fun _ => ?_
    | with_reducible refine pc_if ?_ ?_
    | with_reducible refine pc_ck ?_
    | with_reducible refine pc_cb ?_
    | with_reducible refine pc_dv ?_
    | with_reducible refine pc_let fun _ => ?_
    | with_reducible refine pc_letL fun _ => ?_
    | with_reducible refine pc_ldN fun _ => ?_
    | with_reducible refine pc_ldL fun _ => ?_
    | with_reducible refine pc_ldR fun _ => ?_
    | with_reducible refine pc_put (eqF.sN (by assumption) (by decide)) fun _ _ => ?_
    | with_reducible refine pc_put (eqF.sL (by assumption) (by decide)) fun _ _ => ?_
    | with_reducible refine pc_put (eqF.sR (by assumption) (by decide)) fun _ _ => ?_
    | with_reducible refine pc_stN (by decide) (by assumption) fun _ _ => ?_
    | with_reducible refine pc_stL (by decide) (by assumption) fun _ _ => ?_
    | with_reducible refine pc_stR (by decide) (by assumption) fun _ _ => ?_
    | with_reducible refine pc_cpN (by decide) (by assumption) fun _ _ => ?_
    | with_reducible refine pc_pure fun _ => ?_
    | exact pc_some (by assumption)
    | exact pc_some (eqF.bX (by assumption))
    | exact pc_some trivial
    | dsimp only
theorem fr_f_X12_character {m0 : MM} {m : MM} {l0 : Nat} {l1 : Int} {l2 : Int} {l3 : Int} {l4 : Int} {l5 : Int} (h : eqF [12] m0 m) : Pc (f_X12_character m l0 l1 l2 l3 l4 l5) (RF [12] m0) := by
  unfold f_X12_character
  repeat' first
    | with_reducible exact pc_x0
    | with_reducible exact pc_xt (by assumption)
    | with_reducible exact pc_xr (by assumption)
    | with_reducible exact fr_j_X12_character_0_32 (by assumption)
    | with_reducible exact fr_j_X12_character_0_33 (by assumption)
    | with_reducible refine pc_nk fun _ => ?_
    | with_reducible refine pc_if ?_ ?_
    | with_reducible refine pc_ck ?_
    | with_reducible refine pc_cb ?_
    | with_reducible refine pc_dv ?_
    | with_reducible refine pc_let fun _ => ?_
    | with_reducible refine pc_letL fun _ => ?_
    | with_reducible refine pc_ldN fun _ => ?_
    | with_reducible refine pc_ldL fun _ => ?_
    | with_reducible refine pc_ldR fun _ => ?_
    | with_reducible refine pc_put (eqF.sN (by assumption) (by decide)) fun _ _ => ?_
    | with_reducible refine pc_put (eqF.sL (by assumption) (by decide)) fun _ _ => ?_
    | with_reducible refine pc_put (eqF.sR (by assumption) (by decide)) fun _ _ => ?_
    | with_reducible refine pc_stN (by decide) (by assumption) fun _ _ => ?_
    | with_reducible refine pc_stL (by decide) (by assumption) fun _ _ => ?_
    | with_reducible refine pc_stR (by decide) (by assumption) fun _ _ => ?_
    | with_reducible refine pc_cpN (by decide) (by assumption) fun _ _ => ?_
    | with_reducible refine pc_pure fun _ => ?_
    | exact pc_some (by assumption)
    | exact pc_some (eqF.bX (by assumption))
    | exact pc_some trivial
    | dsimp only
theorem fr_b_X12_copy_112 {m0 : MM} {l0 : Nat} {l1 : Int} {l5 : Int} {l6 : Int} {mm : MM} (h : eqF [12, 80, 81, 82] m0 mm) : Pc (b_X12_copy_112 l0 l1 l5 l6 mm) (fun z => Sum.elim (fun s => eqF [12, 80, 81, 82] m0 s.2) (fun z => eqF [12, 80, 81, 82] m0 z) z) := by
  unfold b_X12_copy_112
  repeat' first
    | with_reducible exact pc_x0
    | with_reducible exact pc_xt (by assumption)
    | with_reducible exact pc_xr (by assumption)
    | with_reducible refine pc_nk fun _ => ?_
    | with_reducible refine pc_if ?_ ?_
    | with_reducible refine pc_ck ?_
    | with_reducible refine pc_cb ?_
    | with_reducible refine pc_dv ?_
    | with_reducible refine pc_let fun _ => ?_
    | with_reducible refine pc_letL fun _ => ?_
    | with_reducible refine pc_ldN fun _ => ?_
    | with_reducible refine pc_ldL fun _ => ?_
    | with_reducible refine pc_ldR fun _ => ?_
    | with_reducible refine pc_put (eqF.sN (by assumption) (by decide)) fun _ _ => ?_
    | with_reducible refine pc_put (eqF.sL (by assumption) (by decide)) fun _ _ => ?_
    | with_reducible refine pc_put (eqF.sR (by assumption) (by decide)) fun _ _ => ?_
    | with_reducible refine pc_stN (by decide) (by assumption) fun _ _ => ?_
    | with_reducible refine pc_stL (by decide) (by assumption) fun _ _ => ?_
    | with_reducible refine pc_stR (by decide) (by assumption) fun _ _ => ?_
    | with_reducible refine pc_cpN (by decide) (by assumption) fun _ _ => ?_
    | with_reducible refine pc_pure fun _ => ?_
    | exact pc_some (by assumption)
    | exact pc_some (eqF.bX (by assumption))
    | exact pc_some trivial
    | dsimp only
theorem fr_j_X12_copy_0_179 {m0 : MM} {m : MM} {l0 : Nat} {l1 : Int} (h : eqF [12, 80, 81, 82] m0 m) : Pc (j_X12_copy_0_179 m l0 l1) (RF [12, 80, 81, 82] m0) := by
  unfold j_X12_copy_0_179
  repeat' first
    | with_reducible exact pc_x0
    | with_reducible exact pc_xt (by assumption)
    | with_reducible exact pc_xr (by assumption)
    | with_reducible refine pc_nk fun _ => ?_
    | with_reducible refine pc_if ?_ ?_
    | with_reducible refine pc_ck ?_
    | with_reducible refine pc_cb ?_
    | with_reducible refine pc_dv ?_
    | with_reducible refine pc_let fun _ => ?_
    | with_reducible refine pc_letL fun _ => ?_
    | with_reducible refine pc_ldN fun _ => ?_
    | with_reducible refine pc_ldL fun _ => ?_
    | with_reducible refine pc_ldR fun _ => ?_
    | with_reducible refine pc_put (eqF.sN (by assumption) (by decide)) fun _ _ => ?_
    | with_reducible refine pc_put (eqF.sL (by assumption) (by decide)) fun _ _ => ?_
    | with_reducible refine pc_put (eqF.sR (by assumption) (by decide)) fun _ _ => ?_
    | with_reducible refine pc_stN (by decide) (by assumption) fun _ _ => ?_
    | with_reducible refine pc_stL (by decide) (by assumption) fun _ _ => ?_
    | with_reducible refine pc_stR (by decide) (by assumption) fun _ _ => ?_
    | with_reducible refine pc_cpN (by decide) (by assumption) fun _ _ => ?_
    | with_reducible refine pc_pure fun _ => ?_
    | exact pc_some (by assumption)
    | exact pc_some (eqF.bX (by assumption))
    | exact pc_some trivial
    | dsimp only
theorem fr_j_X12_copy_0_95 {m0 : MM} {m : MM} {l0 : Nat} {l1 : Int} {s0 : Nat} {s1 : Int} (h : eqF [12, 80, 81, 82] m0 m) : Pc (j_X12_copy_0_95 m l0 l1 s0 s1) (RF [12, 80, 81, 82] m0) := by
  unfold j_X12_copy_0_95
  repeat' first
    | with_reducible exact pc_x0
    | with_reducible exact pc_xt (by assumption)
    | with_reducible exact pc_xr (by assumption)
    | with_reducible exact fr_j_X12_copy_0_179 (by assumption)
    | with_reducible refine pc_nk fun _ => ?_
    | with_reducible refine pc_if ?_ ?_
    | with_reducible refine pc_ck ?_
    | with_reducible refine pc_cb ?_
    | with_reducible refine pc_dv ?_
    | with_reducible refine pc_let fun _ => ?_
    | with_reducible refine pc_letL fun _ => ?_
    | with_reducible refine pc_ldN fun _ => ?_
    | with_reducible refine pc_ldL fun _ => ?_
    | with_reducible refine pc_ldR fun _ => ?_
    | with_reducible refine pc_put (eqF.sN (by assumption) (by decide)) fun _ _ => ?_
    | with_reducible refine pc_put (eqF.sL (by assumption) (by decide)) fun _ _ => ?_
    | with_reducible refine pc_put (eqF.sR (by assumption) (by decide)) fun _ _ => ?_
    | with_reducible refine pc_stN (by decide) (by assumption) fun _ _ => ?_
    | with_reducible refine pc_stL (by decide) (by assumption) fun _ _ => ?_
    | with_reducible refine pc_stR (by decide) (by assumption) fun _ _ => ?_
    | with_reducible refine pc_cpN (by decide) (by assumption) fun _ _ => ?_
    | with_reducible refine pc_bI (fr_f_X12_holds (m0 := _) eqF.rf) (by decide) (by assumption) (fun _ _ _ => ?_) (fun _ _ _ => ?_)
    | with_reducible refine pc_lp (fun s => eqF [12, 80, 81, 82] m0 s.2) (fun z => eqF [12, 80, 81, 82] m0 z) (by assumption) (fun s hs => fr_b_X12_copy_112 hs) (fun z hz => ?_)
    | with_reducible refine pc_pure fun _ => ?_
    | exact pc_some (by assumption)
    | exact pc_some (eqF.bX (by assumption))
    | exact pc_some trivial
    | dsimp only
theorem fr_j_X12_copy_0_66 {m0 : MM} {m : MM} {l0 : Nat} {l1 : Int} {l2 : Int} {l3 : Int} {s0 : Int} (h : eqF [12, 80, 81, 82] m0 m) : Pc (j_X12_copy_0_66 m l0 l1 l2 l3 s0) (RF [12, 80, 81, 82] m0) := by
  unfold j_X12_copy_0_66
  repeat' first
    | with_reducible exact pc_x0
    | with_reducible exact pc_xt (by assumption)
    | with_reducible exact pc_xr (by assumption)
    | with_reducible exact fr_j_X12_copy_0_95 (by assumption)
    | with_reducible refine pc_nk fun _ => ?_
    | with_reducible refine pc_if ?_ ?_
    | with_reducible refine pc_ck ?_
    | with_reducible refine pc_cb ?_
    | with_reducible refine pc_dv ?_
    | with_reducible refine pc_let fun _ => ?_
    | with_reducible refine pc_letL fun _ => ?_
    | with_reducible refine pc_ldN fun _ => ?_
    | with_reducible refine pc_ldL fun _ => ?_
    | with_reducible refine pc_ldR fun _ => ?_
    | with_reducible refine pc_put (eqF.sN (by assumption) (by decide)) fun _ _ => ?_
    | with_reducible refine pc_put (eqF.sL (by assumption) (by decide)) fun _ _ => ?_
    | with_reducible refine pc_put (eqF.sR (by assumption) (by decide)) fun _ _ => ?_
    | with_reducible refine pc_stN (by decide) (by assumption) fun _ _ => ?_
    | with_reducible refine pc_stL (by decide) (by assumption) fun _ _ => ?_
    | with_reducible refine pc_stR (by decide) (by assumption) fun _ _ => ?_
    | with_reducible refine pc_cpN (by decide) (by assumption) fun _ _ => ?_
    | with_reducible refine pc_pure fun _ => ?_
    | exact pc_some (by assumption)
    | exact pc_some (eqF.bX (by assumption))
    | exact pc_some trivial
    | dsimp only
theorem fr_j_X12_copy_0_65 {m0 : MM} {m : MM} {l0 : Nat} {l1 : Int} {l2 : Int} {l3 : Int} (h : eqF [12, 80, 81, 82] m0 m) : Pc (j_X12_copy_0_65 m l0 l1 l2 l3) (RF [12, 80, 81, 82] m0) := by
  unfold j_X12_copy_0_65
  repeat' first
    | with_reducible exact pc_x0
    | with_reducible exact pc_xt (by assumption)
    | with_reducible exact pc_xr (by assumption)
    | with_reducible exact fr_j_X12_copy_0_66 (by assumption)
    | with_reducible refine pc_nk fun _ => ?_
    | with_reducible refine pc_if ?_ ?_
    | with_reducible refine pc_ck ?_
    | with_reducible refine pc_cb ?_
    | with_reducible refine pc_dv ?_
    | with_reducible refine pc_let fun _ => ?_
    | with_reducible refine pc_letL fun _ => ?_
    | with_reducible refine pc_ldN fun _ => ?_
    | with_reducible refine pc_ldL fun _ => ?_
    | with_reducible refine pc_ldR fun _ => ?_
    | with_reducible refine pc_put (eqF.sN (by assumption) (by decide)) fun _ _ => ?_
    | with_reducible refine pc_put (eqF.sL (by assumption) (by decide)) fun _ _ => ?_
    | with_reducible refine pc_put (eqF.sR (by assumption) (by decide)) fun _ _ => ?_
    | with_reducible refine pc_stN (by decide) (by assumption) fun _ _ => ?_
    | with_reducible refine pc_stL (by decide) (by assumption) fun _ _ => ?_
    | with_reducible refine pc_stR (by decide) (by assumption) fun _ _ => ?_
    | with_reducible refine pc_cpN (by decide) (by assumption) fun _ _ => ?_
    | with_reducible refine pc_pure fun _ => ?_
    | exact pc_some (by assumption)
    | exact pc_some (eqF.bX (by assumption))
    | exact pc_some trivial
    | dsimp only
theorem fr_j_X12_copy_0_19 {m0 : MM} {m : MM} {l0 : Nat} {l1 : Int} {l2 : Int} {s0 : Int} (h : eqF [12, 80, 81, 82] m0 m) : Pc (j_X12_copy_0_19 m l0 l1 l2 s0) (RF [12, 80, 81, 82] m0) := by
  unfold j_X12_copy_0_19
  repeat' first
    | with_reducible exact pc_x0
    | with_reducible exact pc_xt (by assumption)
    | with_reducible exact pc_xr (by assumption)
    | with_reducible exact fr_j_X12_copy_0_65 (by assumption)
    | with_reducible exact fr_j_X12_copy_0_66 (by assumption)
    | with_reducible refine pc_nk fun _ => ?_
    | with_reducible refine pc_if ?_ ?_
    | with_reducible refine pc_ck ?_
    | with_reducible refine pc_cb ?_
    | with_reducible refine pc_dv ?_
    | with_reducible refine pc_let fun _ => ?_
    | with_reducible refine pc_letL fun _ => ?_
    | with_reducible refine pc_ldN fun _ => ?_
    | with_reducible refine pc_ldL fun _ => ?_
    | with_reducible refine pc_ldR fun _ => ?_
    | with_reducible refine pc_put (eqF.sN (by assumption) (by decide)) fun _ _ => ?_
    | with_reducible refine pc_put (eqF.sL (by assumption) (by decide)) fun _ _ => ?_
    | with_reducible refine pc_put (eqF.sR (by assumption) (by decide)) fun _ _ => ?_
    | with_reducible refine pc_stN (by decide) (by assumption) fun _ _ => ?_
    | with_reducible refine pc_stL (by decide) (by assumption) fun _ _ => ?_
    | with_reducible refine pc_stR (by decide) (by assumption) fun _ _ => ?_
    | with_reducible refine pc_cpN (by decide) (by assumption) fun _ _ => ?_
    | with_reducible refine pc_pure fun _ => ?_
    | exact pc_some (by assumption)
    | exact pc_some (eqF.bX (by assumption))
    | exact pc_some trivial
    | dsimp only
theorem fr_f_X12_copy {m0 : MM} {m : MM} {l0 : Nat} {l1 : Int} (h : eqF [12, 80, 81, 82] m0 m) : Pc (f_X12_copy m l0 l1) (RF [12, 80, 81, 82] m0) := by
  unfold f_X12_copy
  repeat' first
    | with_reducible exact pc_x0
    | with_reducible exact pc_xt (by assumption)
    | with_reducible exact pc_xr (by assumption)
    | with_reducible exact fr_j_X12_copy_0_19 (by assumption)
    | with_reducible refine pc_nk fun _ => ?_
    | with_reducible refine pc_if ?_ ?_
    | with_reducible refine pc_ck ?_
    | with_reducible refine pc_cb ?_
    | with_reducible refine pc_dv ?_
    | with_reducible refine pc_let fun _ => ?_
    | with_reducible refine pc_letL fun _ => ?_
    | with_reducible refine pc_ldN fun _ => ?_
    | with_reducible refine pc_ldL fun _ => ?_
    | with_reducible refine pc_ldR fun _ => ?_
    | with_reducible refine pc_put (eqF.sN (by assumption) (by decide)) fun _ _ => ?_
    | with_reducible refine pc_put (eqF.sL (by assumption) (by decide)) fun _ _ => ?_
    | with_reducible refine pc_put (eqF.sR (by assumption) (by decide)) fun _ _ => ?_
    | with_reducible refine pc_stN (by decide) (by assumption) fun _ _ => ?_
    | with_reducible refine pc_stL (by decide) (by assumption) fun _ _ => ?_
    | with_reducible refine pc_stR (by decide) (by assumption) fun _ _ => ?_
    | with_reducible refine pc_cpN (by decide) (by assumption) fun _ _ => ?_
    | with_reducible refine pc_pure fun _ => ?_
    | exact pc_some (by assumption)
    | exact pc_some (eqF.bX (by assumption))
    | exact pc_some trivial
    | dsimp only
theorem fr_f_X12_takes {m0 : MM} {m : MM} {l0 : Nat} {l1 : Int} (h : eqF [66] m0 m) : Pc (f_X12_takes m l0 l1) (RF [66] m0) := by
  unfold f_X12_takes
  repeat' first
    | with_reducible exact pc_x0
    | with_reducible exact pc_xt (by assumption)
    | with_reducible exact pc_xr (by assumption)
    | with_reducible refine pc_nk fun _ => ?_
    | with_reducible refine pc_if ?_ ?_
    | with_reducible refine pc_ck ?_
    | with_reducible refine pc_cb ?_
    | with_reducible refine pc_dv ?_
    | with_reducible refine pc_let fun _ => ?_
    | with_reducible refine pc_letL fun _ => ?_
    | with_reducible refine pc_ldN fun _ => ?_
    | with_reducible refine pc_ldL fun _ => ?_
    | with_reducible refine pc_ldR fun _ => ?_
    | with_reducible refine pc_put (eqF.sN (by assumption) (by decide)) fun _ _ => ?_
    | with_reducible refine pc_put (eqF.sL (by assumption) (by decide)) fun _ _ => ?_
    | with_reducible refine pc_put (eqF.sR (by assumption) (by decide)) fun _ _ => ?_
    | with_reducible refine pc_stN (by decide) (by assumption) fun _ _ => ?_
    | with_reducible refine pc_stL (by decide) (by assumption) fun _ _ => ?_
    | with_reducible refine pc_stR (by decide) (by assumption) fun _ _ => ?_
    | with_reducible refine pc_cpN (by decide) (by assumption) fun _ _ => ?_
    | with_reducible refine pc_pure fun _ => ?_
    | exact pc_some (by assumption)
    | exact pc_some (eqF.bX (by assumption))
    | exact pc_some trivial
    | dsimp only
theorem fr_j_X12_correct_0_333 {m0 : MM} {m : MM} {l0 : Nat} {l6 : Int} {l7 : Int} {l9 : Int} (h : eqF [12, 64, 65, 66, 100, 101, 105, 106, 107, 111, 112] m0 m) : Pc (j_X12_correct_0_333 m l0 l6 l7 l9) (RF [12, 64, 65, 66, 100, 101, 105, 106, 107, 111, 112] m0) := by
  unfold j_X12_correct_0_333
  repeat' first
    | with_reducible exact pc_x0
    | with_reducible exact pc_xt (by assumption)
    | with_reducible exact pc_xr (by assumption)
    | with_reducible refine pc_nk fun _ => ?_
    | with_reducible refine pc_if ?_ ?_
    | with_reducible refine pc_ck ?_
    | with_reducible refine pc_cb ?_
    | with_reducible refine pc_dv ?_
    | with_reducible refine pc_let fun _ => ?_
    | with_reducible refine pc_letL fun _ => ?_
    | with_reducible refine pc_ldN fun _ => ?_
    | with_reducible refine pc_ldL fun _ => ?_
    | with_reducible refine pc_ldR fun _ => ?_
    | with_reducible refine pc_put (eqF.sN (by assumption) (by decide)) fun _ _ => ?_
    | with_reducible refine pc_put (eqF.sL (by assumption) (by decide)) fun _ _ => ?_
    | with_reducible refine pc_put (eqF.sR (by assumption) (by decide)) fun _ _ => ?_
    | with_reducible refine pc_stN (by decide) (by assumption) fun _ _ => ?_
    | with_reducible refine pc_stL (by decide) (by assumption) fun _ _ => ?_
    | with_reducible refine pc_stR (by decide) (by assumption) fun _ _ => ?_
    | with_reducible refine pc_cpN (by decide) (by assumption) fun _ _ => ?_
    | with_reducible refine pc_pure fun _ => ?_
    | exact pc_some (by assumption)
    | exact pc_some (eqF.bX (by assumption))
    | exact pc_some trivial
    | dsimp only
theorem fr_j_X12_correct_0_234 {m0 : MM} {m : MM} {l0 : Nat} {l1 : Int} {l2 : Int} {l6 : Int} {l7 : Int} {l9 : Int} (h : eqF [12, 64, 65, 66, 100, 101, 105, 106, 107, 111, 112] m0 m) : Pc (j_X12_correct_0_234 m l0 l1 l2 l6 l7 l9) (RF [12, 64, 65, 66, 100, 101, 105, 106, 107, 111, 112] m0) := by
  unfold j_X12_correct_0_234
  repeat' first
    | with_reducible exact pc_x0
    | with_reducible exact pc_xt (by assumption)
    | with_reducible exact pc_xr (by assumption)
    | with_reducible exact fr_j_X12_correct_0_333 (by assumption)
    | with_reducible refine pc_nk fun _ => ?_
    | with_reducible refine pc_if ?_ ?_
    | with_reducible refine pc_ck ?_
    | with_reducible refine pc_cb ?_
    | with_reducible refine pc_dv ?_
    | with_reducible refine pc_let fun _ => ?_
    | with_reducible refine pc_letL fun _ => ?_
    | with_reducible refine pc_ldN fun _ => ?_
    | with_reducible refine pc_ldL fun _ => ?_
    | with_reducible refine pc_ldR fun _ => ?_
    | with_reducible refine pc_put (eqF.sN (by assumption) (by decide)) fun _ _ => ?_
    | with_reducible refine pc_put (eqF.sL (by assumption) (by decide)) fun _ _ => ?_
    | with_reducible refine pc_put (eqF.sR (by assumption) (by decide)) fun _ _ => ?_
    | with_reducible refine pc_stN (by decide) (by assumption) fun _ _ => ?_
    | with_reducible refine pc_stL (by decide) (by assumption) fun _ _ => ?_
    | with_reducible refine pc_stR (by decide) (by assumption) fun _ _ => ?_
    | with_reducible refine pc_cpN (by decide) (by assumption) fun _ _ => ?_
    | with_reducible refine pc_pure fun _ => ?_
    | exact pc_some (by assumption)
    | exact pc_some (eqF.bX (by assumption))
    | exact pc_some trivial
    | dsimp only
theorem fr_j_X12_correct_0_179 {m0 : MM} {m : MM} {l0 : Nat} {l1 : Int} {l2 : Int} {l6 : Int} {l7 : Int} {s0 : Nat} {s1 : Int} (h : eqF [12, 64, 65, 66, 100, 101, 105, 106, 107, 111, 112] m0 m) : Pc (j_X12_correct_0_179 m l0 l1 l2 l6 l7 s0 s1) (RF [12, 64, 65, 66, 100, 101, 105, 106, 107, 111, 112] m0) := by
  unfold j_X12_correct_0_179
  repeat' first
    | with_reducible exact pc_x0
    | with_reducible exact pc_xt (by assumption)
    | with_reducible exact pc_xr (by assumption)
    | with_reducible exact fr_j_X12_correct_0_234 (by assumption)
    | with_reducible refine pc_nk fun _ => ?_
    | with_reducible refine pc_if ?_ ?_
    | with_reducible refine pc_ck ?_
    | with_reducible refine pc_cb ?_
    | with_reducible refine pc_dv ?_
    | with_reducible refine pc_let fun _ => ?_
    | with_reducible refine pc_letL fun _ => ?_
    | with_reducible refine pc_ldN fun _ => ?_
    | with_reducible refine pc_ldL fun _ => ?_
    | with_reducible refine pc_ldR fun _ => ?_
    | with_reducible refine pc_put (eqF.sN (by assumption) (by decide)) fun _ _ => ?_
    | with_reducible refine pc_put (eqF.sL (by assumption) (by decide)) fun _ _ => ?_
    | with_reducible refine pc_put (eqF.sR (by assumption) (by decide)) fun _ _ => ?_
    | with_reducible refine pc_stN (by decide) (by assumption) fun _ _ => ?_
    | with_reducible refine pc_stL (by decide) (by assumption) fun _ _ => ?_
    | with_reducible refine pc_stR (by decide) (by assumption) fun _ _ => ?_
    | with_reducible refine pc_cpN (by decide) (by assumption) fun _ _ => ?_
    | with_reducible refine pc_bI (fr_f_X12_holds (m0 := _) eqF.rf) (by decide) (by assumption) (fun _ _ _ => ?_) (fun _ _ _ => ?_)
    | with_reducible refine pc_bI (fr_f_X12_takes (m0 := _) eqF.rf) (by decide) (by assumption) (fun _ _ _ => ?_) (fun _ _ _ => ?_)
    | with_reducible refine pc_bV (fr_f_X12_puts (m0 := _) eqF.rf) (by decide) (by assumption) (fun _ _ => ?_) (fun _ _ _ => ?_)
    | with_reducible refine pc_pure fun _ => ?_
    | exact pc_some (by assumption)
    | exact pc_some (eqF.bX (by assumption))
    | exact pc_some trivial
    | dsimp only
theorem fr_j_X12_correct_0_157 {m0 : MM} {m : MM} {l0 : Nat} {l1 : Int} {l2 : Int} {l4 : Int} {l6 : Int} {l7 : Int} {s0 : Int} (h : eqF [12, 64, 65, 66, 100, 101, 105, 106, 107, 111, 112] m0 m) : Pc (j_X12_correct_0_157 m l0 l1 l2 l4 l6 l7 s0) (RF [12, 64, 65, 66, 100, 101, 105, 106, 107, 111, 112] m0) := by
  unfold j_X12_correct_0_157
  repeat' first
    | with_reducible exact pc_x0
    | with_reducible exact pc_xt (by assumption)
    | with_reducible exact pc_xr (by assumption)
    | with_reducible exact fr_j_X12_correct_0_179 (by assumption)
    | with_reducible refine pc_nk fun _ => ?_
    | with_reducible refine pc_if ?_ ?_
    | with_reducible refine pc_ck ?_
    | with_reducible refine pc_cb ?_
    | with_reducible refine pc_dv ?_
    | with_reducible refine pc_let fun _ => ?_
    | with_reducible refine pc_letL fun _ => ?_
    | with_reducible refine pc_ldN fun _ => ?_
    | with_reducible refine pc_ldL fun _ => ?_
    | with_reducible refine pc_ldR fun _ => ?_
    | with_reducible refine pc_put (eqF.sN (by assumption) (by decide)) fun _ _ => ?_
    | with_reducible refine pc_put (eqF.sL (by assumption) (by decide)) fun _ _ => ?_
    | with_reducible refine pc_put (eqF.sR (by assumption) (by decide)) fun _ _ => ?_
    | with_reducible refine pc_stN (by decide) (by assumption) fun _ _ => ?_
    | with_reducible refine pc_stL (by decide) (by assumption) fun _ _ => ?_
    | with_reducible refine pc_stR (by decide) (by assumption) fun _ _ => ?_
    | with_reducible refine pc_cpN (by decide) (by assumption) fun _ _ => ?_
    | with_reducible refine pc_pure fun _ => ?_
    | exact pc_some (by assumption)
    | exact pc_some (eqF.bX (by assumption))
    | exact pc_some trivial
    | dsimp only
theorem fr_j_X12_correct_0_156 {m0 : MM} {m : MM} {l0 : Nat} {l1 : Int} {l2 : Int} {l4 : Int} {l6 : Int} {l7 : Int} (h : eqF [12, 64, 65, 66, 100, 101, 105, 106, 107, 111, 112] m0 m) : Pc (j_X12_correct_0_156 m l0 l1 l2 l4 l6 l7) (RF [12, 64, 65, 66, 100, 101, 105, 106, 107, 111, 112] m0) := by
  unfold j_X12_correct_0_156
  repeat' first
    | with_reducible exact pc_x0
    | with_reducible exact pc_xt (by assumption)
    | with_reducible exact pc_xr (by assumption)
    | with_reducible exact fr_j_X12_correct_0_157 (by assumption)
    | with_reducible refine pc_nk fun _ => ?_
    | with_reducible refine pc_if ?_ ?_
    | with_reducible refine pc_ck ?_
    | with_reducible refine pc_cb ?_
    | with_reducible refine pc_dv ?_
    | with_reducible refine pc_let fun _ => ?_
    | with_reducible refine pc_letL fun _ => ?_
    | with_reducible refine pc_ldN fun _ => ?_
    | with_reducible refine pc_ldL fun _ => ?_
    | with_reducible refine pc_ldR fun _ => ?_
    | with_reducible refine pc_put (eqF.sN (by assumption) (by decide)) fun _ _ => ?_
    | with_reducible refine pc_put (eqF.sL (by assumption) (by decide)) fun _ _ => ?_
    | with_reducible refine pc_put (eqF.sR (by assumption) (by decide)) fun _ _ => ?_
    | with_reducible refine pc_stN (by decide) (by assumption) fun _ _ => ?_
    | with_reducible refine pc_stL (by decide) (by assumption) fun _ _ => ?_
    | with_reducible refine pc_stR (by decide) (by assumption) fun _ _ => ?_
    | with_reducible refine pc_cpN (by decide) (by assumption) fun _ _ => ?_
    | with_reducible refine pc_pure fun _ => ?_
    | exact pc_some (by assumption)
    | exact pc_some (eqF.bX (by assumption))
    | exact pc_some trivial
    | dsimp only
theorem fr_j_X12_correct_0_136 {m0 : MM} {m : MM} {l0 : Nat} {l1 : Int} {l2 : Int} {l4 : Int} {l6 : Int} {l7 : Int} (h : eqF [12, 64, 65, 66, 100, 101, 105, 106, 107, 111, 112] m0 m) : Pc (j_X12_correct_0_136 m l0 l1 l2 l4 l6 l7) (RF [12, 64, 65, 66, 100, 101, 105, 106, 107, 111, 112] m0) := by
  unfold j_X12_correct_0_136
  repeat' first
    | with_reducible exact pc_x0
    | with_reducible exact pc_xt (by assumption)
    | with_reducible exact pc_xr (by assumption)
    | with_reducible exact fr_j_X12_correct_0_156 (by assumption)
    | with_reducible exact fr_j_X12_correct_0_157 (by assumption)
    | with_reducible refine pc_nk fun _ => ?_
    | with_reducible refine pc_if ?_ ?_
    | with_reducible refine pc_ck ?_
    | with_reducible refine pc_cb ?_
    | with_reducible refine pc_dv ?_
    | with_reducible refine pc_let fun _ => ?_
    | with_reducible refine pc_letL fun _ => ?_
    | with_reducible refine pc_ldN fun _ => ?_
    | with_reducible refine pc_ldL fun _ => ?_
    | with_reducible refine pc_ldR fun _ => ?_
    | with_reducible refine pc_put (eqF.sN (by assumption) (by decide)) fun _ _ => ?_
    | with_reducible refine pc_put (eqF.sL (by assumption) (by decide)) fun _ _ => ?_
    | with_reducible refine pc_put (eqF.sR (by assumption) (by decide)) fun _ _ => ?_
    | with_reducible refine pc_stN (by decide) (by assumption) fun _ _ => ?_
    | with_reducible refine pc_stL (by decide) (by assumption) fun _ _ => ?_
    | with_reducible refine pc_stR (by decide) (by assumption) fun _ _ => ?_
    | with_reducible refine pc_cpN (by decide) (by assumption) fun _ _ => ?_
    | with_reducible refine pc_pure fun _ => ?_
    | exact pc_some (by assumption)
    | exact pc_some (eqF.bX (by assumption))
    | exact pc_some trivial
    | dsimp only
theorem fr_j_X12_correct_0_107 {m0 : MM} {m : MM} {l0 : Nat} {l1 : Int} {l2 : Int} {l4 : Int} {l6 : Int} {s0 : Int} (h : eqF [12, 64, 65, 66, 100, 101, 105, 106, 107, 111, 112] m0 m) : Pc (j_X12_correct_0_107 m l0 l1 l2 l4 l6 s0) (RF [12, 64, 65, 66, 100, 101, 105, 106, 107, 111, 112] m0) := by
  unfold j_X12_correct_0_107
  repeat' first
    | with_reducible exact pc_x0
    | with_reducible exact pc_xt (by assumption)
    | with_reducible exact pc_xr (by assumption)
    | with_reducible exact fr_j_X12_correct_0_136 (by assumption)
    | with_reducible exact fr_j_X12_correct_0_156 (by assumption)
    | with_reducible refine pc_nk fun _ => ?_
    | with_reducible refine pc_if ?_ ?_
    | with_reducible refine pc_ck ?_
    | with_reducible refine pc_cb ?_
    | with_reducible refine pc_dv ?_
    | with_reducible refine pc_let fun _ => ?_
    | with_reducible refine pc_letL fun _ => ?_
    | with_reducible refine pc_ldN fun _ => ?_
    | with_reducible refine pc_ldL fun _ => ?_
    | with_reducible refine pc_ldR fun _ => ?_
    | with_reducible refine pc_put (eqF.sN (by assumption) (by decide)) fun _ _ => ?_
    | with_reducible refine pc_put (eqF.sL (by assumption) (by decide)) fun _ _ => ?_
    | with_reducible refine pc_put (eqF.sR (by assumption) (by decide)) fun _ _ => ?_
    | with_reducible refine pc_stN (by decide) (by assumption) fun _ _ => ?_
    | with_reducible refine pc_stL (by decide) (by assumption) fun _ _ => ?_
    | with_reducible refine pc_stR (by decide) (by assumption) fun _ _ => ?_
    | with_reducible refine pc_cpN (by decide) (by assumption) fun _ _ => ?_
    | with_reducible refine pc_pure fun _ => ?_
    | exact pc_some (by assumption)
    | exact pc_some (eqF.bX (by assumption))
    | exact pc_some trivial
    | dsimp only
theorem fr_j_X12_correct_0_85 {m0 : MM} {m : MM} {l0 : Nat} {l1 : Int} {l2 : Int} {l4 : Int} {s0 : Int} (h : eqF [12, 64, 65, 66, 100, 101, 105, 106, 107, 111, 112] m0 m) : Pc (j_X12_correct_0_85 m l0 l1 l2 l4 s0) (RF [12, 64, 65, 66, 100, 101, 105, 106, 107, 111, 112] m0) := by
  unfold j_X12_correct_0_85
  repeat' first
    | with_reducible exact pc_x0
    | with_reducible exact pc_xt (by assumption)
    | with_reducible exact pc_xr (by assumption)
    | with_reducible exact fr_j_X12_correct_0_107 (by assumption)
    | with_reducible refine pc_nk fun _ => ?_
    | with_reducible refine pc_if ?_ ?_
    | with_reducible refine pc_ck ?_
    | with_reducible refine pc_cb ?_
    | with_reducible refine pc_dv ?_
    | with_reducible refine pc_let fun _ => ?_
    | with_reducible refine pc_letL fun _ => ?_
    | with_reducible refine pc_ldN fun _ => ?_
    | with_reducible refine pc_ldL fun _ => ?_
    | with_reducible refine pc_ldR fun _ => ?_
    | with_reducible refine pc_put (eqF.sN (by assumption) (by decide)) fun _ _ => ?_
    | with_reducible refine pc_put (eqF.sL (by assumption) (by decide)) fun _ _ => ?_
    | with_reducible refine pc_put (eqF.sR (by assumption) (by decide)) fun _ _ => ?_
    | with_reducible refine pc_stN (by decide) (by assumption) fun _ _ => ?_
    | with_reducible refine pc_stL (by decide) (by assumption) fun _ _ => ?_
    | with_reducible refine pc_stR (by decide) (by assumption) fun _ _ => ?_
    | with_reducible refine pc_cpN (by decide) (by assumption) fun _ _ => ?_
    | with_reducible refine pc_pure fun _ => ?_
    | exact pc_some (by assumption)
    | exact pc_some (eqF.bX (by assumption))
    | exact pc_some trivial
    | dsimp only
theorem fr_j_X12_correct_0_66 {m0 : MM} {m : MM} {l0 : Nat} {l1 : Int} {l2 : Int} {l3 : Int} {l4 : Int} {s0 : Int} (h : eqF [12, 64, 65, 66, 100, 101, 105, 106, 107, 111, 112] m0 m) : Pc (j_X12_correct_0_66 m l0 l1 l2 l3 l4 s0) (RF [12, 64, 65, 66, 100, 101, 105, 106, 107, 111, 112] m0) := by
  unfold j_X12_correct_0_66
  repeat' first
    | with_reducible exact pc_x0
    | with_reducible exact pc_xt (by assumption)
    | with_reducible exact pc_xr (by assumption)
    | with_reducible exact fr_j_X12_correct_0_85 (by assumption)
    | with_reducible refine pc_nk fun _ => ?_
    | with_reducible refine pc_if ?_ ?_
    | with_reducible refine pc_ck ?_
    | with_reducible refine pc_cb ?_
    | with_reducible refine pc_dv ?_
    | with_reducible refine pc_let fun _ => ?_
    | with_reducible refine pc_letL fun _ => ?_
    | with_reducible refine pc_ldN fun _ => ?_
    | with_reducible refine pc_ldL fun _ => ?_
    | with_reducible refine pc_ldR fun _ => ?_
    | with_reducible refine pc_put (eqF.sN (by assumption) (by decide)) fun _ _ => ?_
    | with_reducible refine pc_put (eqF.sL (by assumption) (by decide)) fun _ _ => ?_
    | with_reducible refine pc_put (eqF.sR (by assumption) (by decide)) fun _ _ => ?_
    | with_reducible refine pc_stN (by decide) (by assumption) fun _ _ => ?_
    | with_reducible refine pc_stL (by decide) (by assumption) fun _ _ => ?_
    | with_reducible refine pc_stR (by decide) (by assumption) fun _ _ => ?_
    | with_reducible refine pc_cpN (by decide) (by assumption) fun _ _ => ?_
    | with_reducible refine pc_pure fun _ => ?_
    | exact pc_some (by assumption)
    | exact pc_some (eqF.bX (by assumption))
    | exact pc_some trivial
    | dsimp only
theorem fr_j_X12_correct_0_49 {m0 : MM} {m : MM} {l0 : Nat} {l1 : Int} {l2 : Int} {l3 : Int} {s0 : Int} (h : eqF [12, 64, 65, 66, 100, 101, 105, 106, 107, 111, 112] m0 m) : Pc (j_X12_correct_0_49 m l0 l1 l2 l3 s0) (RF [12, 64, 65, 66, 100, 101, 105, 106, 107, 111, 112] m0) := by
  unfold j_X12_correct_0_49
  repeat' first
    | with_reducible exact pc_x0
    | with_reducible exact pc_xt (by assumption)
    | with_reducible exact pc_xr (by assumption)
    | with_reducible exact fr_j_X12_correct_0_66 (by assumption)
    | with_reducible refine pc_nk fun _ => ?_
    | with_reducible refine pc_if ?_ ?_
    | with_reducible refine pc_ck ?_
    | with_reducible refine pc_cb ?_
    | with_reducible refine pc_dv ?_
    | with_reducible refine pc_let fun _ => ?_
    | with_reducible refine pc_letL fun _ => ?_
    | with_reducible refine pc_ldN fun _ => ?_
    | with_reducible refine pc_ldL fun _ => ?_
    | with_reducible refine pc_ldR fun _ => ?_
    | with_reducible refine pc_put (eqF.sN (by assumption) (by decide)) fun _ _ => ?_
    | with_reducible refine pc_put (eqF.sL (by assumption) (by decide)) fun _ _ => ?_
    | with_reducible refine pc_put (eqF.sR (by assumption) (by decide)) fun _ _ => ?_
    | with_reducible refine pc_stN (by decide) (by assumption) fun _ _ => ?_
    | with_reducible refine pc_stL (by decide) (by assumption) fun _ _ => ?_
    | with_reducible refine pc_stR (by decide) (by assumption) fun _ _ => ?_
    | with_reducible refine pc_cpN (by decide) (by assumption) fun _ _ => ?_
    | with_reducible refine pc_pure fun _ => ?_
    | exact pc_some (by assumption)
    | exact pc_some (eqF.bX (by assumption))
    | exact pc_some trivial
    | dsimp only
theorem fr_j_X12_correct_0_48 {m0 : MM} {m : MM} {l0 : Nat} {l1 : Int} {l2 : Int} {l3 : Int} (h : eqF [12, 64, 65, 66, 100, 101, 105, 106, 107, 111, 112] m0 m) : Pc (j_X12_correct_0_48 m l0 l1 l2 l3) (RF [12, 64, 65, 66, 100, 101, 105, 106, 107, 111, 112] m0) := by
  unfold j_X12_correct_0_48
  repeat' first
    | with_reducible exact pc_x0
    | with_reducible exact pc_xt (by assumption)
    | with_reducible exact pc_xr (by assumption)
    | with_reducible exact fr_j_X12_correct_0_49 (by assumption)
    | with_reducible refine pc_nk fun _ => ?_
    | with_reducible refine pc_if ?_ ?_
    | with_reducible refine pc_ck ?_
    | with_reducible refine pc_cb ?_
    | with_reducible refine pc_dv ?_
    | with_reducible refine pc_let fun _ => ?_
    | with_reducible refine pc_letL fun _ => ?_
    | with_reducible refine pc_ldN fun _ => ?_
    | with_reducible refine pc_ldL fun _ => ?_
    | with_reducible refine pc_ldR fun _ => ?_
    | with_reducible refine pc_put (eqF.sN (by assumption) (by decide)) fun _ _ => ?_
    | with_reducible refine pc_put (eqF.sL (by assumption) (by decide)) fun _ _ => ?_
    | with_reducible refine pc_put (eqF.sR (by assumption) (by decide)) fun _ _ => ?_
    | with_reducible refine pc_stN (by decide) (by assumption) fun _ _ => ?_
    | with_reducible refine pc_stL (by decide) (by assumption) fun _ _ => ?_
    | with_reducible refine pc_stR (by decide) (by assumption) fun _ _ => ?_
    | with_reducible refine pc_cpN (by decide) (by assumption) fun _ _ => ?_
    | with_reducible refine pc_pure fun _ => ?_
    | exact pc_some (by assumption)
    | exact pc_some (eqF.bX (by assumption))
    | exact pc_some trivial
    | dsimp only
theorem fr_f_X12_correct {m0 : MM} {m : MM} {l0 : Nat} {l1 : Int} {l2 : Int} {l3 : Int} (h : eqF [12, 64, 65, 66, 100, 101, 105, 106, 107, 111, 112] m0 m) : Pc (f_X12_correct m l0 l1 l2 l3) (RF [12, 64, 65, 66, 100, 101, 105, 106, 107, 111, 112] m0) := by
  unfold f_X12_correct
  repeat' first
    | with_reducible exact pc_x0
    | with_reducible exact pc_xt (by assumption)
    | with_reducible exact pc_xr (by assumption)
    | with_reducible exact fr_j_X12_correct_0_48 (by assumption)
    | with_reducible exact fr_j_X12_correct_0_49 (by assumption)
    | with_reducible refine pc_nk fun _ => ?_
    | with_reducible refine pc_if ?_ ?_
    | with_reducible refine pc_ck ?_
    | with_reducible refine pc_cb ?_
    | with_reducible refine pc_dv ?_
    | with_reducible refine pc_let fun _ => ?_
    | with_reducible refine pc_letL fun _ => ?_
    | with_reducible refine pc_ldN fun _ => ?_
    | with_reducible refine pc_ldL fun _ => ?_
    | with_reducible refine pc_ldR fun _ => ?_
    | with_reducible refine pc_put (eqF.sN (by assumption) (by decide)) fun _ _ => ?_
    | with_reducible refine pc_put (eqF.sL (by assumption) (by decide)) fun _ _ => ?_
    | with_reducible refine pc_put (eqF.sR (by assumption) (by decide)) fun _ _ => ?_
    | with_reducible refine pc_stN (by decide) (by assumption) fun _ _ => ?_
    | with_reducible refine pc_stL (by decide) (by assumption) fun _ _ => ?_
    | with_reducible refine pc_stR (by decide) (by assumption) fun _ _ => ?_
    | with_reducible refine pc_cpN (by decide) (by assumption) fun _ _ => ?_
    | with_reducible refine pc_pure fun _ => ?_
    | exact pc_some (by assumption)
    | exact pc_some (eqF.bX (by assumption))
    | exact pc_some trivial
    | dsimp only
theorem fr_j_X12_exchange_0_59 {m0 : MM} {m : MM} {l0 : Nat} {l1 : Int} {l2 : Int} {l3 : Int} {l4 : Int} {s0 : Nat} {s1 : Int} (h : eqF [12, 126] m0 m) : Pc (j_X12_exchange_0_59 m l0 l1 l2 l3 l4 s0 s1) (RF [12, 126] m0) := by
  unfold j_X12_exchange_0_59
  repeat' first
    | with_reducible exact pc_x0
    | with_reducible exact pc_xt (by assumption)
    | with_reducible exact pc_xr (by assumption)
    | with_reducible refine pc_nk fun _ => ?_
    | with_reducible refine pc_if ?_ ?_
    | with_reducible refine pc_ck ?_
    | with_reducible refine pc_cb ?_
    | with_reducible refine pc_dv ?_
    | with_reducible refine pc_let fun _ => ?_
    | with_reducible refine pc_letL fun _ => ?_
    | with_reducible refine pc_ldN fun _ => ?_
    | with_reducible refine pc_ldL fun _ => ?_
    | with_reducible refine pc_ldR fun _ => ?_
    | with_reducible refine pc_put (eqF.sN (by assumption) (by decide)) fun _ _ => ?_
    | with_reducible refine pc_put (eqF.sL (by assumption) (by decide)) fun _ _ => ?_
    | with_reducible refine pc_put (eqF.sR (by assumption) (by decide)) fun _ _ => ?_
    | with_reducible refine pc_stN (by decide) (by assumption) fun _ _ => ?_
    | with_reducible refine pc_stL (by decide) (by assumption) fun _ _ => ?_
    | with_reducible refine pc_stR (by decide) (by assumption) fun _ _ => ?_
    | with_reducible refine pc_cpN (by decide) (by assumption) fun _ _ => ?_
    | with_reducible refine pc_bI (fr_f_X12_holds (m0 := _) eqF.rf) (by decide) (by assumption) (fun _ _ _ => ?_) (fun _ _ _ => ?_)
    | with_reducible refine pc_pure fun _ => ?_
    | exact pc_some (by assumption)
    | exact pc_some (eqF.bX (by assumption))
    | exact pc_some trivial
    | dsimp only
theorem fr_j_X12_exchange_0_33 {m0 : MM} {m : MM} {l0 : Nat} {l1 : Int} {l2 : Int} {l3 : Int} {l4 : Int} {s0 : Int} (h : eqF [12, 126] m0 m) : Pc (j_X12_exchange_0_33 m l0 l1 l2 l3 l4 s0) (RF [12, 126] m0) := by
  unfold j_X12_exchange_0_33
  repeat' first
    | with_reducible exact pc_x0
    | with_reducible exact pc_xt (by assumption)
    | with_reducible exact pc_xr (by assumption)
    | with_reducible exact fr_j_X12_exchange_0_59 (by assumption)
    | with_reducible refine pc_nk fun _ => ?_
    | with_reducible refine pc_if ?_ ?_
    | with_reducible refine pc_ck ?_
    | with_reducible refine pc_cb ?_
    | with_reducible refine pc_dv ?_
    | with_reducible refine pc_let fun _ => ?_
    | with_reducible refine pc_letL fun _ => ?_
    | with_reducible refine pc_ldN fun _ => ?_
    | with_reducible refine pc_ldL fun _ => ?_
    | with_reducible refine pc_ldR fun _ => ?_
    | with_reducible refine pc_put (eqF.sN (by assumption) (by decide)) fun _ _ => ?_
    | with_reducible refine pc_put (eqF.sL (by assumption) (by decide)) fun _ _ => ?_
    | with_reducible refine pc_put (eqF.sR (by assumption) (by decide)) fun _ _ => ?_
    | with_reducible refine pc_stN (by decide) (by assumption) fun _ _ => ?_
    | with_reducible refine pc_stL (by decide) (by assumption) fun _ _ => ?_
    | with_reducible refine pc_stR (by decide) (by assumption) fun _ _ => ?_
    | with_reducible refine pc_cpN (by decide) (by assumption) fun _ _ => ?_
    | with_reducible refine pc_pure fun _ => ?_
    | exact pc_some (by assumption)
    | exact pc_some (eqF.bX (by assumption))
    | exact pc_some trivial
    | dsimp only
theorem fr_j_X12_exchange_0_32 {m0 : MM} {m : MM} {l0 : Nat} {l1 : Int} {l2 : Int} {l3 : Int} {l4 : Int} (h : eqF [12, 126] m0 m) : Pc (j_X12_exchange_0_32 m l0 l1 l2 l3 l4) (RF [12, 126] m0) := by
  unfold j_X12_exchange_0_32
  repeat' first
    | with_reducible exact pc_x0
    | with_reducible exact pc_xt (by assumption)
    | with_reducible exact pc_xr (by assumption)
    | with_reducible exact fr_j_X12_exchange_0_33 (by assumption)
    | with_reducible refine pc_nk fun _ => ?_
    | with_reducible refine pc_if ?_ ?_
    | with_reducible refine pc_ck ?_
    | with_reducible refine pc_cb ?_
    | with_reducible refine pc_dv ?_
    | with_reducible refine pc_let fun _ => ?_
    | with_reducible refine pc_letL fun _ => ?_
    | with_reducible refine pc_ldN fun _ => ?_
    | with_reducible refine pc_ldL fun _ => ?_
    | with_reducible refine pc_ldR fun _ => ?_
    | with_reducible refine pc_put (eqF.sN (by assumption) (by decide)) fun _ _ => ?_
    | with_reducible refine pc_put (eqF.sL (by assumption) (by decide)) fun _ _ => ?_
    | with_reducible refine pc_put (eqF.sR (by assumption) (by decide)) fun _ _ => ?_
    | with_reducible refine pc_stN (by decide) (by assumption) fun _ _ => ?_
    | with_reducible refine pc_stL (by decide) (by assumption) fun _ _ => ?_
    | with_reducible refine pc_stR (by decide) (by assumption) fun _ _ => ?_
    | with_reducible refine pc_cpN (by decide) (by assumption) fun _ _ => ?_
    | with_reducible refine pc_pure fun _ => ?_
    | exact pc_some (by assumption)
    | exact pc_some (eqF.bX (by assumption))
    | exact pc_some trivial
    | dsimp only
theorem fr_f_X12_exchange {m0 : MM} {m : MM} {l0 : Nat} {l1 : Int} {l2 : Int} {l3 : Int} {l4 : Int} (h : eqF [12, 126] m0 m) : Pc (f_X12_exchange m l0 l1 l2 l3 l4) (RF [12, 126] m0) := by
  unfold f_X12_exchange
  repeat' first
    | with_reducible exact pc_x0
    | with_reducible exact pc_xt (by assumption)
    | with_reducible exact pc_xr (by assumption)
    | with_reducible exact fr_j_X12_exchange_0_32 (by assumption)
    | with_reducible exact fr_j_X12_exchange_0_33 (by assumption)
    | with_reducible refine pc_nk fun _ => ?_
    | with_reducible refine pc_if ?_ ?_
    | with_reducible refine pc_ck ?_
    | with_reducible refine pc_cb ?_
    | with_reducible refine pc_dv ?_
    | with_reducible refine pc_let fun _ => ?_
    | with_reducible refine pc_letL fun _ => ?_
    | with_reducible refine pc_ldN fun _ => ?_
    | with_reducible refine pc_ldL fun _ => ?_
    | with_reducible refine pc_ldR fun _ => ?_
    | with_reducible refine pc_put (eqF.sN (by assumption) (by decide)) fun _ _ => ?_
    | with_reducible refine pc_put (eqF.sL (by assumption) (by decide)) fun _ _ => ?_
    | with_reducible refine pc_put (eqF.sR (by assumption) (by decide)) fun _ _ => ?_
    | with_reducible refine pc_stN (by decide) (by assumption) fun _ _ => ?_
    | with_reducible refine pc_stL (by decide) (by assumption) fun _ _ => ?_
    | with_reducible refine pc_stR (by decide) (by assumption) fun _ _ => ?_
    | with_reducible refine pc_cpN (by decide) (by assumption) fun _ _ => ?_
    | with_reducible refine pc_pure fun _ => ?_
    | exact pc_some (by assumption)
    | exact pc_some (eqF.bX (by assumption))
    | exact pc_some trivial
    | dsimp only
theorem fr_f_X12_fault {m0 : MM} {m : MM} {l0 : Nat} (h : eqF [12] m0 m) : Pc (f_X12_fault m l0) (RF [12] m0) := by
  unfold f_X12_fault
  repeat' first
    | with_reducible exact pc_x0
    | with_reducible exact pc_xt (by assumption)
    | with_reducible exact pc_xr (by assumption)
    | with_reducible refine pc_nk fun _ => ?_
    | with_reducible refine pc_if ?_ ?_
    | with_reducible refine pc_ck ?_
    | with_reducible refine pc_cb ?_
    | with_reducible refine pc_dv ?_
    | with_reducible refine pc_let fun _ => ?_
    | with_reducible refine pc_letL fun _ => ?_
    | with_reducible refine pc_ldN fun _ => ?_
    | with_reducible refine pc_ldL fun _ => ?_
    | with_reducible refine pc_ldR fun _ => ?_
    | with_reducible refine pc_put (eqF.sN (by assumption) (by decide)) fun _ _ => ?_
    | with_reducible refine pc_put (eqF.sL (by assumption) (by decide)) fun _ _ => ?_
    | with_reducible refine pc_put (eqF.sR (by assumption) (by decide)) fun _ _ => ?_
    | with_reducible refine pc_stN (by decide) (by assumption) fun _ _ => ?_
    | with_reducible refine pc_stL (by decide) (by assumption) fun _ _ => ?_
    | with_reducible refine pc_stR (by decide) (by assumption) fun _ _ => ?_
    | with_reducible refine pc_cpN (by decide) (by assumption) fun _ _ => ?_
    | with_reducible refine pc_pure fun _ => ?_
    | exact pc_some (by assumption)
    | exact pc_some (eqF.bX (by assumption))
    | exact pc_some trivial
    | dsimp only
theorem fr_j_X12_follow_179_242 {m0 : MM} {m : MM} {l0 : Nat} {l1 : Int} {l2 : Int} {l5 : Int} {l6 : Int} {l7 : Int} {l8 : Int} {l9 : Int} {s0 : Nat} {s1 : Int} {s2 : Int} (h : eqF [12, 80, 81, 82] m0 m) : Pc (j_X12_follow_179_242 m l0 l1 l2 l5 l6 l7 l8 l9 s0 s1 s2) (fun z => Sum.elim (fun s => eqF [12, 80, 81, 82] m0 s.2) (fun z => eqF [12, 80, 81, 82] m0 z) z) := by
  unfold j_X12_follow_179_242
  repeat' first
    | with_reducible exact pc_x0
    | with_reducible exact pc_xt (by assumption)
    | with_reducible exact pc_xr (by assumption)
    | with_reducible refine pc_nk fun _ => ?_
    | with_reducible refine pc_if ?_ ?_
    | with_reducible refine pc_ck ?_
    | with_reducible refine pc_cb ?_
    | with_reducible refine pc_dv ?_
    | with_reducible refine pc_let fun _ => ?_
    | with_reducible refine pc_letL fun _ => ?_
    | with_reducible refine pc_ldN fun _ => ?_
    | with_reducible refine pc_ldL fun _ => ?_
    | with_reducible refine pc_ldR fun _ => ?_
    | with_reducible refine pc_put (eqF.sN (by assumption) (by decide)) fun _ _ => ?_
    | with_reducible refine pc_put (eqF.sL (by assumption) (by decide)) fun _ _ => ?_
    | with_reducible refine pc_put (eqF.sR (by assumption) (by decide)) fun _ _ => ?_
    | with_reducible refine pc_stN (by decide) (by assumption) fun _ _ => ?_
    | with_reducible refine pc_stL (by decide) (by assumption) fun _ _ => ?_
    | with_reducible refine pc_stR (by decide) (by assumption) fun _ _ => ?_
    | with_reducible refine pc_cpN (by decide) (by assumption) fun _ _ => ?_
    | with_reducible refine pc_pure fun _ => ?_
    | exact pc_some (by assumption)
    | exact pc_some (eqF.bX (by assumption))
    | exact pc_some trivial
    | dsimp only
theorem fr_b_X12_follow_179 {m0 : MM} {l0 : Nat} {l1 : Int} {l2 : Int} {l5 : Int} {l6 : Int} {l7 : Int} {l8 : Int} {l9 : Int} {mm : MM} (h : eqF [12, 80, 81, 82] m0 mm) : Pc (b_X12_follow_179 l0 l1 l2 l5 l6 l7 l8 l9 mm) (fun z => Sum.elim (fun s => eqF [12, 80, 81, 82] m0 s.2) (fun z => eqF [12, 80, 81, 82] m0 z) z) := by
  unfold b_X12_follow_179
  repeat' first
    | with_reducible exact pc_x0
    | with_reducible exact pc_xt (by assumption)
    | with_reducible exact pc_xr (by assumption)
    | with_reducible exact fr_j_X12_follow_179_242 (by assumption)
    | with_reducible refine pc_nk fun _ => ?_
    | with_reducible refine pc_if ?_ ?_
    | with_reducible refine pc_ck ?_
    | with_reducible refine pc_cb ?_
    | with_reducible refine pc_dv ?_
    | with_reducible refine pc_let fun _ => ?_
    | with_reducible refine pc_letL fun _ => ?_
    | with_reducible refine pc_ldN fun _ => ?_
    | with_reducible refine pc_ldL fun _ => ?_
    | with_reducible refine pc_ldR fun _ => ?_
    | with_reducible refine pc_put (eqF.sN (by assumption) (by decide)) fun _ _ => ?_
    | with_reducible refine pc_put (eqF.sL (by assumption) (by decide)) fun _ _ => ?_
    | with_reducible refine pc_put (eqF.sR (by assumption) (by decide)) fun _ _ => ?_
    | with_reducible refine pc_stN (by decide) (by assumption) fun _ _ => ?_
    | with_reducible refine pc_stL (by decide) (by assumption) fun _ _ => ?_
    | with_reducible refine pc_stR (by decide) (by assumption) fun _ _ => ?_
    | with_reducible refine pc_cpN (by decide) (by assumption) fun _ _ => ?_
    | with_reducible refine pc_pure fun _ => ?_
    | exact pc_some (by assumption)
    | exact pc_some (eqF.bX (by assumption))
    | exact pc_some trivial
    | dsimp only
theorem fr_j_X12_follow_111_259 {m0 : MM} {m : MM} {l0 : Nat} {l1 : Int} {l2 : Int} {l5 : Int} {l6 : Int} {l7 : Int} (h : eqF [12, 80, 81, 82] m0 m) : Pc (j_X12_follow_111_259 m l0 l1 l2 l5 l6 l7) (fun z => Sum.elim (fun s => eqF [12, 80, 81, 82] m0 s.2) (fun z => eqF [12, 80, 81, 82] m0 z) z) := by
  unfold j_X12_follow_111_259
  repeat' first
    | with_reducible exact pc_x0
    | with_reducible exact pc_xt (by assumption)
    | with_reducible exact pc_xr (by assumption)
    | with_reducible refine pc_nk fun _ => ?_
    | with_reducible refine pc_if ?_ ?_
    | with_reducible refine pc_ck ?_
    | with_reducible refine pc_cb ?_
    | with_reducible refine pc_dv ?_
    | with_reducible refine pc_let fun _ => ?_
    | with_reducible refine pc_letL fun _ => ?_
    | with_reducible refine pc_ldN fun _ => ?_
    | with_reducible refine pc_ldL fun _ => ?_
    | with_reducible refine pc_ldR fun _ => ?_
    | with_reducible refine pc_put (eqF.sN (by assumption) (by decide)) fun _ _ => ?_
    | with_reducible refine pc_put (eqF.sL (by assumption) (by decide)) fun _ _ => ?_
    | with_reducible refine pc_put (eqF.sR (by assumption) (by decide)) fun _ _ => ?_
    | with_reducible refine pc_stN (by decide) (by assumption) fun _ _ => ?_
    | with_reducible refine pc_stL (by decide) (by assumption) fun _ _ => ?_
    | with_reducible refine pc_stR (by decide) (by assumption) fun _ _ => ?_
    | with_reducible refine pc_cpN (by decide) (by assumption) fun _ _ => ?_
    | with_reducible refine pc_pure fun _ => ?_
    | exact pc_some (by assumption)
    | exact pc_some (eqF.bX (by assumption))
    | exact pc_some trivial
    | dsimp only
theorem fr_b_X12_follow_111 {m0 : MM} {l0 : Nat} {l1 : Int} {l2 : Int} {l5 : Int} {l6 : Int} {l7 : Int} {mm : MM} (h : eqF [12, 80, 81, 82] m0 mm) : Pc (b_X12_follow_111 l0 l1 l2 l5 l6 l7 mm) (fun z => Sum.elim (fun s => eqF [12, 80, 81, 82] m0 s.2) (fun z => eqF [12, 80, 81, 82] m0 z) z) := by
  unfold b_X12_follow_111
  repeat' first
    | with_reducible exact pc_x0
    | with_reducible exact pc_xt (by assumption)
    | with_reducible exact pc_xr (by assumption)
    | with_reducible exact fr_j_X12_follow_111_259 (by assumption)
    | with_reducible refine pc_nk fun _ => ?_
    | with_reducible refine pc_if ?_ ?_
    | with_reducible refine pc_ck ?_
    | with_reducible refine pc_cb ?_
    | with_reducible refine pc_dv ?_
    | with_reducible refine pc_let fun _ => ?_
    | with_reducible refine pc_letL fun _ => ?_
    | with_reducible refine pc_ldN fun _ => ?_
    | with_reducible refine pc_ldL fun _ => ?_
    | with_reducible refine pc_ldR fun _ => ?_
    | with_reducible refine pc_put (eqF.sN (by assumption) (by decide)) fun _ _ => ?_
    | with_reducible refine pc_put (eqF.sL (by assumption) (by decide)) fun _ _ => ?_
    | with_reducible refine pc_put (eqF.sR (by assumption) (by decide)) fun _ _ => ?_
    | with_reducible refine pc_stN (by decide) (by assumption) fun _ _ => ?_
    | with_reducible refine pc_stL (by decide) (by assumption) fun _ _ => ?_
    | with_reducible refine pc_stR (by decide) (by assumption) fun _ _ => ?_
    | with_reducible refine pc_cpN (by decide) (by assumption) fun _ _ => ?_
    | with_reducible refine pc_lp (fun s => eqF [12, 80, 81, 82] m0 s.2) (fun z => eqF [12, 80, 81, 82] m0 z) (by assumption) (fun s hs => fr_b_X12_follow_179 hs) (fun z hz => ?_)
    | with_reducible refine pc_pure fun _ => ?_
    | exact pc_some (by assumption)
    | exact pc_some (eqF.bX (by assumption))
    | exact pc_some trivial
    | dsimp only
theorem fr_j_X12_follow_89_265 {m0 : MM} {m : MM} {l0 : Nat} {l1 : Int} {l2 : Int} {l5 : Int} (h : eqF [12, 80, 81, 82] m0 m) : Pc (j_X12_follow_89_265 m l0 l1 l2 l5) (fun z => Sum.elim (fun s => eqF [12, 80, 81, 82] m0 s.2) (fun z => eqF [12, 80, 81, 82] m0 z) z) := by
  unfold j_X12_follow_89_265
  repeat' first
    | with_reducible exact pc_x0
    | with_reducible exact pc_xt (by assumption)
    | with_reducible exact pc_xr (by assumption)
    | with_reducible refine pc_nk fun _ => ?_
    | with_reducible refine pc_if ?_ ?_
    | with_reducible refine pc_ck ?_
    | with_reducible refine pc_cb ?_
    | with_reducible refine pc_dv ?_
    | with_reducible refine pc_let fun _ => ?_
    | with_reducible refine pc_letL fun _ => ?_
    | with_reducible refine pc_ldN fun _ => ?_
    | with_reducible refine pc_ldL fun _ => ?_
    | with_reducible refine pc_ldR fun _ => ?_
    | with_reducible refine pc_put (eqF.sN (by assumption) (by decide)) fun _ _ => ?_
    | with_reducible refine pc_put (eqF.sL (by assumption) (by decide)) fun _ _ => ?_
    | with_reducible refine pc_put (eqF.sR (by assumption) (by decide)) fun _ _ => ?_
    | with_reducible refine pc_stN (by decide) (by assumption) fun _ _ => ?_
    | with_reducible refine pc_stL (by decide) (by assumption) fun _ _ => ?_
    | with_reducible refine pc_stR (by decide) (by assumption) fun _ _ => ?_
    | with_reducible refine pc_cpN (by decide) (by assumption) fun _ _ => ?_
    | with_reducible refine pc_pure fun _ => ?_
    | exact pc_some (by assumption)
    | exact pc_some (eqF.bX (by assumption))
    | exact pc_some trivial
    | dsimp only
theorem fr_b_X12_follow_89 {m0 : MM} {l0 : Nat} {l1 : Int} {l2 : Int} {l5 : Int} {mm : MM} (h : eqF [12, 80, 81, 82] m0 mm) : Pc (b_X12_follow_89 l0 l1 l2 l5 mm) (fun z => Sum.elim (fun s => eqF [12, 80, 81, 82] m0 s.2) (fun z => eqF [12, 80, 81, 82] m0 z) z) := by
  unfold b_X12_follow_89
  repeat' first
    | with_reducible exact pc_x0
    | with_reducible exact pc_xt (by assumption)
    | with_reducible exact pc_xr (by assumption)
    | with_reducible exact fr_j_X12_follow_89_265 (by assumption)
    | with_reducible refine pc_nk fun _ => ?_
    | with_reducible refine pc_if ?_ ?_
    | with_reducible refine pc_ck ?_
    | with_reducible refine pc_cb ?_
    | with_reducible refine pc_dv ?_
    | with_reducible refine pc_let fun _ => ?_
    | with_reducible refine pc_letL fun _ => ?_
    | with_reducible refine pc_ldN fun _ => ?_
    | with_reducible refine pc_ldL fun _ => ?_
    | with_reducible refine pc_ldR fun _ => ?_
    | with_reducible refine pc_put (eqF.sN (by assumption) (by decide)) fun _ _ => ?_
    | with_reducible refine pc_put (eqF.sL (by assumption) (by decide)) fun _ _ => ?_
    | with_reducible refine pc_put (eqF.sR (by assumption) (by decide)) fun _ _ => ?_
    | with_reducible refine pc_stN (by decide) (by assumption) fun _ _ => ?_
    | with_reducible refine pc_stL (by decide) (by assumption) fun _ _ => ?_
    | with_reducible refine pc_stR (by decide) (by assumption) fun _ _ => ?_
    | with_reducible refine pc_cpN (by decide) (by assumption) fun _ _ => ?_
    | with_reducible refine pc_lp (fun s => eqF [12, 80, 81, 82] m0 s.2) (fun z => eqF [12, 80, 81, 82] m0 z) (by assumption) (fun s hs => fr_b_X12_follow_111 hs) (fun z hz => ?_)
    | with_reducible refine pc_pure fun _ => ?_
    | exact pc_some (by assumption)
    | exact pc_some (eqF.bX (by assumption))
    | exact pc_some trivial
    | dsimp only
theorem fr_j_X12_follow_0_271 {m0 : MM} {m : MM} {l0 : Nat} {l1 : Int} (h : eqF [12, 80, 81, 82] m0 m) : Pc (j_X12_follow_0_271 m l0 l1) (RF [12, 80, 81, 82] m0) := by
  unfold j_X12_follow_0_271
  repeat' first
    | with_reducible exact pc_x0
    | with_reducible exact pc_xt (by assumption)
    | with_reducible exact pc_xr (by assumption)
    | with_reducible refine pc_nk fun _ => ?_
    | with_reducible refine pc_if ?_ ?_
    | with_reducible refine pc_ck ?_
    | with_reducible refine pc_cb ?_
    | with_reducible refine pc_dv ?_
    | with_reducible refine pc_let fun _ => ?_
    | with_reducible refine pc_letL fun _ => ?_
    | with_reducible refine pc_ldN fun _ => ?_
    | with_reducible refine pc_ldL fun _ => ?_
    | with_reducible refine pc_ldR fun _ => ?_
    | with_reducible refine pc_put (eqF.sN (by assumption) (by decide)) fun _ _ => ?_
    | with_reducible refine pc_put (eqF.sL (by assumption) (by decide)) fun _ _ => ?_
    | with_reducible refine pc_put (eqF.sR (by assumption) (by decide)) fun _ _ => ?_
    | with_reducible refine pc_stN (by decide) (by assumption) fun _ _ => ?_
    | with_reducible refine pc_stL (by decide) (by assumption) fun _ _ => ?_
    | with_reducible refine pc_stR (by decide) (by assumption) fun _ _ => ?_
    | with_reducible refine pc_cpN (by decide) (by assumption) fun _ _ => ?_
    | with_reducible refine pc_pure fun _ => ?_
    | exact pc_some (by assumption)
    | exact pc_some (eqF.bX (by assumption))
    | exact pc_some trivial
    | dsimp only
theorem fr_j_X12_follow_0_78 {m0 : MM} {m : MM} {l0 : Nat} {l1 : Int} {l2 : Int} {s0 : Nat} {s1 : Int} (h : eqF [12, 80, 81, 82] m0 m) : Pc (j_X12_follow_0_78 m l0 l1 l2 s0 s1) (RF [12, 80, 81, 82] m0) := by
  unfold j_X12_follow_0_78
  repeat' first
    | with_reducible exact pc_x0
    | with_reducible exact pc_xt (by assumption)
    | with_reducible exact pc_xr (by assumption)
    | with_reducible exact fr_j_X12_follow_0_271 (by assumption)
    | with_reducible refine pc_nk fun _ => ?_
    | with_reducible refine pc_if ?_ ?_
    | with_reducible refine pc_ck ?_
    | with_reducible refine pc_cb ?_
    | with_reducible refine pc_dv ?_
    | with_reducible refine pc_let fun _ => ?_
    | with_reducible refine pc_letL fun _ => ?_
    | with_reducible refine pc_ldN fun _ => ?_
    | with_reducible refine pc_ldL fun _ => ?_
    | with_reducible refine pc_ldR fun _ => ?_
    | with_reducible refine pc_put (eqF.sN (by assumption) (by decide)) fun _ _ => ?_
    | with_reducible refine pc_put (eqF.sL (by assumption) (by decide)) fun _ _ => ?_
    | with_reducible refine pc_put (eqF.sR (by assumption) (by decide)) fun _ _ => ?_
    | with_reducible refine pc_stN (by decide) (by assumption) fun _ _ => ?_
    | with_reducible refine pc_stL (by decide) (by assumption) fun _ _ => ?_
    | with_reducible refine pc_stR (by decide) (by assumption) fun _ _ => ?_
    | with_reducible refine pc_cpN (by decide) (by assumption) fun _ _ => ?_
    | with_reducible refine pc_bI (fr_f_X12_holds (m0 := _) eqF.rf) (by decide) (by assumption) (fun _ _ _ => ?_) (fun _ _ _ => ?_)
    | with_reducible refine pc_lp (fun s => eqF [12, 80, 81, 82] m0 s.2) (fun z => eqF [12, 80, 81, 82] m0 z) (by assumption) (fun s hs => fr_b_X12_follow_89 hs) (fun z hz => ?_)
    | with_reducible refine pc_pure fun _ => ?_
    | exact pc_some (by assumption)
    | exact pc_some (eqF.bX (by assumption))
    | exact pc_some trivial
    | dsimp only
theorem fr_j_X12_follow_0_48 {m0 : MM} {m : MM} {l0 : Nat} {l1 : Int} {l2 : Int} {l3 : Int} {s0 : Int} (h : eqF [12, 80, 81, 82] m0 m) : Pc (j_X12_follow_0_48 m l0 l1 l2 l3 s0) (RF [12, 80, 81, 82] m0) := by
  unfold j_X12_follow_0_48
  repeat' first
    | with_reducible exact pc_x0
    | with_reducible exact pc_xt (by assumption)
    | with_reducible exact pc_xr (by assumption)
    | with_reducible exact fr_j_X12_follow_0_78 (by assumption)
    | with_reducible refine pc_nk fun _ => ?_
    | with_reducible refine pc_if ?_ ?_
    | with_reducible refine pc_ck ?_
    | with_reducible refine pc_cb ?_
    | with_reducible refine pc_dv ?_
    | with_reducible refine pc_let fun _ => ?_
    | with_reducible refine pc_letL fun _ => ?_
    | with_reducible refine pc_ldN fun _ => ?_
    | with_reducible refine pc_ldL fun _ => ?_
    | with_reducible refine pc_ldR fun _ => ?_
    | with_reducible refine pc_put (eqF.sN (by assumption) (by decide)) fun _ _ => ?_
    | with_reducible refine pc_put (eqF.sL (by assumption) (by decide)) fun _ _ => ?_
    | with_reducible refine pc_put (eqF.sR (by assumption) (by decide)) fun _ _ => ?_
    | with_reducible refine pc_stN (by decide) (by assumption) fun _ _ => ?_
    | with_reducible refine pc_stL (by decide) (by assumption) fun _ _ => ?_
    | with_reducible refine pc_stR (by decide) (by assumption) fun _ _ => ?_
    | with_reducible refine pc_cpN (by decide) (by assumption) fun _ _ => ?_
    | with_reducible refine pc_pure fun _ => ?_
    | exact pc_some (by assumption)
    | exact pc_some (eqF.bX (by assumption))
    | exact pc_some trivial
    | dsimp only
theorem fr_j_X12_follow_0_47 {m0 : MM} {m : MM} {l0 : Nat} {l1 : Int} {l2 : Int} {l3 : Int} (h : eqF [12, 80, 81, 82] m0 m) : Pc (j_X12_follow_0_47 m l0 l1 l2 l3) (RF [12, 80, 81, 82] m0) := by
  unfold j_X12_follow_0_47
  repeat' first
    | with_reducible exact pc_x0
    | with_reducible exact pc_xt (by assumption)
    | with_reducible exact pc_xr (by assumption)
    | with_reducible exact fr_j_X12_follow_0_48 (by assumption)
    | with_reducible refine pc_nk fun _ => ?_
    | with_reducible refine pc_if ?_ ?_
    | with_reducible refine pc_ck ?_
    | with_reducible refine pc_cb ?_
    | with_reducible refine pc_dv ?_
    | with_reducible refine pc_let fun _ => ?_
    | with_reducible refine pc_letL fun _ => ?_
    | with_reducible refine pc_ldN fun _ => ?_
    | with_reducible refine pc_ldL fun _ => ?_
    | with_reducible refine pc_ldR fun _ => ?_
    | with_reducible refine pc_put (eqF.sN (by assumption) (by decide)) fun _ _ => ?_
    | with_reducible refine pc_put (eqF.sL (by assumption) (by decide)) fun _ _ => ?_
    | with_reducible refine pc_put (eqF.sR (by assumption) (by decide)) fun _ _ => ?_
    | with_reducible refine pc_stN (by decide) (by assumption) fun _ _ => ?_
    | with_reducible refine pc_stL (by decide) (by assumption) fun _ _ => ?_
    | with_reducible refine pc_stR (by decide) (by assumption) fun _ _ => ?_
    | with_reducible refine pc_cpN (by decide) (by assumption) fun _ _ => ?_
    | with_reducible refine pc_pure fun _ => ?_
    | exact pc_some (by assumption)
    | exact pc_some (eqF.bX (by assumption))
    | exact pc_some trivial
    | dsimp only
theorem fr_j_X12_follow_0_21 {m0 : MM} {m : MM} {l0 : Nat} {l1 : Int} {l2 : Int} {s0 : Int} (h : eqF [12, 80, 81, 82] m0 m) : Pc (j_X12_follow_0_21 m l0 l1 l2 s0) (RF [12, 80, 81, 82] m0) := by
  unfold j_X12_follow_0_21
  repeat' first
    | with_reducible exact pc_x0
    | with_reducible exact pc_xt (by assumption)
    | with_reducible exact pc_xr (by assumption)
    | with_reducible exact fr_j_X12_follow_0_47 (by assumption)
    | with_reducible exact fr_j_X12_follow_0_48 (by assumption)
    | with_reducible refine pc_nk fun _ => ?_
    | with_reducible refine pc_if ?_ ?_
    | with_reducible refine pc_ck ?_
    | with_reducible refine pc_cb ?_
    | with_reducible refine pc_dv ?_
    | with_reducible refine pc_let fun _ => ?_
    | with_reducible refine pc_letL fun _ => ?_
    | with_reducible refine pc_ldN fun _ => ?_
    | with_reducible refine pc_ldL fun _ => ?_
    | with_reducible refine pc_ldR fun _ => ?_
    | with_reducible refine pc_put (eqF.sN (by assumption) (by decide)) fun _ _ => ?_
    | with_reducible refine pc_put (eqF.sL (by assumption) (by decide)) fun _ _ => ?_
    | with_reducible refine pc_put (eqF.sR (by assumption) (by decide)) fun _ _ => ?_
    | with_reducible refine pc_stN (by decide) (by assumption) fun _ _ => ?_
    | with_reducible refine pc_stL (by decide) (by assumption) fun _ _ => ?_
    | with_reducible refine pc_stR (by decide) (by assumption) fun _ _ => ?_
    | with_reducible refine pc_cpN (by decide) (by assumption) fun _ _ => ?_
    | with_reducible refine pc_pure fun _ => ?_
    | exact pc_some (by assumption)
    | exact pc_some (eqF.bX (by assumption))
    | exact pc_some trivial
    | dsimp only
theorem fr_j_X12_follow_0_20 {m0 : MM} {m : MM} {l0 : Nat} {l1 : Int} {l2 : Int} (h : eqF [12, 80, 81, 82] m0 m) : Pc (j_X12_follow_0_20 m l0 l1 l2) (RF [12, 80, 81, 82] m0) := by
  unfold j_X12_follow_0_20
  repeat' first
    | with_reducible exact pc_x0
    | with_reducible exact pc_xt (by assumption)
    | with_reducible exact pc_xr (by assumption)
    | with_reducible exact fr_j_X12_follow_0_21 (by assumption)
    | with_reducible refine pc_nk fun _ => ?_
    | with_reducible refine pc_if ?_ ?_
    | with_reducible refine pc_ck ?_
    | with_reducible refine pc_cb ?_
    | with_reducible refine pc_dv ?_
    | with_reducible refine pc_let fun _ => ?_
    | with_reducible refine pc_letL fun _ => ?_
    | with_reducible refine pc_ldN fun _ => ?_
    | with_reducible refine pc_ldL fun _ => ?_
    | with_reducible refine pc_ldR fun _ => ?_
    | with_reducible refine pc_put (eqF.sN (by assumption) (by decide)) fun _ _ => ?_
    | with_reducible refine pc_put (eqF.sL (by assumption) (by decide)) fun _ _ => ?_
    | with_reducible refine pc_put (eqF.sR (by assumption) (by decide)) fun _ _ => ?_
    | with_reducible refine pc_stN (by decide) (by assumption) fun _ _ => ?_
    | with_reducible refine pc_stL (by decide) (by assumption) fun _ _ => ?_
    | with_reducible refine pc_stR (by decide) (by assumption) fun _ _ => ?_
    | with_reducible refine pc_cpN (by decide) (by assumption) fun _ _ => ?_
    | with_reducible refine pc_pure fun _ => ?_
    | exact pc_some (by assumption)
    | exact pc_some (eqF.bX (by assumption))
    | exact pc_some trivial
    | dsimp only
theorem fr_f_X12_follow {m0 : MM} {m : MM} {l0 : Nat} {l1 : Int} {l2 : Int} (h : eqF [12, 80, 81, 82] m0 m) : Pc (f_X12_follow m l0 l1 l2) (RF [12, 80, 81, 82] m0) := by
  unfold f_X12_follow
  repeat' first
    | with_reducible exact pc_x0
    | with_reducible exact pc_xt (by assumption)
    | with_reducible exact pc_xr (by assumption)
    | with_reducible exact fr_j_X12_follow_0_20 (by assumption)
    | with_reducible exact fr_j_X12_follow_0_21 (by assumption)
    | with_reducible refine pc_nk fun _ => ?_
    | with_reducible refine pc_if ?_ ?_
    | with_reducible refine pc_ck ?_
    | with_reducible refine pc_cb ?_
    | with_reducible refine pc_dv ?_
    | with_reducible refine pc_let fun _ => ?_
    | with_reducible refine pc_letL fun _ => ?_
    | with_reducible refine pc_ldN fun _ => ?_
    | with_reducible refine pc_ldL fun _ => ?_
    | with_reducible refine pc_ldR fun _ => ?_
    | with_reducible refine pc_put (eqF.sN (by assumption) (by decide)) fun _ _ => ?_
    | with_reducible refine pc_put (eqF.sL (by assumption) (by decide)) fun _ _ => ?_
    | with_reducible refine pc_put (eqF.sR (by assumption) (by decide)) fun _ _ => ?_
    | with_reducible refine pc_stN (by decide) (by assumption) fun _ _ => ?_
    | with_reducible refine pc_stL (by decide) (by assumption) fun _ _ => ?_
    | with_reducible refine pc_stR (by decide) (by assumption) fun _ _ => ?_
    | with_reducible refine pc_cpN (by decide) (by assumption) fun _ _ => ?_
    | with_reducible refine pc_pure fun _ => ?_
    | exact pc_some (by assumption)
    | exact pc_some (eqF.bX (by assumption))
    | exact pc_some trivial
    | dsimp only
theorem fr_j_X12_follows_0_142 {m0 : MM} {m : MM} {l3 : Int} (h : eqF [12] m0 m) : Pc (j_X12_follows_0_142 m l3) (RF [12] m0) := by
  unfold j_X12_follows_0_142
  repeat' first
    | with_reducible exact pc_x0
    | with_reducible exact pc_xt (by assumption)
    | with_reducible exact pc_xr (by assumption)
    | with_reducible refine pc_nk fun _ => ?_
    | with_reducible refine pc_if ?_ ?_
    | with_reducible refine pc_ck ?_
    | with_reducible refine pc_cb ?_
    | with_reducible refine pc_dv ?_
    | with_reducible refine pc_let fun _ => ?_
    | with_reducible refine pc_letL fun _ => ?_
    | with_reducible refine pc_ldN fun _ => ?_
    | with_reducible refine pc_ldL fun _ => ?_
    | with_reducible refine pc_ldR fun _ => ?_
    | with_reducible refine pc_put (eqF.sN (by assumption) (by decide)) fun _ _ => ?_
    | with_reducible refine pc_put (eqF.sL (by assumption) (by decide)) fun _ _ => ?_
    | with_reducible refine pc_put (eqF.sR (by assumption) (by decide)) fun _ _ => ?_
    | with_reducible refine pc_stN (by decide) (by assumption) fun _ _ => ?_
    | with_reducible refine pc_stL (by decide) (by assumption) fun _ _ => ?_
    | with_reducible refine pc_stR (by decide) (by assumption) fun _ _ => ?_
    | with_reducible refine pc_cpN (by decide) (by assumption) fun _ _ => ?_
    | with_reducible refine pc_pure fun _ => ?_
    | exact pc_some (by assumption)
    | exact pc_some (eqF.bX (by assumption))
    | exact pc_some trivial
    | dsimp only
theorem fr_j_X12_follows_0_22 {m0 : MM} {m : MM} {l0 : Nat} {l1 : Int} {l2 : Int} {s0 : Nat} {s1 : Int} (h : eqF [12] m0 m) : Pc (j_X12_follows_0_22 m l0 l1 l2 s0 s1) (RF [12] m0) := by
  unfold j_X12_follows_0_22
  repeat' first
    | with_reducible exact pc_x0
    | with_reducible exact pc_xt (by assumption)
    | with_reducible exact pc_xr (by assumption)
    | with_reducible exact fr_j_X12_follows_0_142 (by assumption)
    | with_reducible refine pc_nk fun _ => ?_
    | with_reducible refine pc_if ?_ ?_
    | with_reducible refine pc_ck ?_
    | with_reducible refine pc_cb ?_
    | with_reducible refine pc_dv ?_
    | with_reducible refine pc_let fun _ => ?_
    | with_reducible refine pc_letL fun _ => ?_
    | with_reducible refine pc_ldN fun _ => ?_
    | with_reducible refine pc_ldL fun _ => ?_
    | with_reducible refine pc_ldR fun _ => ?_
    | with_reducible refine pc_put (eqF.sN (by assumption) (by decide)) fun _ _ => ?_
    | with_reducible refine pc_put (eqF.sL (by assumption) (by decide)) fun _ _ => ?_
    | with_reducible refine pc_put (eqF.sR (by assumption) (by decide)) fun _ _ => ?_
    | with_reducible refine pc_stN (by decide) (by assumption) fun _ _ => ?_
    | with_reducible refine pc_stL (by decide) (by assumption) fun _ _ => ?_
    | with_reducible refine pc_stR (by decide) (by assumption) fun _ _ => ?_
    | with_reducible refine pc_cpN (by decide) (by assumption) fun _ _ => ?_
    | with_reducible refine pc_bI (fr_f_X12_holds (m0 := _) eqF.rf) (by decide) (by assumption) (fun _ _ _ => ?_) (fun _ _ _ => ?_)
    | with_reducible refine pc_pure fun _ => ?_
    | exact pc_some (by assumption)
    | exact pc_some (eqF.bX (by assumption))
    | exact pc_some trivial
    | dsimp only
theorem fr_j_X12_follows_0_21 {m0 : MM} {m : MM} {l0 : Nat} {l1 : Int} {l2 : Int} {s0 : Nat} (h : eqF [12] m0 m) : Pc (j_X12_follows_0_21 m l0 l1 l2 s0) (RF [12] m0) := by
  unfold j_X12_follows_0_21
  repeat' first
    | with_reducible exact pc_x0
    | with_reducible exact pc_xt (by assumption)
    | with_reducible exact pc_xr (by assumption)
    | with_reducible exact fr_j_X12_follows_0_22 (by assumption)
    | with_reducible refine pc_nk fun _ => ?_
    | with_reducible refine pc_if ?_ ?_
    | with_reducible refine pc_ck ?_
    | with_reducible refine pc_cb ?_
    | with_reducible refine pc_dv ?_
    | with_reducible refine pc_let fun _ => ?_
    | with_reducible refine pc_letL fun _ => ?_
    | with_reducible refine pc_ldN fun _ => ?_
    | with_reducible refine pc_ldL fun _ => ?_
    | with_reducible refine pc_ldR fun _ => ?_
    | with_reducible refine pc_put (eqF.sN (by assumption) (by decide)) fun _ _ => ?_
    | with_reducible refine pc_put (eqF.sL (by assumption) (by decide)) fun _ _ => ?_
    | with_reducible refine pc_put (eqF.sR (by assumption) (by decide)) fun _ _ => ?_
    | with_reducible refine pc_stN (by decide) (by assumption) fun _ _ => ?_
    | with_reducible refine pc_stL (by decide) (by assumption) fun _ _ => ?_
    | with_reducible refine pc_stR (by decide) (by assumption) fun _ _ => ?_
    | with_reducible refine pc_cpN (by decide) (by assumption) fun _ _ => ?_
    | with_reducible refine pc_pure fun _ => ?_
    | exact pc_some (by assumption)
    | exact pc_some (eqF.bX (by assumption))
    | exact pc_some trivial
    | dsimp only
theorem fr_f_X12_follows {m0 : MM} {m : MM} {l0 : Nat} {l1 : Int} {l2 : Int} (h : eqF [12] m0 m) : Pc (f_X12_follows m l0 l1 l2) (RF [12] m0) := by
  unfold f_X12_follows
  repeat' first
    | with_reducible exact pc_x0
    | with_reducible exact pc_xt (by assumption)
    | with_reducible exact pc_xr (by assumption)
    | with_reducible exact fr_j_X12_follows_0_21 (by assumption)
    | with_reducible exact fr_j_X12_follows_0_22 (by assumption)
    | with_reducible refine pc_nk fun _ => ?_
    | with_reducible refine pc_if ?_ ?_
    | with_reducible refine pc_ck ?_
    | with_reducible refine pc_cb ?_
    | with_reducible refine pc_dv ?_
    | with_reducible refine pc_let fun _ => ?_
    | with_reducible refine pc_letL fun _ => ?_
    | with_reducible refine pc_ldN fun _ => ?_
    | with_reducible refine pc_ldL fun _ => ?_
    | with_reducible refine pc_ldR fun _ => ?_
    | with_reducible refine pc_put (eqF.sN (by assumption) (by decide)) fun _ _ => ?_
    | with_reducible refine pc_put (eqF.sL (by assumption) (by decide)) fun _ _ => ?_
    | with_reducible refine pc_put (eqF.sR (by assumption) (by decide)) fun _ _ => ?_
    | with_reducible refine pc_stN (by decide) (by assumption) fun _ _ => ?_
    | with_reducible refine pc_stL (by decide) (by assumption) fun _ _ => ?_
    | with_reducible refine pc_stR (by decide) (by assumption) fun _ _ => ?_
    | with_reducible refine pc_cpN (by decide) (by assumption) fun _ _ => ?_
    | with_reducible refine pc_pure fun _ => ?_
    | exact pc_some (by assumption)
    | exact pc_some (eqF.bX (by assumption))
    | exact pc_some trivial
    | dsimp only
theorem fr_j_X12_forme_0_28 {m0 : MM} {m : MM} {l0 : Nat} {l1 : Int} {l2 : Int} {l3 : Int} {s0 : Nat} {s1 : Int} (h : eqF [12] m0 m) : Pc (j_X12_forme_0_28 m l0 l1 l2 l3 s0 s1) (RF [12] m0) := by
  unfold j_X12_forme_0_28
  repeat' first
    | with_reducible exact pc_x0
    | with_reducible exact pc_xt (by assumption)
    | with_reducible exact pc_xr (by assumption)
    | with_reducible refine pc_nk fun _ => ?_
    | with_reducible refine pc_if ?_ ?_
    | with_reducible refine pc_ck ?_
    | with_reducible refine pc_cb ?_
    | with_reducible refine pc_dv ?_
    | with_reducible refine pc_let fun _ => ?_
    | with_reducible refine pc_letL fun _ => ?_
    | with_reducible refine pc_ldN fun _ => ?_
    | with_reducible refine pc_ldL fun _ => ?_
    | with_reducible refine pc_ldR fun _ => ?_
    | with_reducible refine pc_put (eqF.sN (by assumption) (by decide)) fun _ _ => ?_
    | with_reducible refine pc_put (eqF.sL (by assumption) (by decide)) fun _ _ => ?_
    | with_reducible refine pc_put (eqF.sR (by assumption) (by decide)) fun _ _ => ?_
    | with_reducible refine pc_stN (by decide) (by assumption) fun _ _ => ?_
    | with_reducible refine pc_stL (by decide) (by assumption) fun _ _ => ?_
    | with_reducible refine pc_stR (by decide) (by assumption) fun _ _ => ?_
    | with_reducible refine pc_cpN (by decide) (by assumption) fun _ _ => ?_
    | with_reducible refine pc_bI (fr_f_X12_holds (m0 := _) eqF.rf) (by decide) (by assumption) (fun _ _ _ => ?_) (fun _ _ _ => ?_)
    | with_reducible refine pc_pure fun _ => ?_
    | exact pc_some (by assumption)
    | exact pc_some (eqF.bX (by assumption))
    | exact pc_some trivial
    | dsimp only
theorem fr_f_X12_forme {m0 : MM} {m : MM} {l0 : Nat} {l1 : Int} {l2 : Int} {l3 : Int} (h : eqF [12] m0 m) : Pc (f_X12_forme m l0 l1 l2 l3) (RF [12] m0) := by
  unfold f_X12_forme
  repeat' first
    | with_reducible exact pc_x0
    | with_reducible exact pc_xt (by assumption)
    | with_reducible exact pc_xr (by assumption)
    | with_reducible exact fr_j_X12_forme_0_28 (by assumption)
    | with_reducible refine pc_nk fun _ => ?_
    | with_reducible refine pc_if ?_ ?_
    | with_reducible refine pc_ck ?_
    | with_reducible refine pc_cb ?_
    | with_reducible refine pc_dv ?_
    | with_reducible refine pc_let fun _ => ?_
    | with_reducible refine pc_letL fun _ => ?_
    | with_reducible refine pc_ldN fun _ => ?_
    | with_reducible refine pc_ldL fun _ => ?_
    | with_reducible refine pc_ldR fun _ => ?_
    | with_reducible refine pc_put (eqF.sN (by assumption) (by decide)) fun _ _ => ?_
    | with_reducible refine pc_put (eqF.sL (by assumption) (by decide)) fun _ _ => ?_
    | with_reducible refine pc_put (eqF.sR (by assumption) (by decide)) fun _ _ => ?_
    | with_reducible refine pc_stN (by decide) (by assumption) fun _ _ => ?_
    | with_reducible refine pc_stL (by decide) (by assumption) fun _ _ => ?_
    | with_reducible refine pc_stR (by decide) (by assumption) fun _ _ => ?_
    | with_reducible refine pc_cpN (by decide) (by assumption) fun _ _ => ?_
    | with_reducible refine pc_pure fun _ => ?_
    | exact pc_some (by assumption)
    | exact pc_some (eqF.bX (by assumption))
    | exact pc_some trivial
    | dsimp only
theorem fr_j_X12_hand_0_60 {m0 : MM} {m : MM} {l0 : Nat} {l1 : Int} {l2 : Int} {l3 : Int} {s0 : Nat} {s1 : Int} (h : eqF [12, 67, 68, 69] m0 m) : Pc (j_X12_hand_0_60 m l0 l1 l2 l3 s0 s1) (RF [12, 67, 68, 69] m0) := by
  unfold j_X12_hand_0_60
  repeat' first
    | with_reducible exact pc_x0
    | with_reducible exact pc_xt (by assumption)
    | with_reducible exact pc_xr (by assumption)
    | with_reducible refine pc_nk fun _ => ?_
    | with_reducible refine pc_if ?_ ?_
    | with_reducible refine pc_ck ?_
    | with_reducible refine pc_cb ?_
    | with_reducible refine pc_dv ?_
    | with_reducible refine pc_let fun _ => ?_
    | with_reducible refine pc_letL fun _ => ?_
    | with_reducible refine pc_ldN fun _ => ?_
    | with_reducible refine pc_ldL fun _ => ?_
    | with_reducible refine pc_ldR fun _ => ?_
    | with_reducible refine pc_put (eqF.sN (by assumption) (by decide)) fun _ _ => ?_
    | with_reducible refine pc_put (eqF.sL (by assumption) (by decide)) fun _ _ => ?_
    | with_reducible refine pc_put (eqF.sR (by assumption) (by decide)) fun _ _ => ?_
    | with_reducible refine pc_stN (by decide) (by assumption) fun _ _ => ?_
    | with_reducible refine pc_stL (by decide) (by assumption) fun _ _ => ?_
    | with_reducible refine pc_stR (by decide) (by assumption) fun _ _ => ?_
    | with_reducible refine pc_cpN (by decide) (by assumption) fun _ _ => ?_
    | with_reducible refine pc_bI (fr_f_X12_holds (m0 := _) eqF.rf) (by decide) (by assumption) (fun _ _ _ => ?_) (fun _ _ _ => ?_)
    | with_reducible refine pc_pure fun _ => ?_
    | exact pc_some (by assumption)
    | exact pc_some (eqF.bX (by assumption))
    | exact pc_some trivial
    | dsimp only
theorem fr_j_X12_hand_0_35 {m0 : MM} {m : MM} {l0 : Nat} {l1 : Int} {l2 : Int} {l3 : Int} {s0 : Int} (h : eqF [12, 67, 68, 69] m0 m) : Pc (j_X12_hand_0_35 m l0 l1 l2 l3 s0) (RF [12, 67, 68, 69] m0) := by
  unfold j_X12_hand_0_35
  repeat' first
    | with_reducible exact pc_x0
    | with_reducible exact pc_xt (by assumption)
    | with_reducible exact pc_xr (by assumption)
    | with_reducible exact fr_j_X12_hand_0_60 (by assumption)
    | with_reducible refine pc_nk fun _ => ?_
    | with_reducible refine pc_if ?_ ?_
    | with_reducible refine pc_ck ?_
    | with_reducible refine pc_cb ?_
    | with_reducible refine pc_dv ?_
    | with_reducible refine pc_let fun _ => ?_
    | with_reducible refine pc_letL fun _ => ?_
    | with_reducible refine pc_ldN fun _ => ?_
    | with_reducible refine pc_ldL fun _ => ?_
    | with_reducible refine pc_ldR fun _ => ?_
    | with_reducible refine pc_put (eqF.sN (by assumption) (by decide)) fun _ _ => ?_
    | with_reducible refine pc_put (eqF.sL (by assumption) (by decide)) fun _ _ => ?_
    | with_reducible refine pc_put (eqF.sR (by assumption) (by decide)) fun _ _ => ?_
    | with_reducible refine pc_stN (by decide) (by assumption) fun _ _ => ?_
    | with_reducible refine pc_stL (by decide) (by assumption) fun _ _ => ?_
    | with_reducible refine pc_stR (by decide) (by assumption) fun _ _ => ?_
    | with_reducible refine pc_cpN (by decide) (by assumption) fun _ _ => ?_
    | with_reducible refine pc_pure fun _ => ?_
    | exact pc_some (by assumption)
    | exact pc_some (eqF.bX (by assumption))
    | exact pc_some trivial
    | dsimp only
theorem fr_j_X12_hand_0_34 {m0 : MM} {m : MM} {l0 : Nat} {l1 : Int} {l2 : Int} {l3 : Int} (h : eqF [12, 67, 68, 69] m0 m) : Pc (j_X12_hand_0_34 m l0 l1 l2 l3) (RF [12, 67, 68, 69] m0) := by
  unfold j_X12_hand_0_34
  repeat' first
    | with_reducible exact pc_x0
    | with_reducible exact pc_xt (by assumption)
    | with_reducible exact pc_xr (by assumption)
    | with_reducible exact fr_j_X12_hand_0_35 (by assumption)
    | with_reducible refine pc_nk fun _ => ?_
    | with_reducible refine pc_if ?_ ?_
    | with_reducible refine pc_ck ?_
    | with_reducible refine pc_cb ?_
    | with_reducible refine pc_dv ?_
    | with_reducible refine pc_let fun _ => ?_
    | with_reducible refine pc_letL fun _ => ?_
    | with_reducible refine pc_ldN fun _ => ?_
    | with_reducible refine pc_ldL fun _ => ?_
    | with_reducible refine pc_ldR fun _ => ?_
    | with_reducible refine pc_put (eqF.sN (by assumption) (by decide)) fun _ _ => ?_
    | with_reducible refine pc_put (eqF.sL (by assumption) (by decide)) fun _ _ => ?_
    | with_reducible refine pc_put (eqF.sR (by assumption) (by decide)) fun _ _ => ?_
    | with_reducible refine pc_stN (by decide) (by assumption) fun _ _ => ?_
    | with_reducible refine pc_stL (by decide) (by assumption) fun _ _ => ?_
    | with_reducible refine pc_stR (by decide) (by assumption) fun _ _ => ?_
    | with_reducible refine pc_cpN (by decide) (by assumption) fun _ _ => ?_
    | with_reducible refine pc_pure fun _ => ?_
    | exact pc_some (by assumption)
    | exact pc_some (eqF.bX (by assumption))
    | exact pc_some trivial
    | dsimp only
theorem fr_f_X12_hand {m0 : MM} {m : MM} {l0 : Nat} {l1 : Int} {l2 : Int} {l3 : Int} (h : eqF [12, 67, 68, 69] m0 m) : Pc (f_X12_hand m l0 l1 l2 l3) (RF [12, 67, 68, 69] m0) := by
  unfold f_X12_hand
  repeat' first
    | with_reducible exact pc_x0
    | with_reducible exact pc_xt (by assumption)
    | with_reducible exact pc_xr (by assumption)
    | with_reducible exact fr_j_X12_hand_0_34 (by assumption)
    | with_reducible exact fr_j_X12_hand_0_35 (by assumption)
    | with_reducible refine pc_nk fun _ => ?_
    | with_reducible refine pc_if ?_ ?_
    | with_reducible refine pc_ck ?_
    | with_reducible refine pc_cb ?_
    | with_reducible refine pc_dv ?_
    | with_reducible refine pc_let fun _ => ?_
    | with_reducible refine pc_letL fun _ => ?_
    | with_reducible refine pc_ldN fun _ => ?_
    | with_reducible refine pc_ldL fun _ => ?_
    | with_reducible refine pc_ldR fun _ => ?_
    | with_reducible refine pc_put (eqF.sN (by assumption) (by decide)) fun _ _ => ?_
    | with_reducible refine pc_put (eqF.sL (by assumption) (by decide)) fun _ _ => ?_
    | with_reducible refine pc_put (eqF.sR (by assumption) (by decide)) fun _ _ => ?_
    | with_reducible refine pc_stN (by decide) (by assumption) fun _ _ => ?_
    | with_reducible refine pc_stL (by decide) (by assumption) fun _ _ => ?_
    | with_reducible refine pc_stR (by decide) (by assumption) fun _ _ => ?_
    | with_reducible refine pc_cpN (by decide) (by assumption) fun _ _ => ?_
    | with_reducible refine pc_pure fun _ => ?_
    | exact pc_some (by assumption)
    | exact pc_some (eqF.bX (by assumption))
    | exact pc_some trivial
    | dsimp only
theorem fr_b_X12_canPart_4 {m0 : MM} {l0 : Nat} {l1 : Int} {l2 : Int} {l3 : Int} {mm : MM} (h : eqF [130] m0 mm) : Pc (b_X12_canPart_4 l0 l1 l2 l3 mm) (fun z => Sum.elim (fun s => eqF [130] m0 s.2) (fun z => eqF [130] m0 z) z) := by
  unfold b_X12_canPart_4
  repeat' first
    | with_reducible exact pc_x0
    | with_reducible exact pc_xt (by assumption)
    | with_reducible exact pc_xr (by assumption)
    | with_reducible refine pc_nk fun _ => ?_
    | with_reducible refine pc_if ?_ ?_
    | with_reducible refine pc_ck ?_
    | with_reducible refine pc_cb ?_
    | with_reducible refine pc_dv ?_
    | with_reducible refine pc_let fun _ => ?_
    | with_reducible refine pc_letL fun _ => ?_
    | with_reducible refine pc_ldN fun _ => ?_
    | with_reducible refine pc_ldL fun _ => ?_
    | with_reducible refine pc_ldR fun _ => ?_
    | with_reducible refine pc_put (eqF.sN (by assumption) (by decide)) fun _ _ => ?_
    | with_reducible refine pc_put (eqF.sL (by assumption) (by decide)) fun _ _ => ?_
    | with_reducible refine pc_put (eqF.sR (by assumption) (by decide)) fun _ _ => ?_
    | with_reducible refine pc_stN (by decide) (by assumption) fun _ _ => ?_
    | with_reducible refine pc_stL (by decide) (by assumption) fun _ _ => ?_
    | with_reducible refine pc_stR (by decide) (by assumption) fun _ _ => ?_
    | with_reducible refine pc_cpN (by decide) (by assumption) fun _ _ => ?_
    | with_reducible refine pc_pure fun _ => ?_
    | exact pc_some (by assumption)
    | exact pc_some (eqF.bX (by assumption))
    | exact pc_some trivial
    | dsimp only
theorem fr_j_X12_canPart_25_177 {m0 : MM} {m : MM} {l0 : Nat} {l1 : Int} {l2 : Int} {l4 : Int} {l5 : Int} (h : eqF [130] m0 m) : Pc (j_X12_canPart_25_177 m l0 l1 l2 l4 l5) (fun z => Sum.elim (fun s => eqF [130] m0 s.2) (fun z => eqF [130] m0 z.2) z) := by
  unfold j_X12_canPart_25_177
  repeat' first
    | with_reducible exact pc_x0
    | with_reducible exact pc_xt (by assumption)
    | with_reducible exact pc_xr (by assumption)
    | with_reducible refine pc_nk fun _ => ?_
    | with_reducible refine pc_if ?_ ?_
    | with_reducible refine pc_ck ?_
    | with_reducible refine pc_cb ?_
    | with_reducible refine pc_dv ?_
    | with_reducible refine pc_let fun _ => ?_
    | with_reducible refine pc_letL fun _ => ?_
    | with_reducible refine pc_ldN fun _ => ?_
    | with_reducible refine pc_ldL fun _ => ?_
    | with_reducible refine pc_ldR fun _ => ?_
    | with_reducible refine pc_put (eqF.sN (by assumption) (by decide)) fun _ _ => ?_
    | with_reducible refine pc_put (eqF.sL (by assumption) (by decide)) fun _ _ => ?_
    | with_reducible refine pc_put (eqF.sR (by assumption) (by decide)) fun _ _ => ?_
    | with_reducible refine pc_stN (by decide) (by assumption) fun _ _ => ?_
    | with_reducible refine pc_stL (by decide) (by assumption) fun _ _ => ?_
    | with_reducible refine pc_stR (by decide) (by assumption) fun _ _ => ?_
    | with_reducible refine pc_cpN (by decide) (by assumption) fun _ _ => ?_
    | with_reducible refine pc_pure fun _ => ?_
    | exact pc_some (by assumption)
    | exact pc_some (eqF.bX (by assumption))
    | exact pc_some trivial
    | dsimp only
theorem fr_j_X12_canPart_25_114 {m0 : MM} {m : MM} {l0 : Nat} {l1 : Int} {l2 : Int} {s0 : Int} (h : eqF [130] m0 m) : Pc (j_X12_canPart_25_114 m l0 l1 l2 s0) (fun z => Sum.elim (fun s => eqF [130] m0 s.2) (fun z => eqF [130] m0 z.2) z) := by
  unfold j_X12_canPart_25_114
  repeat' first
    | with_reducible exact pc_x0
    | with_reducible exact pc_xt (by assumption)
    | with_reducible exact pc_xr (by assumption)
    | with_reducible exact fr_j_X12_canPart_25_177 (by assumption)
    | with_reducible refine pc_nk fun _ => ?_
    | with_reducible refine pc_if ?_ ?_
    | with_reducible refine pc_ck ?_
    | with_reducible refine pc_cb ?_
    | with_reducible refine pc_dv ?_
    | with_reducible refine pc_let fun _ => ?_
    | with_reducible refine pc_letL fun _ => ?_
    | with_reducible refine pc_ldN fun _ => ?_
    | with_reducible refine pc_ldL fun _ => ?_
    | with_reducible refine pc_ldR fun _ => ?_
    | with_reducible refine pc_put (eqF.sN (by assumption) (by decide)) fun _ _ => ?_
    | with_reducible refine pc_put (eqF.sL (by assumption) (by decide)) fun _ _ => ?_
    | with_reducible refine pc_put (eqF.sR (by assumption) (by decide)) fun _ _ => ?_
    | with_reducible refine pc_stN (by decide) (by assumption) fun _ _ => ?_
    | with_reducible refine pc_stL (by decide) (by assumption) fun _ _ => ?_
    | with_reducible refine pc_stR (by decide) (by assumption) fun _ _ => ?_
    | with_reducible refine pc_cpN (by decide) (by assumption) fun _ _ => ?_
    | with_reducible refine pc_pure fun _ => ?_
    | exact pc_some (by assumption)
    | exact pc_some (eqF.bX (by assumption))
    | exact pc_some trivial
    | dsimp only
theorem fr_j_X12_canPart_25_113 {m0 : MM} {m : MM} {l0 : Nat} {l1 : Int} {l2 : Int} (h : eqF [130] m0 m) : Pc (j_X12_canPart_25_113 m l0 l1 l2) (fun z => Sum.elim (fun s => eqF [130] m0 s.2) (fun z => eqF [130] m0 z.2) z) := by
  unfold j_X12_canPart_25_113
  repeat' first
    | with_reducible exact pc_x0
    | with_reducible exact pc_xt (by assumption)
    | with_reducible exact pc_xr (by assumption)
    | with_reducible exact fr_j_X12_canPart_25_114 (by assumption)
    | with_reducible refine pc_nk fun _ => ?_
    | with_reducible refine pc_if ?_ ?_
    | with_reducible refine pc_ck ?_
    | with_reducible refine pc_cb ?_
    | with_reducible refine pc_dv ?_
    | with_reducible refine pc_let fun _ => ?_
    | with_reducible refine pc_letL fun _ => ?_
    | with_reducible refine pc_ldN fun _ => ?_
    | with_reducible refine pc_ldL fun _ => ?_
    | with_reducible refine pc_ldR fun _ => ?_
    | with_reducible refine pc_put (eqF.sN (by assumption) (by decide)) fun _ _ => ?_
    | with_reducible refine pc_put (eqF.sL (by assumption) (by decide)) fun _ _ => ?_
    | with_reducible refine pc_put (eqF.sR (by assumption) (by decide)) fun _ _ => ?_
    | with_reducible refine pc_stN (by decide) (by assumption) fun _ _ => ?_
    | with_reducible refine pc_stL (by decide) (by assumption) fun _ _ => ?_
    | with_reducible refine pc_stR (by decide) (by assumption) fun _ _ => ?_
    | with_reducible refine pc_cpN (by decide) (by assumption) fun _ _ => ?_
    | with_reducible refine pc_pure fun _ => ?_
    | exact pc_some (by assumption)
    | exact pc_some (eqF.bX (by assumption))
    | exact pc_some trivial
    | dsimp only
theorem fr_j_X12_canPart_25_77 {m0 : MM} {m : MM} {l0 : Nat} {l1 : Int} {l2 : Int} {l3 : Int} (h : eqF [130] m0 m) : Pc (j_X12_canPart_25_77 m l0 l1 l2 l3) (fun z => Sum.elim (fun s => eqF [130] m0 s.2) (fun z => eqF [130] m0 z.2) z) := by
  unfold j_X12_canPart_25_77
  repeat' first
    | with_reducible exact pc_x0
    | with_reducible exact pc_xt (by assumption)
    | with_reducible exact pc_xr (by assumption)
    | with_reducible exact fr_j_X12_canPart_25_113 (by assumption)
    | with_reducible exact fr_j_X12_canPart_25_114 (by assumption)
    | with_reducible refine pc_nk fun _ => ?_
    | with_reducible refine pc_if ?_ ?_
    | with_reducible refine pc_ck ?_
    | with_reducible refine pc_cb ?_
    | with_reducible refine pc_dv ?_
    | with_reducible refine pc_let fun _ => ?_
    | with_reducible refine pc_letL fun _ => ?_
    | with_reducible refine pc_ldN fun _ => ?_
    | with_reducible refine pc_ldL fun _ => ?_
    | with_reducible refine pc_ldR fun _ => ?_
    | with_reducible refine pc_put (eqF.sN (by assumption) (by decide)) fun _ _ => ?_
    | with_reducible refine pc_put (eqF.sL (by assumption) (by decide)) fun _ _ => ?_
    | with_reducible refine pc_put (eqF.sR (by assumption) (by decide)) fun _ _ => ?_
    | with_reducible refine pc_stN (by decide) (by assumption) fun _ _ => ?_
    | with_reducible refine pc_stL (by decide) (by assumption) fun _ _ => ?_
    | with_reducible refine pc_stR (by decide) (by assumption) fun _ _ => ?_
    | with_reducible refine pc_cpN (by decide) (by assumption) fun _ _ => ?_
    | with_reducible refine pc_pure fun _ => ?_
    | exact pc_some (by assumption)
    | exact pc_some (eqF.bX (by assumption))
    | exact pc_some trivial
    | dsimp only
theorem fr_b_X12_canPart_25 {m0 : MM} {l0 : Nat} {l1 : Int} {l2 : Int} {mm : MM} (h : eqF [130] m0 mm) : Pc (b_X12_canPart_25 l0 l1 l2 mm) (fun z => Sum.elim (fun s => eqF [130] m0 s.2) (fun z => eqF [130] m0 z.2) z) := by
  unfold b_X12_canPart_25
  repeat' first
    | with_reducible exact pc_x0
    | with_reducible exact pc_xt (by assumption)
    | with_reducible exact pc_xr (by assumption)
    | with_reducible exact fr_j_X12_canPart_25_77 (by assumption)
    | with_reducible refine pc_nk fun _ => ?_
    | with_reducible refine pc_if ?_ ?_
    | with_reducible refine pc_ck ?_
    | with_reducible refine pc_cb ?_
    | with_reducible refine pc_dv ?_
    | with_reducible refine pc_let fun _ => ?_
    | with_reducible refine pc_letL fun _ => ?_
    | with_reducible refine pc_ldN fun _ => ?_
    | with_reducible refine pc_ldL fun _ => ?_
    | with_reducible refine pc_ldR fun _ => ?_
    | with_reducible refine pc_put (eqF.sN (by assumption) (by decide)) fun _ _ => ?_
    | with_reducible refine pc_put (eqF.sL (by assumption) (by decide)) fun _ _ => ?_
    | with_reducible refine pc_put (eqF.sR (by assumption) (by decide)) fun _ _ => ?_
    | with_reducible refine pc_stN (by decide) (by assumption) fun _ _ => ?_
    | with_reducible refine pc_stL (by decide) (by assumption) fun _ _ => ?_
    | with_reducible refine pc_stR (by decide) (by assumption) fun _ _ => ?_
    | with_reducible refine pc_cpN (by decide) (by assumption) fun _ _ => ?_
    | with_reducible refine pc_pure fun _ => ?_
    | exact pc_some (by assumption)
    | exact pc_some (eqF.bX (by assumption))
    | exact pc_some trivial
    | dsimp only
theorem fr_j_X12_canPart_0_206 {m0 : MM} {m : MM} {l0 : Nat} {l2 : Int} (h : eqF [130] m0 m) : Pc (j_X12_canPart_0_206 m l0 l2) (RF [130] m0) := by
  unfold j_X12_canPart_0_206
  repeat' first
    | with_reducible exact pc_x0
    | with_reducible exact pc_xt (by assumption)
    | with_reducible exact pc_xr (by assumption)
    | with_reducible refine pc_nk fun _ => ?_
    | with_reducible refine pc_if ?_ ?_
    | with_reducible refine pc_ck ?_
    | with_reducible refine pc_cb ?_
    | with_reducible refine pc_dv ?_
    | with_reducible refine pc_let fun _ => ?_
    | with_reducible refine pc_letL fun _ => ?_
    | with_reducible refine pc_ldN fun _ => ?_
    | with_reducible refine pc_ldL fun _ => ?_
    | with_reducible refine pc_ldR fun _ => ?_
    | with_reducible refine pc_put (eqF.sN (by assumption) (by decide)) fun _ _ => ?_
    | with_reducible refine pc_put (eqF.sL (by assumption) (by decide)) fun _ _ => ?_
    | with_reducible refine pc_put (eqF.sR (by assumption) (by decide)) fun _ _ => ?_
    | with_reducible refine pc_stN (by decide) (by assumption) fun _ _ => ?_
    | with_reducible refine pc_stL (by decide) (by assumption) fun _ _ => ?_
    | with_reducible refine pc_stR (by decide) (by assumption) fun _ _ => ?_
    | with_reducible refine pc_cpN (by decide) (by assumption) fun _ _ => ?_
    | with_reducible refine pc_pure fun _ => ?_
    | exact pc_some (by assumption)
    | exact pc_some (eqF.bX (by assumption))
    | exact pc_some trivial
    | dsimp only
theorem fr_j_X12_canPart_0_25 {m0 : MM} {m : MM} {l0 : Nat} {l1 : Int} {l2 : Int} (h : eqF [130] m0 m) : Pc (j_X12_canPart_0_25 m l0 l1 l2) (RF [130] m0) := by
  unfold j_X12_canPart_0_25
  repeat' first
    | with_reducible exact pc_x0
    | with_reducible exact pc_xt (by assumption)
    | with_reducible exact pc_xr (by assumption)
    | with_reducible exact fr_j_X12_canPart_0_206 (by assumption)
    | with_reducible refine pc_nk fun _ => ?_
    | with_reducible refine pc_if ?_ ?_
    | with_reducible refine pc_ck ?_
    | with_reducible refine pc_cb ?_
    | with_reducible refine pc_dv ?_
    | with_reducible refine pc_let fun _ => ?_
    | with_reducible refine pc_letL fun _ => ?_
    | with_reducible refine pc_ldN fun _ => ?_
    | with_reducible refine pc_ldL fun _ => ?_
    | with_reducible refine pc_ldR fun _ => ?_
    | with_reducible refine pc_put (eqF.sN (by assumption) (by decide)) fun _ _ => ?_
    | with_reducible refine pc_put (eqF.sL (by assumption) (by decide)) fun _ _ => ?_
    | with_reducible refine pc_put (eqF.sR (by assumption) (by decide)) fun _ _ => ?_
    | with_reducible refine pc_stN (by decide) (by assumption) fun _ _ => ?_
    | with_reducible refine pc_stL (by decide) (by assumption) fun _ _ => ?_
    | with_reducible refine pc_stR (by decide) (by assumption) fun _ _ => ?_
    | with_reducible refine pc_cpN (by decide) (by assumption) fun _ _ => ?_
    | with_reducible refine pc_lp (fun s => eqF [130] m0 s.2) (fun z => eqF [130] m0 z.2) (by assumption) (fun s hs => fr_b_X12_canPart_25 hs) (fun z hz => ?_)
    | with_reducible refine pc_pure fun _ => ?_
    | exact pc_some (by assumption)
    | exact pc_some (eqF.bX (by assumption))
    | exact pc_some trivial
    | dsimp only
theorem fr_f_X12_canPart {m0 : MM} {m : MM} {l0 : Nat} {l1 : Int} (h : eqF [130] m0 m) : Pc (f_X12_canPart m l0 l1) (RF [130] m0) := by
  unfold f_X12_canPart
  repeat' first
    | with_reducible exact pc_x0
    | with_reducible exact pc_xt (by assumption)
    | with_reducible exact pc_xr (by assumption)
    | with_reducible exact fr_j_X12_canPart_0_25 (by assumption)
    | with_reducible refine pc_nk fun _ => ?_
    | with_reducible refine pc_if ?_ ?_
    | with_reducible refine pc_ck ?_
    | with_reducible refine pc_cb ?_
    | with_reducible refine pc_dv ?_
    | with_reducible refine pc_let fun _ => ?_
    | with_reducible refine pc_letL fun _ => ?_
    | with_reducible refine pc_ldN fun _ => ?_
    | with_reducible refine pc_ldL fun _ => ?_
    | with_reducible refine pc_ldR fun _ => ?_
    | with_reducible refine pc_put (eqF.sN (by assumption) (by decide)) fun _ _ => ?_
    | with_reducible refine pc_put (eqF.sL (by assumption) (by decide)) fun _ _ => ?_
    | with_reducible refine pc_put (eqF.sR (by assumption) (by decide)) fun _ _ => ?_
    | with_reducible refine pc_stN (by decide) (by assumption) fun _ _ => ?_
    | with_reducible refine pc_stL (by decide) (by assumption) fun _ _ => ?_
    | with_reducible refine pc_stR (by decide) (by assumption) fun _ _ => ?_
    | with_reducible refine pc_cpN (by decide) (by assumption) fun _ _ => ?_
    | with_reducible refine pc_lp (fun s => eqF [130] m0 s.2) (fun z => eqF [130] m0 z) (by assumption) (fun s hs => fr_b_X12_canPart_4 hs) (fun z hz => ?_)
    | with_reducible refine pc_pure fun _ => ?_
    | exact pc_some (by assumption)
    | exact pc_some (eqF.bX (by assumption))
    | exact pc_some trivial
    | dsimp only
theorem fr_b_X12_findUnlike_7 {m0 : MM} {l0 : Nat} {l1 : Int} {l2 : Int} {mm : MM} (h : eqF [12, 129, 130] m0 mm) : Pc (b_X12_findUnlike_7 l0 l1 l2 mm) (fun z => Sum.elim (fun s => eqF [12, 129, 130] m0 s.2) (fun z => eqF [12, 129, 130] m0 z) z) := by
  unfold b_X12_findUnlike_7
  repeat' first
    | with_reducible exact pc_x0
    | with_reducible exact pc_xt (by assumption)
    | with_reducible exact pc_xr (by assumption)
    | with_reducible refine pc_nk fun _ => ?_
    | with_reducible refine pc_if ?_ ?_
    | with_reducible refine pc_ck ?_
    | with_reducible refine pc_cb ?_
    | with_reducible refine pc_dv ?_
    | with_reducible refine pc_let fun _ => ?_
    | with_reducible refine pc_letL fun _ => ?_
    | with_reducible refine pc_ldN fun _ => ?_
    | with_reducible refine pc_ldL fun _ => ?_
    | with_reducible refine pc_ldR fun _ => ?_
    | with_reducible refine pc_put (eqF.sN (by assumption) (by decide)) fun _ _ => ?_
    | with_reducible refine pc_put (eqF.sL (by assumption) (by decide)) fun _ _ => ?_
    | with_reducible refine pc_put (eqF.sR (by assumption) (by decide)) fun _ _ => ?_
    | with_reducible refine pc_stN (by decide) (by assumption) fun _ _ => ?_
    | with_reducible refine pc_stL (by decide) (by assumption) fun _ _ => ?_
    | with_reducible refine pc_stR (by decide) (by assumption) fun _ _ => ?_
    | with_reducible refine pc_cpN (by decide) (by assumption) fun _ _ => ?_
    | with_reducible refine pc_pure fun _ => ?_
    | exact pc_some (by assumption)
    | exact pc_some (eqF.bX (by assumption))
    | exact pc_some trivial
    | dsimp only
theorem fr_j_X12_findUnlike_80_126 {m0 : MM} {m : MM} {l0 : Nat} {l2 : Int} {l3 : Int} {s0 : Nat} {s1 : Int} {s2 : Int} {s3 : Int} (h : eqF [12, 129, 130] m0 m) : Pc (j_X12_findUnlike_80_126 m l0 l2 l3 s0 s1 s2 s3) (fun z => Sum.elim (fun s => eqF [12, 129, 130] m0 s.2) (fun z => eqF [12, 129, 130] m0 z) z) := by
  unfold j_X12_findUnlike_80_126
  repeat' first
    | with_reducible exact pc_x0
    | with_reducible exact pc_xt (by assumption)
    | with_reducible exact pc_xr (by assumption)
    | with_reducible refine pc_nk fun _ => ?_
    | with_reducible refine pc_if ?_ ?_
    | with_reducible refine pc_ck ?_
    | with_reducible refine pc_cb ?_
    | with_reducible refine pc_dv ?_
    | with_reducible refine pc_let fun _ => ?_
    | with_reducible refine pc_letL fun _ => ?_
    | with_reducible refine pc_ldN fun _ => ?_
    | with_reducible refine pc_ldL fun _ => ?_
    | with_reducible refine pc_ldR fun _ => ?_
    | with_reducible refine pc_put (eqF.sN (by assumption) (by decide)) fun _ _ => ?_
    | with_reducible refine pc_put (eqF.sL (by assumption) (by decide)) fun _ _ => ?_
    | with_reducible refine pc_put (eqF.sR (by assumption) (by decide)) fun _ _ => ?_
    | with_reducible refine pc_stN (by decide) (by assumption) fun _ _ => ?_
    | with_reducible refine pc_stL (by decide) (by assumption) fun _ _ => ?_
    | with_reducible refine pc_stR (by decide) (by assumption) fun _ _ => ?_
    | with_reducible refine pc_cpN (by decide) (by assumption) fun _ _ => ?_
    | with_reducible refine pc_pure fun _ => ?_
    | exact pc_some (by assumption)
    | exact pc_some (eqF.bX (by assumption))
    | exact pc_some trivial
    | dsimp only
theorem fr_j_X12_findUnlike_80_125 {m0 : MM} {m : MM} {l0 : Nat} {l2 : Int} {l3 : Int} {s0 : Nat} {s1 : Int} {s2 : Int} (h : eqF [12, 129, 130] m0 m) : Pc (j_X12_findUnlike_80_125 m l0 l2 l3 s0 s1 s2) (fun z => Sum.elim (fun s => eqF [12, 129, 130] m0 s.2) (fun z => eqF [12, 129, 130] m0 z) z) := by
  unfold j_X12_findUnlike_80_125
  repeat' first
    | with_reducible exact pc_x0
    | with_reducible exact pc_xt (by assumption)
    | with_reducible exact pc_xr (by assumption)
    | with_reducible exact fr_j_X12_findUnlike_80_126 (by assumption)
    | with_reducible refine pc_nk fun _ => ?_
    | with_reducible refine pc_if ?_ ?_
    | with_reducible refine pc_ck ?_
    | with_reducible refine pc_cb ?_
    | with_reducible refine pc_dv ?_
    | with_reducible refine pc_let fun _ => ?_
    | with_reducible refine pc_letL fun _ => ?_
    | with_reducible refine pc_ldN fun _ => ?_
    | with_reducible refine pc_ldL fun _ => ?_
    | with_reducible refine pc_ldR fun _ => ?_
    | with_reducible refine pc_put (eqF.sN (by assumption) (by decide)) fun _ _ => ?_
    | with_reducible refine pc_put (eqF.sL (by assumption) (by decide)) fun _ _ => ?_
    | with_reducible refine pc_put (eqF.sR (by assumption) (by decide)) fun _ _ => ?_
    | with_reducible refine pc_stN (by decide) (by assumption) fun _ _ => ?_
    | with_reducible refine pc_stL (by decide) (by assumption) fun _ _ => ?_
    | with_reducible refine pc_stR (by decide) (by assumption) fun _ _ => ?_
    | with_reducible refine pc_cpN (by decide) (by assumption) fun _ _ => ?_
    | with_reducible refine pc_pure fun _ => ?_
    | exact pc_some (by assumption)
    | exact pc_some (eqF.bX (by assumption))
    | exact pc_some trivial
    | dsimp only
theorem fr_b_X12_findUnlike_80 {m0 : MM} {l0 : Nat} {l2 : Int} {l3 : Int} {mm : MM} (h : eqF [12, 129, 130] m0 mm) : Pc (b_X12_findUnlike_80 l0 l2 l3 mm) (fun z => Sum.elim (fun s => eqF [12, 129, 130] m0 s.2) (fun z => eqF [12, 129, 130] m0 z) z) := by
  unfold b_X12_findUnlike_80
  repeat' first
    | with_reducible exact pc_x0
    | with_reducible exact pc_xt (by assumption)
    | with_reducible exact pc_xr (by assumption)
    | with_reducible exact fr_j_X12_findUnlike_80_125 (by assumption)
    | with_reducible exact fr_j_X12_findUnlike_80_126 (by assumption)
    | with_reducible refine pc_nk fun _ => ?_
    | with_reducible refine pc_if ?_ ?_
    | with_reducible refine pc_ck ?_
    | with_reducible refine pc_cb ?_
    | with_reducible refine pc_dv ?_
    | with_reducible refine pc_let fun _ => ?_
    | with_reducible refine pc_letL fun _ => ?_
    | with_reducible refine pc_ldN fun _ => ?_
    | with_reducible refine pc_ldL fun _ => ?_
    | with_reducible refine pc_ldR fun _ => ?_
    | with_reducible refine pc_put (eqF.sN (by assumption) (by decide)) fun _ _ => ?_
    | with_reducible refine pc_put (eqF.sL (by assumption) (by decide)) fun _ _ => ?_
    | with_reducible refine pc_put (eqF.sR (by assumption) (by decide)) fun _ _ => ?_
    | with_reducible refine pc_stN (by decide) (by assumption) fun _ _ => ?_
    | with_reducible refine pc_stL (by decide) (by assumption) fun _ _ => ?_
    | with_reducible refine pc_stR (by decide) (by assumption) fun _ _ => ?_
    | with_reducible refine pc_cpN (by decide) (by assumption) fun _ _ => ?_
    | with_reducible refine pc_pure fun _ => ?_
    | exact pc_some (by assumption)
    | exact pc_some (eqF.bX (by assumption))
    | exact pc_some trivial
    | dsimp only
theorem fr_j_X12_findUnlike_63_134 {m0 : MM} {m : MM} {l0 : Nat} {l2 : Int} (h : eqF [12, 129, 130] m0 m) : Pc (j_X12_findUnlike_63_134 m l0 l2) (fun z => Sum.elim (fun s => eqF [12, 129, 130] m0 s.2) (fun z => eqF [12, 129, 130] m0 z) z) := by
  unfold j_X12_findUnlike_63_134
  repeat' first
    | with_reducible exact pc_x0
    | with_reducible exact pc_xt (by assumption)
    | with_reducible exact pc_xr (by assumption)
    | with_reducible refine pc_nk fun _ => ?_
    | with_reducible refine pc_if ?_ ?_
    | with_reducible refine pc_ck ?_
    | with_reducible refine pc_cb ?_
    | with_reducible refine pc_dv ?_
    | with_reducible refine pc_let fun _ => ?_
    | with_reducible refine pc_letL fun _ => ?_
    | with_reducible refine pc_ldN fun _ => ?_
    | with_reducible refine pc_ldL fun _ => ?_
    | with_reducible refine pc_ldR fun _ => ?_
    | with_reducible refine pc_put (eqF.sN (by assumption) (by decide)) fun _ _ => ?_
    | with_reducible refine pc_put (eqF.sL (by assumption) (by decide)) fun _ _ => ?_
    | with_reducible refine pc_put (eqF.sR (by assumption) (by decide)) fun _ _ => ?_
    | with_reducible refine pc_stN (by decide) (by assumption) fun _ _ => ?_
    | with_reducible refine pc_stL (by decide) (by assumption) fun _ _ => ?_
    | with_reducible refine pc_stR (by decide) (by assumption) fun _ _ => ?_
    | with_reducible refine pc_cpN (by decide) (by assumption) fun _ _ => ?_
    | with_reducible refine pc_pure fun _ => ?_
    | exact pc_some (by assumption)
    | exact pc_some (eqF.bX (by assumption))
    | exact pc_some trivial
    | dsimp only
theorem fr_b_X12_findUnlike_63 {m0 : MM} {l0 : Nat} {l2 : Int} {mm : MM} (h : eqF [12, 129, 130] m0 mm) : Pc (b_X12_findUnlike_63 l0 l2 mm) (fun z => Sum.elim (fun s => eqF [12, 129, 130] m0 s.2) (fun z => eqF [12, 129, 130] m0 z) z) := by
  unfold b_X12_findUnlike_63
  repeat' first
    | with_reducible exact pc_x0
    | with_reducible exact pc_xt (by assumption)
    | with_reducible exact pc_xr (by assumption)
    | with_reducible exact fr_j_X12_findUnlike_63_134 (by assumption)
    | with_reducible refine pc_nk fun _ => ?_
    | with_reducible refine pc_if ?_ ?_
    | with_reducible refine pc_ck ?_
    | with_reducible refine pc_cb ?_
    | with_reducible refine pc_dv ?_
    | with_reducible refine pc_let fun _ => ?_
    | with_reducible refine pc_letL fun _ => ?_
    | with_reducible refine pc_ldN fun _ => ?_
    | with_reducible refine pc_ldL fun _ => ?_
    | with_reducible refine pc_ldR fun _ => ?_
    | with_reducible refine pc_put (eqF.sN (by assumption) (by decide)) fun _ _ => ?_
    | with_reducible refine pc_put (eqF.sL (by assumption) (by decide)) fun _ _ => ?_
    | with_reducible refine pc_put (eqF.sR (by assumption) (by decide)) fun _ _ => ?_
    | with_reducible refine pc_stN (by decide) (by assumption) fun _ _ => ?_
    | with_reducible refine pc_stL (by decide) (by assumption) fun _ _ => ?_
    | with_reducible refine pc_stR (by decide) (by assumption) fun _ _ => ?_
    | with_reducible refine pc_cpN (by decide) (by assumption) fun _ _ => ?_
    | with_reducible refine pc_lp (fun s => eqF [12, 129, 130] m0 s.2) (fun z => eqF [12, 129, 130] m0 z) (by assumption) (fun s hs => fr_b_X12_findUnlike_80 hs) (fun z hz => ?_)
    | with_reducible refine pc_pure fun _ => ?_
    | exact pc_some (by assumption)
    | exact pc_some (eqF.bX (by assumption))
    | exact pc_some trivial
    | dsimp only
theorem fr_j_X12_findUnlike_0_140 {m0 : MM} {m : MM} (h : eqF [12, 129, 130] m0 m) : Pc (j_X12_findUnlike_0_140 m) (RF [12, 129, 130] m0) := by
  unfold j_X12_findUnlike_0_140
  repeat' first
    | with_reducible exact pc_x0
    | with_reducible exact pc_xt (by assumption)
    | with_reducible exact pc_xr (by assumption)
    | with_reducible refine pc_nk fun _ => ?_
    | with_reducible refine pc_if ?_ ?_
    | with_reducible refine pc_ck ?_
    | with_reducible refine pc_cb ?_
    | with_reducible refine pc_dv ?_
    | with_reducible refine pc_let fun _ => ?_
    | with_reducible refine pc_letL fun _ => ?_
    | with_reducible refine pc_ldN fun _ => ?_
    | with_reducible refine pc_ldL fun _ => ?_
    | with_reducible refine pc_ldR fun _ => ?_
    | with_reducible refine pc_put (eqF.sN (by assumption) (by decide)) fun _ _ => ?_
    | with_reducible refine pc_put (eqF.sL (by assumption) (by decide)) fun _ _ => ?_
    | with_reducible refine pc_put (eqF.sR (by assumption) (by decide)) fun _ _ => ?_
    | with_reducible refine pc_stN (by decide) (by assumption) fun _ _ => ?_
    | with_reducible refine pc_stL (by decide) (by assumption) fun _ _ => ?_
    | with_reducible refine pc_stR (by decide) (by assumption) fun _ _ => ?_
    | with_reducible refine pc_cpN (by decide) (by assumption) fun _ _ => ?_
    | with_reducible refine pc_pure fun _ => ?_
    | exact pc_some (by assumption)
    | exact pc_some (eqF.bX (by assumption))
    | exact pc_some trivial
    | dsimp only
theorem fr_j_X12_findUnlike_0_61 {m0 : MM} {m : MM} {l0 : Nat} (h : eqF [12, 129, 130] m0 m) : Pc (j_X12_findUnlike_0_61 m l0) (RF [12, 129, 130] m0) := by
  unfold j_X12_findUnlike_0_61
  repeat' first
    | with_reducible exact pc_x0
    | with_reducible exact pc_xt (by assumption)
    | with_reducible exact pc_xr (by assumption)
    | with_reducible exact fr_j_X12_findUnlike_0_140 (by assumption)
    | with_reducible refine pc_nk fun _ => ?_
    | with_reducible refine pc_if ?_ ?_
    | with_reducible refine pc_ck ?_
    | with_reducible refine pc_cb ?_
    | with_reducible refine pc_dv ?_
    | with_reducible refine pc_let fun _ => ?_
    | with_reducible refine pc_letL fun _ => ?_
    | with_reducible refine pc_ldN fun _ => ?_
    | with_reducible refine pc_ldL fun _ => ?_
    | with_reducible refine pc_ldR fun _ => ?_
    | with_reducible refine pc_put (eqF.sN (by assumption) (by decide)) fun _ _ => ?_
    | with_reducible refine pc_put (eqF.sL (by assumption) (by decide)) fun _ _ => ?_
    | with_reducible refine pc_put (eqF.sR (by assumption) (by decide)) fun _ _ => ?_
    | with_reducible refine pc_stN (by decide) (by assumption) fun _ _ => ?_
    | with_reducible refine pc_stL (by decide) (by assumption) fun _ _ => ?_
    | with_reducible refine pc_stR (by decide) (by assumption) fun _ _ => ?_
    | with_reducible refine pc_cpN (by decide) (by assumption) fun _ _ => ?_
    | with_reducible refine pc_lp (fun s => eqF [12, 129, 130] m0 s.2) (fun z => eqF [12, 129, 130] m0 z) (by assumption) (fun s hs => fr_b_X12_findUnlike_63 hs) (fun z hz => ?_)
    | with_reducible refine pc_pure fun _ => ?_
    | exact pc_some (by assumption)
    | exact pc_some (eqF.bX (by assumption))
    | exact pc_some trivial
    | dsimp only
theorem fr_f_X12_findUnlike {m0 : MM} {m : MM} {l0 : Nat} {l1 : Int} (h : eqF [12, 129, 130] m0 m) : Pc (f_X12_findUnlike m l0 l1) (RF [12, 129, 130] m0) := by
  unfold f_X12_findUnlike
  repeat' first
    | with_reducible exact pc_x0
    | with_reducible exact pc_xt (by assumption)
    | with_reducible exact pc_xr (by assumption)
    | with_reducible exact fr_j_X12_findUnlike_0_61 (by assumption)
    | with_reducible refine pc_nk fun _ => ?_
    | with_reducible refine pc_if ?_ ?_
    | with_reducible refine pc_ck ?_
    | with_reducible refine pc_cb ?_
    | with_reducible refine pc_dv ?_
    | with_reducible refine pc_let fun _ => ?_
    | with_reducible refine pc_letL fun _ => ?_
    | with_reducible refine pc_ldN fun _ => ?_
    | with_reducible refine pc_ldL fun _ => ?_
    | with_reducible refine pc_ldR fun _ => ?_
    | with_reducible refine pc_put (eqF.sN (by assumption) (by decide)) fun _ _ => ?_
    | with_reducible refine pc_put (eqF.sL (by assumption) (by decide)) fun _ _ => ?_
    | with_reducible refine pc_put (eqF.sR (by assumption) (by decide)) fun _ _ => ?_
    | with_reducible refine pc_stN (by decide) (by assumption) fun _ _ => ?_
    | with_reducible refine pc_stL (by decide) (by assumption) fun _ _ => ?_
    | with_reducible refine pc_stR (by decide) (by assumption) fun _ _ => ?_
    | with_reducible refine pc_cpN (by decide) (by assumption) fun _ _ => ?_
    | with_reducible refine pc_lp (fun s => eqF [12, 129, 130] m0 s.2) (fun z => eqF [12, 129, 130] m0 z) (by assumption) (fun s hs => fr_b_X12_findUnlike_7 hs) (fun z hz => ?_)
    | with_reducible refine pc_pure fun _ => ?_
    | exact pc_some (by assumption)
    | exact pc_some (eqF.bX (by assumption))
    | exact pc_some trivial
    | dsimp only
theorem fr_b_X12_hands_40 {m0 : MM} {l0 : Nat} {l2 : Int} {mm : MM} (h : eqF [12, 129, 130] m0 mm) : Pc (b_X12_hands_40 l0 l2 mm) (fun z => Sum.elim (fun s => eqF [12, 129, 130] m0 s.2) (fun z => eqF [12, 129, 130] m0 z.2) z) := by
  unfold b_X12_hands_40
  repeat' first
    | with_reducible exact pc_x0
    | with_reducible exact pc_xt (by assumption)
    | with_reducible exact pc_xr (by assumption)
    | with_reducible refine pc_nk fun _ => ?_
    | with_reducible refine pc_if ?_ ?_
    | with_reducible refine pc_ck ?_
    | with_reducible refine pc_cb ?_
    | with_reducible refine pc_dv ?_
    | with_reducible refine pc_let fun _ => ?_
    | with_reducible refine pc_letL fun _ => ?_
    | with_reducible refine pc_ldN fun _ => ?_
    | with_reducible refine pc_ldL fun _ => ?_
    | with_reducible refine pc_ldR fun _ => ?_
    | with_reducible refine pc_put (eqF.sN (by assumption) (by decide)) fun _ _ => ?_
    | with_reducible refine pc_put (eqF.sL (by assumption) (by decide)) fun _ _ => ?_
    | with_reducible refine pc_put (eqF.sR (by assumption) (by decide)) fun _ _ => ?_
    | with_reducible refine pc_stN (by decide) (by assumption) fun _ _ => ?_
    | with_reducible refine pc_stL (by decide) (by assumption) fun _ _ => ?_
    | with_reducible refine pc_stR (by decide) (by assumption) fun _ _ => ?_
    | with_reducible refine pc_cpN (by decide) (by assumption) fun _ _ => ?_
    | with_reducible refine pc_bI (fr_f_X12_canPart (m0 := _) eqF.rf) (by decide) (by assumption) (fun _ _ _ => ?_) (fun _ _ _ => ?_)
    | with_reducible refine pc_pure fun _ => ?_
    | exact pc_some (by assumption)
    | exact pc_some (eqF.bX (by assumption))
    | exact pc_some trivial
    | dsimp only
theorem fr_j_X12_hands_0_61 {m0 : MM} {m : MM} {l2 : Int} (h : eqF [12, 129, 130] m0 m) : Pc (j_X12_hands_0_61 m l2) (RF [12, 129, 130] m0) := by
  unfold j_X12_hands_0_61
  repeat' first
    | with_reducible exact pc_x0
    | with_reducible exact pc_xt (by assumption)
    | with_reducible exact pc_xr (by assumption)
    | with_reducible refine pc_nk fun _ => ?_
    | with_reducible refine pc_if ?_ ?_
    | with_reducible refine pc_ck ?_
    | with_reducible refine pc_cb ?_
    | with_reducible refine pc_dv ?_
    | with_reducible refine pc_let fun _ => ?_
    | with_reducible refine pc_letL fun _ => ?_
    | with_reducible refine pc_ldN fun _ => ?_
    | with_reducible refine pc_ldL fun _ => ?_
    | with_reducible refine pc_ldR fun _ => ?_
    | with_reducible refine pc_put (eqF.sN (by assumption) (by decide)) fun _ _ => ?_
    | with_reducible refine pc_put (eqF.sL (by assumption) (by decide)) fun _ _ => ?_
    | with_reducible refine pc_put (eqF.sR (by assumption) (by decide)) fun _ _ => ?_
    | with_reducible refine pc_stN (by decide) (by assumption) fun _ _ => ?_
    | with_reducible refine pc_stL (by decide) (by assumption) fun _ _ => ?_
    | with_reducible refine pc_stR (by decide) (by assumption) fun _ _ => ?_
    | with_reducible refine pc_cpN (by decide) (by assumption) fun _ _ => ?_
    | with_reducible refine pc_pure fun _ => ?_
    | exact pc_some (by assumption)
    | exact pc_some (eqF.bX (by assumption))
    | exact pc_some trivial
    | dsimp only
theorem fr_j_X12_hands_0_39 {m0 : MM} {m : MM} {l0 : Nat} {s0 : Int} (h : eqF [12, 129, 130] m0 m) : Pc (j_X12_hands_0_39 m l0 s0) (RF [12, 129, 130] m0) := by
  unfold j_X12_hands_0_39
  repeat' first
    | with_reducible exact pc_x0
    | with_reducible exact pc_xt (by assumption)
    | with_reducible exact pc_xr (by assumption)
    | with_reducible exact fr_j_X12_hands_0_61 (by assumption)
    | with_reducible refine pc_nk fun _ => ?_
    | with_reducible refine pc_if ?_ ?_
    | with_reducible refine pc_ck ?_
    | with_reducible refine pc_cb ?_
    | with_reducible refine pc_dv ?_
    | with_reducible refine pc_let fun _ => ?_
    | with_reducible refine pc_letL fun _ => ?_
    | with_reducible refine pc_ldN fun _ => ?_
    | with_reducible refine pc_ldL fun _ => ?_
    | with_reducible refine pc_ldR fun _ => ?_
    | with_reducible refine pc_put (eqF.sN (by assumption) (by decide)) fun _ _ => ?_
    | with_reducible refine pc_put (eqF.sL (by assumption) (by decide)) fun _ _ => ?_
    | with_reducible refine pc_put (eqF.sR (by assumption) (by decide)) fun _ _ => ?_
    | with_reducible refine pc_stN (by decide) (by assumption) fun _ _ => ?_
    | with_reducible refine pc_stL (by decide) (by assumption) fun _ _ => ?_
    | with_reducible refine pc_stR (by decide) (by assumption) fun _ _ => ?_
    | with_reducible refine pc_cpN (by decide) (by assumption) fun _ _ => ?_
    | with_reducible refine pc_lp (fun s => eqF [12, 129, 130] m0 s.2) (fun z => eqF [12, 129, 130] m0 z.2) (by assumption) (fun s hs => fr_b_X12_hands_40 hs) (fun z hz => ?_)
    | with_reducible refine pc_pure fun _ => ?_
    | exact pc_some (by assumption)
    | exact pc_some (eqF.bX (by assumption))
    | exact pc_some trivial
    | dsimp only
theorem fr_j_X12_hands_0_14 {m0 : MM} {m : MM} {l0 : Nat} {l1 : Int} {s0 : Nat} {s1 : Int} (h : eqF [12, 129, 130] m0 m) : Pc (j_X12_hands_0_14 m l0 l1 s0 s1) (RF [12, 129, 130] m0) := by
  unfold j_X12_hands_0_14
  repeat' first
    | with_reducible exact pc_x0
    | with_reducible exact pc_xt (by assumption)
    | with_reducible exact pc_xr (by assumption)
    | with_reducible exact fr_j_X12_hands_0_39 (by assumption)
    | with_reducible refine pc_nk fun _ => ?_
    | with_reducible refine pc_if ?_ ?_
    | with_reducible refine pc_ck ?_
    | with_reducible refine pc_cb ?_
    | with_reducible refine pc_dv ?_
    | with_reducible refine pc_let fun _ => ?_
    | with_reducible refine pc_letL fun _ => ?_
    | with_reducible refine pc_ldN fun _ => ?_
    | with_reducible refine pc_ldL fun _ => ?_
    | with_reducible refine pc_ldR fun _ => ?_
    | with_reducible refine pc_put (eqF.sN (by assumption) (by decide)) fun _ _ => ?_
    | with_reducible refine pc_put (eqF.sL (by assumption) (by decide)) fun _ _ => ?_
    | with_reducible refine pc_put (eqF.sR (by assumption) (by decide)) fun _ _ => ?_
    | with_reducible refine pc_stN (by decide) (by assumption) fun _ _ => ?_
    | with_reducible refine pc_stL (by decide) (by assumption) fun _ _ => ?_
    | with_reducible refine pc_stR (by decide) (by assumption) fun _ _ => ?_
    | with_reducible refine pc_cpN (by decide) (by assumption) fun _ _ => ?_
    | with_reducible refine pc_bI (fr_f_X12_holds (m0 := _) eqF.rf) (by decide) (by assumption) (fun _ _ _ => ?_) (fun _ _ _ => ?_)
    | with_reducible refine pc_bV (fr_f_X12_findUnlike (m0 := _) eqF.rf) (by decide) (by assumption) (fun _ _ => ?_) (fun _ _ _ => ?_)
    | with_reducible refine pc_pure fun _ => ?_
    | exact pc_some (by assumption)
    | exact pc_some (eqF.bX (by assumption))
    | exact pc_some trivial
    | dsimp only
theorem fr_f_X12_hands {m0 : MM} {m : MM} {l0 : Nat} {l1 : Int} (h : eqF [12, 129, 130] m0 m) : Pc (f_X12_hands m l0 l1) (RF [12, 129, 130] m0) := by
  unfold f_X12_hands
  repeat' first
    | with_reducible exact pc_x0
    | with_reducible exact pc_xt (by assumption)
    | with_reducible exact pc_xr (by assumption)
    | with_reducible exact fr_j_X12_hands_0_14 (by assumption)
    | with_reducible refine pc_nk fun _ => ?_
    | with_reducible refine pc_if ?_ ?_
    | with_reducible refine pc_ck ?_
    | with_reducible refine pc_cb ?_
    | with_reducible refine pc_dv ?_
    | with_reducible refine pc_let fun _ => ?_
    | with_reducible refine pc_letL fun _ => ?_
    | with_reducible refine pc_ldN fun _ => ?_
    | with_reducible refine pc_ldL fun _ => ?_
    | with_reducible refine pc_ldR fun _ => ?_
    | with_reducible refine pc_put (eqF.sN (by assumption) (by decide)) fun _ _ => ?_
    | with_reducible refine pc_put (eqF.sL (by assumption) (by decide)) fun _ _ => ?_
    | with_reducible refine pc_put (eqF.sR (by assumption) (by decide)) fun _ _ => ?_
    | with_reducible refine pc_stN (by decide) (by assumption) fun _ _ => ?_
    | with_reducible refine pc_stL (by decide) (by assumption) fun _ _ => ?_
    | with_reducible refine pc_stR (by decide) (by assumption) fun _ _ => ?_
    | with_reducible refine pc_cpN (by decide) (by assumption) fun _ _ => ?_
    | with_reducible refine pc_pure fun _ => ?_
    | exact pc_some (by assumption)
    | exact pc_some (eqF.bX (by assumption))
    | exact pc_some trivial
    | dsimp only
theorem fr_f_X12_hour {m0 : MM} {m : MM} {l0 : Nat} (h : eqF [12] m0 m) : Pc (f_X12_hour m l0) (RF [12] m0) := by
  unfold f_X12_hour
  repeat' first
    | with_reducible exact pc_x0
    | with_reducible exact pc_xt (by assumption)
    | with_reducible exact pc_xr (by assumption)
    | with_reducible refine pc_nk fun _ => ?_
    | with_reducible refine pc_if ?_ ?_
    | with_reducible refine pc_ck ?_
    | with_reducible refine pc_cb ?_
    | with_reducible refine pc_dv ?_
    | with_reducible refine pc_let fun _ => ?_
    | with_reducible refine pc_letL fun _ => ?_
    | with_reducible refine pc_ldN fun _ => ?_
    | with_reducible refine pc_ldL fun _ => ?_
    | with_reducible refine pc_ldR fun _ => ?_
    | with_reducible refine pc_put (eqF.sN (by assumption) (by decide)) fun _ _ => ?_
    | with_reducible refine pc_put (eqF.sL (by assumption) (by decide)) fun _ _ => ?_
    | with_reducible refine pc_put (eqF.sR (by assumption) (by decide)) fun _ _ => ?_
    | with_reducible refine pc_stN (by decide) (by assumption) fun _ _ => ?_
    | with_reducible refine pc_stL (by decide) (by assumption) fun _ _ => ?_
    | with_reducible refine pc_stR (by decide) (by assumption) fun _ _ => ?_
    | with_reducible refine pc_cpN (by decide) (by assumption) fun _ _ => ?_
    | with_reducible refine pc_pure fun _ => ?_
    | exact pc_some (by assumption)
    | exact pc_some (eqF.bX (by assumption))
    | exact pc_some trivial
    | dsimp only
theorem fr_j_X12_lay_0_75 {m0 : MM} {m : MM} {l0 : Nat} {l1 : Int} {l2 : Int} {l3 : Int} {s0 : Nat} {s1 : Int} (h : eqF [12, 120] m0 m) : Pc (j_X12_lay_0_75 m l0 l1 l2 l3 s0 s1) (RF [12, 120] m0) := by
  unfold j_X12_lay_0_75
  repeat' first
    | with_reducible exact pc_x0
    | with_reducible exact pc_xt (by assumption)
    | with_reducible exact pc_xr (by assumption)
    | with_reducible refine pc_nk fun _ => ?_
    | with_reducible refine pc_if ?_ ?_
    | with_reducible refine pc_ck ?_
    | with_reducible refine pc_cb ?_
    | with_reducible refine pc_dv ?_
    | with_reducible refine pc_let fun _ => ?_
    | with_reducible refine pc_letL fun _ => ?_
    | with_reducible refine pc_ldN fun _ => ?_
    | with_reducible refine pc_ldL fun _ => ?_
    | with_reducible refine pc_ldR fun _ => ?_
    | with_reducible refine pc_put (eqF.sN (by assumption) (by decide)) fun _ _ => ?_
    | with_reducible refine pc_put (eqF.sL (by assumption) (by decide)) fun _ _ => ?_
    | with_reducible refine pc_put (eqF.sR (by assumption) (by decide)) fun _ _ => ?_
    | with_reducible refine pc_stN (by decide) (by assumption) fun _ _ => ?_
    | with_reducible refine pc_stL (by decide) (by assumption) fun _ _ => ?_
    | with_reducible refine pc_stR (by decide) (by assumption) fun _ _ => ?_
    | with_reducible refine pc_cpN (by decide) (by assumption) fun _ _ => ?_
    | with_reducible refine pc_bI (fr_f_X12_holds (m0 := _) eqF.rf) (by decide) (by assumption) (fun _ _ _ => ?_) (fun _ _ _ => ?_)
    | with_reducible refine pc_pure fun _ => ?_
    | exact pc_some (by assumption)
    | exact pc_some (eqF.bX (by assumption))
    | exact pc_some trivial
    | dsimp only
theorem fr_j_X12_lay_0_29 {m0 : MM} {m : MM} {l0 : Nat} {l1 : Int} {l2 : Int} {l3 : Int} {s0 : Int} (h : eqF [12, 120] m0 m) : Pc (j_X12_lay_0_29 m l0 l1 l2 l3 s0) (RF [12, 120] m0) := by
  unfold j_X12_lay_0_29
  repeat' first
    | with_reducible exact pc_x0
    | with_reducible exact pc_xt (by assumption)
    | with_reducible exact pc_xr (by assumption)
    | with_reducible exact fr_j_X12_lay_0_75 (by assumption)
    | with_reducible refine pc_nk fun _ => ?_
    | with_reducible refine pc_if ?_ ?_
    | with_reducible refine pc_ck ?_
    | with_reducible refine pc_cb ?_
    | with_reducible refine pc_dv ?_
    | with_reducible refine pc_let fun _ => ?_
    | with_reducible refine pc_letL fun _ => ?_
    | with_reducible refine pc_ldN fun _ => ?_
    | with_reducible refine pc_ldL fun _ => ?_
    | with_reducible refine pc_ldR fun _ => ?_
    | with_reducible refine pc_put (eqF.sN (by assumption) (by decide)) fun _ _ => ?_
    | with_reducible refine pc_put (eqF.sL (by assumption) (by decide)) fun _ _ => ?_
    | with_reducible refine pc_put (eqF.sR (by assumption) (by decide)) fun _ _ => ?_
    | with_reducible refine pc_stN (by decide) (by assumption) fun _ _ => ?_
    | with_reducible refine pc_stL (by decide) (by assumption) fun _ _ => ?_
    | with_reducible refine pc_stR (by decide) (by assumption) fun _ _ => ?_
    | with_reducible refine pc_cpN (by decide) (by assumption) fun _ _ => ?_
    | with_reducible refine pc_pure fun _ => ?_
    | exact pc_some (by assumption)
    | exact pc_some (eqF.bX (by assumption))
    | exact pc_some trivial
    | dsimp only
theorem fr_j_X12_lay_0_28 {m0 : MM} {m : MM} {l0 : Nat} {l1 : Int} {l2 : Int} {l3 : Int} (h : eqF [12, 120] m0 m) : Pc (j_X12_lay_0_28 m l0 l1 l2 l3) (RF [12, 120] m0) := by
  unfold j_X12_lay_0_28
  repeat' first
    | with_reducible exact pc_x0
    | with_reducible exact pc_xt (by assumption)
    | with_reducible exact pc_xr (by assumption)
    | with_reducible exact fr_j_X12_lay_0_29 (by assumption)
    | with_reducible refine pc_nk fun _ => ?_
    | with_reducible refine pc_if ?_ ?_
    | with_reducible refine pc_ck ?_
    | with_reducible refine pc_cb ?_
    | with_reducible refine pc_dv ?_
    | with_reducible refine pc_let fun _ => ?_
    | with_reducible refine pc_letL fun _ => ?_
    | with_reducible refine pc_ldN fun _ => ?_
    | with_reducible refine pc_ldL fun _ => ?_
    | with_reducible refine pc_ldR fun _ => ?_
    | with_reducible refine pc_put (eqF.sN (by assumption) (by decide)) fun _ _ => ?_
    | with_reducible refine pc_put (eqF.sL (by assumption) (by decide)) fun _ _ => ?_
    | with_reducible refine pc_put (eqF.sR (by assumption) (by decide)) fun _ _ => ?_
    | with_reducible refine pc_stN (by decide) (by assumption) fun _ _ => ?_
    | with_reducible refine pc_stL (by decide) (by assumption) fun _ _ => ?_
    | with_reducible refine pc_stR (by decide) (by assumption) fun _ _ => ?_
    | with_reducible refine pc_cpN (by decide) (by assumption) fun _ _ => ?_
    | with_reducible refine pc_pure fun _ => ?_
    | exact pc_some (by assumption)
    | exact pc_some (eqF.bX (by assumption))
    | exact pc_some trivial
    | dsimp only
theorem fr_f_X12_lay {m0 : MM} {m : MM} {l0 : Nat} {l1 : Int} {l2 : Int} {l3 : Int} (h : eqF [12, 120] m0 m) : Pc (f_X12_lay m l0 l1 l2 l3) (RF [12, 120] m0) := by
  unfold f_X12_lay
  repeat' first
    | with_reducible exact pc_x0
    | with_reducible exact pc_xt (by assumption)
    | with_reducible exact pc_xr (by assumption)
    | with_reducible exact fr_j_X12_lay_0_28 (by assumption)
    | with_reducible exact fr_j_X12_lay_0_29 (by assumption)
    | with_reducible refine pc_nk fun _ => ?_
    | with_reducible refine pc_if ?_ ?_
    | with_reducible refine pc_ck ?_
    | with_reducible refine pc_cb ?_
    | with_reducible refine pc_dv ?_
    | with_reducible refine pc_let fun _ => ?_
    | with_reducible refine pc_letL fun _ => ?_
    | with_reducible refine pc_ldN fun _ => ?_
    | with_reducible refine pc_ldL fun _ => ?_
    | with_reducible refine pc_ldR fun _ => ?_
    | with_reducible refine pc_put (eqF.sN (by assumption) (by decide)) fun _ _ => ?_
    | with_reducible refine pc_put (eqF.sL (by assumption) (by decide)) fun _ _ => ?_
    | with_reducible refine pc_put (eqF.sR (by assumption) (by decide)) fun _ _ => ?_
    | with_reducible refine pc_stN (by decide) (by assumption) fun _ _ => ?_
    | with_reducible refine pc_stL (by decide) (by assumption) fun _ _ => ?_
    | with_reducible refine pc_stR (by decide) (by assumption) fun _ _ => ?_
    | with_reducible refine pc_cpN (by decide) (by assumption) fun _ _ => ?_
    | with_reducible refine pc_pure fun _ => ?_
    | exact pc_some (by assumption)
    | exact pc_some (eqF.bX (by assumption))
    | exact pc_some trivial
    | dsimp only
theorem fr_j_X12_line_0_33 {m0 : MM} {m : MM} {l0 : Nat} {l1 : Int} {l2 : Int} {l3 : Int} {l4 : Int} {s0 : Nat} {s1 : Int} (h : eqF [12] m0 m) : Pc (j_X12_line_0_33 m l0 l1 l2 l3 l4 s0 s1) (RF [12] m0) := by
  unfold j_X12_line_0_33
  repeat' first
    | with_reducible exact pc_x0
    | with_reducible exact pc_xt (by assumption)
    | with_reducible exact pc_xr (by assumption)
    | with_reducible refine pc_nk fun _ => ?_
    | with_reducible refine pc_if ?_ ?_
    | with_reducible refine pc_ck ?_
    | with_reducible refine pc_cb ?_
    | with_reducible refine pc_dv ?_
    | with_reducible refine pc_let fun _ => ?_
    | with_reducible refine pc_letL fun _ => ?_
    | with_reducible refine pc_ldN fun _ => ?_
    | with_reducible refine pc_ldL fun _ => ?_
    | with_reducible refine pc_ldR fun _ => ?_
    | with_reducible refine pc_put (eqF.sN (by assumption) (by decide)) fun _ _ => ?_
    | with_reducible refine pc_put (eqF.sL (by assumption) (by decide)) fun _ _ => ?_
    | with_reducible refine pc_put (eqF.sR (by assumption) (by decide)) fun _ _ => ?_
    | with_reducible refine pc_stN (by decide) (by assumption) fun _ _ => ?_
    | with_reducible refine pc_stL (by decide) (by assumption) fun _ _ => ?_
    | with_reducible refine pc_stR (by decide) (by assumption) fun _ _ => ?_
    | with_reducible refine pc_cpN (by decide) (by assumption) fun _ _ => ?_
    | with_reducible refine pc_bI (fr_f_X12_holds (m0 := _) eqF.rf) (by decide) (by assumption) (fun _ _ _ => ?_) (fun _ _ _ => ?_)
    | with_reducible refine pc_pure fun _ => ?_
    | exact pc_some (by assumption)
    | exact pc_some (eqF.bX (by assumption))
    | exact pc_some trivial
    | dsimp only
theorem fr_j_X12_line_0_14 {m0 : MM} {m : MM} {l0 : Nat} {l1 : Int} {l2 : Int} {l3 : Int} {l4 : Int} {s0 : Nat} (h : eqF [12] m0 m) : Pc (j_X12_line_0_14 m l0 l1 l2 l3 l4 s0) (RF [12] m0) := by
  unfold j_X12_line_0_14
  repeat' first
    | with_reducible exact pc_x0
    | with_reducible exact pc_xt (by assumption)
    | with_reducible exact pc_xr (by assumption)
    | with_reducible exact fr_j_X12_line_0_33 (by assumption)
    | with_reducible refine pc_nk fun _ => ?_
    | with_reducible refine pc_if ?_ ?_
    | with_reducible refine pc_ck ?_
    | with_reducible refine pc_cb ?_
    | with_reducible refine pc_dv ?_
    | with_reducible refine pc_let fun _ => ?_
    | with_reducible refine pc_letL fun _ => ?_
    | with_reducible refine pc_ldN fun _ => ?_
    | with_reducible refine pc_ldL fun _ => ?_
    | with_reducible refine pc_ldR fun _ => ?_
    | with_reducible refine pc_put (eqF.sN (by assumption) (by decide)) fun _ _ => ?_
    | with_reducible refine pc_put (eqF.sL (by assumption) (by decide)) fun _ _ => ?_
    | with_reducible refine pc_put (eqF.sR (by assumption) (by decide)) fun _ _ => ?_
    | with_reducible refine pc_stN (by decide) (by assumption) fun _ _ => ?_
    | with_reducible refine pc_stL (by decide) (by assumption) fun _ _ => ?_
    | with_reducible refine pc_stR (by decide) (by assumption) fun _ _ => ?_
    | with_reducible refine pc_cpN (by decide) (by assumption) fun _ _ => ?_
    | with_reducible refine pc_pure fun _ => ?_
    | exact pc_some (by assumption)
    | exact pc_some (eqF.bX (by assumption))
    | exact pc_some trivial
    | dsimp only
theorem fr_f_X12_line {m0 : MM} {m : MM} {l0 : Nat} {l1 : Int} {l2 : Int} {l3 : Int} {l4 : Int} (h : eqF [12] m0 m) : Pc (f_X12_line m l0 l1 l2 l3 l4) (RF [12] m0) := by
  unfold f_X12_line
  repeat' first
    | with_reducible exact pc_x0
    | with_reducible exact pc_xt (by assumption)
    | with_reducible exact pc_xr (by assumption)
    | with_reducible exact fr_j_X12_line_0_14 (by assumption)
    | with_reducible exact fr_j_X12_line_0_33 (by assumption)
    | with_reducible refine pc_nk fun _ => ?_
    | with_reducible refine pc_if ?_ ?_
    | with_reducible refine pc_ck ?_
    | with_reducible refine pc_cb ?_
    | with_reducible refine pc_dv ?_
    | with_reducible refine pc_let fun _ => ?_
    | with_reducible refine pc_letL fun _ => ?_
    | with_reducible refine pc_ldN fun _ => ?_
    | with_reducible refine pc_ldL fun _ => ?_
    | with_reducible refine pc_ldR fun _ => ?_
    | with_reducible refine pc_put (eqF.sN (by assumption) (by decide)) fun _ _ => ?_
    | with_reducible refine pc_put (eqF.sL (by assumption) (by decide)) fun _ _ => ?_
    | with_reducible refine pc_put (eqF.sR (by assumption) (by decide)) fun _ _ => ?_
    | with_reducible refine pc_stN (by decide) (by assumption) fun _ _ => ?_
    | with_reducible refine pc_stL (by decide) (by assumption) fun _ _ => ?_
    | with_reducible refine pc_stR (by decide) (by assumption) fun _ _ => ?_
    | with_reducible refine pc_cpN (by decide) (by assumption) fun _ _ => ?_
    | with_reducible refine pc_pure fun _ => ?_
    | exact pc_some (by assumption)
    | exact pc_some (eqF.bX (by assumption))
    | exact pc_some trivial
    | dsimp only
theorem fr_j_X12_lock_0_106 {m0 : MM} {m : MM} {l0 : Nat} {l3 : Int} {l5 : Int} {s0 : Nat} {s1 : Int} (h : eqF [12, 108, 109, 111, 112] m0 m) : Pc (j_X12_lock_0_106 m l0 l3 l5 s0 s1) (RF [12, 108, 109, 111, 112] m0) := by
  unfold j_X12_lock_0_106
  repeat' first
    | with_reducible exact pc_x0
    | with_reducible exact pc_xt (by assumption)
    | with_reducible exact pc_xr (by assumption)
    | with_reducible refine pc_nk fun _ => ?_
    | with_reducible refine pc_if ?_ ?_
    | with_reducible refine pc_ck ?_
    | with_reducible refine pc_cb ?_
    | with_reducible refine pc_dv ?_
    | with_reducible refine pc_let fun _ => ?_
    | with_reducible refine pc_letL fun _ => ?_
    | with_reducible refine pc_ldN fun _ => ?_
    | with_reducible refine pc_ldL fun _ => ?_
    | with_reducible refine pc_ldR fun _ => ?_
    | with_reducible refine pc_put (eqF.sN (by assumption) (by decide)) fun _ _ => ?_
    | with_reducible refine pc_put (eqF.sL (by assumption) (by decide)) fun _ _ => ?_
    | with_reducible refine pc_put (eqF.sR (by assumption) (by decide)) fun _ _ => ?_
    | with_reducible refine pc_stN (by decide) (by assumption) fun _ _ => ?_
    | with_reducible refine pc_stL (by decide) (by assumption) fun _ _ => ?_
    | with_reducible refine pc_stR (by decide) (by assumption) fun _ _ => ?_
    | with_reducible refine pc_cpN (by decide) (by assumption) fun _ _ => ?_
    | with_reducible refine pc_bI (fr_f_X12_holds (m0 := _) eqF.rf) (by decide) (by assumption) (fun _ _ _ => ?_) (fun _ _ _ => ?_)
    | with_reducible refine pc_pure fun _ => ?_
    | exact pc_some (by assumption)
    | exact pc_some (eqF.bX (by assumption))
    | exact pc_some trivial
    | dsimp only
theorem fr_j_X12_lock_0_75 {m0 : MM} {m : MM} {l0 : Nat} {l3 : Int} {l4 : Int} {l5 : Int} {l6 : Int} {s0 : Int} (h : eqF [12, 108, 109, 111, 112] m0 m) : Pc (j_X12_lock_0_75 m l0 l3 l4 l5 l6 s0) (RF [12, 108, 109, 111, 112] m0) := by
  unfold j_X12_lock_0_75
  repeat' first
    | with_reducible exact pc_x0
    | with_reducible exact pc_xt (by assumption)
    | with_reducible exact pc_xr (by assumption)
    | with_reducible exact fr_j_X12_lock_0_106 (by assumption)
    | with_reducible refine pc_nk fun _ => ?_
    | with_reducible refine pc_if ?_ ?_
    | with_reducible refine pc_ck ?_
    | with_reducible refine pc_cb ?_
    | with_reducible refine pc_dv ?_
    | with_reducible refine pc_let fun _ => ?_
    | with_reducible refine pc_letL fun _ => ?_
    | with_reducible refine pc_ldN fun _ => ?_
    | with_reducible refine pc_ldL fun _ => ?_
    | with_reducible refine pc_ldR fun _ => ?_
    | with_reducible refine pc_put (eqF.sN (by assumption) (by decide)) fun _ _ => ?_
    | with_reducible refine pc_put (eqF.sL (by assumption) (by decide)) fun _ _ => ?_
    | with_reducible refine pc_put (eqF.sR (by assumption) (by decide)) fun _ _ => ?_
    | with_reducible refine pc_stN (by decide) (by assumption) fun _ _ => ?_
    | with_reducible refine pc_stL (by decide) (by assumption) fun _ _ => ?_
    | with_reducible refine pc_stR (by decide) (by assumption) fun _ _ => ?_
    | with_reducible refine pc_cpN (by decide) (by assumption) fun _ _ => ?_
    | with_reducible refine pc_pure fun _ => ?_
    | exact pc_some (by assumption)
    | exact pc_some (eqF.bX (by assumption))
    | exact pc_some trivial
    | dsimp only
theorem fr_j_X12_lock_0_74 {m0 : MM} {m : MM} {l0 : Nat} {l3 : Int} {l4 : Int} {l5 : Int} {l6 : Int} (h : eqF [12, 108, 109, 111, 112] m0 m) : Pc (j_X12_lock_0_74 m l0 l3 l4 l5 l6) (RF [12, 108, 109, 111, 112] m0) := by
  unfold j_X12_lock_0_74
  repeat' first
    | with_reducible exact pc_x0
    | with_reducible exact pc_xt (by assumption)
    | with_reducible exact pc_xr (by assumption)
    | with_reducible exact fr_j_X12_lock_0_75 (by assumption)
    | with_reducible refine pc_nk fun _ => ?_
    | with_reducible refine pc_if ?_ ?_
    | with_reducible refine pc_ck ?_
    | with_reducible refine pc_cb ?_
    | with_reducible refine pc_dv ?_
    | with_reducible refine pc_let fun _ => ?_
    | with_reducible refine pc_letL fun _ => ?_
    | with_reducible refine pc_ldN fun _ => ?_
    | with_reducible refine pc_ldL fun _ => ?_
    | with_reducible refine pc_ldR fun _ => ?_
    | with_reducible refine pc_put (eqF.sN (by assumption) (by decide)) fun _ _ => ?_
    | with_reducible refine pc_put (eqF.sL (by assumption) (by decide)) fun _ _ => ?_
    | with_reducible refine pc_put (eqF.sR (by assumption) (by decide)) fun _ _ => ?_
    | with_reducible refine pc_stN (by decide) (by assumption) fun _ _ => ?_
    | with_reducible refine pc_stL (by decide) (by assumption) fun _ _ => ?_
    | with_reducible refine pc_stR (by decide) (by assumption) fun _ _ => ?_
    | with_reducible refine pc_cpN (by decide) (by assumption) fun _ _ => ?_
    | with_reducible refine pc_pure fun _ => ?_
    | exact pc_some (by assumption)
    | exact pc_some (eqF.bX (by assumption))
    | exact pc_some trivial
    | dsimp only
theorem fr_j_X12_lock_0_23 {m0 : MM} {m : MM} {l0 : Nat} {l1 : Int} {l2 : Int} {l3 : Int} {l4 : Int} {s0 : Int} (h : eqF [12, 108, 109, 111, 112] m0 m) : Pc (j_X12_lock_0_23 m l0 l1 l2 l3 l4 s0) (RF [12, 108, 109, 111, 112] m0) := by
  unfold j_X12_lock_0_23
  repeat' first
    | with_reducible exact pc_x0
    | with_reducible exact pc_xt (by assumption)
    | with_reducible exact pc_xr (by assumption)
    | with_reducible exact fr_j_X12_lock_0_74 (by assumption)
    | with_reducible exact fr_j_X12_lock_0_75 (by assumption)
    | with_reducible refine pc_nk fun _ => ?_
    | with_reducible refine pc_if ?_ ?_
    | with_reducible refine pc_ck ?_
    | with_reducible refine pc_cb ?_
    | with_reducible refine pc_dv ?_
    | with_reducible refine pc_let fun _ => ?_
    | with_reducible refine pc_letL fun _ => ?_
    | with_reducible refine pc_ldN fun _ => ?_
    | with_reducible refine pc_ldL fun _ => ?_
    | with_reducible refine pc_ldR fun _ => ?_
    | with_reducible refine pc_put (eqF.sN (by assumption) (by decide)) fun _ _ => ?_
    | with_reducible refine pc_put (eqF.sL (by assumption) (by decide)) fun _ _ => ?_
    | with_reducible refine pc_put (eqF.sR (by assumption) (by decide)) fun _ _ => ?_
    | with_reducible refine pc_stN (by decide) (by assumption) fun _ _ => ?_
    | with_reducible refine pc_stL (by decide) (by assumption) fun _ _ => ?_
    | with_reducible refine pc_stR (by decide) (by assumption) fun _ _ => ?_
    | with_reducible refine pc_cpN (by decide) (by assumption) fun _ _ => ?_
    | with_reducible refine pc_pure fun _ => ?_
    | exact pc_some (by assumption)
    | exact pc_some (eqF.bX (by assumption))
    | exact pc_some trivial
    | dsimp only
theorem fr_f_X12_lock {m0 : MM} {m : MM} {l0 : Nat} {l1 : Int} {l2 : Int} {l3 : Int} (h : eqF [12, 108, 109, 111, 112] m0 m) : Pc (f_X12_lock m l0 l1 l2 l3) (RF [12, 108, 109, 111, 112] m0) := by
  unfold f_X12_lock
  repeat' first
    | with_reducible exact pc_x0
    | with_reducible exact pc_xt (by assumption)
    | with_reducible exact pc_xr (by assumption)
    | with_reducible exact fr_j_X12_lock_0_23 (by assumption)
    | with_reducible refine pc_nk fun _ => ?_
    | with_reducible refine pc_if ?_ ?_
    | with_reducible refine pc_ck ?_
    | with_reducible refine pc_cb ?_
    | with_reducible refine pc_dv ?_
    | with_reducible refine pc_let fun _ => ?_
    | with_reducible refine pc_letL fun _ => ?_
    | with_reducible refine pc_ldN fun _ => ?_
    | with_reducible refine pc_ldL fun _ => ?_
    | with_reducible refine pc_ldR fun _ => ?_
    | with_reducible refine pc_put (eqF.sN (by assumption) (by decide)) fun _ _ => ?_
    | with_reducible refine pc_put (eqF.sL (by assumption) (by decide)) fun _ _ => ?_
    | with_reducible refine pc_put (eqF.sR (by assumption) (by decide)) fun _ _ => ?_
    | with_reducible refine pc_stN (by decide) (by assumption) fun _ _ => ?_
    | with_reducible refine pc_stL (by decide) (by assumption) fun _ _ => ?_
    | with_reducible refine pc_stR (by decide) (by assumption) fun _ _ => ?_
    | with_reducible refine pc_cpN (by decide) (by assumption) fun _ _ => ?_
    | with_reducible refine pc_pure fun _ => ?_
    | exact pc_some (by assumption)
    | exact pc_some (eqF.bX (by assumption))
    | exact pc_some trivial
    | dsimp only
theorem fr_j_X12_madeUp_0_165 {m0 : MM} {m : MM} {l3 : Int} (h : eqF [12] m0 m) : Pc (j_X12_madeUp_0_165 m l3) (RF [12] m0) := by
  unfold j_X12_madeUp_0_165
  repeat' first
    | with_reducible exact pc_x0
    | with_reducible exact pc_xt (by assumption)
    | with_reducible exact pc_xr (by assumption)
    | with_reducible refine pc_nk fun _ => ?_
    | with_reducible refine pc_if ?_ ?_
    | with_reducible refine pc_ck ?_
    | with_reducible refine pc_cb ?_
    | with_reducible refine pc_dv ?_
    | with_reducible refine pc_let fun _ => ?_
    | with_reducible refine pc_letL fun _ => ?_
    | with_reducible refine pc_ldN fun _ => ?_
    | with_reducible refine pc_ldL fun _ => ?_
    | with_reducible refine pc_ldR fun _ => ?_
    | with_reducible refine pc_put (eqF.sN (by assumption) (by decide)) fun _ _ => ?_
    | with_reducible refine pc_put (eqF.sL (by assumption) (by decide)) fun _ _ => ?_
    | with_reducible refine pc_put (eqF.sR (by assumption) (by decide)) fun _ _ => ?_
    | with_reducible refine pc_stN (by decide) (by assumption) fun _ _ => ?_
    | with_reducible refine pc_stL (by decide) (by assumption) fun _ _ => ?_
    | with_reducible refine pc_stR (by decide) (by assumption) fun _ _ => ?_
    | with_reducible refine pc_cpN (by decide) (by assumption) fun _ _ => ?_
    | with_reducible refine pc_pure fun _ => ?_
    | exact pc_some (by assumption)
    | exact pc_some (eqF.bX (by assumption))
    | exact pc_some trivial
    | dsimp only
theorem fr_j_X12_madeUp_0_28 {m0 : MM} {m : MM} {l0 : Nat} {l1 : Int} {l2 : Int} {s0 : Nat} {s1 : Int} (h : eqF [12] m0 m) : Pc (j_X12_madeUp_0_28 m l0 l1 l2 s0 s1) (RF [12] m0) := by
  unfold j_X12_madeUp_0_28
  repeat' first
    | with_reducible exact pc_x0
    | with_reducible exact pc_xt (by assumption)
    | with_reducible exact pc_xr (by assumption)
    | with_reducible exact fr_j_X12_madeUp_0_165 (by assumption)
    | with_reducible refine pc_nk fun _ => ?_
    | with_reducible refine pc_if ?_ ?_
    | with_reducible refine pc_ck ?_
    | with_reducible refine pc_cb ?_
    | with_reducible refine pc_dv ?_
    | with_reducible refine pc_let fun _ => ?_
    | with_reducible refine pc_letL fun _ => ?_
    | with_reducible refine pc_ldN fun _ => ?_
    | with_reducible refine pc_ldL fun _ => ?_
    | with_reducible refine pc_ldR fun _ => ?_
    | with_reducible refine pc_put (eqF.sN (by assumption) (by decide)) fun _ _ => ?_
    | with_reducible refine pc_put (eqF.sL (by assumption) (by decide)) fun _ _ => ?_
    | with_reducible refine pc_put (eqF.sR (by assumption) (by decide)) fun _ _ => ?_
    | with_reducible refine pc_stN (by decide) (by assumption) fun _ _ => ?_
    | with_reducible refine pc_stL (by decide) (by assumption) fun _ _ => ?_
    | with_reducible refine pc_stR (by decide) (by assumption) fun _ _ => ?_
    | with_reducible refine pc_cpN (by decide) (by assumption) fun _ _ => ?_
    | with_reducible refine pc_bI (fr_f_X12_holds (m0 := _) eqF.rf) (by decide) (by assumption) (fun _ _ _ => ?_) (fun _ _ _ => ?_)
    | with_reducible refine pc_pure fun _ => ?_
    | exact pc_some (by assumption)
    | exact pc_some (eqF.bX (by assumption))
    | exact pc_some trivial
    | dsimp only
theorem fr_f_X12_madeUp {m0 : MM} {m : MM} {l0 : Nat} {l1 : Int} {l2 : Int} (h : eqF [12] m0 m) : Pc (f_X12_madeUp m l0 l1 l2) (RF [12] m0) := by
  unfold f_X12_madeUp
  repeat' first
    | with_reducible exact pc_x0
    | with_reducible exact pc_xt (by assumption)
    | with_reducible exact pc_xr (by assumption)
    | with_reducible exact fr_j_X12_madeUp_0_28 (by assumption)
    | with_reducible refine pc_nk fun _ => ?_
    | with_reducible refine pc_if ?_ ?_
    | with_reducible refine pc_ck ?_
    | with_reducible refine pc_cb ?_
    | with_reducible refine pc_dv ?_
    | with_reducible refine pc_let fun _ => ?_
    | with_reducible refine pc_letL fun _ => ?_
    | with_reducible refine pc_ldN fun _ => ?_
    | with_reducible refine pc_ldL fun _ => ?_
    | with_reducible refine pc_ldR fun _ => ?_
    | with_reducible refine pc_put (eqF.sN (by assumption) (by decide)) fun _ _ => ?_
    | with_reducible refine pc_put (eqF.sL (by assumption) (by decide)) fun _ _ => ?_
    | with_reducible refine pc_put (eqF.sR (by assumption) (by decide)) fun _ _ => ?_
    | with_reducible refine pc_stN (by decide) (by assumption) fun _ _ => ?_
    | with_reducible refine pc_stL (by decide) (by assumption) fun _ _ => ?_
    | with_reducible refine pc_stR (by decide) (by assumption) fun _ _ => ?_
    | with_reducible refine pc_cpN (by decide) (by assumption) fun _ _ => ?_
    | with_reducible refine pc_pure fun _ => ?_
    | exact pc_some (by assumption)
    | exact pc_some (eqF.bX (by assumption))
    | exact pc_some trivial
    | dsimp only
theorem fr_j_X12_mark_0_49 {m0 : MM} {m : MM} {l0 : Nat} {l1 : Int} {l2 : Int} {l3 : Int} {s0 : Nat} {s1 : Int} (h : eqF [12] m0 m) : Pc (j_X12_mark_0_49 m l0 l1 l2 l3 s0 s1) (RF [12] m0) := by
  unfold j_X12_mark_0_49
  repeat' first
    | with_reducible exact pc_x0
    | with_reducible exact pc_xt (by assumption)
    | with_reducible exact pc_xr (by assumption)
    | with_reducible refine pc_nk fun _ => ?_
    | with_reducible refine pc_if ?_ ?_
    | with_reducible refine pc_ck ?_
    | with_reducible refine pc_cb ?_
    | with_reducible refine pc_dv ?_
    | with_reducible refine pc_let fun _ => ?_
    | with_reducible refine pc_letL fun _ => ?_
    | with_reducible refine pc_ldN fun _ => ?_
    | with_reducible refine pc_ldL fun _ => ?_
    | with_reducible refine pc_ldR fun _ => ?_
    | with_reducible refine pc_put (eqF.sN (by assumption) (by decide)) fun _ _ => ?_
    | with_reducible refine pc_put (eqF.sL (by assumption) (by decide)) fun _ _ => ?_
    | with_reducible refine pc_put (eqF.sR (by assumption) (by decide)) fun _ _ => ?_
    | with_reducible refine pc_stN (by decide) (by assumption) fun _ _ => ?_
    | with_reducible refine pc_stL (by decide) (by assumption) fun _ _ => ?_
    | with_reducible refine pc_stR (by decide) (by assumption) fun _ _ => ?_
    | with_reducible refine pc_cpN (by decide) (by assumption) fun _ _ => ?_
    | with_reducible refine pc_bI (fr_f_X12_holds (m0 := _) eqF.rf) (by decide) (by assumption) (fun _ _ _ => ?_) (fun _ _ _ => ?_)
    | with_reducible refine pc_pure fun _ => ?_
    | exact pc_some (by assumption)
    | exact pc_some (eqF.bX (by assumption))
    | exact pc_some trivial
    | dsimp only
theorem fr_j_X12_mark_0_23 {m0 : MM} {m : MM} {l0 : Nat} {l1 : Int} {l2 : Int} {l3 : Int} {s0 : Int} (h : eqF [12] m0 m) : Pc (j_X12_mark_0_23 m l0 l1 l2 l3 s0) (RF [12] m0) := by
  unfold j_X12_mark_0_23
  repeat' first
    | with_reducible exact pc_x0
    | with_reducible exact pc_xt (by assumption)
    | with_reducible exact pc_xr (by assumption)
    | with_reducible exact fr_j_X12_mark_0_49 (by assumption)
    | with_reducible refine pc_nk fun _ => ?_
    | with_reducible refine pc_if ?_ ?_
    | with_reducible refine pc_ck ?_
    | with_reducible refine pc_cb ?_
    | with_reducible refine pc_dv ?_
    | with_reducible refine pc_let fun _ => ?_
    | with_reducible refine pc_letL fun _ => ?_
    | with_reducible refine pc_ldN fun _ => ?_
    | with_reducible refine pc_ldL fun _ => ?_
    | with_reducible refine pc_ldR fun _ => ?_
    | with_reducible refine pc_put (eqF.sN (by assumption) (by decide)) fun _ _ => ?_
    | with_reducible refine pc_put (eqF.sL (by assumption) (by decide)) fun _ _ => ?_
    | with_reducible refine pc_put (eqF.sR (by assumption) (by decide)) fun _ _ => ?_
    | with_reducible refine pc_stN (by decide) (by assumption) fun _ _ => ?_
    | with_reducible refine pc_stL (by decide) (by assumption) fun _ _ => ?_
    | with_reducible refine pc_stR (by decide) (by assumption) fun _ _ => ?_
    | with_reducible refine pc_cpN (by decide) (by assumption) fun _ _ => ?_
    | with_reducible refine pc_pure fun _ => ?_
    | exact pc_some (by assumption)
    | exact pc_some (eqF.bX (by assumption))
    | exact pc_some trivial
    | dsimp only
theorem fr_j_X12_mark_0_22 {m0 : MM} {m : MM} {l0 : Nat} {l1 : Int} {l2 : Int} {l3 : Int} (h : eqF [12] m0 m) : Pc (j_X12_mark_0_22 m l0 l1 l2 l3) (RF [12] m0) := by
  unfold j_X12_mark_0_22
  repeat' first
    | with_reducible exact pc_x0
    | with_reducible exact pc_xt (by assumption)
    | with_reducible exact pc_xr (by assumption)
    | with_reducible exact fr_j_X12_mark_0_23 (by assumption)
    | with_reducible refine pc_nk fun _ => ?_
    | with_reducible refine pc_if ?_ ?_
    | with_reducible refine pc_ck ?_
    | with_reducible refine pc_cb ?_
    | with_reducible refine pc_dv ?_
    | with_reducible refine pc_let fun _ => ?_
    | with_reducible refine pc_letL fun _ => ?_
    | with_reducible refine pc_ldN fun _ => ?_
    | with_reducible refine pc_ldL fun _ => ?_
    | with_reducible refine pc_ldR fun _ => ?_
    | with_reducible refine pc_put (eqF.sN (by assumption) (by decide)) fun _ _ => ?_
    | with_reducible refine pc_put (eqF.sL (by assumption) (by decide)) fun _ _ => ?_
    | with_reducible refine pc_put (eqF.sR (by assumption) (by decide)) fun _ _ => ?_
    | with_reducible refine pc_stN (by decide) (by assumption) fun _ _ => ?_
    | with_reducible refine pc_stL (by decide) (by assumption) fun _ _ => ?_
    | with_reducible refine pc_stR (by decide) (by assumption) fun _ _ => ?_
    | with_reducible refine pc_cpN (by decide) (by assumption) fun _ _ => ?_
    | with_reducible refine pc_pure fun _ => ?_
    | exact pc_some (by assumption)
    | exact pc_some (eqF.bX (by assumption))
    | exact pc_some trivial
    | dsimp only
theorem fr_f_X12_mark {m0 : MM} {m : MM} {l0 : Nat} {l1 : Int} {l2 : Int} {l3 : Int} (h : eqF [12] m0 m) : Pc (f_X12_mark m l0 l1 l2 l3) (RF [12] m0) := by
  unfold f_X12_mark
  repeat' first
    | with_reducible exact pc_x0
    | with_reducible exact pc_xt (by assumption)
    | with_reducible exact pc_xr (by assumption)
    | with_reducible exact fr_j_X12_mark_0_22 (by assumption)
    | with_reducible exact fr_j_X12_mark_0_23 (by assumption)
    | with_reducible refine pc_nk fun _ => ?_
    | with_reducible refine pc_if ?_ ?_
    | with_reducible refine pc_ck ?_
    | with_reducible refine pc_cb ?_
    | with_reducible refine pc_dv ?_
    | with_reducible refine pc_let fun _ => ?_
    | with_reducible refine pc_letL fun _ => ?_
    | with_reducible refine pc_ldN fun _ => ?_
    | with_reducible refine pc_ldL fun _ => ?_
    | with_reducible refine pc_ldR fun _ => ?_
    | with_reducible refine pc_put (eqF.sN (by assumption) (by decide)) fun _ _ => ?_
    | with_reducible refine pc_put (eqF.sL (by assumption) (by decide)) fun _ _ => ?_
    | with_reducible refine pc_put (eqF.sR (by assumption) (by decide)) fun _ _ => ?_
    | with_reducible refine pc_stN (by decide) (by assumption) fun _ _ => ?_
    | with_reducible refine pc_stL (by decide) (by assumption) fun _ _ => ?_
    | with_reducible refine pc_stR (by decide) (by assumption) fun _ _ => ?_
    | with_reducible refine pc_cpN (by decide) (by assumption) fun _ _ => ?_
    | with_reducible refine pc_pure fun _ => ?_
    | exact pc_some (by assumption)
    | exact pc_some (eqF.bX (by assumption))
    | exact pc_some trivial
    | dsimp only
theorem fr_j_X12_men_0_28 {m0 : MM} {m : MM} {l0 : Nat} {l1 : Int} {l2 : Int} {s0 : Nat} {s1 : Int} (h : eqF [12, 121] m0 m) : Pc (j_X12_men_0_28 m l0 l1 l2 s0 s1) (RF [12, 121] m0) := by
  unfold j_X12_men_0_28
  repeat' first
    | with_reducible exact pc_x0
    | with_reducible exact pc_xt (by assumption)
    | with_reducible exact pc_xr (by assumption)
    | with_reducible refine pc_nk fun _ => ?_
    | with_reducible refine pc_if ?_ ?_
    | with_reducible refine pc_ck ?_
    | with_reducible refine pc_cb ?_
    | with_reducible refine pc_dv ?_
    | with_reducible refine pc_let fun _ => ?_
    | with_reducible refine pc_letL fun _ => ?_
    | with_reducible refine pc_ldN fun _ => ?_
    | with_reducible refine pc_ldL fun _ => ?_
    | with_reducible refine pc_ldR fun _ => ?_
    | with_reducible refine pc_put (eqF.sN (by assumption) (by decide)) fun _ _ => ?_
    | with_reducible refine pc_put (eqF.sL (by assumption) (by decide)) fun _ _ => ?_
    | with_reducible refine pc_put (eqF.sR (by assumption) (by decide)) fun _ _ => ?_
    | with_reducible refine pc_stN (by decide) (by assumption) fun _ _ => ?_
    | with_reducible refine pc_stL (by decide) (by assumption) fun _ _ => ?_
    | with_reducible refine pc_stR (by decide) (by assumption) fun _ _ => ?_
    | with_reducible refine pc_cpN (by decide) (by assumption) fun _ _ => ?_
    | with_reducible refine pc_bI (fr_f_X12_holds (m0 := _) eqF.rf) (by decide) (by assumption) (fun _ _ _ => ?_) (fun _ _ _ => ?_)
    | with_reducible refine pc_pure fun _ => ?_
    | exact pc_some (by assumption)
    | exact pc_some (eqF.bX (by assumption))
    | exact pc_some trivial
    | dsimp only
theorem fr_f_X12_men {m0 : MM} {m : MM} {l0 : Nat} {l1 : Int} {l2 : Int} (h : eqF [12, 121] m0 m) : Pc (f_X12_men m l0 l1 l2) (RF [12, 121] m0) := by
  unfold f_X12_men
  repeat' first
    | with_reducible exact pc_x0
    | with_reducible exact pc_xt (by assumption)
    | with_reducible exact pc_xr (by assumption)
    | with_reducible exact fr_j_X12_men_0_28 (by assumption)
    | with_reducible refine pc_nk fun _ => ?_
    | with_reducible refine pc_if ?_ ?_
    | with_reducible refine pc_ck ?_
    | with_reducible refine pc_cb ?_
    | with_reducible refine pc_dv ?_
    | with_reducible refine pc_let fun _ => ?_
    | with_reducible refine pc_letL fun _ => ?_
    | with_reducible refine pc_ldN fun _ => ?_
    | with_reducible refine pc_ldL fun _ => ?_
    | with_reducible refine pc_ldR fun _ => ?_
    | with_reducible refine pc_put (eqF.sN (by assumption) (by decide)) fun _ _ => ?_
    | with_reducible refine pc_put (eqF.sL (by assumption) (by decide)) fun _ _ => ?_
    | with_reducible refine pc_put (eqF.sR (by assumption) (by decide)) fun _ _ => ?_
    | with_reducible refine pc_stN (by decide) (by assumption) fun _ _ => ?_
    | with_reducible refine pc_stL (by decide) (by assumption) fun _ _ => ?_
    | with_reducible refine pc_stR (by decide) (by assumption) fun _ _ => ?_
    | with_reducible refine pc_cpN (by decide) (by assumption) fun _ _ => ?_
    | with_reducible refine pc_pure fun _ => ?_
    | exact pc_some (by assumption)
    | exact pc_some (eqF.bX (by assumption))
    | exact pc_some trivial
    | dsimp only
theorem fr_j_X12_ordersOf_40_93 {m0 : MM} {m : MM} {l0 : Nat} {l2 : Int} {l3 : Int} {l4 : Int} {s0 : Nat} {s1 : Int} {s2 : Int} {s3 : Int} (h : eqF [127, 128] m0 m) : Pc (j_X12_ordersOf_40_93 m l0 l2 l3 l4 s0 s1 s2 s3) (fun z => Sum.elim (fun s => eqF [127, 128] m0 s.2) (fun z => eqF [127, 128] m0 z) z) := by
  unfold j_X12_ordersOf_40_93
  repeat' first
    | with_reducible exact pc_x0
    | with_reducible exact pc_xt (by assumption)
    | with_reducible exact pc_xr (by assumption)
    | with_reducible refine pc_nk fun _ => ?_
    | with_reducible refine pc_if ?_ ?_
    | with_reducible refine pc_ck ?_
    | with_reducible refine pc_cb ?_
    | with_reducible refine pc_dv ?_
    | with_reducible refine pc_let fun _ => ?_
    | with_reducible refine pc_letL fun _ => ?_
    | with_reducible refine pc_ldN fun _ => ?_
    | with_reducible refine pc_ldL fun _ => ?_
    | with_reducible refine pc_ldR fun _ => ?_
    | with_reducible refine pc_put (eqF.sN (by assumption) (by decide)) fun _ _ => ?_
    | with_reducible refine pc_put (eqF.sL (by assumption) (by decide)) fun _ _ => ?_
    | with_reducible refine pc_put (eqF.sR (by assumption) (by decide)) fun _ _ => ?_
    | with_reducible refine pc_stN (by decide) (by assumption) fun _ _ => ?_
    | with_reducible refine pc_stL (by decide) (by assumption) fun _ _ => ?_
    | with_reducible refine pc_stR (by decide) (by assumption) fun _ _ => ?_
    | with_reducible refine pc_cpN (by decide) (by assumption) fun _ _ => ?_
    | with_reducible refine pc_pure fun _ => ?_
    | exact pc_some (by assumption)
    | exact pc_some (eqF.bX (by assumption))
    | exact pc_some trivial
    | dsimp only
theorem fr_j_X12_ordersOf_40_92 {m0 : MM} {m : MM} {l0 : Nat} {l2 : Int} {l3 : Int} {l4 : Int} {s0 : Nat} {s1 : Int} {s2 : Int} (h : eqF [127, 128] m0 m) : Pc (j_X12_ordersOf_40_92 m l0 l2 l3 l4 s0 s1 s2) (fun z => Sum.elim (fun s => eqF [127, 128] m0 s.2) (fun z => eqF [127, 128] m0 z) z) := by
  unfold j_X12_ordersOf_40_92
  repeat' first
    | with_reducible exact pc_x0
    | with_reducible exact pc_xt (by assumption)
    | with_reducible exact pc_xr (by assumption)
    | with_reducible exact fr_j_X12_ordersOf_40_93 (by assumption)
    | with_reducible refine pc_nk fun _ => ?_
    | with_reducible refine pc_if ?_ ?_
    | with_reducible refine pc_ck ?_
    | with_reducible refine pc_cb ?_
    | with_reducible refine pc_dv ?_
    | with_reducible refine pc_let fun _ => ?_
    | with_reducible refine pc_letL fun _ => ?_
    | with_reducible refine pc_ldN fun _ => ?_
    | with_reducible refine pc_ldL fun _ => ?_
    | with_reducible refine pc_ldR fun _ => ?_
    | with_reducible refine pc_put (eqF.sN (by assumption) (by decide)) fun _ _ => ?_
    | with_reducible refine pc_put (eqF.sL (by assumption) (by decide)) fun _ _ => ?_
    | with_reducible refine pc_put (eqF.sR (by assumption) (by decide)) fun _ _ => ?_
    | with_reducible refine pc_stN (by decide) (by assumption) fun _ _ => ?_
    | with_reducible refine pc_stL (by decide) (by assumption) fun _ _ => ?_
    | with_reducible refine pc_stR (by decide) (by assumption) fun _ _ => ?_
    | with_reducible refine pc_cpN (by decide) (by assumption) fun _ _ => ?_
    | with_reducible refine pc_pure fun _ => ?_
    | exact pc_some (by assumption)
    | exact pc_some (eqF.bX (by assumption))
    | exact pc_some trivial
    | dsimp only
theorem fr_b_X12_ordersOf_40 {m0 : MM} {l0 : Nat} {l2 : Int} {l3 : Int} {l4 : Int} {mm : MM} (h : eqF [127, 128] m0 mm) : Pc (b_X12_ordersOf_40 l0 l2 l3 l4 mm) (fun z => Sum.elim (fun s => eqF [127, 128] m0 s.2) (fun z => eqF [127, 128] m0 z) z) := by
  unfold b_X12_ordersOf_40
  repeat' first
    | with_reducible exact pc_x0
    | with_reducible exact pc_xt (by assumption)
    | with_reducible exact pc_xr (by assumption)
    | with_reducible exact fr_j_X12_ordersOf_40_92 (by assumption)
    | with_reducible exact fr_j_X12_ordersOf_40_93 (by assumption)
    | with_reducible refine pc_nk fun _ => ?_
    | with_reducible refine pc_if ?_ ?_
    | with_reducible refine pc_ck ?_
    | with_reducible refine pc_cb ?_
    | with_reducible refine pc_dv ?_
    | with_reducible refine pc_let fun _ => ?_
    | with_reducible refine pc_letL fun _ => ?_
    | with_reducible refine pc_ldN fun _ => ?_
    | with_reducible refine pc_ldL fun _ => ?_
    | with_reducible refine pc_ldR fun _ => ?_
    | with_reducible refine pc_put (eqF.sN (by assumption) (by decide)) fun _ _ => ?_
    | with_reducible refine pc_put (eqF.sL (by assumption) (by decide)) fun _ _ => ?_
    | with_reducible refine pc_put (eqF.sR (by assumption) (by decide)) fun _ _ => ?_
    | with_reducible refine pc_stN (by decide) (by assumption) fun _ _ => ?_
    | with_reducible refine pc_stL (by decide) (by assumption) fun _ _ => ?_
    | with_reducible refine pc_stR (by decide) (by assumption) fun _ _ => ?_
    | with_reducible refine pc_cpN (by decide) (by assumption) fun _ _ => ?_
    | with_reducible refine pc_pure fun _ => ?_
    | exact pc_some (by assumption)
    | exact pc_some (eqF.bX (by assumption))
    | exact pc_some trivial
    | dsimp only
theorem fr_j_X12_ordersOf_23_101 {m0 : MM} {m : MM} {l0 : Nat} {l2 : Int} {l3 : Int} (h : eqF [127, 128] m0 m) : Pc (j_X12_ordersOf_23_101 m l0 l2 l3) (fun z => Sum.elim (fun s => eqF [127, 128] m0 s.2) (fun z => eqF [127, 128] m0 z) z) := by
  unfold j_X12_ordersOf_23_101
  repeat' first
    | with_reducible exact pc_x0
    | with_reducible exact pc_xt (by assumption)
    | with_reducible exact pc_xr (by assumption)
    | with_reducible refine pc_nk fun _ => ?_
    | with_reducible refine pc_if ?_ ?_
    | with_reducible refine pc_ck ?_
    | with_reducible refine pc_cb ?_
    | with_reducible refine pc_dv ?_
    | with_reducible refine pc_let fun _ => ?_
    | with_reducible refine pc_letL fun _ => ?_
    | with_reducible refine pc_ldN fun _ => ?_
    | with_reducible refine pc_ldL fun _ => ?_
    | with_reducible refine pc_ldR fun _ => ?_
    | with_reducible refine pc_put (eqF.sN (by assumption) (by decide)) fun _ _ => ?_
    | with_reducible refine pc_put (eqF.sL (by assumption) (by decide)) fun _ _ => ?_
    | with_reducible refine pc_put (eqF.sR (by assumption) (by decide)) fun _ _ => ?_
    | with_reducible refine pc_stN (by decide) (by assumption) fun _ _ => ?_
    | with_reducible refine pc_stL (by decide) (by assumption) fun _ _ => ?_
    | with_reducible refine pc_stR (by decide) (by assumption) fun _ _ => ?_
    | with_reducible refine pc_cpN (by decide) (by assumption) fun _ _ => ?_
    | with_reducible refine pc_pure fun _ => ?_
    | exact pc_some (by assumption)
    | exact pc_some (eqF.bX (by assumption))
    | exact pc_some trivial
    | dsimp only
theorem fr_b_X12_ordersOf_23 {m0 : MM} {l0 : Nat} {l2 : Int} {l3 : Int} {mm : MM} (h : eqF [127, 128] m0 mm) : Pc (b_X12_ordersOf_23 l0 l2 l3 mm) (fun z => Sum.elim (fun s => eqF [127, 128] m0 s.2) (fun z => eqF [127, 128] m0 z) z) := by
  unfold b_X12_ordersOf_23
  repeat' first
    | with_reducible exact pc_x0
    | with_reducible exact pc_xt (by assumption)
    | with_reducible exact pc_xr (by assumption)
    | with_reducible exact fr_j_X12_ordersOf_23_101 (by assumption)
    | with_reducible refine pc_nk fun _ => ?_
    | with_reducible refine pc_if ?_ ?_
    | with_reducible refine pc_ck ?_
    | with_reducible refine pc_cb ?_
    | with_reducible refine pc_dv ?_
    | with_reducible refine pc_let fun _ => ?_
    | with_reducible refine pc_letL fun _ => ?_
    | with_reducible refine pc_ldN fun _ => ?_
    | with_reducible refine pc_ldL fun _ => ?_
    | with_reducible refine pc_ldR fun _ => ?_
    | with_reducible refine pc_put (eqF.sN (by assumption) (by decide)) fun _ _ => ?_
    | with_reducible refine pc_put (eqF.sL (by assumption) (by decide)) fun _ _ => ?_
    | with_reducible refine pc_put (eqF.sR (by assumption) (by decide)) fun _ _ => ?_
    | with_reducible refine pc_stN (by decide) (by assumption) fun _ _ => ?_
    | with_reducible refine pc_stL (by decide) (by assumption) fun _ _ => ?_
    | with_reducible refine pc_stR (by decide) (by assumption) fun _ _ => ?_
    | with_reducible refine pc_cpN (by decide) (by assumption) fun _ _ => ?_
    | with_reducible refine pc_lp (fun s => eqF [127, 128] m0 s.2) (fun z => eqF [127, 128] m0 z) (by assumption) (fun s hs => fr_b_X12_ordersOf_40 hs) (fun z hz => ?_)
    | with_reducible refine pc_pure fun _ => ?_
    | exact pc_some (by assumption)
    | exact pc_some (eqF.bX (by assumption))
    | exact pc_some trivial
    | dsimp only
theorem fr_j_X12_ordersOf_0_107 {m0 : MM} {m : MM} {l0 : Nat} {l2 : Int} (h : eqF [127, 128] m0 m) : Pc (j_X12_ordersOf_0_107 m l0 l2) (RF [127, 128] m0) := by
  unfold j_X12_ordersOf_0_107
  repeat' first
    | with_reducible exact pc_x0
    | with_reducible exact pc_xt (by assumption)
    | with_reducible exact pc_xr (by assumption)
    | with_reducible refine pc_nk fun _ => ?_
    | with_reducible refine pc_if ?_ ?_
    | with_reducible refine pc_ck ?_
    | with_reducible refine pc_cb ?_
    | with_reducible refine pc_dv ?_
    | with_reducible refine pc_let fun _ => ?_
    | with_reducible refine pc_letL fun _ => ?_
    | with_reducible refine pc_ldN fun _ => ?_
    | with_reducible refine pc_ldL fun _ => ?_
    | with_reducible refine pc_ldR fun _ => ?_
    | with_reducible refine pc_put (eqF.sN (by assumption) (by decide)) fun _ _ => ?_
    | with_reducible refine pc_put (eqF.sL (by assumption) (by decide)) fun _ _ => ?_
    | with_reducible refine pc_put (eqF.sR (by assumption) (by decide)) fun _ _ => ?_
    | with_reducible refine pc_stN (by decide) (by assumption) fun _ _ => ?_
    | with_reducible refine pc_stL (by decide) (by assumption) fun _ _ => ?_
    | with_reducible refine pc_stR (by decide) (by assumption) fun _ _ => ?_
    | with_reducible refine pc_cpN (by decide) (by assumption) fun _ _ => ?_
    | with_reducible refine pc_pure fun _ => ?_
    | exact pc_some (by assumption)
    | exact pc_some (eqF.bX (by assumption))
    | exact pc_some trivial
    | dsimp only
theorem fr_f_X12_ordersOf {m0 : MM} {m : MM} {l0 : Nat} {l1 : Int} (h : eqF [127, 128] m0 m) : Pc (f_X12_ordersOf m l0 l1) (RF [127, 128] m0) := by
  unfold f_X12_ordersOf
  repeat' first
    | with_reducible exact pc_x0
    | with_reducible exact pc_xt (by assumption)
    | with_reducible exact pc_xr (by assumption)
    | with_reducible exact fr_j_X12_ordersOf_0_107 (by assumption)
    | with_reducible refine pc_nk fun _ => ?_
    | with_reducible refine pc_if ?_ ?_
    | with_reducible refine pc_ck ?_
    | with_reducible refine pc_cb ?_
    | with_reducible refine pc_dv ?_
    | with_reducible refine pc_let fun _ => ?_
    | with_reducible refine pc_letL fun _ => ?_
    | with_reducible refine pc_ldN fun _ => ?_
    | with_reducible refine pc_ldL fun _ => ?_
    | with_reducible refine pc_ldR fun _ => ?_
    | with_reducible refine pc_put (eqF.sN (by assumption) (by decide)) fun _ _ => ?_
    | with_reducible refine pc_put (eqF.sL (by assumption) (by decide)) fun _ _ => ?_
    | with_reducible refine pc_put (eqF.sR (by assumption) (by decide)) fun _ _ => ?_
    | with_reducible refine pc_stN (by decide) (by assumption) fun _ _ => ?_
    | with_reducible refine pc_stL (by decide) (by assumption) fun _ _ => ?_
    | with_reducible refine pc_stR (by decide) (by assumption) fun _ _ => ?_
    | with_reducible refine pc_cpN (by decide) (by assumption) fun _ _ => ?_
    | with_reducible refine pc_bV (fr_f_X12_findSure (m0 := _) eqF.rf) (by decide) (by assumption) (fun _ _ => ?_) (fun _ _ _ => ?_)
    | with_reducible refine pc_lp (fun s => eqF [127, 128] m0 s.2) (fun z => eqF [127, 128] m0 z) (by assumption) (fun s hs => fr_b_X12_ordersOf_23 hs) (fun z hz => ?_)
    | with_reducible refine pc_pure fun _ => ?_
    | exact pc_some (by assumption)
    | exact pc_some (eqF.bX (by assumption))
    | exact pc_some trivial
    | dsimp only
theorem fr_j_X12_orders_0_14 {m0 : MM} {m : MM} {l0 : Nat} {l1 : Int} {s0 : Nat} {s1 : Int} (h : eqF [12, 127, 128] m0 m) : Pc (j_X12_orders_0_14 m l0 l1 s0 s1) (RF [12, 127, 128] m0) := by
  unfold j_X12_orders_0_14
  repeat' first
    | with_reducible exact pc_x0
    | with_reducible exact pc_xt (by assumption)
    | with_reducible exact pc_xr (by assumption)
    | with_reducible refine pc_nk fun _ => ?_
    | with_reducible refine pc_if ?_ ?_
    | with_reducible refine pc_ck ?_
    | with_reducible refine pc_cb ?_
    | with_reducible refine pc_dv ?_
    | with_reducible refine pc_let fun _ => ?_
    | with_reducible refine pc_letL fun _ => ?_
    | with_reducible refine pc_ldN fun _ => ?_
    | with_reducible refine pc_ldL fun _ => ?_
    | with_reducible refine pc_ldR fun _ => ?_
    | with_reducible refine pc_put (eqF.sN (by assumption) (by decide)) fun _ _ => ?_
    | with_reducible refine pc_put (eqF.sL (by assumption) (by decide)) fun _ _ => ?_
    | with_reducible refine pc_put (eqF.sR (by assumption) (by decide)) fun _ _ => ?_
    | with_reducible refine pc_stN (by decide) (by assumption) fun _ _ => ?_
    | with_reducible refine pc_stL (by decide) (by assumption) fun _ _ => ?_
    | with_reducible refine pc_stR (by decide) (by assumption) fun _ _ => ?_
    | with_reducible refine pc_cpN (by decide) (by assumption) fun _ _ => ?_
    | with_reducible refine pc_bI (fr_f_X12_holds (m0 := _) eqF.rf) (by decide) (by assumption) (fun _ _ _ => ?_) (fun _ _ _ => ?_)
    | with_reducible refine pc_bI (fr_f_X12_ordersOf (m0 := _) eqF.rf) (by decide) (by assumption) (fun _ _ _ => ?_) (fun _ _ _ => ?_)
    | with_reducible refine pc_pure fun _ => ?_
    | exact pc_some (by assumption)
    | exact pc_some (eqF.bX (by assumption))
    | exact pc_some trivial
    | dsimp only
theorem fr_f_X12_orders {m0 : MM} {m : MM} {l0 : Nat} {l1 : Int} (h : eqF [12, 127, 128] m0 m) : Pc (f_X12_orders m l0 l1) (RF [12, 127, 128] m0) := by
  unfold f_X12_orders
  repeat' first
    | with_reducible exact pc_x0
    | with_reducible exact pc_xt (by assumption)
    | with_reducible exact pc_xr (by assumption)
    | with_reducible exact fr_j_X12_orders_0_14 (by assumption)
    | with_reducible refine pc_nk fun _ => ?_
    | with_reducible refine pc_if ?_ ?_
    | with_reducible refine pc_ck ?_
    | with_reducible refine pc_cb ?_
    | with_reducible refine pc_dv ?_
    | with_reducible refine pc_let fun _ => ?_
    | with_reducible refine pc_letL fun _ => ?_
    | with_reducible refine pc_ldN fun _ => ?_
    | with_reducible refine pc_ldL fun _ => ?_
    | with_reducible refine pc_ldR fun _ => ?_
    | with_reducible refine pc_put (eqF.sN (by assumption) (by decide)) fun _ _ => ?_
    | with_reducible refine pc_put (eqF.sL (by assumption) (by decide)) fun _ _ => ?_
    | with_reducible refine pc_put (eqF.sR (by assumption) (by decide)) fun _ _ => ?_
    | with_reducible refine pc_stN (by decide) (by assumption) fun _ _ => ?_
    | with_reducible refine pc_stL (by decide) (by assumption) fun _ _ => ?_
    | with_reducible refine pc_stR (by decide) (by assumption) fun _ _ => ?_
    | with_reducible refine pc_cpN (by decide) (by assumption) fun _ _ => ?_
    | with_reducible refine pc_pure fun _ => ?_
    | exact pc_some (by assumption)
    | exact pc_some (eqF.bX (by assumption))
    | exact pc_some trivial
    | dsimp only
theorem fr_f_X12_ordersAnew {m0 : MM} {m : MM} {l0 : Nat} {l1 : Int} (h : eqF [12, 127, 128] m0 m) : Pc (f_X12_ordersAnew m l0 l1) (RF [12, 127, 128] m0) := by
  unfold f_X12_ordersAnew
  repeat' first
    | with_reducible exact pc_x0
    | with_reducible exact pc_xt (by assumption)
    | with_reducible exact pc_xr (by assumption)
    | with_reducible refine pc_nk fun _ => ?_
    | with_reducible refine pc_if ?_ ?_
    | with_reducible refine pc_ck ?_
    | with_reducible refine pc_cb ?_
    | with_reducible refine pc_dv ?_
    | with_reducible refine pc_let fun _ => ?_
    | with_reducible refine pc_letL fun _ => ?_
    | with_reducible refine pc_ldN fun _ => ?_
    | with_reducible refine pc_ldL fun _ => ?_
    | with_reducible refine pc_ldR fun _ => ?_
    | with_reducible refine pc_put (eqF.sN (by assumption) (by decide)) fun _ _ => ?_
    | with_reducible refine pc_put (eqF.sL (by assumption) (by decide)) fun _ _ => ?_
    | with_reducible refine pc_put (eqF.sR (by assumption) (by decide)) fun _ _ => ?_
    | with_reducible refine pc_stN (by decide) (by assumption) fun _ _ => ?_
    | with_reducible refine pc_stL (by decide) (by assumption) fun _ _ => ?_
    | with_reducible refine pc_stR (by decide) (by assumption) fun _ _ => ?_
    | with_reducible refine pc_cpN (by decide) (by assumption) fun _ _ => ?_
    | with_reducible refine pc_bI (fr_f_X12_orders (m0 := _) eqF.rf) (by decide) (by assumption) (fun _ _ _ => ?_) (fun _ _ _ => ?_)
    | with_reducible refine pc_pure fun _ => ?_
    | exact pc_some (by assumption)
    | exact pc_some (eqF.bX (by assumption))
    | exact pc_some trivial
    | dsimp only
theorem fr_j_X12_page_0_29 {m0 : MM} {m : MM} {l0 : Nat} {l1 : Int} {l2 : Int} {l3 : Int} {s0 : Nat} {s1 : Int} (h : eqF [12] m0 m) : Pc (j_X12_page_0_29 m l0 l1 l2 l3 s0 s1) (RF [12] m0) := by
  unfold j_X12_page_0_29
  repeat' first
    | with_reducible exact pc_x0
    | with_reducible exact pc_xt (by assumption)
    | with_reducible exact pc_xr (by assumption)
    | with_reducible refine pc_nk fun _ => ?_
    | with_reducible refine pc_if ?_ ?_
    | with_reducible refine pc_ck ?_
    | with_reducible refine pc_cb ?_
    | with_reducible refine pc_dv ?_
    | with_reducible refine pc_let fun _ => ?_
    | with_reducible refine pc_letL fun _ => ?_
    | with_reducible refine pc_ldN fun _ => ?_
    | with_reducible refine pc_ldL fun _ => ?_
    | with_reducible refine pc_ldR fun _ => ?_
    | with_reducible refine pc_put (eqF.sN (by assumption) (by decide)) fun _ _ => ?_
    | with_reducible refine pc_put (eqF.sL (by assumption) (by decide)) fun _ _ => ?_
    | with_reducible refine pc_put (eqF.sR (by assumption) (by decide)) fun _ _ => ?_
    | with_reducible refine pc_stN (by decide) (by assumption) fun _ _ => ?_
    | with_reducible refine pc_stL (by decide) (by assumption) fun _ _ => ?_
    | with_reducible refine pc_stR (by decide) (by assumption) fun _ _ => ?_
    | with_reducible refine pc_cpN (by decide) (by assumption) fun _ _ => ?_
    | with_reducible refine pc_bI (fr_f_X12_holds (m0 := _) eqF.rf) (by decide) (by assumption) (fun _ _ _ => ?_) (fun _ _ _ => ?_)
    | with_reducible refine pc_pure fun _ => ?_
    | exact pc_some (by assumption)
    | exact pc_some (eqF.bX (by assumption))
    | exact pc_some trivial
    | dsimp only
theorem fr_f_X12_page {m0 : MM} {m : MM} {l0 : Nat} {l1 : Int} {l2 : Int} {l3 : Int} (h : eqF [12] m0 m) : Pc (f_X12_page m l0 l1 l2 l3) (RF [12] m0) := by
  unfold f_X12_page
  repeat' first
    | with_reducible exact pc_x0
    | with_reducible exact pc_xt (by assumption)
    | with_reducible exact pc_xr (by assumption)
    | with_reducible exact fr_j_X12_page_0_29 (by assumption)
    | with_reducible refine pc_nk fun _ => ?_
    | with_reducible refine pc_if ?_ ?_
    | with_reducible refine pc_ck ?_
    | with_reducible refine pc_cb ?_
    | with_reducible refine pc_dv ?_
    | with_reducible refine pc_let fun _ => ?_
    | with_reducible refine pc_letL fun _ => ?_
    | with_reducible refine pc_ldN fun _ => ?_
    | with_reducible refine pc_ldL fun _ => ?_
    | with_reducible refine pc_ldR fun _ => ?_
    | with_reducible refine pc_put (eqF.sN (by assumption) (by decide)) fun _ _ => ?_
    | with_reducible refine pc_put (eqF.sL (by assumption) (by decide)) fun _ _ => ?_
    | with_reducible refine pc_put (eqF.sR (by assumption) (by decide)) fun _ _ => ?_
    | with_reducible refine pc_stN (by decide) (by assumption) fun _ _ => ?_
    | with_reducible refine pc_stL (by decide) (by assumption) fun _ _ => ?_
    | with_reducible refine pc_stR (by decide) (by assumption) fun _ _ => ?_
    | with_reducible refine pc_cpN (by decide) (by assumption) fun _ _ => ?_
    | with_reducible refine pc_pure fun _ => ?_
    | exact pc_some (by assumption)
    | exact pc_some (eqF.bX (by assumption))
    | exact pc_some trivial
    | dsimp only
theorem fr_j_X12_paper_0_15 {m0 : MM} {m : MM} {l0 : Nat} {l1 : Int} {s0 : Nat} {s1 : Int} (h : eqF [12] m0 m) : Pc (j_X12_paper_0_15 m l0 l1 s0 s1) (RF [12] m0) := by
  unfold j_X12_paper_0_15
  repeat' first
    | with_reducible exact pc_x0
    | with_reducible exact pc_xt (by assumption)
    | with_reducible exact pc_xr (by assumption)
    | with_reducible refine pc_nk fun _ => ?_
    | with_reducible refine pc_if ?_ ?_
    | with_reducible refine pc_ck ?_
    | with_reducible refine pc_cb ?_
    | with_reducible refine pc_dv ?_
    | with_reducible refine pc_let fun _ => ?_
    | with_reducible refine pc_letL fun _ => ?_
    | with_reducible refine pc_ldN fun _ => ?_
    | with_reducible refine pc_ldL fun _ => ?_
    | with_reducible refine pc_ldR fun _ => ?_
    | with_reducible refine pc_put (eqF.sN (by assumption) (by decide)) fun _ _ => ?_
    | with_reducible refine pc_put (eqF.sL (by assumption) (by decide)) fun _ _ => ?_
    | with_reducible refine pc_put (eqF.sR (by assumption) (by decide)) fun _ _ => ?_
    | with_reducible refine pc_stN (by decide) (by assumption) fun _ _ => ?_
    | with_reducible refine pc_stL (by decide) (by assumption) fun _ _ => ?_
    | with_reducible refine pc_stR (by decide) (by assumption) fun _ _ => ?_
    | with_reducible refine pc_cpN (by decide) (by assumption) fun _ _ => ?_
    | with_reducible refine pc_bI (fr_f_X12_holds (m0 := _) eqF.rf) (by decide) (by assumption) (fun _ _ _ => ?_) (fun _ _ _ => ?_)
    | with_reducible refine pc_pure fun _ => ?_
    | exact pc_some (by assumption)
    | exact pc_some (eqF.bX (by assumption))
    | exact pc_some trivial
    | dsimp only
theorem fr_f_X12_paper {m0 : MM} {m : MM} {l0 : Nat} {l1 : Int} (h : eqF [12] m0 m) : Pc (f_X12_paper m l0 l1) (RF [12] m0) := by
  unfold f_X12_paper
  repeat' first
    | with_reducible exact pc_x0
    | with_reducible exact pc_xt (by assumption)
    | with_reducible exact pc_xr (by assumption)
    | with_reducible exact fr_j_X12_paper_0_15 (by assumption)
    | with_reducible refine pc_nk fun _ => ?_
    | with_reducible refine pc_if ?_ ?_
    | with_reducible refine pc_ck ?_
    | with_reducible refine pc_cb ?_
    | with_reducible refine pc_dv ?_
    | with_reducible refine pc_let fun _ => ?_
    | with_reducible refine pc_letL fun _ => ?_
    | with_reducible refine pc_ldN fun _ => ?_
    | with_reducible refine pc_ldL fun _ => ?_
    | with_reducible refine pc_ldR fun _ => ?_
    | with_reducible refine pc_put (eqF.sN (by assumption) (by decide)) fun _ _ => ?_
    | with_reducible refine pc_put (eqF.sL (by assumption) (by decide)) fun _ _ => ?_
    | with_reducible refine pc_put (eqF.sR (by assumption) (by decide)) fun _ _ => ?_
    | with_reducible refine pc_stN (by decide) (by assumption) fun _ _ => ?_
    | with_reducible refine pc_stL (by decide) (by assumption) fun _ _ => ?_
    | with_reducible refine pc_stR (by decide) (by assumption) fun _ _ => ?_
    | with_reducible refine pc_cpN (by decide) (by assumption) fun _ _ => ?_
    | with_reducible refine pc_pure fun _ => ?_
    | exact pc_some (by assumption)
    | exact pc_some (eqF.bX (by assumption))
    | exact pc_some trivial
    | dsimp only
theorem fr_j_X12_keeps_27_103 {m0 : MM} {m : MM} {l0 : Nat} {l1 : Int} {l2 : Int} {l3 : Int} {l4 : Int} {l5 : Int} {s0 : Nat} {s1 : Int} {s2 : Int} (h : eqF [103, 104] m0 m) : Pc (j_X12_keeps_27_103 m l0 l1 l2 l3 l4 l5 s0 s1 s2) (fun z => Sum.elim (fun s => eqF [103, 104] m0 s.2) (fun z => eqF [103, 104] m0 z) z) := by
  unfold j_X12_keeps_27_103
  repeat' first
    | with_reducible exact pc_x0
    | with_reducible exact pc_xt (by assumption)
    | with_reducible exact pc_xr (by assumption)
    | with_reducible refine pc_nk fun _ => ?_
    | with_reducible refine pc_if ?_ ?_
    | with_reducible refine pc_ck ?_
    | with_reducible refine pc_cb ?_
    | with_reducible refine pc_dv ?_
    | with_reducible refine pc_let fun _ => ?_
    | with_reducible refine pc_letL fun _ => ?_
    | with_reducible refine pc_ldN fun _ => ?_
    | with_reducible refine pc_ldL fun _ => ?_
    | with_reducible refine pc_ldR fun _ => ?_
    | with_reducible refine pc_put (eqF.sN (by assumption) (by decide)) fun _ _ => ?_
    | with_reducible refine pc_put (eqF.sL (by assumption) (by decide)) fun _ _ => ?_
    | with_reducible refine pc_put (eqF.sR (by assumption) (by decide)) fun _ _ => ?_
    | with_reducible refine pc_stN (by decide) (by assumption) fun _ _ => ?_
    | with_reducible refine pc_stL (by decide) (by assumption) fun _ _ => ?_
    | with_reducible refine pc_stR (by decide) (by assumption) fun _ _ => ?_
    | with_reducible refine pc_cpN (by decide) (by assumption) fun _ _ => ?_
    | with_reducible refine pc_pure fun _ => ?_
    | exact pc_some (by assumption)
    | exact pc_some (eqF.bX (by assumption))
    | exact pc_some trivial
    | dsimp only
theorem fr_b_X12_keeps_27 {m0 : MM} {l0 : Nat} {l1 : Int} {l2 : Int} {l3 : Int} {l4 : Int} {l5 : Int} {mm : MM} (h : eqF [103, 104] m0 mm) : Pc (b_X12_keeps_27 l0 l1 l2 l3 l4 l5 mm) (fun z => Sum.elim (fun s => eqF [103, 104] m0 s.2) (fun z => eqF [103, 104] m0 z) z) := by
  unfold b_X12_keeps_27
  repeat' first
    | with_reducible exact pc_x0
    | with_reducible exact pc_xt (by assumption)
    | with_reducible exact pc_xr (by assumption)
    | with_reducible exact fr_j_X12_keeps_27_103 (by assumption)
    | with_reducible refine pc_nk fun _ => ?_
    | with_reducible refine pc_if ?_ ?_
    | with_reducible refine pc_ck ?_
    | with_reducible refine pc_cb ?_
    | with_reducible refine pc_dv ?_
    | with_reducible refine pc_let fun _ => ?_
    | with_reducible refine pc_letL fun _ => ?_
    | with_reducible refine pc_ldN fun _ => ?_
    | with_reducible refine pc_ldL fun _ => ?_
    | with_reducible refine pc_ldR fun _ => ?_
    | with_reducible refine pc_put (eqF.sN (by assumption) (by decide)) fun _ _ => ?_
    | with_reducible refine pc_put (eqF.sL (by assumption) (by decide)) fun _ _ => ?_
    | with_reducible refine pc_put (eqF.sR (by assumption) (by decide)) fun _ _ => ?_
    | with_reducible refine pc_stN (by decide) (by assumption) fun _ _ => ?_
    | with_reducible refine pc_stL (by decide) (by assumption) fun _ _ => ?_
    | with_reducible refine pc_stR (by decide) (by assumption) fun _ _ => ?_
    | with_reducible refine pc_cpN (by decide) (by assumption) fun _ _ => ?_
    | with_reducible refine pc_pure fun _ => ?_
    | exact pc_some (by assumption)
    | exact pc_some (eqF.bX (by assumption))
    | exact pc_some trivial
    | dsimp only
theorem fr_j_X12_keeps_2_110 {m0 : MM} {m : MM} {l0 : Nat} {l1 : Int} {l2 : Int} {l3 : Int} (h : eqF [103, 104] m0 m) : Pc (j_X12_keeps_2_110 m l0 l1 l2 l3) (fun z => Sum.elim (fun s => eqF [103, 104] m0 s.2) (fun z => eqF [103, 104] m0 z) z) := by
  unfold j_X12_keeps_2_110
  repeat' first
    | with_reducible exact pc_x0
    | with_reducible exact pc_xt (by assumption)
    | with_reducible exact pc_xr (by assumption)
    | with_reducible refine pc_nk fun _ => ?_
    | with_reducible refine pc_if ?_ ?_
    | with_reducible refine pc_ck ?_
    | with_reducible refine pc_cb ?_
    | with_reducible refine pc_dv ?_
    | with_reducible refine pc_let fun _ => ?_
    | with_reducible refine pc_letL fun _ => ?_
    | with_reducible refine pc_ldN fun _ => ?_
    | with_reducible refine pc_ldL fun _ => ?_
    | with_reducible refine pc_ldR fun _ => ?_
    | with_reducible refine pc_put (eqF.sN (by assumption) (by decide)) fun _ _ => ?_
    | with_reducible refine pc_put (eqF.sL (by assumption) (by decide)) fun _ _ => ?_
    | with_reducible refine pc_put (eqF.sR (by assumption) (by decide)) fun _ _ => ?_
    | with_reducible refine pc_stN (by decide) (by assumption) fun _ _ => ?_
    | with_reducible refine pc_stL (by decide) (by assumption) fun _ _ => ?_
    | with_reducible refine pc_stR (by decide) (by assumption) fun _ _ => ?_
    | with_reducible refine pc_cpN (by decide) (by assumption) fun _ _ => ?_
    | with_reducible refine pc_pure fun _ => ?_
    | exact pc_some (by assumption)
    | exact pc_some (eqF.bX (by assumption))
    | exact pc_some trivial
    | dsimp only
theorem fr_b_X12_keeps_2 {m0 : MM} {l0 : Nat} {l1 : Int} {l2 : Int} {l3 : Int} {mm : MM} (h : eqF [103, 104] m0 mm) : Pc (b_X12_keeps_2 l0 l1 l2 l3 mm) (fun z => Sum.elim (fun s => eqF [103, 104] m0 s.2) (fun z => eqF [103, 104] m0 z) z) := by
  unfold b_X12_keeps_2
  repeat' first
    | with_reducible exact pc_x0
    | with_reducible exact pc_xt (by assumption)
    | with_reducible exact pc_xr (by assumption)
    | with_reducible exact fr_j_X12_keeps_2_110 (by assumption)
    | with_reducible refine pc_nk fun _ => ?_
    | with_reducible refine pc_if ?_ ?_
    | with_reducible refine pc_ck ?_
    | with_reducible refine pc_cb ?_
    | with_reducible refine pc_dv ?_
    | with_reducible refine pc_let fun _ => ?_
    | with_reducible refine pc_letL fun _ => ?_
    | with_reducible refine pc_ldN fun _ => ?_
    | with_reducible refine pc_ldL fun _ => ?_
    | with_reducible refine pc_ldR fun _ => ?_
    | with_reducible refine pc_put (eqF.sN (by assumption) (by decide)) fun _ _ => ?_
    | with_reducible refine pc_put (eqF.sL (by assumption) (by decide)) fun _ _ => ?_
    | with_reducible refine pc_put (eqF.sR (by assumption) (by decide)) fun _ _ => ?_
    | with_reducible refine pc_stN (by decide) (by assumption) fun _ _ => ?_
    | with_reducible refine pc_stL (by decide) (by assumption) fun _ _ => ?_
    | with_reducible refine pc_stR (by decide) (by assumption) fun _ _ => ?_
    | with_reducible refine pc_cpN (by decide) (by assumption) fun _ _ => ?_
    | with_reducible refine pc_lp (fun s => eqF [103, 104] m0 s.2) (fun z => eqF [103, 104] m0 z) (by assumption) (fun s hs => fr_b_X12_keeps_27 hs) (fun z hz => ?_)
    | with_reducible refine pc_pure fun _ => ?_
    | exact pc_some (by assumption)
    | exact pc_some (eqF.bX (by assumption))
    | exact pc_some trivial
    | dsimp only
theorem fr_j_X12_keeps_0_116 {m0 : MM} {m : MM} (h : eqF [103, 104] m0 m) : Pc (j_X12_keeps_0_116 m) (RF [103, 104] m0) := by
  unfold j_X12_keeps_0_116
  repeat' first
    | with_reducible exact pc_x0
    | with_reducible exact pc_xt (by assumption)
    | with_reducible exact pc_xr (by assumption)
    | with_reducible refine pc_nk fun _ => ?_
    | with_reducible refine pc_if ?_ ?_
    | with_reducible refine pc_ck ?_
    | with_reducible refine pc_cb ?_
    | with_reducible refine pc_dv ?_
    | with_reducible refine pc_let fun _ => ?_
    | with_reducible refine pc_letL fun _ => ?_
    | with_reducible refine pc_ldN fun _ => ?_
    | with_reducible refine pc_ldL fun _ => ?_
    | with_reducible refine pc_ldR fun _ => ?_
    | with_reducible refine pc_put (eqF.sN (by assumption) (by decide)) fun _ _ => ?_
    | with_reducible refine pc_put (eqF.sL (by assumption) (by decide)) fun _ _ => ?_
    | with_reducible refine pc_put (eqF.sR (by assumption) (by decide)) fun _ _ => ?_
    | with_reducible refine pc_stN (by decide) (by assumption) fun _ _ => ?_
    | with_reducible refine pc_stL (by decide) (by assumption) fun _ _ => ?_
    | with_reducible refine pc_stR (by decide) (by assumption) fun _ _ => ?_
    | with_reducible refine pc_cpN (by decide) (by assumption) fun _ _ => ?_
    | with_reducible refine pc_pure fun _ => ?_
    | exact pc_some (by assumption)
    | exact pc_some (eqF.bX (by assumption))
    | exact pc_some trivial
    | dsimp only
theorem fr_f_X12_keeps {m0 : MM} {m : MM} {l0 : Nat} {l1 : Int} {l2 : Int} (h : eqF [103, 104] m0 m) : Pc (f_X12_keeps m l0 l1 l2) (RF [103, 104] m0) := by
  unfold f_X12_keeps
  repeat' first
    | with_reducible exact pc_x0
    | with_reducible exact pc_xt (by assumption)
    | with_reducible exact pc_xr (by assumption)
    | with_reducible exact fr_j_X12_keeps_0_116 (by assumption)
    | with_reducible refine pc_nk fun _ => ?_
    | with_reducible refine pc_if ?_ ?_
    | with_reducible refine pc_ck ?_
    | with_reducible refine pc_cb ?_
    | with_reducible refine pc_dv ?_
    | with_reducible refine pc_let fun _ => ?_
    | with_reducible refine pc_letL fun _ => ?_
    | with_reducible refine pc_ldN fun _ => ?_
    | with_reducible refine pc_ldL fun _ => ?_
    | with_reducible refine pc_ldR fun _ => ?_
    | with_reducible refine pc_put (eqF.sN (by assumption) (by decide)) fun _ _ => ?_
    | with_reducible refine pc_put (eqF.sL (by assumption) (by decide)) fun _ _ => ?_
    | with_reducible refine pc_put (eqF.sR (by assumption) (by decide)) fun _ _ => ?_
    | with_reducible refine pc_stN (by decide) (by assumption) fun _ _ => ?_
    | with_reducible refine pc_stL (by decide) (by assumption) fun _ _ => ?_
    | with_reducible refine pc_stR (by decide) (by assumption) fun _ _ => ?_
    | with_reducible refine pc_cpN (by decide) (by assumption) fun _ _ => ?_
    | with_reducible refine pc_lp (fun s => eqF [103, 104] m0 s.2) (fun z => eqF [103, 104] m0 z) (by assumption) (fun s hs => fr_b_X12_keeps_2 hs) (fun z hz => ?_)
    | with_reducible refine pc_pure fun _ => ?_
    | exact pc_some (by assumption)
    | exact pc_some (eqF.bX (by assumption))
    | exact pc_some trivial
    | dsimp only
theorem fr_j_X12_works_0_93 {m0 : MM} {m : MM} {l0 : Nat} {l1 : Int} {l2 : Int} {l3 : Int} {s0 : Int} (h : eqF [103, 104, 108, 110, 114, 115, 122, 123, 124] m0 m) : Pc (j_X12_works_0_93 m l0 l1 l2 l3 s0) (RF [103, 104, 108, 110, 114, 115, 122, 123, 124] m0) := by
  unfold j_X12_works_0_93
  repeat' first
    | with_reducible exact pc_x0
    | with_reducible exact pc_xt (by assumption)
    | with_reducible exact pc_xr (by assumption)
    | with_reducible refine pc_nk fun _ => ?_
    | with_reducible refine pc_if ?_ ?_
    | with_reducible refine pc_ck ?_
    | with_reducible refine pc_cb ?_
    | with_reducible refine pc_dv ?_
    | with_reducible refine pc_let fun _ => ?_
    | with_reducible refine pc_letL fun _ => ?_
    | with_reducible refine pc_ldN fun _ => ?_
    | with_reducible refine pc_ldL fun _ => ?_
    | with_reducible refine pc_ldR fun _ => ?_
    | with_reducible refine pc_put (eqF.sN (by assumption) (by decide)) fun _ _ => ?_
    | with_reducible refine pc_put (eqF.sL (by assumption) (by decide)) fun _ _ => ?_
    | with_reducible refine pc_put (eqF.sR (by assumption) (by decide)) fun _ _ => ?_
    | with_reducible refine pc_stN (by decide) (by assumption) fun _ _ => ?_
    | with_reducible refine pc_stL (by decide) (by assumption) fun _ _ => ?_
    | with_reducible refine pc_stR (by decide) (by assumption) fun _ _ => ?_
    | with_reducible refine pc_cpN (by decide) (by assumption) fun _ _ => ?_
    | with_reducible refine pc_bV (fr_f_X12_keeps (m0 := _) eqF.rf) (by decide) (by assumption) (fun _ _ => ?_) (fun _ _ _ => ?_)
    | with_reducible refine pc_pure fun _ => ?_
    | exact pc_some (by assumption)
    | exact pc_some (eqF.bX (by assumption))
    | exact pc_some trivial
    | dsimp only
theorem fr_f_X12_works {m0 : MM} {m : MM} {l0 : Nat} {l1 : Int} (h : eqF [103, 104, 108, 110, 114, 115, 122, 123, 124] m0 m) : Pc (f_X12_works m l0 l1) (RF [103, 104, 108, 110, 114, 115, 122, 123, 124] m0) := by
  unfold f_X12_works
  repeat' first
    | with_reducible exact pc_x0
    | with_reducible exact pc_xt (by assumption)
    | with_reducible exact pc_xr (by assumption)
    | with_reducible exact fr_j_X12_works_0_93 (by assumption)
    | with_reducible refine pc_nk fun _ => ?_
    | with_reducible refine pc_if ?_ ?_
    | with_reducible refine pc_ck ?_
    | with_reducible refine pc_cb ?_
    | with_reducible refine pc_dv ?_
    | with_reducible refine pc_let fun _ => ?_
    | with_reducible refine pc_letL fun _ => ?_
    | with_reducible refine pc_ldN fun _ => ?_
    | with_reducible refine pc_ldL fun _ => ?_
    | with_reducible refine pc_ldR fun _ => ?_
    | with_reducible refine pc_put (eqF.sN (by assumption) (by decide)) fun _ _ => ?_
    | with_reducible refine pc_put (eqF.sL (by assumption) (by decide)) fun _ _ => ?_
    | with_reducible refine pc_put (eqF.sR (by assumption) (by decide)) fun _ _ => ?_
    | with_reducible refine pc_stN (by decide) (by assumption) fun _ _ => ?_
    | with_reducible refine pc_stL (by decide) (by assumption) fun _ _ => ?_
    | with_reducible refine pc_stR (by decide) (by assumption) fun _ _ => ?_
    | with_reducible refine pc_cpN (by decide) (by assumption) fun _ _ => ?_
    | with_reducible refine pc_pure fun _ => ?_
    | exact pc_some (by assumption)
    | exact pc_some (eqF.bX (by assumption))
    | exact pc_some trivial
    | dsimp only
theorem fr_b_X12_pass_52 {m0 : MM} {l0 : Nat} {l1 : Int} {l3 : Int} {l2 : Int} {l4 : Int} {mm : MM} (h : eqF [12, 103, 104, 108, 110, 114, 115, 122, 123, 124] m0 mm) : Pc (b_X12_pass_52 l0 l1 l3 l2 l4 mm) (fun z => Sum.elim (fun s => eqF [12, 103, 104, 108, 110, 114, 115, 122, 123, 124] m0 s.2.2) (fun z => eqF [12, 103, 104, 108, 110, 114, 115, 122, 123, 124] m0 z.2) z) := by
  unfold b_X12_pass_52
  repeat' first
    | with_reducible exact pc_x0
    | with_reducible exact pc_xt (by assumption)
    | with_reducible exact pc_xr (by assumption)
    | with_reducible refine pc_nk fun _ => ?_
    | with_reducible refine pc_if ?_ ?_
    | with_reducible refine pc_ck ?_
    | with_reducible refine pc_cb ?_
    | with_reducible refine pc_dv ?_
    | with_reducible refine pc_let fun _ => ?_
    | with_reducible refine pc_letL fun _ => ?_
    | with_reducible refine pc_ldN fun _ => ?_
    | with_reducible refine pc_ldL fun _ => ?_
    | with_reducible refine pc_ldR fun _ => ?_
    | with_reducible refine pc_put (eqF.sN (by assumption) (by decide)) fun _ _ => ?_
    | with_reducible refine pc_put (eqF.sL (by assumption) (by decide)) fun _ _ => ?_
    | with_reducible refine pc_put (eqF.sR (by assumption) (by decide)) fun _ _ => ?_
    | with_reducible refine pc_stN (by decide) (by assumption) fun _ _ => ?_
    | with_reducible refine pc_stL (by decide) (by assumption) fun _ _ => ?_
    | with_reducible refine pc_stR (by decide) (by assumption) fun _ _ => ?_
    | with_reducible refine pc_cpN (by decide) (by assumption) fun _ _ => ?_
    | with_reducible refine pc_bI (fr_f_X12_works (m0 := _) eqF.rf) (by decide) (by assumption) (fun _ _ _ => ?_) (fun _ _ _ => ?_)
    | with_reducible refine pc_pure fun _ => ?_
    | exact pc_some (by assumption)
    | exact pc_some (eqF.bX (by assumption))
    | exact pc_some trivial
    | dsimp only
theorem fr_j_X12_pass_44_83 {m0 : MM} {m : MM} {l0 : Nat} {l1 : Int} {l2 : Int} {l3 : Int} (h : eqF [12, 103, 104, 108, 110, 114, 115, 122, 123, 124] m0 m) : Pc (j_X12_pass_44_83 m l0 l1 l2 l3) (fun z => Sum.elim (fun s => eqF [12, 103, 104, 108, 110, 114, 115, 122, 123, 124] m0 s.2.2) (fun z => eqF [12, 103, 104, 108, 110, 114, 115, 122, 123, 124] m0 z.2) z) := by
  unfold j_X12_pass_44_83
  repeat' first
    | with_reducible exact pc_x0
    | with_reducible exact pc_xt (by assumption)
    | with_reducible exact pc_xr (by assumption)
    | with_reducible refine pc_nk fun _ => ?_
    | with_reducible refine pc_if ?_ ?_
    | with_reducible refine pc_ck ?_
    | with_reducible refine pc_cb ?_
    | with_reducible refine pc_dv ?_
    | with_reducible refine pc_let fun _ => ?_
    | with_reducible refine pc_letL fun _ => ?_
    | with_reducible refine pc_ldN fun _ => ?_
    | with_reducible refine pc_ldL fun _ => ?_
    | with_reducible refine pc_ldR fun _ => ?_
    | with_reducible refine pc_put (eqF.sN (by assumption) (by decide)) fun _ _ => ?_
    | with_reducible refine pc_put (eqF.sL (by assumption) (by decide)) fun _ _ => ?_
    | with_reducible refine pc_put (eqF.sR (by assumption) (by decide)) fun _ _ => ?_
    | with_reducible refine pc_stN (by decide) (by assumption) fun _ _ => ?_
    | with_reducible refine pc_stL (by decide) (by assumption) fun _ _ => ?_
    | with_reducible refine pc_stR (by decide) (by assumption) fun _ _ => ?_
    | with_reducible refine pc_cpN (by decide) (by assumption) fun _ _ => ?_
    | with_reducible refine pc_pure fun _ => ?_
    | exact pc_some (by assumption)
    | exact pc_some (eqF.bX (by assumption))
    | exact pc_some trivial
    | dsimp only
theorem fr_b_X12_pass_44 {m0 : MM} {l0 : Nat} {l1 : Int} {l2 : Int} {l3 : Int} {mm : MM} (h : eqF [12, 103, 104, 108, 110, 114, 115, 122, 123, 124] m0 mm) : Pc (b_X12_pass_44 l0 l1 l2 l3 mm) (fun z => Sum.elim (fun s => eqF [12, 103, 104, 108, 110, 114, 115, 122, 123, 124] m0 s.2.2) (fun z => eqF [12, 103, 104, 108, 110, 114, 115, 122, 123, 124] m0 z.2) z) := by
  unfold b_X12_pass_44
  repeat' first
    | with_reducible exact pc_x0
    | with_reducible exact pc_xt (by assumption)
    | with_reducible exact pc_xr (by assumption)
    | with_reducible exact fr_j_X12_pass_44_83 (by assumption)
    | with_reducible refine pc_nk fun _ => ?_
    | with_reducible refine pc_if ?_ ?_
    | with_reducible refine pc_ck ?_
    | with_reducible refine pc_cb ?_
    | with_reducible refine pc_dv ?_
    | with_reducible refine pc_let fun _ => ?_
    | with_reducible refine pc_letL fun _ => ?_
    | with_reducible refine pc_ldN fun _ => ?_
    | with_reducible refine pc_ldL fun _ => ?_
    | with_reducible refine pc_ldR fun _ => ?_
    | with_reducible refine pc_put (eqF.sN (by assumption) (by decide)) fun _ _ => ?_
    | with_reducible refine pc_put (eqF.sL (by assumption) (by decide)) fun _ _ => ?_
    | with_reducible refine pc_put (eqF.sR (by assumption) (by decide)) fun _ _ => ?_
    | with_reducible refine pc_stN (by decide) (by assumption) fun _ _ => ?_
    | with_reducible refine pc_stL (by decide) (by assumption) fun _ _ => ?_
    | with_reducible refine pc_stR (by decide) (by assumption) fun _ _ => ?_
    | with_reducible refine pc_cpN (by decide) (by assumption) fun _ _ => ?_
    | with_reducible refine pc_lp (fun s => eqF [12, 103, 104, 108, 110, 114, 115, 122, 123, 124] m0 s.2.2) (fun z => eqF [12, 103, 104, 108, 110, 114, 115, 122, 123, 124] m0 z.2) (by assumption) (fun s hs => fr_b_X12_pass_52 hs) (fun z hz => ?_)
    | with_reducible refine pc_pure fun _ => ?_
    | exact pc_some (by assumption)
    | exact pc_some (eqF.bX (by assumption))
    | exact pc_some trivial
    | dsimp only
theorem fr_j_X12_pass_0_99 {m0 : MM} {m : MM} {l2 : Int} (h : eqF [12, 103, 104, 108, 110, 114, 115, 122, 123, 124] m0 m) : Pc (j_X12_pass_0_99 m l2) (RF [12, 103, 104, 108, 110, 114, 115, 122, 123, 124] m0) := by
  unfold j_X12_pass_0_99
  repeat' first
    | with_reducible exact pc_x0
    | with_reducible exact pc_xt (by assumption)
    | with_reducible exact pc_xr (by assumption)
    | with_reducible refine pc_nk fun _ => ?_
    | with_reducible refine pc_if ?_ ?_
    | with_reducible refine pc_ck ?_
    | with_reducible refine pc_cb ?_
    | with_reducible refine pc_dv ?_
    | with_reducible refine pc_let fun _ => ?_
    | with_reducible refine pc_letL fun _ => ?_
    | with_reducible refine pc_ldN fun _ => ?_
    | with_reducible refine pc_ldL fun _ => ?_
    | with_reducible refine pc_ldR fun _ => ?_
    | with_reducible refine pc_put (eqF.sN (by assumption) (by decide)) fun _ _ => ?_
    | with_reducible refine pc_put (eqF.sL (by assumption) (by decide)) fun _ _ => ?_
    | with_reducible refine pc_put (eqF.sR (by assumption) (by decide)) fun _ _ => ?_
    | with_reducible refine pc_stN (by decide) (by assumption) fun _ _ => ?_
    | with_reducible refine pc_stL (by decide) (by assumption) fun _ _ => ?_
    | with_reducible refine pc_stR (by decide) (by assumption) fun _ _ => ?_
    | with_reducible refine pc_cpN (by decide) (by assumption) fun _ _ => ?_
    | with_reducible refine pc_pure fun _ => ?_
    | exact pc_some (by assumption)
    | exact pc_some (eqF.bX (by assumption))
    | exact pc_some trivial
    | dsimp only
theorem fr_j_X12_pass_0_32 {m0 : MM} {m : MM} {l0 : Nat} {l1 : Int} {s0 : Nat} {s1 : Int} (h : eqF [12, 103, 104, 108, 110, 114, 115, 122, 123, 124] m0 m) : Pc (j_X12_pass_0_32 m l0 l1 s0 s1) (RF [12, 103, 104, 108, 110, 114, 115, 122, 123, 124] m0) := by
  unfold j_X12_pass_0_32
  repeat' first
    | with_reducible exact pc_x0
    | with_reducible exact pc_xt (by assumption)
    | with_reducible exact pc_xr (by assumption)
    | with_reducible exact fr_j_X12_pass_0_99 (by assumption)
    | with_reducible refine pc_nk fun _ => ?_
    | with_reducible refine pc_if ?_ ?_
    | with_reducible refine pc_ck ?_
    | with_reducible refine pc_cb ?_
    | with_reducible refine pc_dv ?_
    | with_reducible refine pc_let fun _ => ?_
    | with_reducible refine pc_letL fun _ => ?_
    | with_reducible refine pc_ldN fun _ => ?_
    | with_reducible refine pc_ldL fun _ => ?_
    | with_reducible refine pc_ldR fun _ => ?_
    | with_reducible refine pc_put (eqF.sN (by assumption) (by decide)) fun _ _ => ?_
    | with_reducible refine pc_put (eqF.sL (by assumption) (by decide)) fun _ _ => ?_
    | with_reducible refine pc_put (eqF.sR (by assumption) (by decide)) fun _ _ => ?_
    | with_reducible refine pc_stN (by decide) (by assumption) fun _ _ => ?_
    | with_reducible refine pc_stL (by decide) (by assumption) fun _ _ => ?_
    | with_reducible refine pc_stR (by decide) (by assumption) fun _ _ => ?_
    | with_reducible refine pc_cpN (by decide) (by assumption) fun _ _ => ?_
    | with_reducible refine pc_bI (fr_f_X12_holds (m0 := _) eqF.rf) (by decide) (by assumption) (fun _ _ _ => ?_) (fun _ _ _ => ?_)
    | with_reducible refine pc_lp (fun s => eqF [12, 103, 104, 108, 110, 114, 115, 122, 123, 124] m0 s.2.2) (fun z => eqF [12, 103, 104, 108, 110, 114, 115, 122, 123, 124] m0 z.2) (by assumption) (fun s hs => fr_b_X12_pass_44 hs) (fun z hz => ?_)
    | with_reducible refine pc_pure fun _ => ?_
    | exact pc_some (by assumption)
    | exact pc_some (eqF.bX (by assumption))
    | exact pc_some trivial
    | dsimp only
theorem fr_f_X12_pass {m0 : MM} {m : MM} {l0 : Nat} {l1 : Int} (h : eqF [12, 103, 104, 108, 110, 114, 115, 122, 123, 124] m0 m) : Pc (f_X12_pass m l0 l1) (RF [12, 103, 104, 108, 110, 114, 115, 122, 123, 124] m0) := by
  unfold f_X12_pass
  repeat' first
    | with_reducible exact pc_x0
    | with_reducible exact pc_xt (by assumption)
    | with_reducible exact pc_xr (by assumption)
    | with_reducible exact fr_j_X12_pass_0_32 (by assumption)
    | with_reducible refine pc_nk fun _ => ?_
    | with_reducible refine pc_if ?_ ?_
    | with_reducible refine pc_ck ?_
    | with_reducible refine pc_cb ?_
    | with_reducible refine pc_dv ?_
    | with_reducible refine pc_let fun _ => ?_
    | with_reducible refine pc_letL fun _ => ?_
    | with_reducible refine pc_ldN fun _ => ?_
    | with_reducible refine pc_ldL fun _ => ?_
    | with_reducible refine pc_ldR fun _ => ?_
    | with_reducible refine pc_put (eqF.sN (by assumption) (by decide)) fun _ _ => ?_
    | with_reducible refine pc_put (eqF.sL (by assumption) (by decide)) fun _ _ => ?_
    | with_reducible refine pc_put (eqF.sR (by assumption) (by decide)) fun _ _ => ?_
    | with_reducible refine pc_stN (by decide) (by assumption) fun _ _ => ?_
    | with_reducible refine pc_stL (by decide) (by assumption) fun _ _ => ?_
    | with_reducible refine pc_stR (by decide) (by assumption) fun _ _ => ?_
    | with_reducible refine pc_cpN (by decide) (by assumption) fun _ _ => ?_
    | with_reducible refine pc_pure fun _ => ?_
    | exact pc_some (by assumption)
    | exact pc_some (eqF.bX (by assumption))
    | exact pc_some trivial
    | dsimp only
theorem fr_j_X12_piece_0_33 {m0 : MM} {m : MM} {l0 : Nat} {l1 : Int} {l2 : Int} {s0 : Nat} {s1 : Int} (h : eqF [12] m0 m) : Pc (j_X12_piece_0_33 m l0 l1 l2 s0 s1) (RF [12] m0) := by
  unfold j_X12_piece_0_33
  repeat' first
    | with_reducible exact pc_x0
    | with_reducible exact pc_xt (by assumption)
    | with_reducible exact pc_xr (by assumption)
    | with_reducible refine pc_nk fun _ => ?_
    | with_reducible refine pc_if ?_ ?_
    | with_reducible refine pc_ck ?_
    | with_reducible refine pc_cb ?_
    | with_reducible refine pc_dv ?_
    | with_reducible refine pc_let fun _ => ?_
    | with_reducible refine pc_letL fun _ => ?_
    | with_reducible refine pc_ldN fun _ => ?_
    | with_reducible refine pc_ldL fun _ => ?_
    | with_reducible refine pc_ldR fun _ => ?_
    | with_reducible refine pc_put (eqF.sN (by assumption) (by decide)) fun _ _ => ?_
    | with_reducible refine pc_put (eqF.sL (by assumption) (by decide)) fun _ _ => ?_
    | with_reducible refine pc_put (eqF.sR (by assumption) (by decide)) fun _ _ => ?_
    | with_reducible refine pc_stN (by decide) (by assumption) fun _ _ => ?_
    | with_reducible refine pc_stL (by decide) (by assumption) fun _ _ => ?_
    | with_reducible refine pc_stR (by decide) (by assumption) fun _ _ => ?_
    | with_reducible refine pc_cpN (by decide) (by assumption) fun _ _ => ?_
    | with_reducible refine pc_bI (fr_f_X12_holds (m0 := _) eqF.rf) (by decide) (by assumption) (fun _ _ _ => ?_) (fun _ _ _ => ?_)
    | with_reducible refine pc_pure fun _ => ?_
    | exact pc_some (by assumption)
    | exact pc_some (eqF.bX (by assumption))
    | exact pc_some trivial
    | dsimp only
theorem fr_f_X12_piece {m0 : MM} {m : MM} {l0 : Nat} {l1 : Int} {l2 : Int} (h : eqF [12] m0 m) : Pc (f_X12_piece m l0 l1 l2) (RF [12] m0) := by
  unfold f_X12_piece
  repeat' first
    | with_reducible exact pc_x0
    | with_reducible exact pc_xt (by assumption)
    | with_reducible exact pc_xr (by assumption)
    | with_reducible exact fr_j_X12_piece_0_33 (by assumption)
    | with_reducible refine pc_nk fun _ => ?_
    | with_reducible refine pc_if ?_ ?_
    | with_reducible refine pc_ck ?_
    | with_reducible refine pc_cb ?_
    | with_reducible refine pc_dv ?_
    | with_reducible refine pc_let fun _ => ?_
    | with_reducible refine pc_letL fun _ => ?_
    | with_reducible refine pc_ldN fun _ => ?_
    | with_reducible refine pc_ldL fun _ => ?_
    | with_reducible refine pc_ldR fun _ => ?_
    | with_reducible refine pc_put (eqF.sN (by assumption) (by decide)) fun _ _ => ?_
    | with_reducible refine pc_put (eqF.sL (by assumption) (by decide)) fun _ _ => ?_
    | with_reducible refine pc_put (eqF.sR (by assumption) (by decide)) fun _ _ => ?_
    | with_reducible refine pc_stN (by decide) (by assumption) fun _ _ => ?_
    | with_reducible refine pc_stL (by decide) (by assumption) fun _ _ => ?_
    | with_reducible refine pc_stR (by decide) (by assumption) fun _ _ => ?_
    | with_reducible refine pc_cpN (by decide) (by assumption) fun _ _ => ?_
    | with_reducible refine pc_pure fun _ => ?_
    | exact pc_some (by assumption)
    | exact pc_some (eqF.bX (by assumption))
    | exact pc_some trivial
    | dsimp only
theorem fr_j_X12_place_0_33 {m0 : MM} {m : MM} {l0 : Nat} {l1 : Int} {l2 : Int} {l3 : Int} {l4 : Int} {s0 : Nat} {s1 : Int} (h : eqF [12] m0 m) : Pc (j_X12_place_0_33 m l0 l1 l2 l3 l4 s0 s1) (RF [12] m0) := by
  unfold j_X12_place_0_33
  repeat' first
    | with_reducible exact pc_x0
    | with_reducible exact pc_xt (by assumption)
    | with_reducible exact pc_xr (by assumption)
    | with_reducible refine pc_nk fun _ => ?_
    | with_reducible refine pc_if ?_ ?_
    | with_reducible refine pc_ck ?_
    | with_reducible refine pc_cb ?_
    | with_reducible refine pc_dv ?_
    | with_reducible refine pc_let fun _ => ?_
    | with_reducible refine pc_letL fun _ => ?_
    | with_reducible refine pc_ldN fun _ => ?_
    | with_reducible refine pc_ldL fun _ => ?_
    | with_reducible refine pc_ldR fun _ => ?_
    | with_reducible refine pc_put (eqF.sN (by assumption) (by decide)) fun _ _ => ?_
    | with_reducible refine pc_put (eqF.sL (by assumption) (by decide)) fun _ _ => ?_
    | with_reducible refine pc_put (eqF.sR (by assumption) (by decide)) fun _ _ => ?_
    | with_reducible refine pc_stN (by decide) (by assumption) fun _ _ => ?_
    | with_reducible refine pc_stL (by decide) (by assumption) fun _ _ => ?_
    | with_reducible refine pc_stR (by decide) (by assumption) fun _ _ => ?_
    | with_reducible refine pc_cpN (by decide) (by assumption) fun _ _ => ?_
    | with_reducible refine pc_bI (fr_f_X12_holds (m0 := _) eqF.rf) (by decide) (by assumption) (fun _ _ _ => ?_) (fun _ _ _ => ?_)
    | with_reducible refine pc_pure fun _ => ?_
    | exact pc_some (by assumption)
    | exact pc_some (eqF.bX (by assumption))
    | exact pc_some trivial
    | dsimp only
theorem fr_j_X12_place_0_14 {m0 : MM} {m : MM} {l0 : Nat} {l1 : Int} {l2 : Int} {l3 : Int} {l4 : Int} {s0 : Nat} (h : eqF [12] m0 m) : Pc (j_X12_place_0_14 m l0 l1 l2 l3 l4 s0) (RF [12] m0) := by
  unfold j_X12_place_0_14
  repeat' first
    | with_reducible exact pc_x0
    | with_reducible exact pc_xt (by assumption)
    | with_reducible exact pc_xr (by assumption)
    | with_reducible exact fr_j_X12_place_0_33 (by assumption)
    | with_reducible refine pc_nk fun _ => ?_
    | with_reducible refine pc_if ?_ ?_
    | with_reducible refine pc_ck ?_
    | with_reducible refine pc_cb ?_
    | with_reducible refine pc_dv ?_
    | with_reducible refine pc_let fun _ => ?_
    | with_reducible refine pc_letL fun _ => ?_
    | with_reducible refine pc_ldN fun _ => ?_
    | with_reducible refine pc_ldL fun _ => ?_
    | with_reducible refine pc_ldR fun _ => ?_
    | with_reducible refine pc_put (eqF.sN (by assumption) (by decide)) fun _ _ => ?_
    | with_reducible refine pc_put (eqF.sL (by assumption) (by decide)) fun _ _ => ?_
    | with_reducible refine pc_put (eqF.sR (by assumption) (by decide)) fun _ _ => ?_
    | with_reducible refine pc_stN (by decide) (by assumption) fun _ _ => ?_
    | with_reducible refine pc_stL (by decide) (by assumption) fun _ _ => ?_
    | with_reducible refine pc_stR (by decide) (by assumption) fun _ _ => ?_
    | with_reducible refine pc_cpN (by decide) (by assumption) fun _ _ => ?_
    | with_reducible refine pc_pure fun _ => ?_
    | exact pc_some (by assumption)
    | exact pc_some (eqF.bX (by assumption))
    | exact pc_some trivial
    | dsimp only
theorem fr_f_X12_place {m0 : MM} {m : MM} {l0 : Nat} {l1 : Int} {l2 : Int} {l3 : Int} {l4 : Int} (h : eqF [12] m0 m) : Pc (f_X12_place m l0 l1 l2 l3 l4) (RF [12] m0) := by
  unfold f_X12_place
  repeat' first
    | with_reducible exact pc_x0
    | with_reducible exact pc_xt (by assumption)
    | with_reducible exact pc_xr (by assumption)
    | with_reducible exact fr_j_X12_place_0_14 (by assumption)
    | with_reducible exact fr_j_X12_place_0_33 (by assumption)
    | with_reducible refine pc_nk fun _ => ?_
    | with_reducible refine pc_if ?_ ?_
    | with_reducible refine pc_ck ?_
    | with_reducible refine pc_cb ?_
    | with_reducible refine pc_dv ?_
    | with_reducible refine pc_let fun _ => ?_
    | with_reducible refine pc_letL fun _ => ?_
    | with_reducible refine pc_ldN fun _ => ?_
    | with_reducible refine pc_ldL fun _ => ?_
    | with_reducible refine pc_ldR fun _ => ?_
    | with_reducible refine pc_put (eqF.sN (by assumption) (by decide)) fun _ _ => ?_
    | with_reducible refine pc_put (eqF.sL (by assumption) (by decide)) fun _ _ => ?_
    | with_reducible refine pc_put (eqF.sR (by assumption) (by decide)) fun _ _ => ?_
    | with_reducible refine pc_stN (by decide) (by assumption) fun _ _ => ?_
    | with_reducible refine pc_stL (by decide) (by assumption) fun _ _ => ?_
    | with_reducible refine pc_stR (by decide) (by assumption) fun _ _ => ?_
    | with_reducible refine pc_cpN (by decide) (by assumption) fun _ _ => ?_
    | with_reducible refine pc_pure fun _ => ?_
    | exact pc_some (by assumption)
    | exact pc_some (eqF.bX (by assumption))
    | exact pc_some trivial
    | dsimp only
theorem fr_j_X12_presses_0_174 {m0 : MM} {m : MM} {l2 : Int} {l5 : Int} (h : eqF [12] m0 m) : Pc (j_X12_presses_0_174 m l2 l5) (RF [12] m0) := by
  unfold j_X12_presses_0_174
  repeat' first
    | with_reducible exact pc_x0
    | with_reducible exact pc_xt (by assumption)
    | with_reducible exact pc_xr (by assumption)
    | with_reducible refine pc_nk fun _ => ?_
    | with_reducible refine pc_if ?_ ?_
    | with_reducible refine pc_ck ?_
    | with_reducible refine pc_cb ?_
    | with_reducible refine pc_dv ?_
    | with_reducible refine pc_let fun _ => ?_
    | with_reducible refine pc_letL fun _ => ?_
    | with_reducible refine pc_ldN fun _ => ?_
    | with_reducible refine pc_ldL fun _ => ?_
    | with_reducible refine pc_ldR fun _ => ?_
    | with_reducible refine pc_put (eqF.sN (by assumption) (by decide)) fun _ _ => ?_
    | with_reducible refine pc_put (eqF.sL (by assumption) (by decide)) fun _ _ => ?_
    | with_reducible refine pc_put (eqF.sR (by assumption) (by decide)) fun _ _ => ?_
    | with_reducible refine pc_stN (by decide) (by assumption) fun _ _ => ?_
    | with_reducible refine pc_stL (by decide) (by assumption) fun _ _ => ?_
    | with_reducible refine pc_stR (by decide) (by assumption) fun _ _ => ?_
    | with_reducible refine pc_cpN (by decide) (by assumption) fun _ _ => ?_
    | with_reducible refine pc_pure fun _ => ?_
    | exact pc_some (by assumption)
    | exact pc_some (eqF.bX (by assumption))
    | exact pc_some trivial
    | dsimp only
theorem fr_j_X12_presses_0_137 {m0 : MM} {m : MM} {l2 : Int} {l3 : Int} {l4 : Int} (h : eqF [12] m0 m) : Pc (j_X12_presses_0_137 m l2 l3 l4) (RF [12] m0) := by
  unfold j_X12_presses_0_137
  repeat' first
    | with_reducible exact pc_x0
    | with_reducible exact pc_xt (by assumption)
    | with_reducible exact pc_xr (by assumption)
    | with_reducible exact fr_j_X12_presses_0_174 (by assumption)
    | with_reducible refine pc_nk fun _ => ?_
    | with_reducible refine pc_if ?_ ?_
    | with_reducible refine pc_ck ?_
    | with_reducible refine pc_cb ?_
    | with_reducible refine pc_dv ?_
    | with_reducible refine pc_let fun _ => ?_
    | with_reducible refine pc_letL fun _ => ?_
    | with_reducible refine pc_ldN fun _ => ?_
    | with_reducible refine pc_ldL fun _ => ?_
    | with_reducible refine pc_ldR fun _ => ?_
    | with_reducible refine pc_put (eqF.sN (by assumption) (by decide)) fun _ _ => ?_
    | with_reducible refine pc_put (eqF.sL (by assumption) (by decide)) fun _ _ => ?_
    | with_reducible refine pc_put (eqF.sR (by assumption) (by decide)) fun _ _ => ?_
    | with_reducible refine pc_stN (by decide) (by assumption) fun _ _ => ?_
    | with_reducible refine pc_stL (by decide) (by assumption) fun _ _ => ?_
    | with_reducible refine pc_stR (by decide) (by assumption) fun _ _ => ?_
    | with_reducible refine pc_cpN (by decide) (by assumption) fun _ _ => ?_
    | with_reducible refine pc_pure fun _ => ?_
    | exact pc_some (by assumption)
    | exact pc_some (eqF.bX (by assumption))
    | exact pc_some trivial
    | dsimp only
theorem fr_j_X12_presses_0_14 {m0 : MM} {m : MM} {l0 : Nat} {l1 : Int} {s0 : Nat} {s1 : Int} (h : eqF [12] m0 m) : Pc (j_X12_presses_0_14 m l0 l1 s0 s1) (RF [12] m0) := by
  unfold j_X12_presses_0_14
  repeat' first
    | with_reducible exact pc_x0
    | with_reducible exact pc_xt (by assumption)
    | with_reducible exact pc_xr (by assumption)
    | with_reducible exact fr_j_X12_presses_0_137 (by assumption)
    | with_reducible refine pc_nk fun _ => ?_
    | with_reducible refine pc_if ?_ ?_
    | with_reducible refine pc_ck ?_
    | with_reducible refine pc_cb ?_
    | with_reducible refine pc_dv ?_
    | with_reducible refine pc_let fun _ => ?_
    | with_reducible refine pc_letL fun _ => ?_
    | with_reducible refine pc_ldN fun _ => ?_
    | with_reducible refine pc_ldL fun _ => ?_
    | with_reducible refine pc_ldR fun _ => ?_
    | with_reducible refine pc_put (eqF.sN (by assumption) (by decide)) fun _ _ => ?_
    | with_reducible refine pc_put (eqF.sL (by assumption) (by decide)) fun _ _ => ?_
    | with_reducible refine pc_put (eqF.sR (by assumption) (by decide)) fun _ _ => ?_
    | with_reducible refine pc_stN (by decide) (by assumption) fun _ _ => ?_
    | with_reducible refine pc_stL (by decide) (by assumption) fun _ _ => ?_
    | with_reducible refine pc_stR (by decide) (by assumption) fun _ _ => ?_
    | with_reducible refine pc_cpN (by decide) (by assumption) fun _ _ => ?_
    | with_reducible refine pc_bI (fr_f_X12_holds (m0 := _) eqF.rf) (by decide) (by assumption) (fun _ _ _ => ?_) (fun _ _ _ => ?_)
    | with_reducible refine pc_pure fun _ => ?_
    | exact pc_some (by assumption)
    | exact pc_some (eqF.bX (by assumption))
    | exact pc_some trivial
    | dsimp only
theorem fr_f_X12_presses {m0 : MM} {m : MM} {l0 : Nat} {l1 : Int} (h : eqF [12] m0 m) : Pc (f_X12_presses m l0 l1) (RF [12] m0) := by
  unfold f_X12_presses
  repeat' first
    | with_reducible exact pc_x0
    | with_reducible exact pc_xt (by assumption)
    | with_reducible exact pc_xr (by assumption)
    | with_reducible exact fr_j_X12_presses_0_14 (by assumption)
    | with_reducible refine pc_nk fun _ => ?_
    | with_reducible refine pc_if ?_ ?_
    | with_reducible refine pc_ck ?_
    | with_reducible refine pc_cb ?_
    | with_reducible refine pc_dv ?_
    | with_reducible refine pc_let fun _ => ?_
    | with_reducible refine pc_letL fun _ => ?_
    | with_reducible refine pc_ldN fun _ => ?_
    | with_reducible refine pc_ldL fun _ => ?_
    | with_reducible refine pc_ldR fun _ => ?_
    | with_reducible refine pc_put (eqF.sN (by assumption) (by decide)) fun _ _ => ?_
    | with_reducible refine pc_put (eqF.sL (by assumption) (by decide)) fun _ _ => ?_
    | with_reducible refine pc_put (eqF.sR (by assumption) (by decide)) fun _ _ => ?_
    | with_reducible refine pc_stN (by decide) (by assumption) fun _ _ => ?_
    | with_reducible refine pc_stL (by decide) (by assumption) fun _ _ => ?_
    | with_reducible refine pc_stR (by decide) (by assumption) fun _ _ => ?_
    | with_reducible refine pc_cpN (by decide) (by assumption) fun _ _ => ?_
    | with_reducible refine pc_pure fun _ => ?_
    | exact pc_some (by assumption)
    | exact pc_some (eqF.bX (by assumption))
    | exact pc_some trivial
    | dsimp only
theorem fr_j_X12_print_0_160 {m0 : MM} {m : MM} {l0 : Nat} {l2 : Int} {l6 : Int} {s0 : Nat} {s1 : Int} {s2 : Int} (h : eqF [12, 108, 113, 115, 116, 117, 118, 119, 122, 125] m0 m) : Pc (j_X12_print_0_160 m l0 l2 l6 s0 s1 s2) (RF [12, 108, 113, 115, 116, 117, 118, 119, 122, 125] m0) := by
  unfold j_X12_print_0_160
  repeat' first
    | with_reducible exact pc_x0
    | with_reducible exact pc_xt (by assumption)
    | with_reducible exact pc_xr (by assumption)
    | with_reducible refine pc_nk fun _ => ?_
    | with_reducible refine pc_if ?_ ?_
    | with_reducible refine pc_ck ?_
    | with_reducible refine pc_cb ?_
    | with_reducible refine pc_dv ?_
    | with_reducible refine pc_let fun _ => ?_
    | with_reducible refine pc_letL fun _ => ?_
    | with_reducible refine pc_ldN fun _ => ?_
    | with_reducible refine pc_ldL fun _ => ?_
    | with_reducible refine pc_ldR fun _ => ?_
    | with_reducible refine pc_put (eqF.sN (by assumption) (by decide)) fun _ _ => ?_
    | with_reducible refine pc_put (eqF.sL (by assumption) (by decide)) fun _ _ => ?_
    | with_reducible refine pc_put (eqF.sR (by assumption) (by decide)) fun _ _ => ?_
    | with_reducible refine pc_stN (by decide) (by assumption) fun _ _ => ?_
    | with_reducible refine pc_stL (by decide) (by assumption) fun _ _ => ?_
    | with_reducible refine pc_stR (by decide) (by assumption) fun _ _ => ?_
    | with_reducible refine pc_cpN (by decide) (by assumption) fun _ _ => ?_
    | with_reducible refine pc_pure fun _ => ?_
    | exact pc_some (by assumption)
    | exact pc_some (eqF.bX (by assumption))
    | exact pc_some trivial
    | dsimp only
theorem fr_j_X12_print_0_91 {m0 : MM} {m : MM} {l0 : Nat} {l1 : Int} {l2 : Int} {l5 : Int} {s0 : Nat} {s1 : Int} (h : eqF [12, 108, 113, 115, 116, 117, 118, 119, 122, 125] m0 m) : Pc (j_X12_print_0_91 m l0 l1 l2 l5 s0 s1) (RF [12, 108, 113, 115, 116, 117, 118, 119, 122, 125] m0) := by
  unfold j_X12_print_0_91
  repeat' first
    | with_reducible exact pc_x0
    | with_reducible exact pc_xt (by assumption)
    | with_reducible exact pc_xr (by assumption)
    | with_reducible exact fr_j_X12_print_0_160 (by assumption)
    | with_reducible refine pc_nk fun _ => ?_
    | with_reducible refine pc_if ?_ ?_
    | with_reducible refine pc_ck ?_
    | with_reducible refine pc_cb ?_
    | with_reducible refine pc_dv ?_
    | with_reducible refine pc_let fun _ => ?_
    | with_reducible refine pc_letL fun _ => ?_
    | with_reducible refine pc_ldN fun _ => ?_
    | with_reducible refine pc_ldL fun _ => ?_
    | with_reducible refine pc_ldR fun _ => ?_
    | with_reducible refine pc_put (eqF.sN (by assumption) (by decide)) fun _ _ => ?_
    | with_reducible refine pc_put (eqF.sL (by assumption) (by decide)) fun _ _ => ?_
    | with_reducible refine pc_put (eqF.sR (by assumption) (by decide)) fun _ _ => ?_
    | with_reducible refine pc_stN (by decide) (by assumption) fun _ _ => ?_
    | with_reducible refine pc_stL (by decide) (by assumption) fun _ _ => ?_
    | with_reducible refine pc_stR (by decide) (by assumption) fun _ _ => ?_
    | with_reducible refine pc_cpN (by decide) (by assumption) fun _ _ => ?_
    | with_reducible refine pc_bI (fr_f_X12_holds (m0 := _) eqF.rf) (by decide) (by assumption) (fun _ _ _ => ?_) (fun _ _ _ => ?_)
    | with_reducible refine pc_pure fun _ => ?_
    | exact pc_some (by assumption)
    | exact pc_some (eqF.bX (by assumption))
    | exact pc_some trivial
    | dsimp only
theorem fr_j_X12_print_0_86 {m0 : MM} {m : MM} {l0 : Nat} {l1 : Int} {l2 : Int} {l5 : Int} {s0 : Nat} (h : eqF [12, 108, 113, 115, 116, 117, 118, 119, 122, 125] m0 m) : Pc (j_X12_print_0_86 m l0 l1 l2 l5 s0) (RF [12, 108, 113, 115, 116, 117, 118, 119, 122, 125] m0) := by
  unfold j_X12_print_0_86
  repeat' first
    | with_reducible exact pc_x0
    | with_reducible exact pc_xt (by assumption)
    | with_reducible exact pc_xr (by assumption)
    | with_reducible exact fr_j_X12_print_0_91 (by assumption)
    | with_reducible refine pc_nk fun _ => ?_
    | with_reducible refine pc_if ?_ ?_
    | with_reducible refine pc_ck ?_
    | with_reducible refine pc_cb ?_
    | with_reducible refine pc_dv ?_
    | with_reducible refine pc_let fun _ => ?_
    | with_reducible refine pc_letL fun _ => ?_
    | with_reducible refine pc_ldN fun _ => ?_
    | with_reducible refine pc_ldL fun _ => ?_
    | with_reducible refine pc_ldR fun _ => ?_
    | with_reducible refine pc_put (eqF.sN (by assumption) (by decide)) fun _ _ => ?_
    | with_reducible refine pc_put (eqF.sL (by assumption) (by decide)) fun _ _ => ?_
    | with_reducible refine pc_put (eqF.sR (by assumption) (by decide)) fun _ _ => ?_
    | with_reducible refine pc_stN (by decide) (by assumption) fun _ _ => ?_
    | with_reducible refine pc_stL (by decide) (by assumption) fun _ _ => ?_
    | with_reducible refine pc_stR (by decide) (by assumption) fun _ _ => ?_
    | with_reducible refine pc_cpN (by decide) (by assumption) fun _ _ => ?_
    | with_reducible refine pc_pure fun _ => ?_
    | exact pc_some (by assumption)
    | exact pc_some (eqF.bX (by assumption))
    | exact pc_some trivial
    | dsimp only
theorem fr_j_X12_print_0_40 {m0 : MM} {m : MM} {l0 : Nat} {l1 : Int} {l2 : Int} {l4 : Int} {s0 : Int} (h : eqF [12, 108, 113, 115, 116, 117, 118, 119, 122, 125] m0 m) : Pc (j_X12_print_0_40 m l0 l1 l2 l4 s0) (RF [12, 108, 113, 115, 116, 117, 118, 119, 122, 125] m0) := by
  unfold j_X12_print_0_40
  repeat' first
    | with_reducible exact pc_x0
    | with_reducible exact pc_xt (by assumption)
    | with_reducible exact pc_xr (by assumption)
    | with_reducible exact fr_j_X12_print_0_86 (by assumption)
    | with_reducible exact fr_j_X12_print_0_91 (by assumption)
    | with_reducible refine pc_nk fun _ => ?_
    | with_reducible refine pc_if ?_ ?_
    | with_reducible refine pc_ck ?_
    | with_reducible refine pc_cb ?_
    | with_reducible refine pc_dv ?_
    | with_reducible refine pc_let fun _ => ?_
    | with_reducible refine pc_letL fun _ => ?_
    | with_reducible refine pc_ldN fun _ => ?_
    | with_reducible refine pc_ldL fun _ => ?_
    | with_reducible refine pc_ldR fun _ => ?_
    | with_reducible refine pc_put (eqF.sN (by assumption) (by decide)) fun _ _ => ?_
    | with_reducible refine pc_put (eqF.sL (by assumption) (by decide)) fun _ _ => ?_
    | with_reducible refine pc_put (eqF.sR (by assumption) (by decide)) fun _ _ => ?_
    | with_reducible refine pc_stN (by decide) (by assumption) fun _ _ => ?_
    | with_reducible refine pc_stL (by decide) (by assumption) fun _ _ => ?_
    | with_reducible refine pc_stR (by decide) (by assumption) fun _ _ => ?_
    | with_reducible refine pc_cpN (by decide) (by assumption) fun _ _ => ?_
    | with_reducible refine pc_pure fun _ => ?_
    | exact pc_some (by assumption)
    | exact pc_some (eqF.bX (by assumption))
    | exact pc_some trivial
    | dsimp only
theorem fr_j_X12_print_0_23 {m0 : MM} {m : MM} {l0 : Nat} {l1 : Int} {l2 : Int} {l3 : Int} {s0 : Int} (h : eqF [12, 108, 113, 115, 116, 117, 118, 119, 122, 125] m0 m) : Pc (j_X12_print_0_23 m l0 l1 l2 l3 s0) (RF [12, 108, 113, 115, 116, 117, 118, 119, 122, 125] m0) := by
  unfold j_X12_print_0_23
  repeat' first
    | with_reducible exact pc_x0
    | with_reducible exact pc_xt (by assumption)
    | with_reducible exact pc_xr (by assumption)
    | with_reducible exact fr_j_X12_print_0_40 (by assumption)
    | with_reducible refine pc_nk fun _ => ?_
    | with_reducible refine pc_if ?_ ?_
    | with_reducible refine pc_ck ?_
    | with_reducible refine pc_cb ?_
    | with_reducible refine pc_dv ?_
    | with_reducible refine pc_let fun _ => ?_
    | with_reducible refine pc_letL fun _ => ?_
    | with_reducible refine pc_ldN fun _ => ?_
    | with_reducible refine pc_ldL fun _ => ?_
    | with_reducible refine pc_ldR fun _ => ?_
    | with_reducible refine pc_put (eqF.sN (by assumption) (by decide)) fun _ _ => ?_
    | with_reducible refine pc_put (eqF.sL (by assumption) (by decide)) fun _ _ => ?_
    | with_reducible refine pc_put (eqF.sR (by assumption) (by decide)) fun _ _ => ?_
    | with_reducible refine pc_stN (by decide) (by assumption) fun _ _ => ?_
    | with_reducible refine pc_stL (by decide) (by assumption) fun _ _ => ?_
    | with_reducible refine pc_stR (by decide) (by assumption) fun _ _ => ?_
    | with_reducible refine pc_cpN (by decide) (by assumption) fun _ _ => ?_
    | with_reducible refine pc_pure fun _ => ?_
    | exact pc_some (by assumption)
    | exact pc_some (eqF.bX (by assumption))
    | exact pc_some trivial
    | dsimp only
theorem fr_j_X12_print_0_22 {m0 : MM} {m : MM} {l0 : Nat} {l1 : Int} {l2 : Int} {l3 : Int} (h : eqF [12, 108, 113, 115, 116, 117, 118, 119, 122, 125] m0 m) : Pc (j_X12_print_0_22 m l0 l1 l2 l3) (RF [12, 108, 113, 115, 116, 117, 118, 119, 122, 125] m0) := by
  unfold j_X12_print_0_22
  repeat' first
    | with_reducible exact pc_x0
    | with_reducible exact pc_xt (by assumption)
    | with_reducible exact pc_xr (by assumption)
    | with_reducible exact fr_j_X12_print_0_23 (by assumption)
    | with_reducible refine pc_nk fun _ => ?_
    | with_reducible refine pc_if ?_ ?_
    | with_reducible refine pc_ck ?_
    | with_reducible refine pc_cb ?_
    | with_reducible refine pc_dv ?_
    | with_reducible refine pc_let fun _ => ?_
    | with_reducible refine pc_letL fun _ => ?_
    | with_reducible refine pc_ldN fun _ => ?_
    | with_reducible refine pc_ldL fun _ => ?_
    | with_reducible refine pc_ldR fun _ => ?_
    | with_reducible refine pc_put (eqF.sN (by assumption) (by decide)) fun _ _ => ?_
    | with_reducible refine pc_put (eqF.sL (by assumption) (by decide)) fun _ _ => ?_
    | with_reducible refine pc_put (eqF.sR (by assumption) (by decide)) fun _ _ => ?_
    | with_reducible refine pc_stN (by decide) (by assumption) fun _ _ => ?_
    | with_reducible refine pc_stL (by decide) (by assumption) fun _ _ => ?_
    | with_reducible refine pc_stR (by decide) (by assumption) fun _ _ => ?_
    | with_reducible refine pc_cpN (by decide) (by assumption) fun _ _ => ?_
    | with_reducible refine pc_pure fun _ => ?_
    | exact pc_some (by assumption)
    | exact pc_some (eqF.bX (by assumption))
    | exact pc_some trivial
    | dsimp only
theorem fr_f_X12_print {m0 : MM} {m : MM} {l0 : Nat} {l1 : Int} {l2 : Int} {l3 : Int} (h : eqF [12, 108, 113, 115, 116, 117, 118, 119, 122, 125] m0 m) : Pc (f_X12_print m l0 l1 l2 l3) (RF [12, 108, 113, 115, 116, 117, 118, 119, 122, 125] m0) := by
  unfold f_X12_print
  repeat' first
    | with_reducible exact pc_x0
    | with_reducible exact pc_xt (by assumption)
    | with_reducible exact pc_xr (by assumption)
    | with_reducible exact fr_j_X12_print_0_22 (by assumption)
    | with_reducible exact fr_j_X12_print_0_23 (by assumption)
    | with_reducible refine pc_nk fun _ => ?_
    | with_reducible refine pc_if ?_ ?_
    | with_reducible refine pc_ck ?_
    | with_reducible refine pc_cb ?_
    | with_reducible refine pc_dv ?_
    | with_reducible refine pc_let fun _ => ?_
    | with_reducible refine pc_letL fun _ => ?_
    | with_reducible refine pc_ldN fun _ => ?_
    | with_reducible refine pc_ldL fun _ => ?_
    | with_reducible refine pc_ldR fun _ => ?_
    | with_reducible refine pc_put (eqF.sN (by assumption) (by decide)) fun _ _ => ?_
    | with_reducible refine pc_put (eqF.sL (by assumption) (by decide)) fun _ _ => ?_
    | with_reducible refine pc_put (eqF.sR (by assumption) (by decide)) fun _ _ => ?_
    | with_reducible refine pc_stN (by decide) (by assumption) fun _ _ => ?_
    | with_reducible refine pc_stL (by decide) (by assumption) fun _ _ => ?_
    | with_reducible refine pc_stR (by decide) (by assumption) fun _ _ => ?_
    | with_reducible refine pc_cpN (by decide) (by assumption) fun _ _ => ?_
    | with_reducible refine pc_pure fun _ => ?_
    | exact pc_some (by assumption)
    | exact pc_some (eqF.bX (by assumption))
    | exact pc_some trivial
    | dsimp only
theorem fr_j_X12_putAway_108_232 {m0 : MM} {m : MM} {l0 : Nat} {l1 : Int} {l2 : Int} {l3 : Int} {l5 : Int} {l6 : Int} {l7 : Int} {l8 : Int} {l9 : Int} {s0 : Nat} {s1 : Int} (h : eqF [12, 64, 65, 66, 72, 100, 101, 108] m0 m) : Pc (j_X12_putAway_108_232 m l0 l1 l2 l3 l5 l6 l7 l8 l9 s0 s1) (fun z => Sum.elim (fun s => eqF [12, 64, 65, 66, 72, 100, 101, 108] m0 s.2.2) (fun z => eqF [12, 64, 65, 66, 72, 100, 101, 108] m0 z.2) z) := by
  unfold j_X12_putAway_108_232
  repeat' first
    | with_reducible exact pc_x0
    | with_reducible exact pc_xt (by assumption)
    | with_reducible exact pc_xr (by assumption)
    | with_reducible refine pc_nk fun _ => ?_
    | with_reducible refine pc_if ?_ ?_
    | with_reducible refine pc_ck ?_
    | with_reducible refine pc_cb ?_
    | with_reducible refine pc_dv ?_
    | with_reducible refine pc_let fun _ => ?_
    | with_reducible refine pc_letL fun _ => ?_
    | with_reducible refine pc_ldN fun _ => ?_
    | with_reducible refine pc_ldL fun _ => ?_
    | with_reducible refine pc_ldR fun _ => ?_
    | with_reducible refine pc_put (eqF.sN (by assumption) (by decide)) fun _ _ => ?_
    | with_reducible refine pc_put (eqF.sL (by assumption) (by decide)) fun _ _ => ?_
    | with_reducible refine pc_put (eqF.sR (by assumption) (by decide)) fun _ _ => ?_
    | with_reducible refine pc_stN (by decide) (by assumption) fun _ _ => ?_
    | with_reducible refine pc_stL (by decide) (by assumption) fun _ _ => ?_
    | with_reducible refine pc_stR (by decide) (by assumption) fun _ _ => ?_
    | with_reducible refine pc_cpN (by decide) (by assumption) fun _ _ => ?_
    | with_reducible refine pc_bV (fr_f_X12_puts (m0 := _) eqF.rf) (by decide) (by assumption) (fun _ _ => ?_) (fun _ _ _ => ?_)
    | with_reducible refine pc_pure fun _ => ?_
    | exact pc_some (by assumption)
    | exact pc_some (eqF.bX (by assumption))
    | exact pc_some trivial
    | dsimp only
theorem fr_j_X12_putAway_108_192 {m0 : MM} {m : MM} {l0 : Nat} {l1 : Int} {l2 : Int} {l3 : Int} {l5 : Int} {l6 : Int} {l7 : Int} {l8 : Int} {l9 : Int} {s0 : Int} (h : eqF [12, 64, 65, 66, 72, 100, 101, 108] m0 m) : Pc (j_X12_putAway_108_192 m l0 l1 l2 l3 l5 l6 l7 l8 l9 s0) (fun z => Sum.elim (fun s => eqF [12, 64, 65, 66, 72, 100, 101, 108] m0 s.2.2) (fun z => eqF [12, 64, 65, 66, 72, 100, 101, 108] m0 z.2) z) := by
  unfold j_X12_putAway_108_192
  repeat' first
    | with_reducible exact pc_x0
    | with_reducible exact pc_xt (by assumption)
    | with_reducible exact pc_xr (by assumption)
    | with_reducible exact fr_j_X12_putAway_108_232 (by assumption)
    | with_reducible refine pc_nk fun _ => ?_
    | with_reducible refine pc_if ?_ ?_
    | with_reducible refine pc_ck ?_
    | with_reducible refine pc_cb ?_
    | with_reducible refine pc_dv ?_
    | with_reducible refine pc_let fun _ => ?_
    | with_reducible refine pc_letL fun _ => ?_
    | with_reducible refine pc_ldN fun _ => ?_
    | with_reducible refine pc_ldL fun _ => ?_
    | with_reducible refine pc_ldR fun _ => ?_
    | with_reducible refine pc_put (eqF.sN (by assumption) (by decide)) fun _ _ => ?_
    | with_reducible refine pc_put (eqF.sL (by assumption) (by decide)) fun _ _ => ?_
    | with_reducible refine pc_put (eqF.sR (by assumption) (by decide)) fun _ _ => ?_
    | with_reducible refine pc_stN (by decide) (by assumption) fun _ _ => ?_
    | with_reducible refine pc_stL (by decide) (by assumption) fun _ _ => ?_
    | with_reducible refine pc_stR (by decide) (by assumption) fun _ _ => ?_
    | with_reducible refine pc_cpN (by decide) (by assumption) fun _ _ => ?_
    | with_reducible refine pc_pure fun _ => ?_
    | exact pc_some (by assumption)
    | exact pc_some (eqF.bX (by assumption))
    | exact pc_some trivial
    | dsimp only
theorem fr_j_X12_putAway_108_191 {m0 : MM} {m : MM} {l0 : Nat} {l1 : Int} {l2 : Int} {l3 : Int} {l5 : Int} {l6 : Int} {l7 : Int} {l8 : Int} {l9 : Int} (h : eqF [12, 64, 65, 66, 72, 100, 101, 108] m0 m) : Pc (j_X12_putAway_108_191 m l0 l1 l2 l3 l5 l6 l7 l8 l9) (fun z => Sum.elim (fun s => eqF [12, 64, 65, 66, 72, 100, 101, 108] m0 s.2.2) (fun z => eqF [12, 64, 65, 66, 72, 100, 101, 108] m0 z.2) z) := by
  unfold j_X12_putAway_108_191
  repeat' first
    | with_reducible exact pc_x0
    | with_reducible exact pc_xt (by assumption)
    | with_reducible exact pc_xr (by assumption)
    | with_reducible exact fr_j_X12_putAway_108_192 (by assumption)
    | with_reducible refine pc_nk fun _ => ?_
    | with_reducible refine pc_if ?_ ?_
    | with_reducible refine pc_ck ?_
    | with_reducible refine pc_cb ?_
    | with_reducible refine pc_dv ?_
    | with_reducible refine pc_let fun _ => ?_
    | with_reducible refine pc_letL fun _ => ?_
    | with_reducible refine pc_ldN fun _ => ?_
    | with_reducible refine pc_ldL fun _ => ?_
    | with_reducible refine pc_ldR fun _ => ?_
    | with_reducible refine pc_put (eqF.sN (by assumption) (by decide)) fun _ _ => ?_
    | with_reducible refine pc_put (eqF.sL (by assumption) (by decide)) fun _ _ => ?_
    | with_reducible refine pc_put (eqF.sR (by assumption) (by decide)) fun _ _ => ?_
    | with_reducible refine pc_stN (by decide) (by assumption) fun _ _ => ?_
    | with_reducible refine pc_stL (by decide) (by assumption) fun _ _ => ?_
    | with_reducible refine pc_stR (by decide) (by assumption) fun _ _ => ?_
    | with_reducible refine pc_cpN (by decide) (by assumption) fun _ _ => ?_
    | with_reducible refine pc_pure fun _ => ?_
    | exact pc_some (by assumption)
    | exact pc_some (eqF.bX (by assumption))
    | exact pc_some trivial
    | dsimp only
theorem fr_b_X12_putAway_108 {m0 : MM} {l0 : Nat} {l1 : Int} {l2 : Int} {l3 : Int} {l5 : Int} {l7 : Int} {l8 : Int} {l6 : Int} {l9 : Int} {mm : MM} (h : eqF [12, 64, 65, 66, 72, 100, 101, 108] m0 mm) : Pc (b_X12_putAway_108 l0 l1 l2 l3 l5 l7 l8 l6 l9 mm) (fun z => Sum.elim (fun s => eqF [12, 64, 65, 66, 72, 100, 101, 108] m0 s.2.2) (fun z => eqF [12, 64, 65, 66, 72, 100, 101, 108] m0 z.2) z) := by
  unfold b_X12_putAway_108
  repeat' first
    | with_reducible exact pc_x0
    | with_reducible exact pc_xt (by assumption)
    | with_reducible exact pc_xr (by assumption)
    | with_reducible exact fr_j_X12_putAway_108_191 (by assumption)
    | with_reducible exact fr_j_X12_putAway_108_192 (by assumption)
    | with_reducible refine pc_nk fun _ => ?_
    | with_reducible refine pc_if ?_ ?_
    | with_reducible refine pc_ck ?_
    | with_reducible refine pc_cb ?_
    | with_reducible refine pc_dv ?_
    | with_reducible refine pc_let fun _ => ?_
    | with_reducible refine pc_letL fun _ => ?_
    | with_reducible refine pc_ldN fun _ => ?_
    | with_reducible refine pc_ldL fun _ => ?_
    | with_reducible refine pc_ldR fun _ => ?_
    | with_reducible refine pc_put (eqF.sN (by assumption) (by decide)) fun _ _ => ?_
    | with_reducible refine pc_put (eqF.sL (by assumption) (by decide)) fun _ _ => ?_
    | with_reducible refine pc_put (eqF.sR (by assumption) (by decide)) fun _ _ => ?_
    | with_reducible refine pc_stN (by decide) (by assumption) fun _ _ => ?_
    | with_reducible refine pc_stL (by decide) (by assumption) fun _ _ => ?_
    | with_reducible refine pc_stR (by decide) (by assumption) fun _ _ => ?_
    | with_reducible refine pc_cpN (by decide) (by assumption) fun _ _ => ?_
    | with_reducible refine pc_pure fun _ => ?_
    | exact pc_some (by assumption)
    | exact pc_some (eqF.bX (by assumption))
    | exact pc_some trivial
    | dsimp only
theorem fr_j_X12_putAway_81_264 {m0 : MM} {m : MM} {l0 : Nat} {l1 : Int} {l2 : Int} {l3 : Int} {l5 : Int} {l6 : Int} {l7 : Int} (h : eqF [12, 64, 65, 66, 72, 100, 101, 108] m0 m) : Pc (j_X12_putAway_81_264 m l0 l1 l2 l3 l5 l6 l7) (fun z => Sum.elim (fun s => eqF [12, 64, 65, 66, 72, 100, 101, 108] m0 s.2.2) (fun z => eqF [12, 64, 65, 66, 72, 100, 101, 108] m0 z.2) z) := by
  unfold j_X12_putAway_81_264
  repeat' first
    | with_reducible exact pc_x0
    | with_reducible exact pc_xt (by assumption)
    | with_reducible exact pc_xr (by assumption)
    | with_reducible refine pc_nk fun _ => ?_
    | with_reducible refine pc_if ?_ ?_
    | with_reducible refine pc_ck ?_
    | with_reducible refine pc_cb ?_
    | with_reducible refine pc_dv ?_
    | with_reducible refine pc_let fun _ => ?_
    | with_reducible refine pc_letL fun _ => ?_
    | with_reducible refine pc_ldN fun _ => ?_
    | with_reducible refine pc_ldL fun _ => ?_
    | with_reducible refine pc_ldR fun _ => ?_
    | with_reducible refine pc_put (eqF.sN (by assumption) (by decide)) fun _ _ => ?_
    | with_reducible refine pc_put (eqF.sL (by assumption) (by decide)) fun _ _ => ?_
    | with_reducible refine pc_put (eqF.sR (by assumption) (by decide)) fun _ _ => ?_
    | with_reducible refine pc_stN (by decide) (by assumption) fun _ _ => ?_
    | with_reducible refine pc_stL (by decide) (by assumption) fun _ _ => ?_
    | with_reducible refine pc_stR (by decide) (by assumption) fun _ _ => ?_
    | with_reducible refine pc_cpN (by decide) (by assumption) fun _ _ => ?_
    | with_reducible refine pc_pure fun _ => ?_
    | exact pc_some (by assumption)
    | exact pc_some (eqF.bX (by assumption))
    | exact pc_some trivial
    | dsimp only
theorem fr_b_X12_putAway_81 {m0 : MM} {l0 : Nat} {l1 : Int} {l2 : Int} {l3 : Int} {l5 : Int} {l6 : Int} {l7 : Int} {mm : MM} (h : eqF [12, 64, 65, 66, 72, 100, 101, 108] m0 mm) : Pc (b_X12_putAway_81 l0 l1 l2 l3 l5 l6 l7 mm) (fun z => Sum.elim (fun s => eqF [12, 64, 65, 66, 72, 100, 101, 108] m0 s.2.2) (fun z => eqF [12, 64, 65, 66, 72, 100, 101, 108] m0 z.2) z) := by
  unfold b_X12_putAway_81
  repeat' first
    | with_reducible exact pc_x0
    | with_reducible exact pc_xt (by assumption)
    | with_reducible exact pc_xr (by assumption)
    | with_reducible exact fr_j_X12_putAway_81_264 (by assumption)
    | with_reducible refine pc_nk fun _ => ?_
    | with_reducible refine pc_if ?_ ?_
    | with_reducible refine pc_ck ?_
    | with_reducible refine pc_cb ?_
    | with_reducible refine pc_dv ?_
    | with_reducible refine pc_let fun _ => ?_
    | with_reducible refine pc_letL fun _ => ?_
    | with_reducible refine pc_ldN fun _ => ?_
    | with_reducible refine pc_ldL fun _ => ?_
    | with_reducible refine pc_ldR fun _ => ?_
    | with_reducible refine pc_put (eqF.sN (by assumption) (by decide)) fun _ _ => ?_
    | with_reducible refine pc_put (eqF.sL (by assumption) (by decide)) fun _ _ => ?_
    | with_reducible refine pc_put (eqF.sR (by assumption) (by decide)) fun _ _ => ?_
    | with_reducible refine pc_stN (by decide) (by assumption) fun _ _ => ?_
    | with_reducible refine pc_stL (by decide) (by assumption) fun _ _ => ?_
    | with_reducible refine pc_stR (by decide) (by assumption) fun _ _ => ?_
    | with_reducible refine pc_cpN (by decide) (by assumption) fun _ _ => ?_
    | with_reducible refine pc_lp (fun s => eqF [12, 64, 65, 66, 72, 100, 101, 108] m0 s.2.2) (fun z => eqF [12, 64, 65, 66, 72, 100, 101, 108] m0 z.2) (by assumption) (fun s hs => fr_b_X12_putAway_108 hs) (fun z hz => ?_)
    | with_reducible refine pc_pure fun _ => ?_
    | exact pc_some (by assumption)
    | exact pc_some (eqF.bX (by assumption))
    | exact pc_some trivial
    | dsimp only
theorem fr_j_X12_putAway_0_270 {m0 : MM} {m : MM} {l0 : Nat} {l5 : Int} {l6 : Int} (h : eqF [12, 64, 65, 66, 72, 100, 101, 108] m0 m) : Pc (j_X12_putAway_0_270 m l0 l5 l6) (RF [12, 64, 65, 66, 72, 100, 101, 108] m0) := by
  unfold j_X12_putAway_0_270
  repeat' first
    | with_reducible exact pc_x0
    | with_reducible exact pc_xt (by assumption)
    | with_reducible exact pc_xr (by assumption)
    | with_reducible refine pc_nk fun _ => ?_
    | with_reducible refine pc_if ?_ ?_
    | with_reducible refine pc_ck ?_
    | with_reducible refine pc_cb ?_
    | with_reducible refine pc_dv ?_
    | with_reducible refine pc_let fun _ => ?_
    | with_reducible refine pc_letL fun _ => ?_
    | with_reducible refine pc_ldN fun _ => ?_
    | with_reducible refine pc_ldL fun _ => ?_
    | with_reducible refine pc_ldR fun _ => ?_
    | with_reducible refine pc_put (eqF.sN (by assumption) (by decide)) fun _ _ => ?_
    | with_reducible refine pc_put (eqF.sL (by assumption) (by decide)) fun _ _ => ?_
    | with_reducible refine pc_put (eqF.sR (by assumption) (by decide)) fun _ _ => ?_
    | with_reducible refine pc_stN (by decide) (by assumption) fun _ _ => ?_
    | with_reducible refine pc_stL (by decide) (by assumption) fun _ _ => ?_
    | with_reducible refine pc_stR (by decide) (by assumption) fun _ _ => ?_
    | with_reducible refine pc_cpN (by decide) (by assumption) fun _ _ => ?_
    | with_reducible refine pc_pure fun _ => ?_
    | exact pc_some (by assumption)
    | exact pc_some (eqF.bX (by assumption))
    | exact pc_some trivial
    | dsimp only
theorem fr_j_X12_putAway_0_67 {m0 : MM} {m : MM} {l0 : Nat} {l1 : Int} {l2 : Int} {l3 : Int} {l5 : Int} {s0 : Nat} {s1 : Int} (h : eqF [12, 64, 65, 66, 72, 100, 101, 108] m0 m) : Pc (j_X12_putAway_0_67 m l0 l1 l2 l3 l5 s0 s1) (RF [12, 64, 65, 66, 72, 100, 101, 108] m0) := by
  unfold j_X12_putAway_0_67
  repeat' first
    | with_reducible exact pc_x0
    | with_reducible exact pc_xt (by assumption)
    | with_reducible exact pc_xr (by assumption)
    | with_reducible exact fr_j_X12_putAway_0_270 (by assumption)
    | with_reducible refine pc_nk fun _ => ?_
    | with_reducible refine pc_if ?_ ?_
    | with_reducible refine pc_ck ?_
    | with_reducible refine pc_cb ?_
    | with_reducible refine pc_dv ?_
    | with_reducible refine pc_let fun _ => ?_
    | with_reducible refine pc_letL fun _ => ?_
    | with_reducible refine pc_ldN fun _ => ?_
    | with_reducible refine pc_ldL fun _ => ?_
    | with_reducible refine pc_ldR fun _ => ?_
    | with_reducible refine pc_put (eqF.sN (by assumption) (by decide)) fun _ _ => ?_
    | with_reducible refine pc_put (eqF.sL (by assumption) (by decide)) fun _ _ => ?_
    | with_reducible refine pc_put (eqF.sR (by assumption) (by decide)) fun _ _ => ?_
    | with_reducible refine pc_stN (by decide) (by assumption) fun _ _ => ?_
    | with_reducible refine pc_stL (by decide) (by assumption) fun _ _ => ?_
    | with_reducible refine pc_stR (by decide) (by assumption) fun _ _ => ?_
    | with_reducible refine pc_cpN (by decide) (by assumption) fun _ _ => ?_
    | with_reducible refine pc_bI (fr_f_X12_holds (m0 := _) eqF.rf) (by decide) (by assumption) (fun _ _ _ => ?_) (fun _ _ _ => ?_)
    | with_reducible refine pc_lp (fun s => eqF [12, 64, 65, 66, 72, 100, 101, 108] m0 s.2.2) (fun z => eqF [12, 64, 65, 66, 72, 100, 101, 108] m0 z.2) (by assumption) (fun s hs => fr_b_X12_putAway_81 hs) (fun z hz => ?_)
    | with_reducible refine pc_pure fun _ => ?_
    | exact pc_some (by assumption)
    | exact pc_some (eqF.bX (by assumption))
    | exact pc_some trivial
    | dsimp only
theorem fr_j_X12_putAway_0_39 {m0 : MM} {m : MM} {l0 : Nat} {l1 : Int} {l2 : Int} {l3 : Int} {l4 : Int} {s0 : Int} (h : eqF [12, 64, 65, 66, 72, 100, 101, 108] m0 m) : Pc (j_X12_putAway_0_39 m l0 l1 l2 l3 l4 s0) (RF [12, 64, 65, 66, 72, 100, 101, 108] m0) := by
  unfold j_X12_putAway_0_39
  repeat' first
    | with_reducible exact pc_x0
    | with_reducible exact pc_xt (by assumption)
    | with_reducible exact pc_xr (by assumption)
    | with_reducible exact fr_j_X12_putAway_0_67 (by assumption)
    | with_reducible refine pc_nk fun _ => ?_
    | with_reducible refine pc_if ?_ ?_
    | with_reducible refine pc_ck ?_
    | with_reducible refine pc_cb ?_
    | with_reducible refine pc_dv ?_
    | with_reducible refine pc_let fun _ => ?_
    | with_reducible refine pc_letL fun _ => ?_
    | with_reducible refine pc_ldN fun _ => ?_
    | with_reducible refine pc_ldL fun _ => ?_
    | with_reducible refine pc_ldR fun _ => ?_
    | with_reducible refine pc_put (eqF.sN (by assumption) (by decide)) fun _ _ => ?_
    | with_reducible refine pc_put (eqF.sL (by assumption) (by decide)) fun _ _ => ?_
    | with_reducible refine pc_put (eqF.sR (by assumption) (by decide)) fun _ _ => ?_
    | with_reducible refine pc_stN (by decide) (by assumption) fun _ _ => ?_
    | with_reducible refine pc_stL (by decide) (by assumption) fun _ _ => ?_
    | with_reducible refine pc_stR (by decide) (by assumption) fun _ _ => ?_
    | with_reducible refine pc_cpN (by decide) (by assumption) fun _ _ => ?_
    | with_reducible refine pc_pure fun _ => ?_
    | exact pc_some (by assumption)
    | exact pc_some (eqF.bX (by assumption))
    | exact pc_some trivial
    | dsimp only
theorem fr_j_X12_putAway_0_22 {m0 : MM} {m : MM} {l0 : Nat} {l1 : Int} {l2 : Int} {l3 : Int} {s0 : Int} (h : eqF [12, 64, 65, 66, 72, 100, 101, 108] m0 m) : Pc (j_X12_putAway_0_22 m l0 l1 l2 l3 s0) (RF [12, 64, 65, 66, 72, 100, 101, 108] m0) := by
  unfold j_X12_putAway_0_22
  repeat' first
    | with_reducible exact pc_x0
    | with_reducible exact pc_xt (by assumption)
    | with_reducible exact pc_xr (by assumption)
    | with_reducible exact fr_j_X12_putAway_0_39 (by assumption)
    | with_reducible refine pc_nk fun _ => ?_
    | with_reducible refine pc_if ?_ ?_
    | with_reducible refine pc_ck ?_
    | with_reducible refine pc_cb ?_
    | with_reducible refine pc_dv ?_
    | with_reducible refine pc_let fun _ => ?_
    | with_reducible refine pc_letL fun _ => ?_
    | with_reducible refine pc_ldN fun _ => ?_
    | with_reducible refine pc_ldL fun _ => ?_
    | with_reducible refine pc_ldR fun _ => ?_
    | with_reducible refine pc_put (eqF.sN (by assumption) (by decide)) fun _ _ => ?_
    | with_reducible refine pc_put (eqF.sL (by assumption) (by decide)) fun _ _ => ?_
    | with_reducible refine pc_put (eqF.sR (by assumption) (by decide)) fun _ _ => ?_
    | with_reducible refine pc_stN (by decide) (by assumption) fun _ _ => ?_
    | with_reducible refine pc_stL (by decide) (by assumption) fun _ _ => ?_
    | with_reducible refine pc_stR (by decide) (by assumption) fun _ _ => ?_
    | with_reducible refine pc_cpN (by decide) (by assumption) fun _ _ => ?_
    | with_reducible refine pc_pure fun _ => ?_
    | exact pc_some (by assumption)
    | exact pc_some (eqF.bX (by assumption))
    | exact pc_some trivial
    | dsimp only
theorem fr_j_X12_putAway_0_21 {m0 : MM} {m : MM} {l0 : Nat} {l1 : Int} {l2 : Int} {l3 : Int} (h : eqF [12, 64, 65, 66, 72, 100, 101, 108] m0 m) : Pc (j_X12_putAway_0_21 m l0 l1 l2 l3) (RF [12, 64, 65, 66, 72, 100, 101, 108] m0) := by
  unfold j_X12_putAway_0_21
  repeat' first
    | with_reducible exact pc_x0
    | with_reducible exact pc_xt (by assumption)
    | with_reducible exact pc_xr (by assumption)
    | with_reducible exact fr_j_X12_putAway_0_22 (by assumption)
    | with_reducible refine pc_nk fun _ => ?_
    | with_reducible refine pc_if ?_ ?_
    | with_reducible refine pc_ck ?_
    | with_reducible refine pc_cb ?_
    | with_reducible refine pc_dv ?_
    | with_reducible refine pc_let fun _ => ?_
    | with_reducible refine pc_letL fun _ => ?_
    | with_reducible refine pc_ldN fun _ => ?_
    | with_reducible refine pc_ldL fun _ => ?_
    | with_reducible refine pc_ldR fun _ => ?_
    | with_reducible refine pc_put (eqF.sN (by assumption) (by decide)) fun _ _ => ?_
    | with_reducible refine pc_put (eqF.sL (by assumption) (by decide)) fun _ _ => ?_
    | with_reducible refine pc_put (eqF.sR (by assumption) (by decide)) fun _ _ => ?_
    | with_reducible refine pc_stN (by decide) (by assumption) fun _ _ => ?_
    | with_reducible refine pc_stL (by decide) (by assumption) fun _ _ => ?_
    | with_reducible refine pc_stR (by decide) (by assumption) fun _ _ => ?_
    | with_reducible refine pc_cpN (by decide) (by assumption) fun _ _ => ?_
    | with_reducible refine pc_pure fun _ => ?_
    | exact pc_some (by assumption)
    | exact pc_some (eqF.bX (by assumption))
    | exact pc_some trivial
    | dsimp only
theorem fr_f_X12_putAway {m0 : MM} {m : MM} {l0 : Nat} {l1 : Int} {l2 : Int} {l3 : Int} (h : eqF [12, 64, 65, 66, 72, 100, 101, 108] m0 m) : Pc (f_X12_putAway m l0 l1 l2 l3) (RF [12, 64, 65, 66, 72, 100, 101, 108] m0) := by
  unfold f_X12_putAway
  repeat' first
    | with_reducible exact pc_x0
    | with_reducible exact pc_xt (by assumption)
    | with_reducible exact pc_xr (by assumption)
    | with_reducible exact fr_j_X12_putAway_0_21 (by assumption)
    | with_reducible exact fr_j_X12_putAway_0_22 (by assumption)
    | with_reducible refine pc_nk fun _ => ?_
    | with_reducible refine pc_if ?_ ?_
    | with_reducible refine pc_ck ?_
    | with_reducible refine pc_cb ?_
    | with_reducible refine pc_dv ?_
    | with_reducible refine pc_let fun _ => ?_
    | with_reducible refine pc_letL fun _ => ?_
    | with_reducible refine pc_ldN fun _ => ?_
    | with_reducible refine pc_ldL fun _ => ?_
    | with_reducible refine pc_ldR fun _ => ?_
    | with_reducible refine pc_put (eqF.sN (by assumption) (by decide)) fun _ _ => ?_
    | with_reducible refine pc_put (eqF.sL (by assumption) (by decide)) fun _ _ => ?_
    | with_reducible refine pc_put (eqF.sR (by assumption) (by decide)) fun _ _ => ?_
    | with_reducible refine pc_stN (by decide) (by assumption) fun _ _ => ?_
    | with_reducible refine pc_stL (by decide) (by assumption) fun _ _ => ?_
    | with_reducible refine pc_stR (by decide) (by assumption) fun _ _ => ?_
    | with_reducible refine pc_cpN (by decide) (by assumption) fun _ _ => ?_
    | with_reducible refine pc_pure fun _ => ?_
    | exact pc_some (by assumption)
    | exact pc_some (eqF.bX (by assumption))
    | exact pc_some trivial
    | dsimp only
theorem fr_b_X12_fillsOut_39 {m0 : MM} {l0 : Nat} {l2 : Int} {l3 : Int} {l4 : Int} {l5 : Int} {l6 : Int} {l7 : Int} {mm : MM} (h : eqF [93, 96, 97] m0 mm) : Pc (b_X12_fillsOut_39 l0 l2 l3 l4 l5 l6 l7 mm) (fun z => Sum.elim (fun s => eqF [93, 96, 97] m0 s.2) (fun z => eqF [93, 96, 97] m0 z) z) := by
  unfold b_X12_fillsOut_39
  repeat' first
    | with_reducible exact pc_x0
    | with_reducible exact pc_xt (by assumption)
    | with_reducible exact pc_xr (by assumption)
    | with_reducible refine pc_nk fun _ => ?_
    | with_reducible refine pc_if ?_ ?_
    | with_reducible refine pc_ck ?_
    | with_reducible refine pc_cb ?_
    | with_reducible refine pc_dv ?_
    | with_reducible refine pc_let fun _ => ?_
    | with_reducible refine pc_letL fun _ => ?_
    | with_reducible refine pc_ldN fun _ => ?_
    | with_reducible refine pc_ldL fun _ => ?_
    | with_reducible refine pc_ldR fun _ => ?_
    | with_reducible refine pc_put (eqF.sN (by assumption) (by decide)) fun _ _ => ?_
    | with_reducible refine pc_put (eqF.sL (by assumption) (by decide)) fun _ _ => ?_
    | with_reducible refine pc_put (eqF.sR (by assumption) (by decide)) fun _ _ => ?_
    | with_reducible refine pc_stN (by decide) (by assumption) fun _ _ => ?_
    | with_reducible refine pc_stL (by decide) (by assumption) fun _ _ => ?_
    | with_reducible refine pc_stR (by decide) (by assumption) fun _ _ => ?_
    | with_reducible refine pc_cpN (by decide) (by assumption) fun _ _ => ?_
    | with_reducible refine pc_pure fun _ => ?_
    | exact pc_some (by assumption)
    | exact pc_some (eqF.bX (by assumption))
    | exact pc_some trivial
    | dsimp only
theorem fr_j_X12_fillsOut_27_80 {m0 : MM} {m : MM} {l0 : Nat} {l2 : Int} {l3 : Int} {l4 : Int} {l5 : Int} {l6 : Int} (h : eqF [93, 96, 97] m0 m) : Pc (j_X12_fillsOut_27_80 m l0 l2 l3 l4 l5 l6) (fun z => Sum.elim (fun s => eqF [93, 96, 97] m0 s.2) (fun z => eqF [93, 96, 97] m0 z) z) := by
  unfold j_X12_fillsOut_27_80
  repeat' first
    | with_reducible exact pc_x0
    | with_reducible exact pc_xt (by assumption)
    | with_reducible exact pc_xr (by assumption)
    | with_reducible refine pc_nk fun _ => ?_
    | with_reducible refine pc_if ?_ ?_
    | with_reducible refine pc_ck ?_
    | with_reducible refine pc_cb ?_
    | with_reducible refine pc_dv ?_
    | with_reducible refine pc_let fun _ => ?_
    | with_reducible refine pc_letL fun _ => ?_
    | with_reducible refine pc_ldN fun _ => ?_
    | with_reducible refine pc_ldL fun _ => ?_
    | with_reducible refine pc_ldR fun _ => ?_
    | with_reducible refine pc_put (eqF.sN (by assumption) (by decide)) fun _ _ => ?_
    | with_reducible refine pc_put (eqF.sL (by assumption) (by decide)) fun _ _ => ?_
    | with_reducible refine pc_put (eqF.sR (by assumption) (by decide)) fun _ _ => ?_
    | with_reducible refine pc_stN (by decide) (by assumption) fun _ _ => ?_
    | with_reducible refine pc_stL (by decide) (by assumption) fun _ _ => ?_
    | with_reducible refine pc_stR (by decide) (by assumption) fun _ _ => ?_
    | with_reducible refine pc_cpN (by decide) (by assumption) fun _ _ => ?_
    | with_reducible refine pc_pure fun _ => ?_
    | exact pc_some (by assumption)
    | exact pc_some (eqF.bX (by assumption))
    | exact pc_some trivial
    | dsimp only
theorem fr_b_X12_fillsOut_27 {m0 : MM} {l0 : Nat} {l2 : Int} {l3 : Int} {l4 : Int} {l5 : Int} {l6 : Int} {mm : MM} (h : eqF [93, 96, 97] m0 mm) : Pc (b_X12_fillsOut_27 l0 l2 l3 l4 l5 l6 mm) (fun z => Sum.elim (fun s => eqF [93, 96, 97] m0 s.2) (fun z => eqF [93, 96, 97] m0 z) z) := by
  unfold b_X12_fillsOut_27
  repeat' first
    | with_reducible exact pc_x0
    | with_reducible exact pc_xt (by assumption)
    | with_reducible exact pc_xr (by assumption)
    | with_reducible exact fr_j_X12_fillsOut_27_80 (by assumption)
    | with_reducible refine pc_nk fun _ => ?_
    | with_reducible refine pc_if ?_ ?_
    | with_reducible refine pc_ck ?_
    | with_reducible refine pc_cb ?_
    | with_reducible refine pc_dv ?_
    | with_reducible refine pc_let fun _ => ?_
    | with_reducible refine pc_letL fun _ => ?_
    | with_reducible refine pc_ldN fun _ => ?_
    | with_reducible refine pc_ldL fun _ => ?_
    | with_reducible refine pc_ldR fun _ => ?_
    | with_reducible refine pc_put (eqF.sN (by assumption) (by decide)) fun _ _ => ?_
    | with_reducible refine pc_put (eqF.sL (by assumption) (by decide)) fun _ _ => ?_
    | with_reducible refine pc_put (eqF.sR (by assumption) (by decide)) fun _ _ => ?_
    | with_reducible refine pc_stN (by decide) (by assumption) fun _ _ => ?_
    | with_reducible refine pc_stL (by decide) (by assumption) fun _ _ => ?_
    | with_reducible refine pc_stR (by decide) (by assumption) fun _ _ => ?_
    | with_reducible refine pc_cpN (by decide) (by assumption) fun _ _ => ?_
    | with_reducible refine pc_lp (fun s => eqF [93, 96, 97] m0 s.2) (fun z => eqF [93, 96, 97] m0 z) (by assumption) (fun s hs => fr_b_X12_fillsOut_39 hs) (fun z hz => ?_)
    | with_reducible refine pc_pure fun _ => ?_
    | exact pc_some (by assumption)
    | exact pc_some (eqF.bX (by assumption))
    | exact pc_some trivial
    | dsimp only
theorem fr_b_X12_fillsOut_90 {m0 : MM} {l0 : Nat} {l2 : Int} {l3 : Int} {l5 : Int} {l6 : Int} {mm : MM} (h : eqF [93, 96, 97] m0 mm) : Pc (b_X12_fillsOut_90 l0 l2 l3 l5 l6 mm) (fun z => Sum.elim (fun s => eqF [93, 96, 97] m0 s.2) (fun z => eqF [93, 96, 97] m0 z) z) := by
  unfold b_X12_fillsOut_90
  repeat' first
    | with_reducible exact pc_x0
    | with_reducible exact pc_xt (by assumption)
    | with_reducible exact pc_xr (by assumption)
    | with_reducible refine pc_nk fun _ => ?_
    | with_reducible refine pc_if ?_ ?_
    | with_reducible refine pc_ck ?_
    | with_reducible refine pc_cb ?_
    | with_reducible refine pc_dv ?_
    | with_reducible refine pc_let fun _ => ?_
    | with_reducible refine pc_letL fun _ => ?_
    | with_reducible refine pc_ldN fun _ => ?_
    | with_reducible refine pc_ldL fun _ => ?_
    | with_reducible refine pc_ldR fun _ => ?_
    | with_reducible refine pc_put (eqF.sN (by assumption) (by decide)) fun _ _ => ?_
    | with_reducible refine pc_put (eqF.sL (by assumption) (by decide)) fun _ _ => ?_
    | with_reducible refine pc_put (eqF.sR (by assumption) (by decide)) fun _ _ => ?_
    | with_reducible refine pc_stN (by decide) (by assumption) fun _ _ => ?_
    | with_reducible refine pc_stL (by decide) (by assumption) fun _ _ => ?_
    | with_reducible refine pc_stR (by decide) (by assumption) fun _ _ => ?_
    | with_reducible refine pc_cpN (by decide) (by assumption) fun _ _ => ?_
    | with_reducible refine pc_pure fun _ => ?_
    | exact pc_some (by assumption)
    | exact pc_some (eqF.bX (by assumption))
    | exact pc_some trivial
    | dsimp only
theorem fr_j_X12_fillsOut_0_203 {m0 : MM} {m : MM} (h : eqF [93, 96, 97] m0 m) : Pc (j_X12_fillsOut_0_203 m) (RF [93, 96, 97] m0) := by
  unfold j_X12_fillsOut_0_203
  repeat' first
    | with_reducible exact pc_x0
    | with_reducible exact pc_xt (by assumption)
    | with_reducible exact pc_xr (by assumption)
    | with_reducible refine pc_nk fun _ => ?_
    | with_reducible refine pc_if ?_ ?_
    | with_reducible refine pc_ck ?_
    | with_reducible refine pc_cb ?_
    | with_reducible refine pc_dv ?_
    | with_reducible refine pc_let fun _ => ?_
    | with_reducible refine pc_letL fun _ => ?_
    | with_reducible refine pc_ldN fun _ => ?_
    | with_reducible refine pc_ldL fun _ => ?_
    | with_reducible refine pc_ldR fun _ => ?_
    | with_reducible refine pc_put (eqF.sN (by assumption) (by decide)) fun _ _ => ?_
    | with_reducible refine pc_put (eqF.sL (by assumption) (by decide)) fun _ _ => ?_
    | with_reducible refine pc_put (eqF.sR (by assumption) (by decide)) fun _ _ => ?_
    | with_reducible refine pc_stN (by decide) (by assumption) fun _ _ => ?_
    | with_reducible refine pc_stL (by decide) (by assumption) fun _ _ => ?_
    | with_reducible refine pc_stR (by decide) (by assumption) fun _ _ => ?_
    | with_reducible refine pc_cpN (by decide) (by assumption) fun _ _ => ?_
    | with_reducible refine pc_pure fun _ => ?_
    | exact pc_some (by assumption)
    | exact pc_some (eqF.bX (by assumption))
    | exact pc_some trivial
    | dsimp only
theorem fr_j_X12_fillsOut_0_86 {m0 : MM} {m : MM} {l0 : Nat} {l2 : Int} {l3 : Int} {l4 : Int} {l5 : Int} (h : eqF [93, 96, 97] m0 m) : Pc (j_X12_fillsOut_0_86 m l0 l2 l3 l4 l5) (RF [93, 96, 97] m0) := by
  unfold j_X12_fillsOut_0_86
  repeat' first
    | with_reducible exact pc_x0
    | with_reducible exact pc_xt (by assumption)
    | with_reducible exact pc_xr (by assumption)
    | with_reducible exact fr_j_X12_fillsOut_0_203 (by assumption)
    | with_reducible refine pc_nk fun _ => ?_
    | with_reducible refine pc_if ?_ ?_
    | with_reducible refine pc_ck ?_
    | with_reducible refine pc_cb ?_
    | with_reducible refine pc_dv ?_
    | with_reducible refine pc_let fun _ => ?_
    | with_reducible refine pc_letL fun _ => ?_
    | with_reducible refine pc_ldN fun _ => ?_
    | with_reducible refine pc_ldL fun _ => ?_
    | with_reducible refine pc_ldR fun _ => ?_
    | with_reducible refine pc_put (eqF.sN (by assumption) (by decide)) fun _ _ => ?_
    | with_reducible refine pc_put (eqF.sL (by assumption) (by decide)) fun _ _ => ?_
    | with_reducible refine pc_put (eqF.sR (by assumption) (by decide)) fun _ _ => ?_
    | with_reducible refine pc_stN (by decide) (by assumption) fun _ _ => ?_
    | with_reducible refine pc_stL (by decide) (by assumption) fun _ _ => ?_
    | with_reducible refine pc_stR (by decide) (by assumption) fun _ _ => ?_
    | with_reducible refine pc_cpN (by decide) (by assumption) fun _ _ => ?_
    | with_reducible refine pc_lp (fun s => eqF [93, 96, 97] m0 s.2) (fun z => eqF [93, 96, 97] m0 z) (by assumption) (fun s hs => fr_b_X12_fillsOut_90 hs) (fun z hz => ?_)
    | with_reducible refine pc_pure fun _ => ?_
    | exact pc_some (by assumption)
    | exact pc_some (eqF.bX (by assumption))
    | exact pc_some trivial
    | dsimp only
theorem fr_f_X12_fillsOut {m0 : MM} {m : MM} {l0 : Nat} {l1 : Int} {l2 : Int} {l3 : Int} (h : eqF [93, 96, 97] m0 m) : Pc (f_X12_fillsOut m l0 l1 l2 l3) (RF [93, 96, 97] m0) := by
  unfold f_X12_fillsOut
  repeat' first
    | with_reducible exact pc_x0
    | with_reducible exact pc_xt (by assumption)
    | with_reducible exact pc_xr (by assumption)
    | with_reducible exact fr_j_X12_fillsOut_0_86 (by assumption)
    | with_reducible refine pc_nk fun _ => ?_
    | with_reducible refine pc_if ?_ ?_
    | with_reducible refine pc_ck ?_
    | with_reducible refine pc_cb ?_
    | with_reducible refine pc_dv ?_
    | with_reducible refine pc_let fun _ => ?_
    | with_reducible refine pc_letL fun _ => ?_
    | with_reducible refine pc_ldN fun _ => ?_
    | with_reducible refine pc_ldL fun _ => ?_
    | with_reducible refine pc_ldR fun _ => ?_
    | with_reducible refine pc_put (eqF.sN (by assumption) (by decide)) fun _ _ => ?_
    | with_reducible refine pc_put (eqF.sL (by assumption) (by decide)) fun _ _ => ?_
    | with_reducible refine pc_put (eqF.sR (by assumption) (by decide)) fun _ _ => ?_
    | with_reducible refine pc_stN (by decide) (by assumption) fun _ _ => ?_
    | with_reducible refine pc_stL (by decide) (by assumption) fun _ _ => ?_
    | with_reducible refine pc_stR (by decide) (by assumption) fun _ _ => ?_
    | with_reducible refine pc_cpN (by decide) (by assumption) fun _ _ => ?_
    | with_reducible refine pc_lp (fun s => eqF [93, 96, 97] m0 s.2) (fun z => eqF [93, 96, 97] m0 z) (by assumption) (fun s hs => fr_b_X12_fillsOut_27 hs) (fun z hz => ?_)
    | with_reducible refine pc_pure fun _ => ?_
    | exact pc_some (by assumption)
    | exact pc_some (eqF.bX (by assumption))
    | exact pc_some trivial
    | dsimp only
theorem fr_j_X12_fills_0_134 {m0 : MM} {m : MM} {l0 : Nat} {l1 : Int} {l2 : Int} {l3 : Int} {l4 : Int} {l6 : Int} (h : eqF [64, 66, 71, 90, 99, 100, 101, 102] m0 m) : Pc (j_X12_fills_0_134 m l0 l1 l2 l3 l4 l6) (RF [64, 66, 71, 90, 99, 100, 101, 102] m0) := by
  unfold j_X12_fills_0_134
  repeat' first
    | with_reducible exact pc_x0
    | with_reducible exact pc_xt (by assumption)
    | with_reducible exact pc_xr (by assumption)
    | with_reducible refine pc_nk fun _ => ?_
    | with_reducible refine pc_if ?_ ?_
    | with_reducible refine pc_ck ?_
    | with_reducible refine pc_cb ?_
    | with_reducible refine pc_dv ?_
    | with_reducible refine pc_let fun _ => ?_
    | with_reducible refine pc_letL fun _ => ?_
    | with_reducible refine pc_ldN fun _ => ?_
    | with_reducible refine pc_ldL fun _ => ?_
    | with_reducible refine pc_ldR fun _ => ?_
    | with_reducible refine pc_put (eqF.sN (by assumption) (by decide)) fun _ _ => ?_
    | with_reducible refine pc_put (eqF.sL (by assumption) (by decide)) fun _ _ => ?_
    | with_reducible refine pc_put (eqF.sR (by assumption) (by decide)) fun _ _ => ?_
    | with_reducible refine pc_stN (by decide) (by assumption) fun _ _ => ?_
    | with_reducible refine pc_stL (by decide) (by assumption) fun _ _ => ?_
    | with_reducible refine pc_stR (by decide) (by assumption) fun _ _ => ?_
    | with_reducible refine pc_cpN (by decide) (by assumption) fun _ _ => ?_
    | with_reducible refine pc_pure fun _ => ?_
    | exact pc_some (by assumption)
    | exact pc_some (eqF.bX (by assumption))
    | exact pc_some trivial
    | dsimp only
theorem fr_f_X12_fills {m0 : MM} {m : MM} {l0 : Nat} {l1 : Int} {l2 : Int} {l3 : Int} {l4 : Int} (h : eqF [64, 66, 71, 90, 99, 100, 101, 102] m0 m) : Pc (f_X12_fills m l0 l1 l2 l3 l4) (RF [64, 66, 71, 90, 99, 100, 101, 102] m0) := by
  unfold f_X12_fills
  repeat' first
    | with_reducible exact pc_x0
    | with_reducible exact pc_xt (by assumption)
    | with_reducible exact pc_xr (by assumption)
    | with_reducible exact fr_j_X12_fills_0_134 (by assumption)
    | with_reducible refine pc_nk fun _ => ?_
    | with_reducible refine pc_if ?_ ?_
    | with_reducible refine pc_ck ?_
    | with_reducible refine pc_cb ?_
    | with_reducible refine pc_dv ?_
    | with_reducible refine pc_let fun _ => ?_
    | with_reducible refine pc_letL fun _ => ?_
    | with_reducible refine pc_ldN fun _ => ?_
    | with_reducible refine pc_ldL fun _ => ?_
    | with_reducible refine pc_ldR fun _ => ?_
    | with_reducible refine pc_put (eqF.sN (by assumption) (by decide)) fun _ _ => ?_
    | with_reducible refine pc_put (eqF.sL (by assumption) (by decide)) fun _ _ => ?_
    | with_reducible refine pc_put (eqF.sR (by assumption) (by decide)) fun _ _ => ?_
    | with_reducible refine pc_stN (by decide) (by assumption) fun _ _ => ?_
    | with_reducible refine pc_stL (by decide) (by assumption) fun _ _ => ?_
    | with_reducible refine pc_stR (by decide) (by assumption) fun _ _ => ?_
    | with_reducible refine pc_cpN (by decide) (by assumption) fun _ _ => ?_
    | with_reducible refine pc_bI (fr_f_X12_takes (m0 := _) eqF.rf) (by decide) (by assumption) (fun _ _ _ => ?_) (fun _ _ _ => ?_)
    | with_reducible refine pc_pure fun _ => ?_
    | exact pc_some (by assumption)
    | exact pc_some (eqF.bX (by assumption))
    | exact pc_some trivial
    | dsimp only
theorem fr_j_X12_fillsPlaces_73_202 {m0 : MM} {m : MM} {l0 : Nat} {l1 : Int} {l2 : Int} {l3 : Int} {l4 : Int} {l6 : Int} {l7 : Int} {l8 : Int} {l12 : Int} {s0 : Int} {s1 : Nat} {s2 : Int} {s3 : Int} {s4 : Int} {s5 : Int} (h : eqF [64, 66, 71, 90, 98, 99, 100, 101, 102] m0 m) : Pc (j_X12_fillsPlaces_73_202 m l0 l1 l2 l3 l4 l6 l7 l8 l12 s0 s1 s2 s3 s4 s5) (fun z => Sum.elim (fun s => eqF [64, 66, 71, 90, 98, 99, 100, 101, 102] m0 s.2.2) (fun z => eqF [64, 66, 71, 90, 98, 99, 100, 101, 102] m0 z.2) z) := by
  unfold j_X12_fillsPlaces_73_202
  repeat' first
    | with_reducible exact pc_x0
    | with_reducible exact pc_xt (by assumption)
    | with_reducible exact pc_xr (by assumption)
    | with_reducible refine pc_nk fun _ => ?_
    | with_reducible refine pc_if ?_ ?_
    | with_reducible refine pc_ck ?_
    | with_reducible refine pc_cb ?_
    | with_reducible refine pc_dv ?_
    | with_reducible refine pc_let fun _ => ?_
    | with_reducible refine pc_letL fun _ => ?_
    | with_reducible refine pc_ldN fun _ => ?_
    | with_reducible refine pc_ldL fun _ => ?_
    | with_reducible refine pc_ldR fun _ => ?_
    | with_reducible refine pc_put (eqF.sN (by assumption) (by decide)) fun _ _ => ?_
    | with_reducible refine pc_put (eqF.sL (by assumption) (by decide)) fun _ _ => ?_
    | with_reducible refine pc_put (eqF.sR (by assumption) (by decide)) fun _ _ => ?_
    | with_reducible refine pc_stN (by decide) (by assumption) fun _ _ => ?_
    | with_reducible refine pc_stL (by decide) (by assumption) fun _ _ => ?_
    | with_reducible refine pc_stR (by decide) (by assumption) fun _ _ => ?_
    | with_reducible refine pc_cpN (by decide) (by assumption) fun _ _ => ?_
    | with_reducible refine pc_bI (fr_f_X12_fills (m0 := _) eqF.rf) (by decide) (by assumption) (fun _ _ _ => ?_) (fun _ _ _ => ?_)
    | with_reducible refine pc_pure fun _ => ?_
    | exact pc_some (by assumption)
    | exact pc_some (eqF.bX (by assumption))
    | exact pc_some trivial
    | dsimp only
theorem fr_j_X12_fillsPlaces_73_182 {m0 : MM} {m : MM} {l0 : Nat} {l1 : Int} {l2 : Int} {l3 : Int} {l4 : Int} {l5 : Int} {l6 : Int} {l7 : Int} {l8 : Int} {l9 : Int} {l11 : Int} {s0 : Int} (h : eqF [64, 66, 71, 90, 98, 99, 100, 101, 102] m0 m) : Pc (j_X12_fillsPlaces_73_182 m l0 l1 l2 l3 l4 l5 l6 l7 l8 l9 l11 s0) (fun z => Sum.elim (fun s => eqF [64, 66, 71, 90, 98, 99, 100, 101, 102] m0 s.2.2) (fun z => eqF [64, 66, 71, 90, 98, 99, 100, 101, 102] m0 z.2) z) := by
  unfold j_X12_fillsPlaces_73_182
  repeat' first
    | with_reducible exact pc_x0
    | with_reducible exact pc_xt (by assumption)
    | with_reducible exact pc_xr (by assumption)
    | with_reducible exact fr_j_X12_fillsPlaces_73_202 (by assumption)
    | with_reducible refine pc_nk fun _ => ?_
    | with_reducible refine pc_if ?_ ?_
    | with_reducible refine pc_ck ?_
    | with_reducible refine pc_cb ?_
    | with_reducible refine pc_dv ?_
    | with_reducible refine pc_let fun _ => ?_
    | with_reducible refine pc_letL fun _ => ?_
    | with_reducible refine pc_ldN fun _ => ?_
    | with_reducible refine pc_ldL fun _ => ?_
    | with_reducible refine pc_ldR fun _ => ?_
    | with_reducible refine pc_put (eqF.sN (by assumption) (by decide)) fun _ _ => ?_
    | with_reducible refine pc_put (eqF.sL (by assumption) (by decide)) fun _ _ => ?_
    | with_reducible refine pc_put (eqF.sR (by assumption) (by decide)) fun _ _ => ?_
    | with_reducible refine pc_stN (by decide) (by assumption) fun _ _ => ?_
    | with_reducible refine pc_stL (by decide) (by assumption) fun _ _ => ?_
    | with_reducible refine pc_stR (by decide) (by assumption) fun _ _ => ?_
    | with_reducible refine pc_cpN (by decide) (by assumption) fun _ _ => ?_
    | with_reducible refine pc_pure fun _ => ?_
    | exact pc_some (by assumption)
    | exact pc_some (eqF.bX (by assumption))
    | exact pc_some trivial
    | dsimp only
theorem fr_j_X12_fillsPlaces_73_181 {m0 : MM} {m : MM} {l0 : Nat} {l1 : Int} {l2 : Int} {l3 : Int} {l4 : Int} {l5 : Int} {l6 : Int} {l7 : Int} {l8 : Int} {l9 : Int} {l11 : Int} (h : eqF [64, 66, 71, 90, 98, 99, 100, 101, 102] m0 m) : Pc (j_X12_fillsPlaces_73_181 m l0 l1 l2 l3 l4 l5 l6 l7 l8 l9 l11) (fun z => Sum.elim (fun s => eqF [64, 66, 71, 90, 98, 99, 100, 101, 102] m0 s.2.2) (fun z => eqF [64, 66, 71, 90, 98, 99, 100, 101, 102] m0 z.2) z) := by
  unfold j_X12_fillsPlaces_73_181
  repeat' first
    | with_reducible exact pc_x0
    | with_reducible exact pc_xt (by assumption)
    | with_reducible exact pc_xr (by assumption)
    | with_reducible exact fr_j_X12_fillsPlaces_73_182 (by assumption)
    | with_reducible refine pc_nk fun _ => ?_
    | with_reducible refine pc_if ?_ ?_
    | with_reducible refine pc_ck ?_
    | with_reducible refine pc_cb ?_
    | with_reducible refine pc_dv ?_
    | with_reducible refine pc_let fun _ => ?_
    | with_reducible refine pc_letL fun _ => ?_
    | with_reducible refine pc_ldN fun _ => ?_
    | with_reducible refine pc_ldL fun _ => ?_
    | with_reducible refine pc_ldR fun _ => ?_
    | with_reducible refine pc_put (eqF.sN (by assumption) (by decide)) fun _ _ => ?_
    | with_reducible refine pc_put (eqF.sL (by assumption) (by decide)) fun _ _ => ?_
    | with_reducible refine pc_put (eqF.sR (by assumption) (by decide)) fun _ _ => ?_
    | with_reducible refine pc_stN (by decide) (by assumption) fun _ _ => ?_
    | with_reducible refine pc_stL (by decide) (by assumption) fun _ _ => ?_
    | with_reducible refine pc_stR (by decide) (by assumption) fun _ _ => ?_
    | with_reducible refine pc_cpN (by decide) (by assumption) fun _ _ => ?_
    | with_reducible refine pc_pure fun _ => ?_
    | exact pc_some (by assumption)
    | exact pc_some (eqF.bX (by assumption))
    | exact pc_some trivial
    | dsimp only
theorem fr_j_X12_fillsPlaces_73_158 {m0 : MM} {m : MM} {l0 : Nat} {l1 : Int} {l2 : Int} {l3 : Int} {l4 : Int} {l5 : Int} {l6 : Int} {l7 : Int} {l8 : Int} {l9 : Int} {s0 : Int} (h : eqF [64, 66, 71, 90, 98, 99, 100, 101, 102] m0 m) : Pc (j_X12_fillsPlaces_73_158 m l0 l1 l2 l3 l4 l5 l6 l7 l8 l9 s0) (fun z => Sum.elim (fun s => eqF [64, 66, 71, 90, 98, 99, 100, 101, 102] m0 s.2.2) (fun z => eqF [64, 66, 71, 90, 98, 99, 100, 101, 102] m0 z.2) z) := by
  unfold j_X12_fillsPlaces_73_158
  repeat' first
    | with_reducible exact pc_x0
    | with_reducible exact pc_xt (by assumption)
    | with_reducible exact pc_xr (by assumption)
    | with_reducible exact fr_j_X12_fillsPlaces_73_181 (by assumption)
    | with_reducible exact fr_j_X12_fillsPlaces_73_182 (by assumption)
    | with_reducible refine pc_nk fun _ => ?_
    | with_reducible refine pc_if ?_ ?_
    | with_reducible refine pc_ck ?_
    | with_reducible refine pc_cb ?_
    | with_reducible refine pc_dv ?_
    | with_reducible refine pc_let fun _ => ?_
    | with_reducible refine pc_letL fun _ => ?_
    | with_reducible refine pc_ldN fun _ => ?_
    | with_reducible refine pc_ldL fun _ => ?_
    | with_reducible refine pc_ldR fun _ => ?_
    | with_reducible refine pc_put (eqF.sN (by assumption) (by decide)) fun _ _ => ?_
    | with_reducible refine pc_put (eqF.sL (by assumption) (by decide)) fun _ _ => ?_
    | with_reducible refine pc_put (eqF.sR (by assumption) (by decide)) fun _ _ => ?_
    | with_reducible refine pc_stN (by decide) (by assumption) fun _ _ => ?_
    | with_reducible refine pc_stL (by decide) (by assumption) fun _ _ => ?_
    | with_reducible refine pc_stR (by decide) (by assumption) fun _ _ => ?_
    | with_reducible refine pc_cpN (by decide) (by assumption) fun _ _ => ?_
    | with_reducible refine pc_pure fun _ => ?_
    | exact pc_some (by assumption)
    | exact pc_some (eqF.bX (by assumption))
    | exact pc_some trivial
    | dsimp only
theorem fr_j_X12_fillsPlaces_73_121 {m0 : MM} {m : MM} {l0 : Nat} {l1 : Int} {l2 : Int} {l3 : Int} {l4 : Int} {l5 : Int} {l6 : Int} {l7 : Int} {l8 : Int} {l9 : Int} {s0 : Int} (h : eqF [64, 66, 71, 90, 98, 99, 100, 101, 102] m0 m) : Pc (j_X12_fillsPlaces_73_121 m l0 l1 l2 l3 l4 l5 l6 l7 l8 l9 s0) (fun z => Sum.elim (fun s => eqF [64, 66, 71, 90, 98, 99, 100, 101, 102] m0 s.2.2) (fun z => eqF [64, 66, 71, 90, 98, 99, 100, 101, 102] m0 z.2) z) := by
  unfold j_X12_fillsPlaces_73_121
  repeat' first
    | with_reducible exact pc_x0
    | with_reducible exact pc_xt (by assumption)
    | with_reducible exact pc_xr (by assumption)
    | with_reducible exact fr_j_X12_fillsPlaces_73_158 (by assumption)
    | with_reducible refine pc_nk fun _ => ?_
    | with_reducible refine pc_if ?_ ?_
    | with_reducible refine pc_ck ?_
    | with_reducible refine pc_cb ?_
    | with_reducible refine pc_dv ?_
    | with_reducible refine pc_let fun _ => ?_
    | with_reducible refine pc_letL fun _ => ?_
    | with_reducible refine pc_ldN fun _ => ?_
    | with_reducible refine pc_ldL fun _ => ?_
    | with_reducible refine pc_ldR fun _ => ?_
    | with_reducible refine pc_put (eqF.sN (by assumption) (by decide)) fun _ _ => ?_
    | with_reducible refine pc_put (eqF.sL (by assumption) (by decide)) fun _ _ => ?_
    | with_reducible refine pc_put (eqF.sR (by assumption) (by decide)) fun _ _ => ?_
    | with_reducible refine pc_stN (by decide) (by assumption) fun _ _ => ?_
    | with_reducible refine pc_stL (by decide) (by assumption) fun _ _ => ?_
    | with_reducible refine pc_stR (by decide) (by assumption) fun _ _ => ?_
    | with_reducible refine pc_cpN (by decide) (by assumption) fun _ _ => ?_
    | with_reducible refine pc_pure fun _ => ?_
    | exact pc_some (by assumption)
    | exact pc_some (eqF.bX (by assumption))
    | exact pc_some trivial
    | dsimp only
theorem fr_b_X12_fillsPlaces_73 {m0 : MM} {l0 : Nat} {l1 : Int} {l2 : Int} {l3 : Int} {l4 : Int} {l6 : Int} {l7 : Int} {l5 : Int} {l8 : Int} {mm : MM} (h : eqF [64, 66, 71, 90, 98, 99, 100, 101, 102] m0 mm) : Pc (b_X12_fillsPlaces_73 l0 l1 l2 l3 l4 l6 l7 l5 l8 mm) (fun z => Sum.elim (fun s => eqF [64, 66, 71, 90, 98, 99, 100, 101, 102] m0 s.2.2) (fun z => eqF [64, 66, 71, 90, 98, 99, 100, 101, 102] m0 z.2) z) := by
  unfold b_X12_fillsPlaces_73
  repeat' first
    | with_reducible exact pc_x0
    | with_reducible exact pc_xt (by assumption)
    | with_reducible exact pc_xr (by assumption)
    | with_reducible exact fr_j_X12_fillsPlaces_73_121 (by assumption)
    | with_reducible refine pc_nk fun _ => ?_
    | with_reducible refine pc_if ?_ ?_
    | with_reducible refine pc_ck ?_
    | with_reducible refine pc_cb ?_
    | with_reducible refine pc_dv ?_
    | with_reducible refine pc_let fun _ => ?_
    | with_reducible refine pc_letL fun _ => ?_
    | with_reducible refine pc_ldN fun _ => ?_
    | with_reducible refine pc_ldL fun _ => ?_
    | with_reducible refine pc_ldR fun _ => ?_
    | with_reducible refine pc_put (eqF.sN (by assumption) (by decide)) fun _ _ => ?_
    | with_reducible refine pc_put (eqF.sL (by assumption) (by decide)) fun _ _ => ?_
    | with_reducible refine pc_put (eqF.sR (by assumption) (by decide)) fun _ _ => ?_
    | with_reducible refine pc_stN (by decide) (by assumption) fun _ _ => ?_
    | with_reducible refine pc_stL (by decide) (by assumption) fun _ _ => ?_
    | with_reducible refine pc_stR (by decide) (by assumption) fun _ _ => ?_
    | with_reducible refine pc_cpN (by decide) (by assumption) fun _ _ => ?_
    | with_reducible refine pc_pure fun _ => ?_
    | exact pc_some (by assumption)
    | exact pc_some (eqF.bX (by assumption))
    | exact pc_some trivial
    | dsimp only
theorem fr_j_X12_fillsPlaces_26_226 {m0 : MM} {m : MM} {l0 : Nat} {l1 : Int} {l2 : Int} {l3 : Int} {l4 : Int} {l5 : Int} {l6 : Int} (h : eqF [64, 66, 71, 90, 98, 99, 100, 101, 102] m0 m) : Pc (j_X12_fillsPlaces_26_226 m l0 l1 l2 l3 l4 l5 l6) (fun z => Sum.elim (fun s => eqF [64, 66, 71, 90, 98, 99, 100, 101, 102] m0 s.2.2) (fun z => eqF [64, 66, 71, 90, 98, 99, 100, 101, 102] m0 z.2) z) := by
  unfold j_X12_fillsPlaces_26_226
  repeat' first
    | with_reducible exact pc_x0
    | with_reducible exact pc_xt (by assumption)
    | with_reducible exact pc_xr (by assumption)
    | with_reducible refine pc_nk fun _ => ?_
    | with_reducible refine pc_if ?_ ?_
    | with_reducible refine pc_ck ?_
    | with_reducible refine pc_cb ?_
    | with_reducible refine pc_dv ?_
    | with_reducible refine pc_let fun _ => ?_
    | with_reducible refine pc_letL fun _ => ?_
    | with_reducible refine pc_ldN fun _ => ?_
    | with_reducible refine pc_ldL fun _ => ?_
    | with_reducible refine pc_ldR fun _ => ?_
    | with_reducible refine pc_put (eqF.sN (by assumption) (by decide)) fun _ _ => ?_
    | with_reducible refine pc_put (eqF.sL (by assumption) (by decide)) fun _ _ => ?_
    | with_reducible refine pc_put (eqF.sR (by assumption) (by decide)) fun _ _ => ?_
    | with_reducible refine pc_stN (by decide) (by assumption) fun _ _ => ?_
    | with_reducible refine pc_stL (by decide) (by assumption) fun _ _ => ?_
    | with_reducible refine pc_stR (by decide) (by assumption) fun _ _ => ?_
    | with_reducible refine pc_cpN (by decide) (by assumption) fun _ _ => ?_
    | with_reducible refine pc_pure fun _ => ?_
    | exact pc_some (by assumption)
    | exact pc_some (eqF.bX (by assumption))
    | exact pc_some trivial
    | dsimp only
theorem fr_b_X12_fillsPlaces_26 {m0 : MM} {l0 : Nat} {l1 : Int} {l2 : Int} {l3 : Int} {l4 : Int} {l5 : Int} {l6 : Int} {mm : MM} (h : eqF [64, 66, 71, 90, 98, 99, 100, 101, 102] m0 mm) : Pc (b_X12_fillsPlaces_26 l0 l1 l2 l3 l4 l5 l6 mm) (fun z => Sum.elim (fun s => eqF [64, 66, 71, 90, 98, 99, 100, 101, 102] m0 s.2.2) (fun z => eqF [64, 66, 71, 90, 98, 99, 100, 101, 102] m0 z.2) z) := by
  unfold b_X12_fillsPlaces_26
  repeat' first
    | with_reducible exact pc_x0
    | with_reducible exact pc_xt (by assumption)
    | with_reducible exact pc_xr (by assumption)
    | with_reducible exact fr_j_X12_fillsPlaces_26_226 (by assumption)
    | with_reducible refine pc_nk fun _ => ?_
    | with_reducible refine pc_if ?_ ?_
    | with_reducible refine pc_ck ?_
    | with_reducible refine pc_cb ?_
    | with_reducible refine pc_dv ?_
    | with_reducible refine pc_let fun _ => ?_
    | with_reducible refine pc_letL fun _ => ?_
    | with_reducible refine pc_ldN fun _ => ?_
    | with_reducible refine pc_ldL fun _ => ?_
    | with_reducible refine pc_ldR fun _ => ?_
    | with_reducible refine pc_put (eqF.sN (by assumption) (by decide)) fun _ _ => ?_
    | with_reducible refine pc_put (eqF.sL (by assumption) (by decide)) fun _ _ => ?_
    | with_reducible refine pc_put (eqF.sR (by assumption) (by decide)) fun _ _ => ?_
    | with_reducible refine pc_stN (by decide) (by assumption) fun _ _ => ?_
    | with_reducible refine pc_stL (by decide) (by assumption) fun _ _ => ?_
    | with_reducible refine pc_stR (by decide) (by assumption) fun _ _ => ?_
    | with_reducible refine pc_cpN (by decide) (by assumption) fun _ _ => ?_
    | with_reducible refine pc_lp (fun s => eqF [64, 66, 71, 90, 98, 99, 100, 101, 102] m0 s.2.2) (fun z => eqF [64, 66, 71, 90, 98, 99, 100, 101, 102] m0 z.2) (by assumption) (fun s hs => fr_b_X12_fillsPlaces_73 hs) (fun z hz => ?_)
    | with_reducible refine pc_pure fun _ => ?_
    | exact pc_some (by assumption)
    | exact pc_some (eqF.bX (by assumption))
    | exact pc_some trivial
    | dsimp only
theorem fr_j_X12_fillsPlaces_0_232 {m0 : MM} {m : MM} {l5 : Int} (h : eqF [64, 66, 71, 90, 98, 99, 100, 101, 102] m0 m) : Pc (j_X12_fillsPlaces_0_232 m l5) (RF [64, 66, 71, 90, 98, 99, 100, 101, 102] m0) := by
  unfold j_X12_fillsPlaces_0_232
  repeat' first
    | with_reducible exact pc_x0
    | with_reducible exact pc_xt (by assumption)
    | with_reducible exact pc_xr (by assumption)
    | with_reducible refine pc_nk fun _ => ?_
    | with_reducible refine pc_if ?_ ?_
    | with_reducible refine pc_ck ?_
    | with_reducible refine pc_cb ?_
    | with_reducible refine pc_dv ?_
    | with_reducible refine pc_let fun _ => ?_
    | with_reducible refine pc_letL fun _ => ?_
    | with_reducible refine pc_ldN fun _ => ?_
    | with_reducible refine pc_ldL fun _ => ?_
    | with_reducible refine pc_ldR fun _ => ?_
    | with_reducible refine pc_put (eqF.sN (by assumption) (by decide)) fun _ _ => ?_
    | with_reducible refine pc_put (eqF.sL (by assumption) (by decide)) fun _ _ => ?_
    | with_reducible refine pc_put (eqF.sR (by assumption) (by decide)) fun _ _ => ?_
    | with_reducible refine pc_stN (by decide) (by assumption) fun _ _ => ?_
    | with_reducible refine pc_stL (by decide) (by assumption) fun _ _ => ?_
    | with_reducible refine pc_stR (by decide) (by assumption) fun _ _ => ?_
    | with_reducible refine pc_cpN (by decide) (by assumption) fun _ _ => ?_
    | with_reducible refine pc_pure fun _ => ?_
    | exact pc_some (by assumption)
    | exact pc_some (eqF.bX (by assumption))
    | exact pc_some trivial
    | dsimp only
theorem fr_f_X12_fillsPlaces {m0 : MM} {m : MM} {l0 : Nat} {l1 : Int} {l2 : Int} {l3 : Int} (h : eqF [64, 66, 71, 90, 98, 99, 100, 101, 102] m0 m) : Pc (f_X12_fillsPlaces m l0 l1 l2 l3) (RF [64, 66, 71, 90, 98, 99, 100, 101, 102] m0) := by
  unfold f_X12_fillsPlaces
  repeat' first
    | with_reducible exact pc_x0
    | with_reducible exact pc_xt (by assumption)
    | with_reducible exact pc_xr (by assumption)
    | with_reducible exact fr_j_X12_fillsPlaces_0_232 (by assumption)
    | with_reducible refine pc_nk fun _ => ?_
    | with_reducible refine pc_if ?_ ?_
    | with_reducible refine pc_ck ?_
    | with_reducible refine pc_cb ?_
    | with_reducible refine pc_dv ?_
    | with_reducible refine pc_let fun _ => ?_
    | with_reducible refine pc_letL fun _ => ?_
    | with_reducible refine pc_ldN fun _ => ?_
    | with_reducible refine pc_ldL fun _ => ?_
    | with_reducible refine pc_ldR fun _ => ?_
    | with_reducible refine pc_put (eqF.sN (by assumption) (by decide)) fun _ _ => ?_
    | with_reducible refine pc_put (eqF.sL (by assumption) (by decide)) fun _ _ => ?_
    | with_reducible refine pc_put (eqF.sR (by assumption) (by decide)) fun _ _ => ?_
    | with_reducible refine pc_stN (by decide) (by assumption) fun _ _ => ?_
    | with_reducible refine pc_stL (by decide) (by assumption) fun _ _ => ?_
    | with_reducible refine pc_stR (by decide) (by assumption) fun _ _ => ?_
    | with_reducible refine pc_cpN (by decide) (by assumption) fun _ _ => ?_
    | with_reducible refine pc_lp (fun s => eqF [64, 66, 71, 90, 98, 99, 100, 101, 102] m0 s.2.2) (fun z => eqF [64, 66, 71, 90, 98, 99, 100, 101, 102] m0 z.2) (by assumption) (fun s hs => fr_b_X12_fillsPlaces_26 hs) (fun z hz => ?_)
    | with_reducible refine pc_pure fun _ => ?_
    | exact pc_some (by assumption)
    | exact pc_some (eqF.bX (by assumption))
    | exact pc_some trivial
    | dsimp only
theorem fr_j_X12_laysLines_88_330 {m0 : MM} {m : MM} {l0 : Nat} {l1 : Int} {l2 : Int} {l3 : Int} {l5 : Int} {l6 : Int} {l7 : Int} {l8 : Int} {l9 : Int} {l15 : Int} (h : eqF [70, 88, 89, 91, 92, 93, 94, 95, 96, 97] m0 m) : Pc (j_X12_laysLines_88_330 m l0 l1 l2 l3 l5 l6 l7 l8 l9 l15) (fun z => Sum.elim (fun s => eqF [70, 88, 89, 91, 92, 93, 94, 95, 96, 97] m0 s.2.2.2) (fun z => eqF [70, 88, 89, 91, 92, 93, 94, 95, 96, 97] m0 z.2.2) z) := by
  unfold j_X12_laysLines_88_330
  repeat' first
    | with_reducible exact pc_x0
    | with_reducible exact pc_xt (by assumption)
    | with_reducible exact pc_xr (by assumption)
    | with_reducible refine pc_nk fun _ => ?_
    | with_reducible refine pc_if ?_ ?_
    | with_reducible refine pc_ck ?_
    | with_reducible refine pc_cb ?_
    | with_reducible refine pc_dv ?_
    | with_reducible refine pc_let fun _ => ?_
    | with_reducible refine pc_letL fun _ => ?_
    | with_reducible refine pc_ldN fun _ => ?_
    | with_reducible refine pc_ldL fun _ => ?_
    | with_reducible refine pc_ldR fun _ => ?_
    | with_reducible refine pc_put (eqF.sN (by assumption) (by decide)) fun _ _ => ?_
    | with_reducible refine pc_put (eqF.sL (by assumption) (by decide)) fun _ _ => ?_
    | with_reducible refine pc_put (eqF.sR (by assumption) (by decide)) fun _ _ => ?_
    | with_reducible refine pc_stN (by decide) (by assumption) fun _ _ => ?_
    | with_reducible refine pc_stL (by decide) (by assumption) fun _ _ => ?_
    | with_reducible refine pc_stR (by decide) (by assumption) fun _ _ => ?_
    | with_reducible refine pc_cpN (by decide) (by assumption) fun _ _ => ?_
    | with_reducible refine pc_pure fun _ => ?_
    | exact pc_some (by assumption)
    | exact pc_some (eqF.bX (by assumption))
    | exact pc_some trivial
    | dsimp only
theorem fr_j_X12_laysLines_88_328 {m0 : MM} {m : MM} {l0 : Nat} {l1 : Int} {l2 : Int} {l3 : Int} {l5 : Int} {l6 : Int} {l7 : Int} {l8 : Int} {l9 : Int} {s0 : Int} (h : eqF [70, 88, 89, 91, 92, 93, 94, 95, 96, 97] m0 m) : Pc (j_X12_laysLines_88_328 m l0 l1 l2 l3 l5 l6 l7 l8 l9 s0) (fun z => Sum.elim (fun s => eqF [70, 88, 89, 91, 92, 93, 94, 95, 96, 97] m0 s.2.2.2) (fun z => eqF [70, 88, 89, 91, 92, 93, 94, 95, 96, 97] m0 z.2.2) z) := by
  unfold j_X12_laysLines_88_328
  repeat' first
    | with_reducible exact pc_x0
    | with_reducible exact pc_xt (by assumption)
    | with_reducible exact pc_xr (by assumption)
    | with_reducible exact fr_j_X12_laysLines_88_330 (by assumption)
    | with_reducible refine pc_nk fun _ => ?_
    | with_reducible refine pc_if ?_ ?_
    | with_reducible refine pc_ck ?_
    | with_reducible refine pc_cb ?_
    | with_reducible refine pc_dv ?_
    | with_reducible refine pc_let fun _ => ?_
    | with_reducible refine pc_letL fun _ => ?_
    | with_reducible refine pc_ldN fun _ => ?_
    | with_reducible refine pc_ldL fun _ => ?_
    | with_reducible refine pc_ldR fun _ => ?_
    | with_reducible refine pc_put (eqF.sN (by assumption) (by decide)) fun _ _ => ?_
    | with_reducible refine pc_put (eqF.sL (by assumption) (by decide)) fun _ _ => ?_
    | with_reducible refine pc_put (eqF.sR (by assumption) (by decide)) fun _ _ => ?_
    | with_reducible refine pc_stN (by decide) (by assumption) fun _ _ => ?_
    | with_reducible refine pc_stL (by decide) (by assumption) fun _ _ => ?_
    | with_reducible refine pc_stR (by decide) (by assumption) fun _ _ => ?_
    | with_reducible refine pc_cpN (by decide) (by assumption) fun _ _ => ?_
    | with_reducible refine pc_pure fun _ => ?_
    | exact pc_some (by assumption)
    | exact pc_some (eqF.bX (by assumption))
    | exact pc_some trivial
    | dsimp only
theorem fr_j_X12_laysLines_88_326 {m0 : MM} {m : MM} {l0 : Nat} {l1 : Int} {l2 : Int} {l3 : Int} {l5 : Int} {l6 : Int} {l7 : Int} {l8 : Int} {l9 : Int} {l15 : Int} (h : eqF [70, 88, 89, 91, 92, 93, 94, 95, 96, 97] m0 m) : Pc (j_X12_laysLines_88_326 m l0 l1 l2 l3 l5 l6 l7 l8 l9 l15) (fun z => Sum.elim (fun s => eqF [70, 88, 89, 91, 92, 93, 94, 95, 96, 97] m0 s.2.2.2) (fun z => eqF [70, 88, 89, 91, 92, 93, 94, 95, 96, 97] m0 z.2.2) z) := by
  unfold j_X12_laysLines_88_326
  repeat' first
    | with_reducible exact pc_x0
    | with_reducible exact pc_xt (by assumption)
    | with_reducible exact pc_xr (by assumption)
    | with_reducible exact fr_j_X12_laysLines_88_328 (by assumption)
    | with_reducible refine pc_nk fun _ => ?_
    | with_reducible refine pc_if ?_ ?_
    | with_reducible refine pc_ck ?_
    | with_reducible refine pc_cb ?_
    | with_reducible refine pc_dv ?_
    | with_reducible refine pc_let fun _ => ?_
    | with_reducible refine pc_letL fun _ => ?_
    | with_reducible refine pc_ldN fun _ => ?_
    | with_reducible refine pc_ldL fun _ => ?_
    | with_reducible refine pc_ldR fun _ => ?_
    | with_reducible refine pc_put (eqF.sN (by assumption) (by decide)) fun _ _ => ?_
    | with_reducible refine pc_put (eqF.sL (by assumption) (by decide)) fun _ _ => ?_
    | with_reducible refine pc_put (eqF.sR (by assumption) (by decide)) fun _ _ => ?_
    | with_reducible refine pc_stN (by decide) (by assumption) fun _ _ => ?_
    | with_reducible refine pc_stL (by decide) (by assumption) fun _ _ => ?_
    | with_reducible refine pc_stR (by decide) (by assumption) fun _ _ => ?_
    | with_reducible refine pc_cpN (by decide) (by assumption) fun _ _ => ?_
    | with_reducible refine pc_pure fun _ => ?_
    | exact pc_some (by assumption)
    | exact pc_some (eqF.bX (by assumption))
    | exact pc_some trivial
    | dsimp only
theorem fr_j_X12_laysLines_88_153 {m0 : MM} {m : MM} {l0 : Nat} {l1 : Int} {l2 : Int} {l3 : Int} {l5 : Int} {l6 : Int} {l7 : Int} {l8 : Int} {l9 : Int} {l11 : Int} {l12 : Int64} (h : eqF [70, 88, 89, 91, 92, 93, 94, 95, 96, 97] m0 m) : Pc (j_X12_laysLines_88_153 m l0 l1 l2 l3 l5 l6 l7 l8 l9 l11 l12) (fun z => Sum.elim (fun s => eqF [70, 88, 89, 91, 92, 93, 94, 95, 96, 97] m0 s.2.2.2) (fun z => eqF [70, 88, 89, 91, 92, 93, 94, 95, 96, 97] m0 z.2.2) z) := by
  unfold j_X12_laysLines_88_153
  repeat' first
    | with_reducible exact pc_x0
    | with_reducible exact pc_xt (by assumption)
    | with_reducible exact pc_xr (by assumption)
    | with_reducible exact fr_j_X12_laysLines_88_326 (by assumption)
    | with_reducible exact fr_j_X12_laysLines_88_328 (by assumption)
    | with_reducible exact fr_j_X12_laysLines_88_330 (by assumption)
    | with_reducible refine pc_nk fun _ => ?_
    | with_reducible refine pc_if ?_ ?_
    | with_reducible refine pc_ck ?_
    | with_reducible refine pc_cb ?_
    | with_reducible refine pc_dv ?_
    | with_reducible refine pc_let fun _ => ?_
    | with_reducible refine pc_letL fun _ => ?_
    | with_reducible refine pc_ldN fun _ => ?_
    | with_reducible refine pc_ldL fun _ => ?_
    | with_reducible refine pc_ldR fun _ => ?_
    | with_reducible refine pc_put (eqF.sN (by assumption) (by decide)) fun _ _ => ?_
    | with_reducible refine pc_put (eqF.sL (by assumption) (by decide)) fun _ _ => ?_
    | with_reducible refine pc_put (eqF.sR (by assumption) (by decide)) fun _ _ => ?_
    | with_reducible refine pc_stN (by decide) (by assumption) fun _ _ => ?_
    | with_reducible refine pc_stL (by decide) (by assumption) fun _ _ => ?_
    | with_reducible refine pc_stR (by decide) (by assumption) fun _ _ => ?_
    | with_reducible refine pc_cpN (by decide) (by assumption) fun _ _ => ?_
    | with_reducible refine pc_pure fun _ => ?_
    | exact pc_some (by assumption)
    | exact pc_some (eqF.bX (by assumption))
    | exact pc_some trivial
    | dsimp only
theorem fr_j_X12_laysLines_88_108 {m0 : MM} {m : MM} {l0 : Nat} {l1 : Int} {l2 : Int} {l3 : Int} {l5 : Int} {l6 : Int} {l7 : Int} {l8 : Int} {l9 : Int} {s0 : Int} (h : eqF [70, 88, 89, 91, 92, 93, 94, 95, 96, 97] m0 m) : Pc (j_X12_laysLines_88_108 m l0 l1 l2 l3 l5 l6 l7 l8 l9 s0) (fun z => Sum.elim (fun s => eqF [70, 88, 89, 91, 92, 93, 94, 95, 96, 97] m0 s.2.2.2) (fun z => eqF [70, 88, 89, 91, 92, 93, 94, 95, 96, 97] m0 z.2.2) z) := by
  unfold j_X12_laysLines_88_108
  repeat' first
    | with_reducible exact pc_x0
    | with_reducible exact pc_xt (by assumption)
    | with_reducible exact pc_xr (by assumption)
    | with_reducible exact fr_j_X12_laysLines_88_153 (by assumption)
    | with_reducible refine pc_nk fun _ => ?_
    | with_reducible refine pc_if ?_ ?_
    | with_reducible refine pc_ck ?_
    | with_reducible refine pc_cb ?_
    | with_reducible refine pc_dv ?_
    | with_reducible refine pc_let fun _ => ?_
    | with_reducible refine pc_letL fun _ => ?_
    | with_reducible refine pc_ldN fun _ => ?_
    | with_reducible refine pc_ldL fun _ => ?_
    | with_reducible refine pc_ldR fun _ => ?_
    | with_reducible refine pc_put (eqF.sN (by assumption) (by decide)) fun _ _ => ?_
    | with_reducible refine pc_put (eqF.sL (by assumption) (by decide)) fun _ _ => ?_
    | with_reducible refine pc_put (eqF.sR (by assumption) (by decide)) fun _ _ => ?_
    | with_reducible refine pc_stN (by decide) (by assumption) fun _ _ => ?_
    | with_reducible refine pc_stL (by decide) (by assumption) fun _ _ => ?_
    | with_reducible refine pc_stR (by decide) (by assumption) fun _ _ => ?_
    | with_reducible refine pc_cpN (by decide) (by assumption) fun _ _ => ?_
    | with_reducible refine pc_pure fun _ => ?_
    | exact pc_some (by assumption)
    | exact pc_some (eqF.bX (by assumption))
    | exact pc_some trivial
    | dsimp only
theorem fr_b_X12_laysLines_88 {m0 : MM} {l0 : Nat} {l1 : Int} {l2 : Int} {l3 : Int} {l5 : Int} {l6 : Int} {l8 : Int} {l7 : Int} {l9 : Int} {l10 : Int} {mm : MM} (h : eqF [70, 88, 89, 91, 92, 93, 94, 95, 96, 97] m0 mm) : Pc (b_X12_laysLines_88 l0 l1 l2 l3 l5 l6 l8 l7 l9 l10 mm) (fun z => Sum.elim (fun s => eqF [70, 88, 89, 91, 92, 93, 94, 95, 96, 97] m0 s.2.2.2) (fun z => eqF [70, 88, 89, 91, 92, 93, 94, 95, 96, 97] m0 z.2.2) z) := by
  unfold b_X12_laysLines_88
  repeat' first
    | with_reducible exact pc_x0
    | with_reducible exact pc_xt (by assumption)
    | with_reducible exact pc_xr (by assumption)
    | with_reducible exact fr_j_X12_laysLines_88_108 (by assumption)
    | with_reducible refine pc_nk fun _ => ?_
    | with_reducible refine pc_if ?_ ?_
    | with_reducible refine pc_ck ?_
    | with_reducible refine pc_cb ?_
    | with_reducible refine pc_dv ?_
    | with_reducible refine pc_let fun _ => ?_
    | with_reducible refine pc_letL fun _ => ?_
    | with_reducible refine pc_ldN fun _ => ?_
    | with_reducible refine pc_ldL fun _ => ?_
    | with_reducible refine pc_ldR fun _ => ?_
    | with_reducible refine pc_put (eqF.sN (by assumption) (by decide)) fun _ _ => ?_
    | with_reducible refine pc_put (eqF.sL (by assumption) (by decide)) fun _ _ => ?_
    | with_reducible refine pc_put (eqF.sR (by assumption) (by decide)) fun _ _ => ?_
    | with_reducible refine pc_stN (by decide) (by assumption) fun _ _ => ?_
    | with_reducible refine pc_stL (by decide) (by assumption) fun _ _ => ?_
    | with_reducible refine pc_stR (by decide) (by assumption) fun _ _ => ?_
    | with_reducible refine pc_cpN (by decide) (by assumption) fun _ _ => ?_
    | with_reducible refine pc_pure fun _ => ?_
    | exact pc_some (by assumption)
    | exact pc_some (eqF.bX (by assumption))
    | exact pc_some trivial
    | dsimp only
theorem fr_j_X12_laysLines_18_366 {m0 : MM} {m : MM} {l0 : Nat} {l1 : Int} {l2 : Int} {l3 : Int} {l5 : Int} {l6 : Int} {l7 : Int} {l8 : Int} {l9 : Int} (h : eqF [70, 88, 89, 91, 92, 93, 94, 95, 96, 97] m0 m) : Pc (j_X12_laysLines_18_366 m l0 l1 l2 l3 l5 l6 l7 l8 l9) (fun z => Sum.elim (fun s => eqF [70, 88, 89, 91, 92, 93, 94, 95, 96, 97] m0 s.2) (fun z => eqF [70, 88, 89, 91, 92, 93, 94, 95, 96, 97] m0 z.2) z) := by
  unfold j_X12_laysLines_18_366
  repeat' first
    | with_reducible exact pc_x0
    | with_reducible exact pc_xt (by assumption)
    | with_reducible exact pc_xr (by assumption)
    | with_reducible refine pc_nk fun _ => ?_
    | with_reducible refine pc_if ?_ ?_
    | with_reducible refine pc_ck ?_
    | with_reducible refine pc_cb ?_
    | with_reducible refine pc_dv ?_
    | with_reducible refine pc_let fun _ => ?_
    | with_reducible refine pc_letL fun _ => ?_
    | with_reducible refine pc_ldN fun _ => ?_
    | with_reducible refine pc_ldL fun _ => ?_
    | with_reducible refine pc_ldR fun _ => ?_
    | with_reducible refine pc_put (eqF.sN (by assumption) (by decide)) fun _ _ => ?_
    | with_reducible refine pc_put (eqF.sL (by assumption) (by decide)) fun _ _ => ?_
    | with_reducible refine pc_put (eqF.sR (by assumption) (by decide)) fun _ _ => ?_
    | with_reducible refine pc_stN (by decide) (by assumption) fun _ _ => ?_
    | with_reducible refine pc_stL (by decide) (by assumption) fun _ _ => ?_
    | with_reducible refine pc_stR (by decide) (by assumption) fun _ _ => ?_
    | with_reducible refine pc_cpN (by decide) (by assumption) fun _ _ => ?_
    | with_reducible refine pc_pure fun _ => ?_
    | exact pc_some (by assumption)
    | exact pc_some (eqF.bX (by assumption))
    | exact pc_some trivial
    | dsimp only
theorem fr_b_X12_laysLines_18 {m0 : MM} {l0 : Nat} {l1 : Int} {l2 : Int} {l3 : Int} {l5 : Int} {l6 : Int} {l7 : Int} {mm : MM} (h : eqF [70, 88, 89, 91, 92, 93, 94, 95, 96, 97] m0 mm) : Pc (b_X12_laysLines_18 l0 l1 l2 l3 l5 l6 l7 mm) (fun z => Sum.elim (fun s => eqF [70, 88, 89, 91, 92, 93, 94, 95, 96, 97] m0 s.2) (fun z => eqF [70, 88, 89, 91, 92, 93, 94, 95, 96, 97] m0 z.2) z) := by
  unfold b_X12_laysLines_18
  repeat' first
    | with_reducible exact pc_x0
    | with_reducible exact pc_xt (by assumption)
    | with_reducible exact pc_xr (by assumption)
    | with_reducible exact fr_j_X12_laysLines_18_366 (by assumption)
    | with_reducible refine pc_nk fun _ => ?_
    | with_reducible refine pc_if ?_ ?_
    | with_reducible refine pc_ck ?_
    | with_reducible refine pc_cb ?_
    | with_reducible refine pc_dv ?_
    | with_reducible refine pc_let fun _ => ?_
    | with_reducible refine pc_letL fun _ => ?_
    | with_reducible refine pc_ldN fun _ => ?_
    | with_reducible refine pc_ldL fun _ => ?_
    | with_reducible refine pc_ldR fun _ => ?_
    | with_reducible refine pc_put (eqF.sN (by assumption) (by decide)) fun _ _ => ?_
    | with_reducible refine pc_put (eqF.sL (by assumption) (by decide)) fun _ _ => ?_
    | with_reducible refine pc_put (eqF.sR (by assumption) (by decide)) fun _ _ => ?_
    | with_reducible refine pc_stN (by decide) (by assumption) fun _ _ => ?_
    | with_reducible refine pc_stL (by decide) (by assumption) fun _ _ => ?_
    | with_reducible refine pc_stR (by decide) (by assumption) fun _ _ => ?_
    | with_reducible refine pc_cpN (by decide) (by assumption) fun _ _ => ?_
    | with_reducible refine pc_lp (fun s => eqF [70, 88, 89, 91, 92, 93, 94, 95, 96, 97] m0 s.2.2.2) (fun z => eqF [70, 88, 89, 91, 92, 93, 94, 95, 96, 97] m0 z.2.2) (by assumption) (fun s hs => fr_b_X12_laysLines_88 hs) (fun z hz => ?_)
    | with_reducible refine pc_pure fun _ => ?_
    | exact pc_some (by assumption)
    | exact pc_some (eqF.bX (by assumption))
    | exact pc_some trivial
    | dsimp only
theorem fr_j_X12_laysLines_0_395 {m0 : MM} {m : MM} {l7 : Int} (h : eqF [70, 88, 89, 91, 92, 93, 94, 95, 96, 97] m0 m) : Pc (j_X12_laysLines_0_395 m l7) (RF [70, 88, 89, 91, 92, 93, 94, 95, 96, 97] m0) := by
  unfold j_X12_laysLines_0_395
  repeat' first
    | with_reducible exact pc_x0
    | with_reducible exact pc_xt (by assumption)
    | with_reducible exact pc_xr (by assumption)
    | with_reducible refine pc_nk fun _ => ?_
    | with_reducible refine pc_if ?_ ?_
    | with_reducible refine pc_ck ?_
    | with_reducible refine pc_cb ?_
    | with_reducible refine pc_dv ?_
    | with_reducible refine pc_let fun _ => ?_
    | with_reducible refine pc_letL fun _ => ?_
    | with_reducible refine pc_ldN fun _ => ?_
    | with_reducible refine pc_ldL fun _ => ?_
    | with_reducible refine pc_ldR fun _ => ?_
    | with_reducible refine pc_put (eqF.sN (by assumption) (by decide)) fun _ _ => ?_
    | with_reducible refine pc_put (eqF.sL (by assumption) (by decide)) fun _ _ => ?_
    | with_reducible refine pc_put (eqF.sR (by assumption) (by decide)) fun _ _ => ?_
    | with_reducible refine pc_stN (by decide) (by assumption) fun _ _ => ?_
    | with_reducible refine pc_stL (by decide) (by assumption) fun _ _ => ?_
    | with_reducible refine pc_stR (by decide) (by assumption) fun _ _ => ?_
    | with_reducible refine pc_cpN (by decide) (by assumption) fun _ _ => ?_
    | with_reducible refine pc_pure fun _ => ?_
    | exact pc_some (by assumption)
    | exact pc_some (eqF.bX (by assumption))
    | exact pc_some trivial
    | dsimp only
theorem fr_f_X12_laysLines {m0 : MM} {m : MM} {l0 : Nat} {l1 : Int} {l2 : Int} {l3 : Int} {l4 : Int} {l5 : Int} {l6 : Int} (h : eqF [70, 88, 89, 91, 92, 93, 94, 95, 96, 97] m0 m) : Pc (f_X12_laysLines m l0 l1 l2 l3 l4 l5 l6) (RF [70, 88, 89, 91, 92, 93, 94, 95, 96, 97] m0) := by
  unfold f_X12_laysLines
  repeat' first
    | with_reducible exact pc_x0
    | with_reducible exact pc_xt (by assumption)
    | with_reducible exact pc_xr (by assumption)
    | with_reducible exact fr_j_X12_laysLines_0_395 (by assumption)
    | with_reducible refine pc_nk fun _ => ?_
    | with_reducible refine pc_if ?_ ?_
    | with_reducible refine pc_ck ?_
    | with_reducible refine pc_cb ?_
    | with_reducible refine pc_dv ?_
    | with_reducible refine pc_let fun _ => ?_
    | with_reducible refine pc_letL fun _ => ?_
    | with_reducible refine pc_ldN fun _ => ?_
    | with_reducible refine pc_ldL fun _ => ?_
    | with_reducible refine pc_ldR fun _ => ?_
    | with_reducible refine pc_put (eqF.sN (by assumption) (by decide)) fun _ _ => ?_
    | with_reducible refine pc_put (eqF.sL (by assumption) (by decide)) fun _ _ => ?_
    | with_reducible refine pc_put (eqF.sR (by assumption) (by decide)) fun _ _ => ?_
    | with_reducible refine pc_stN (by decide) (by assumption) fun _ _ => ?_
    | with_reducible refine pc_stL (by decide) (by assumption) fun _ _ => ?_
    | with_reducible refine pc_stR (by decide) (by assumption) fun _ _ => ?_
    | with_reducible refine pc_cpN (by decide) (by assumption) fun _ _ => ?_
    | with_reducible refine pc_lp (fun s => eqF [70, 88, 89, 91, 92, 93, 94, 95, 96, 97] m0 s.2) (fun z => eqF [70, 88, 89, 91, 92, 93, 94, 95, 96, 97] m0 z.2) (by assumption) (fun s hs => fr_b_X12_laysLines_18 hs) (fun z hz => ?_)
    | with_reducible refine pc_pure fun _ => ?_
    | exact pc_some (by assumption)
    | exact pc_some (eqF.bX (by assumption))
    | exact pc_some trivial
    | dsimp only
theorem fr_b_X12_set_248 {m0 : MM} {l0 : Nat} {l1 : Int} {l2 : Int} {l3 : Int} {l5 : Int} {l10 : Int} {l11 : Int} {mm : MM} (h : eqF [12, 64, 66, 70, 71, 83, 84, 85, 86, 87, 88, 89, 90, 91, 92, 93, 94, 95, 96, 97, 98, 99, 100, 101, 102] m0 mm) : Pc (b_X12_set_248 l0 l1 l2 l3 l5 l10 l11 mm) (fun z => Sum.elim (fun s => eqF [12, 64, 66, 70, 71, 83, 84, 85, 86, 87, 88, 89, 90, 91, 92, 93, 94, 95, 96, 97, 98, 99, 100, 101, 102] m0 s.2) (fun z => eqF [12, 64, 66, 70, 71, 83, 84, 85, 86, 87, 88, 89, 90, 91, 92, 93, 94, 95, 96, 97, 98, 99, 100, 101, 102] m0 z) z) := by
  unfold b_X12_set_248
  repeat' first
    | with_reducible exact pc_x0
    | with_reducible exact pc_xt (by assumption)
    | with_reducible exact pc_xr (by assumption)
    | with_reducible refine pc_nk fun _ => ?_
    | with_reducible refine pc_if ?_ ?_
    | with_reducible refine pc_ck ?_
    | with_reducible refine pc_cb ?_
    | with_reducible refine pc_dv ?_
    | with_reducible refine pc_let fun _ => ?_
    | with_reducible refine pc_letL fun _ => ?_
    | with_reducible refine pc_ldN fun _ => ?_
    | with_reducible refine pc_ldL fun _ => ?_
    | with_reducible refine pc_ldR fun _ => ?_
    | with_reducible refine pc_put (eqF.sN (by assumption) (by decide)) fun _ _ => ?_
    | with_reducible refine pc_put (eqF.sL (by assumption) (by decide)) fun _ _ => ?_
    | with_reducible refine pc_put (eqF.sR (by assumption) (by decide)) fun _ _ => ?_
    | with_reducible refine pc_stN (by decide) (by assumption) fun _ _ => ?_
    | with_reducible refine pc_stL (by decide) (by assumption) fun _ _ => ?_
    | with_reducible refine pc_stR (by decide) (by assumption) fun _ _ => ?_
    | with_reducible refine pc_cpN (by decide) (by assumption) fun _ _ => ?_
    | with_reducible refine pc_bV (fr_f_X12_fillsOut (m0 := _) eqF.rf) (by decide) (by assumption) (fun _ _ => ?_) (fun _ _ _ => ?_)
    | with_reducible refine pc_pure fun _ => ?_
    | exact pc_some (by assumption)
    | exact pc_some (eqF.bX (by assumption))
    | exact pc_some trivial
    | dsimp only
theorem fr_j_X12_set_0_299 {m0 : MM} {m : MM} {l0 : Nat} {l1 : Int} {l2 : Int} {l3 : Int} (h : eqF [12, 64, 66, 70, 71, 83, 84, 85, 86, 87, 88, 89, 90, 91, 92, 93, 94, 95, 96, 97, 98, 99, 100, 101, 102] m0 m) : Pc (j_X12_set_0_299 m l0 l1 l2 l3) (RF [12, 64, 66, 70, 71, 83, 84, 85, 86, 87, 88, 89, 90, 91, 92, 93, 94, 95, 96, 97, 98, 99, 100, 101, 102] m0) := by
  unfold j_X12_set_0_299
  repeat' first
    | with_reducible exact pc_x0
    | with_reducible exact pc_xt (by assumption)
    | with_reducible exact pc_xr (by assumption)
    | with_reducible refine pc_nk fun _ => ?_
    | with_reducible refine pc_if ?_ ?_
    | with_reducible refine pc_ck ?_
    | with_reducible refine pc_cb ?_
    | with_reducible refine pc_dv ?_
    | with_reducible refine pc_let fun _ => ?_
    | with_reducible refine pc_letL fun _ => ?_
    | with_reducible refine pc_ldN fun _ => ?_
    | with_reducible refine pc_ldL fun _ => ?_
    | with_reducible refine pc_ldR fun _ => ?_
    | with_reducible refine pc_put (eqF.sN (by assumption) (by decide)) fun _ _ => ?_
    | with_reducible refine pc_put (eqF.sL (by assumption) (by decide)) fun _ _ => ?_
    | with_reducible refine pc_put (eqF.sR (by assumption) (by decide)) fun _ _ => ?_
    | with_reducible refine pc_stN (by decide) (by assumption) fun _ _ => ?_
    | with_reducible refine pc_stL (by decide) (by assumption) fun _ _ => ?_
    | with_reducible refine pc_stR (by decide) (by assumption) fun _ _ => ?_
    | with_reducible refine pc_cpN (by decide) (by assumption) fun _ _ => ?_
    | with_reducible refine pc_bI (fr_f_X12_fillsPlaces (m0 := _) eqF.rf) (by decide) (by assumption) (fun _ _ _ => ?_) (fun _ _ _ => ?_)
    | with_reducible refine pc_pure fun _ => ?_
    | exact pc_some (by assumption)
    | exact pc_some (eqF.bX (by assumption))
    | exact pc_some trivial
    | dsimp only
theorem fr_j_X12_set_0_244 {m0 : MM} {m : MM} {l0 : Nat} {l1 : Int} {l2 : Int} {l3 : Int} {l5 : Int} {l10 : Int} {s0 : Nat} {s1 : Int} {s2 : Int} (h : eqF [12, 64, 66, 70, 71, 83, 84, 85, 86, 87, 88, 89, 90, 91, 92, 93, 94, 95, 96, 97, 98, 99, 100, 101, 102] m0 m) : Pc (j_X12_set_0_244 m l0 l1 l2 l3 l5 l10 s0 s1 s2) (RF [12, 64, 66, 70, 71, 83, 84, 85, 86, 87, 88, 89, 90, 91, 92, 93, 94, 95, 96, 97, 98, 99, 100, 101, 102] m0) := by
  unfold j_X12_set_0_244
  repeat' first
    | with_reducible exact pc_x0
    | with_reducible exact pc_xt (by assumption)
    | with_reducible exact pc_xr (by assumption)
    | with_reducible exact fr_j_X12_set_0_299 (by assumption)
    | with_reducible refine pc_nk fun _ => ?_
    | with_reducible refine pc_if ?_ ?_
    | with_reducible refine pc_ck ?_
    | with_reducible refine pc_cb ?_
    | with_reducible refine pc_dv ?_
    | with_reducible refine pc_let fun _ => ?_
    | with_reducible refine pc_letL fun _ => ?_
    | with_reducible refine pc_ldN fun _ => ?_
    | with_reducible refine pc_ldL fun _ => ?_
    | with_reducible refine pc_ldR fun _ => ?_
    | with_reducible refine pc_put (eqF.sN (by assumption) (by decide)) fun _ _ => ?_
    | with_reducible refine pc_put (eqF.sL (by assumption) (by decide)) fun _ _ => ?_
    | with_reducible refine pc_put (eqF.sR (by assumption) (by decide)) fun _ _ => ?_
    | with_reducible refine pc_stN (by decide) (by assumption) fun _ _ => ?_
    | with_reducible refine pc_stL (by decide) (by assumption) fun _ _ => ?_
    | with_reducible refine pc_stR (by decide) (by assumption) fun _ _ => ?_
    | with_reducible refine pc_cpN (by decide) (by assumption) fun _ _ => ?_
    | with_reducible refine pc_lp (fun s => eqF [12, 64, 66, 70, 71, 83, 84, 85, 86, 87, 88, 89, 90, 91, 92, 93, 94, 95, 96, 97, 98, 99, 100, 101, 102] m0 s.2) (fun z => eqF [12, 64, 66, 70, 71, 83, 84, 85, 86, 87, 88, 89, 90, 91, 92, 93, 94, 95, 96, 97, 98, 99, 100, 101, 102] m0 z) (by assumption) (fun s hs => fr_b_X12_set_248 hs) (fun z hz => ?_)
    | with_reducible refine pc_pure fun _ => ?_
    | exact pc_some (by assumption)
    | exact pc_some (eqF.bX (by assumption))
    | exact pc_some trivial
    | dsimp only
theorem fr_j_X12_set_0_223 {m0 : MM} {m : MM} {l0 : Nat} {l1 : Int} {l2 : Int} {l3 : Int} {l5 : Int} {l7 : Int} {l9 : Int} {l10 : Int} {s0 : Nat} {s1 : Int} {s2 : Int} (h : eqF [12, 64, 66, 70, 71, 83, 84, 85, 86, 87, 88, 89, 90, 91, 92, 93, 94, 95, 96, 97, 98, 99, 100, 101, 102] m0 m) : Pc (j_X12_set_0_223 m l0 l1 l2 l3 l5 l7 l9 l10 s0 s1 s2) (RF [12, 64, 66, 70, 71, 83, 84, 85, 86, 87, 88, 89, 90, 91, 92, 93, 94, 95, 96, 97, 98, 99, 100, 101, 102] m0) := by
  unfold j_X12_set_0_223
  repeat' first
    | with_reducible exact pc_x0
    | with_reducible exact pc_xt (by assumption)
    | with_reducible exact pc_xr (by assumption)
    | with_reducible exact fr_j_X12_set_0_244 (by assumption)
    | with_reducible refine pc_nk fun _ => ?_
    | with_reducible refine pc_if ?_ ?_
    | with_reducible refine pc_ck ?_
    | with_reducible refine pc_cb ?_
    | with_reducible refine pc_dv ?_
    | with_reducible refine pc_let fun _ => ?_
    | with_reducible refine pc_letL fun _ => ?_
    | with_reducible refine pc_ldN fun _ => ?_
    | with_reducible refine pc_ldL fun _ => ?_
    | with_reducible refine pc_ldR fun _ => ?_
    | with_reducible refine pc_put (eqF.sN (by assumption) (by decide)) fun _ _ => ?_
    | with_reducible refine pc_put (eqF.sL (by assumption) (by decide)) fun _ _ => ?_
    | with_reducible refine pc_put (eqF.sR (by assumption) (by decide)) fun _ _ => ?_
    | with_reducible refine pc_stN (by decide) (by assumption) fun _ _ => ?_
    | with_reducible refine pc_stL (by decide) (by assumption) fun _ _ => ?_
    | with_reducible refine pc_stR (by decide) (by assumption) fun _ _ => ?_
    | with_reducible refine pc_cpN (by decide) (by assumption) fun _ _ => ?_
    | with_reducible refine pc_pure fun _ => ?_
    | exact pc_some (by assumption)
    | exact pc_some (eqF.bX (by assumption))
    | exact pc_some trivial
    | dsimp only
theorem fr_j_X12_set_0_182 {m0 : MM} {m : MM} {l0 : Nat} {l1 : Int} {l2 : Int} {l3 : Int} {l5 : Int} {l7 : Int} {l9 : Int} {l10 : Int} (h : eqF [12, 64, 66, 70, 71, 83, 84, 85, 86, 87, 88, 89, 90, 91, 92, 93, 94, 95, 96, 97, 98, 99, 100, 101, 102] m0 m) : Pc (j_X12_set_0_182 m l0 l1 l2 l3 l5 l7 l9 l10) (RF [12, 64, 66, 70, 71, 83, 84, 85, 86, 87, 88, 89, 90, 91, 92, 93, 94, 95, 96, 97, 98, 99, 100, 101, 102] m0) := by
  unfold j_X12_set_0_182
  repeat' first
    | with_reducible exact pc_x0
    | with_reducible exact pc_xt (by assumption)
    | with_reducible exact pc_xr (by assumption)
    | with_reducible exact fr_j_X12_set_0_223 (by assumption)
    | with_reducible refine pc_nk fun _ => ?_
    | with_reducible refine pc_if ?_ ?_
    | with_reducible refine pc_ck ?_
    | with_reducible refine pc_cb ?_
    | with_reducible refine pc_dv ?_
    | with_reducible refine pc_let fun _ => ?_
    | with_reducible refine pc_letL fun _ => ?_
    | with_reducible refine pc_ldN fun _ => ?_
    | with_reducible refine pc_ldL fun _ => ?_
    | with_reducible refine pc_ldR fun _ => ?_
    | with_reducible refine pc_put (eqF.sN (by assumption) (by decide)) fun _ _ => ?_
    | with_reducible refine pc_put (eqF.sL (by assumption) (by decide)) fun _ _ => ?_
    | with_reducible refine pc_put (eqF.sR (by assumption) (by decide)) fun _ _ => ?_
    | with_reducible refine pc_stN (by decide) (by assumption) fun _ _ => ?_
    | with_reducible refine pc_stL (by decide) (by assumption) fun _ _ => ?_
    | with_reducible refine pc_stR (by decide) (by assumption) fun _ _ => ?_
    | with_reducible refine pc_cpN (by decide) (by assumption) fun _ _ => ?_
    | with_reducible refine pc_pure fun _ => ?_
    | exact pc_some (by assumption)
    | exact pc_some (eqF.bX (by assumption))
    | exact pc_some trivial
    | dsimp only
theorem fr_j_X12_set_0_152 {m0 : MM} {m : MM} {l0 : Nat} {l1 : Int} {l2 : Int} {l3 : Int} {l5 : Int} {l6 : Int} {l7 : Int} {l8 : Int} {l9 : Int} {s0 : Int} (h : eqF [12, 64, 66, 70, 71, 83, 84, 85, 86, 87, 88, 89, 90, 91, 92, 93, 94, 95, 96, 97, 98, 99, 100, 101, 102] m0 m) : Pc (j_X12_set_0_152 m l0 l1 l2 l3 l5 l6 l7 l8 l9 s0) (RF [12, 64, 66, 70, 71, 83, 84, 85, 86, 87, 88, 89, 90, 91, 92, 93, 94, 95, 96, 97, 98, 99, 100, 101, 102] m0) := by
  unfold j_X12_set_0_152
  repeat' first
    | with_reducible exact pc_x0
    | with_reducible exact pc_xt (by assumption)
    | with_reducible exact pc_xr (by assumption)
    | with_reducible exact fr_j_X12_set_0_182 (by assumption)
    | with_reducible refine pc_nk fun _ => ?_
    | with_reducible refine pc_if ?_ ?_
    | with_reducible refine pc_ck ?_
    | with_reducible refine pc_cb ?_
    | with_reducible refine pc_dv ?_
    | with_reducible refine pc_let fun _ => ?_
    | with_reducible refine pc_letL fun _ => ?_
    | with_reducible refine pc_ldN fun _ => ?_
    | with_reducible refine pc_ldL fun _ => ?_
    | with_reducible refine pc_ldR fun _ => ?_
    | with_reducible refine pc_put (eqF.sN (by assumption) (by decide)) fun _ _ => ?_
    | with_reducible refine pc_put (eqF.sL (by assumption) (by decide)) fun _ _ => ?_
    | with_reducible refine pc_put (eqF.sR (by assumption) (by decide)) fun _ _ => ?_
    | with_reducible refine pc_stN (by decide) (by assumption) fun _ _ => ?_
    | with_reducible refine pc_stL (by decide) (by assumption) fun _ _ => ?_
    | with_reducible refine pc_stR (by decide) (by assumption) fun _ _ => ?_
    | with_reducible refine pc_cpN (by decide) (by assumption) fun _ _ => ?_
    | with_reducible refine pc_bI (fr_f_X12_laysLines (m0 := _) eqF.rf) (by decide) (by assumption) (fun _ _ _ => ?_) (fun _ _ _ => ?_)
    | with_reducible refine pc_pure fun _ => ?_
    | exact pc_some (by assumption)
    | exact pc_some (eqF.bX (by assumption))
    | exact pc_some trivial
    | dsimp only
theorem fr_j_X12_set_0_151 {m0 : MM} {m : MM} {l0 : Nat} {l1 : Int} {l2 : Int} {l3 : Int} {l5 : Int} {l6 : Int} {l7 : Int} {l8 : Int} {l9 : Int} (h : eqF [12, 64, 66, 70, 71, 83, 84, 85, 86, 87, 88, 89, 90, 91, 92, 93, 94, 95, 96, 97, 98, 99, 100, 101, 102] m0 m) : Pc (j_X12_set_0_151 m l0 l1 l2 l3 l5 l6 l7 l8 l9) (RF [12, 64, 66, 70, 71, 83, 84, 85, 86, 87, 88, 89, 90, 91, 92, 93, 94, 95, 96, 97, 98, 99, 100, 101, 102] m0) := by
  unfold j_X12_set_0_151
  repeat' first
    | with_reducible exact pc_x0
    | with_reducible exact pc_xt (by assumption)
    | with_reducible exact pc_xr (by assumption)
    | with_reducible exact fr_j_X12_set_0_152 (by assumption)
    | with_reducible refine pc_nk fun _ => ?_
    | with_reducible refine pc_if ?_ ?_
    | with_reducible refine pc_ck ?_
    | with_reducible refine pc_cb ?_
    | with_reducible refine pc_dv ?_
    | with_reducible refine pc_let fun _ => ?_
    | with_reducible refine pc_letL fun _ => ?_
    | with_reducible refine pc_ldN fun _ => ?_
    | with_reducible refine pc_ldL fun _ => ?_
    | with_reducible refine pc_ldR fun _ => ?_
    | with_reducible refine pc_put (eqF.sN (by assumption) (by decide)) fun _ _ => ?_
    | with_reducible refine pc_put (eqF.sL (by assumption) (by decide)) fun _ _ => ?_
    | with_reducible refine pc_put (eqF.sR (by assumption) (by decide)) fun _ _ => ?_
    | with_reducible refine pc_stN (by decide) (by assumption) fun _ _ => ?_
    | with_reducible refine pc_stL (by decide) (by assumption) fun _ _ => ?_
    | with_reducible refine pc_stR (by decide) (by assumption) fun _ _ => ?_
    | with_reducible refine pc_cpN (by decide) (by assumption) fun _ _ => ?_
    | with_reducible refine pc_pure fun _ => ?_
    | exact pc_some (by assumption)
    | exact pc_some (eqF.bX (by assumption))
    | exact pc_some trivial
    | dsimp only
theorem fr_j_X12_set_0_84 {m0 : MM} {m : MM} {l0 : Nat} {l1 : Int} {l2 : Int} {l3 : Int} {l5 : Int} {s0 : Nat} {s1 : Int} (h : eqF [12, 64, 66, 70, 71, 83, 84, 85, 86, 87, 88, 89, 90, 91, 92, 93, 94, 95, 96, 97, 98, 99, 100, 101, 102] m0 m) : Pc (j_X12_set_0_84 m l0 l1 l2 l3 l5 s0 s1) (RF [12, 64, 66, 70, 71, 83, 84, 85, 86, 87, 88, 89, 90, 91, 92, 93, 94, 95, 96, 97, 98, 99, 100, 101, 102] m0) := by
  unfold j_X12_set_0_84
  repeat' first
    | with_reducible exact pc_x0
    | with_reducible exact pc_xt (by assumption)
    | with_reducible exact pc_xr (by assumption)
    | with_reducible exact fr_j_X12_set_0_151 (by assumption)
    | with_reducible exact fr_j_X12_set_0_152 (by assumption)
    | with_reducible refine pc_nk fun _ => ?_
    | with_reducible refine pc_if ?_ ?_
    | with_reducible refine pc_ck ?_
    | with_reducible refine pc_cb ?_
    | with_reducible refine pc_dv ?_
    | with_reducible refine pc_let fun _ => ?_
    | with_reducible refine pc_letL fun _ => ?_
    | with_reducible refine pc_ldN fun _ => ?_
    | with_reducible refine pc_ldL fun _ => ?_
    | with_reducible refine pc_ldR fun _ => ?_
    | with_reducible refine pc_put (eqF.sN (by assumption) (by decide)) fun _ _ => ?_
    | with_reducible refine pc_put (eqF.sL (by assumption) (by decide)) fun _ _ => ?_
    | with_reducible refine pc_put (eqF.sR (by assumption) (by decide)) fun _ _ => ?_
    | with_reducible refine pc_stN (by decide) (by assumption) fun _ _ => ?_
    | with_reducible refine pc_stL (by decide) (by assumption) fun _ _ => ?_
    | with_reducible refine pc_stR (by decide) (by assumption) fun _ _ => ?_
    | with_reducible refine pc_cpN (by decide) (by assumption) fun _ _ => ?_
    | with_reducible refine pc_bI (fr_f_X12_holds (m0 := _) eqF.rf) (by decide) (by assumption) (fun _ _ _ => ?_) (fun _ _ _ => ?_)
    | with_reducible refine pc_bI (fr_f_X12_laysLines (m0 := _) eqF.rf) (by decide) (by assumption) (fun _ _ _ => ?_) (fun _ _ _ => ?_)
    | with_reducible refine pc_pure fun _ => ?_
    | exact pc_some (by assumption)
    | exact pc_some (eqF.bX (by assumption))
    | exact pc_some trivial
    | dsimp only
theorem fr_j_X12_set_0_79 {m0 : MM} {m : MM} {l0 : Nat} {l1 : Int} {l2 : Int} {l3 : Int} {l5 : Int} {s0 : Nat} (h : eqF [12, 64, 66, 70, 71, 83, 84, 85, 86, 87, 88, 89, 90, 91, 92, 93, 94, 95, 96, 97, 98, 99, 100, 101, 102] m0 m) : Pc (j_X12_set_0_79 m l0 l1 l2 l3 l5 s0) (RF [12, 64, 66, 70, 71, 83, 84, 85, 86, 87, 88, 89, 90, 91, 92, 93, 94, 95, 96, 97, 98, 99, 100, 101, 102] m0) := by
  unfold j_X12_set_0_79
  repeat' first
    | with_reducible exact pc_x0
    | with_reducible exact pc_xt (by assumption)
    | with_reducible exact pc_xr (by assumption)
    | with_reducible exact fr_j_X12_set_0_84 (by assumption)
    | with_reducible refine pc_nk fun _ => ?_
    | with_reducible refine pc_if ?_ ?_
    | with_reducible refine pc_ck ?_
    | with_reducible refine pc_cb ?_
    | with_reducible refine pc_dv ?_
    | with_reducible refine pc_let fun _ => ?_
    | with_reducible refine pc_letL fun _ => ?_
    | with_reducible refine pc_ldN fun _ => ?_
    | with_reducible refine pc_ldL fun _ => ?_
    | with_reducible refine pc_ldR fun _ => ?_
    | with_reducible refine pc_put (eqF.sN (by assumption) (by decide)) fun _ _ => ?_
    | with_reducible refine pc_put (eqF.sL (by assumption) (by decide)) fun _ _ => ?_
    | with_reducible refine pc_put (eqF.sR (by assumption) (by decide)) fun _ _ => ?_
    | with_reducible refine pc_stN (by decide) (by assumption) fun _ _ => ?_
    | with_reducible refine pc_stL (by decide) (by assumption) fun _ _ => ?_
    | with_reducible refine pc_stR (by decide) (by assumption) fun _ _ => ?_
    | with_reducible refine pc_cpN (by decide) (by assumption) fun _ _ => ?_
    | with_reducible refine pc_pure fun _ => ?_
    | exact pc_some (by assumption)
    | exact pc_some (eqF.bX (by assumption))
    | exact pc_some trivial
    | dsimp only
theorem fr_j_X12_set_0_39 {m0 : MM} {m : MM} {l0 : Nat} {l1 : Int} {l2 : Int} {l3 : Int} {l4 : Int} {s0 : Int} (h : eqF [12, 64, 66, 70, 71, 83, 84, 85, 86, 87, 88, 89, 90, 91, 92, 93, 94, 95, 96, 97, 98, 99, 100, 101, 102] m0 m) : Pc (j_X12_set_0_39 m l0 l1 l2 l3 l4 s0) (RF [12, 64, 66, 70, 71, 83, 84, 85, 86, 87, 88, 89, 90, 91, 92, 93, 94, 95, 96, 97, 98, 99, 100, 101, 102] m0) := by
  unfold j_X12_set_0_39
  repeat' first
    | with_reducible exact pc_x0
    | with_reducible exact pc_xt (by assumption)
    | with_reducible exact pc_xr (by assumption)
    | with_reducible exact fr_j_X12_set_0_79 (by assumption)
    | with_reducible exact fr_j_X12_set_0_84 (by assumption)
    | with_reducible refine pc_nk fun _ => ?_
    | with_reducible refine pc_if ?_ ?_
    | with_reducible refine pc_ck ?_
    | with_reducible refine pc_cb ?_
    | with_reducible refine pc_dv ?_
    | with_reducible refine pc_let fun _ => ?_
    | with_reducible refine pc_letL fun _ => ?_
    | with_reducible refine pc_ldN fun _ => ?_
    | with_reducible refine pc_ldL fun _ => ?_
    | with_reducible refine pc_ldR fun _ => ?_
    | with_reducible refine pc_put (eqF.sN (by assumption) (by decide)) fun _ _ => ?_
    | with_reducible refine pc_put (eqF.sL (by assumption) (by decide)) fun _ _ => ?_
    | with_reducible refine pc_put (eqF.sR (by assumption) (by decide)) fun _ _ => ?_
    | with_reducible refine pc_stN (by decide) (by assumption) fun _ _ => ?_
    | with_reducible refine pc_stL (by decide) (by assumption) fun _ _ => ?_
    | with_reducible refine pc_stR (by decide) (by assumption) fun _ _ => ?_
    | with_reducible refine pc_cpN (by decide) (by assumption) fun _ _ => ?_
    | with_reducible refine pc_pure fun _ => ?_
    | exact pc_some (by assumption)
    | exact pc_some (eqF.bX (by assumption))
    | exact pc_some trivial
    | dsimp only
theorem fr_j_X12_set_0_22 {m0 : MM} {m : MM} {l0 : Nat} {l1 : Int} {l2 : Int} {l3 : Int} {s0 : Int} (h : eqF [12, 64, 66, 70, 71, 83, 84, 85, 86, 87, 88, 89, 90, 91, 92, 93, 94, 95, 96, 97, 98, 99, 100, 101, 102] m0 m) : Pc (j_X12_set_0_22 m l0 l1 l2 l3 s0) (RF [12, 64, 66, 70, 71, 83, 84, 85, 86, 87, 88, 89, 90, 91, 92, 93, 94, 95, 96, 97, 98, 99, 100, 101, 102] m0) := by
  unfold j_X12_set_0_22
  repeat' first
    | with_reducible exact pc_x0
    | with_reducible exact pc_xt (by assumption)
    | with_reducible exact pc_xr (by assumption)
    | with_reducible exact fr_j_X12_set_0_39 (by assumption)
    | with_reducible refine pc_nk fun _ => ?_
    | with_reducible refine pc_if ?_ ?_
    | with_reducible refine pc_ck ?_
    | with_reducible refine pc_cb ?_
    | with_reducible refine pc_dv ?_
    | with_reducible refine pc_let fun _ => ?_
    | with_reducible refine pc_letL fun _ => ?_
    | with_reducible refine pc_ldN fun _ => ?_
    | with_reducible refine pc_ldL fun _ => ?_
    | with_reducible refine pc_ldR fun _ => ?_
    | with_reducible refine pc_put (eqF.sN (by assumption) (by decide)) fun _ _ => ?_
    | with_reducible refine pc_put (eqF.sL (by assumption) (by decide)) fun _ _ => ?_
    | with_reducible refine pc_put (eqF.sR (by assumption) (by decide)) fun _ _ => ?_
    | with_reducible refine pc_stN (by decide) (by assumption) fun _ _ => ?_
    | with_reducible refine pc_stL (by decide) (by assumption) fun _ _ => ?_
    | with_reducible refine pc_stR (by decide) (by assumption) fun _ _ => ?_
    | with_reducible refine pc_cpN (by decide) (by assumption) fun _ _ => ?_
    | with_reducible refine pc_pure fun _ => ?_
    | exact pc_some (by assumption)
    | exact pc_some (eqF.bX (by assumption))
    | exact pc_some trivial
    | dsimp only
theorem fr_j_X12_set_0_21 {m0 : MM} {m : MM} {l0 : Nat} {l1 : Int} {l2 : Int} {l3 : Int} (h : eqF [12, 64, 66, 70, 71, 83, 84, 85, 86, 87, 88, 89, 90, 91, 92, 93, 94, 95, 96, 97, 98, 99, 100, 101, 102] m0 m) : Pc (j_X12_set_0_21 m l0 l1 l2 l3) (RF [12, 64, 66, 70, 71, 83, 84, 85, 86, 87, 88, 89, 90, 91, 92, 93, 94, 95, 96, 97, 98, 99, 100, 101, 102] m0) := by
  unfold j_X12_set_0_21
  repeat' first
    | with_reducible exact pc_x0
    | with_reducible exact pc_xt (by assumption)
    | with_reducible exact pc_xr (by assumption)
    | with_reducible exact fr_j_X12_set_0_22 (by assumption)
    | with_reducible refine pc_nk fun _ => ?_
    | with_reducible refine pc_if ?_ ?_
    | with_reducible refine pc_ck ?_
    | with_reducible refine pc_cb ?_
    | with_reducible refine pc_dv ?_
    | with_reducible refine pc_let fun _ => ?_
    | with_reducible refine pc_letL fun _ => ?_
    | with_reducible refine pc_ldN fun _ => ?_
    | with_reducible refine pc_ldL fun _ => ?_
    | with_reducible refine pc_ldR fun _ => ?_
    | with_reducible refine pc_put (eqF.sN (by assumption) (by decide)) fun _ _ => ?_
    | with_reducible refine pc_put (eqF.sL (by assumption) (by decide)) fun _ _ => ?_
    | with_reducible refine pc_put (eqF.sR (by assumption) (by decide)) fun _ _ => ?_
    | with_reducible refine pc_stN (by decide) (by assumption) fun _ _ => ?_
    | with_reducible refine pc_stL (by decide) (by assumption) fun _ _ => ?_
    | with_reducible refine pc_stR (by decide) (by assumption) fun _ _ => ?_
    | with_reducible refine pc_cpN (by decide) (by assumption) fun _ _ => ?_
    | with_reducible refine pc_pure fun _ => ?_
    | exact pc_some (by assumption)
    | exact pc_some (eqF.bX (by assumption))
    | exact pc_some trivial
    | dsimp only
theorem fr_f_X12_set {m0 : MM} {m : MM} {l0 : Nat} {l1 : Int} {l2 : Int} {l3 : Int} (h : eqF [12, 64, 66, 70, 71, 83, 84, 85, 86, 87, 88, 89, 90, 91, 92, 93, 94, 95, 96, 97, 98, 99, 100, 101, 102] m0 m) : Pc (f_X12_set m l0 l1 l2 l3) (RF [12, 64, 66, 70, 71, 83, 84, 85, 86, 87, 88, 89, 90, 91, 92, 93, 94, 95, 96, 97, 98, 99, 100, 101, 102] m0) := by
  unfold f_X12_set
  repeat' first
    | with_reducible exact pc_x0
    | with_reducible exact pc_xt (by assumption)
    | with_reducible exact pc_xr (by assumption)
    | with_reducible exact fr_j_X12_set_0_21 (by assumption)
    | with_reducible exact fr_j_X12_set_0_22 (by assumption)
    | with_reducible refine pc_nk fun _ => ?_
    | with_reducible refine pc_if ?_ ?_
    | with_reducible refine pc_ck ?_
    | with_reducible refine pc_cb ?_
    | with_reducible refine pc_dv ?_
    | with_reducible refine pc_let fun _ => ?_
    | with_reducible refine pc_letL fun _ => ?_
    | with_reducible refine pc_ldN fun _ => ?_
    | with_reducible refine pc_ldL fun _ => ?_
    | with_reducible refine pc_ldR fun _ => ?_
    | with_reducible refine pc_put (eqF.sN (by assumption) (by decide)) fun _ _ => ?_
    | with_reducible refine pc_put (eqF.sL (by assumption) (by decide)) fun _ _ => ?_
    | with_reducible refine pc_put (eqF.sR (by assumption) (by decide)) fun _ _ => ?_
    | with_reducible refine pc_stN (by decide) (by assumption) fun _ _ => ?_
    | with_reducible refine pc_stL (by decide) (by assumption) fun _ _ => ?_
    | with_reducible refine pc_stR (by decide) (by assumption) fun _ _ => ?_
    | with_reducible refine pc_cpN (by decide) (by assumption) fun _ _ => ?_
    | with_reducible refine pc_pure fun _ => ?_
    | exact pc_some (by assumption)
    | exact pc_some (eqF.bX (by assumption))
    | exact pc_some trivial
    | dsimp only
theorem fr_j_X12_shared_0_116 {m0 : MM} {m : MM} {l0 : Nat} {l1 : Int} {l2 : Int} {l3 : Int} {l5 : Int} (h : eqF [12] m0 m) : Pc (j_X12_shared_0_116 m l0 l1 l2 l3 l5) (RF [12] m0) := by
  unfold j_X12_shared_0_116
  repeat' first
    | with_reducible exact pc_x0
    | with_reducible exact pc_xt (by assumption)
    | with_reducible exact pc_xr (by assumption)
    | with_reducible refine pc_nk fun _ => ?_
    | with_reducible refine pc_if ?_ ?_
    | with_reducible refine pc_ck ?_
    | with_reducible refine pc_cb ?_
    | with_reducible refine pc_dv ?_
    | with_reducible refine pc_let fun _ => ?_
    | with_reducible refine pc_letL fun _ => ?_
    | with_reducible refine pc_ldN fun _ => ?_
    | with_reducible refine pc_ldL fun _ => ?_
    | with_reducible refine pc_ldR fun _ => ?_
    | with_reducible refine pc_put (eqF.sN (by assumption) (by decide)) fun _ _ => ?_
    | with_reducible refine pc_put (eqF.sL (by assumption) (by decide)) fun _ _ => ?_
    | with_reducible refine pc_put (eqF.sR (by assumption) (by decide)) fun _ _ => ?_
    | with_reducible refine pc_stN (by decide) (by assumption) fun _ _ => ?_
    | with_reducible refine pc_stL (by decide) (by assumption) fun _ _ => ?_
    | with_reducible refine pc_stR (by decide) (by assumption) fun _ _ => ?_
    | with_reducible refine pc_cpN (by decide) (by assumption) fun _ _ => ?_
    | with_reducible refine pc_pure fun _ => ?_
    | exact pc_some (by assumption)
    | exact pc_some (eqF.bX (by assumption))
    | exact pc_some trivial
    | dsimp only
theorem fr_j_X12_shared_0_45 {m0 : MM} {m : MM} {l0 : Nat} {l1 : Int} {l2 : Int} {l3 : Int} {s0 : Nat} {s1 : Int} (h : eqF [12] m0 m) : Pc (j_X12_shared_0_45 m l0 l1 l2 l3 s0 s1) (RF [12] m0) := by
  unfold j_X12_shared_0_45
  repeat' first
    | with_reducible exact pc_x0
    | with_reducible exact pc_xt (by assumption)
    | with_reducible exact pc_xr (by assumption)
    | with_reducible exact fr_j_X12_shared_0_116 (by assumption)
    | with_reducible refine pc_nk fun _ => ?_
    | with_reducible refine pc_if ?_ ?_
    | with_reducible refine pc_ck ?_
    | with_reducible refine pc_cb ?_
    | with_reducible refine pc_dv ?_
    | with_reducible refine pc_let fun _ => ?_
    | with_reducible refine pc_letL fun _ => ?_
    | with_reducible refine pc_ldN fun _ => ?_
    | with_reducible refine pc_ldL fun _ => ?_
    | with_reducible refine pc_ldR fun _ => ?_
    | with_reducible refine pc_put (eqF.sN (by assumption) (by decide)) fun _ _ => ?_
    | with_reducible refine pc_put (eqF.sL (by assumption) (by decide)) fun _ _ => ?_
    | with_reducible refine pc_put (eqF.sR (by assumption) (by decide)) fun _ _ => ?_
    | with_reducible refine pc_stN (by decide) (by assumption) fun _ _ => ?_
    | with_reducible refine pc_stL (by decide) (by assumption) fun _ _ => ?_
    | with_reducible refine pc_stR (by decide) (by assumption) fun _ _ => ?_
    | with_reducible refine pc_cpN (by decide) (by assumption) fun _ _ => ?_
    | with_reducible refine pc_bI (fr_f_X12_holds (m0 := _) eqF.rf) (by decide) (by assumption) (fun _ _ _ => ?_) (fun _ _ _ => ?_)
    | with_reducible refine pc_pure fun _ => ?_
    | exact pc_some (by assumption)
    | exact pc_some (eqF.bX (by assumption))
    | exact pc_some trivial
    | dsimp only
theorem fr_j_X12_shared_0_23 {m0 : MM} {m : MM} {l0 : Nat} {l1 : Int} {l2 : Int} {l3 : Int} {s0 : Int} (h : eqF [12] m0 m) : Pc (j_X12_shared_0_23 m l0 l1 l2 l3 s0) (RF [12] m0) := by
  unfold j_X12_shared_0_23
  repeat' first
    | with_reducible exact pc_x0
    | with_reducible exact pc_xt (by assumption)
    | with_reducible exact pc_xr (by assumption)
    | with_reducible exact fr_j_X12_shared_0_45 (by assumption)
    | with_reducible refine pc_nk fun _ => ?_
    | with_reducible refine pc_if ?_ ?_
    | with_reducible refine pc_ck ?_
    | with_reducible refine pc_cb ?_
    | with_reducible refine pc_dv ?_
    | with_reducible refine pc_let fun _ => ?_
    | with_reducible refine pc_letL fun _ => ?_
    | with_reducible refine pc_ldN fun _ => ?_
    | with_reducible refine pc_ldL fun _ => ?_
    | with_reducible refine pc_ldR fun _ => ?_
    | with_reducible refine pc_put (eqF.sN (by assumption) (by decide)) fun _ _ => ?_
    | with_reducible refine pc_put (eqF.sL (by assumption) (by decide)) fun _ _ => ?_
    | with_reducible refine pc_put (eqF.sR (by assumption) (by decide)) fun _ _ => ?_
    | with_reducible refine pc_stN (by decide) (by assumption) fun _ _ => ?_
    | with_reducible refine pc_stL (by decide) (by assumption) fun _ _ => ?_
    | with_reducible refine pc_stR (by decide) (by assumption) fun _ _ => ?_
    | with_reducible refine pc_cpN (by decide) (by assumption) fun _ _ => ?_
    | with_reducible refine pc_pure fun _ => ?_
    | exact pc_some (by assumption)
    | exact pc_some (eqF.bX (by assumption))
    | exact pc_some trivial
    | dsimp only
theorem fr_j_X12_shared_0_22 {m0 : MM} {m : MM} {l0 : Nat} {l1 : Int} {l2 : Int} {l3 : Int} (h : eqF [12] m0 m) : Pc (j_X12_shared_0_22 m l0 l1 l2 l3) (RF [12] m0) := by
  unfold j_X12_shared_0_22
  repeat' first
    | with_reducible exact pc_x0
    | with_reducible exact pc_xt (by assumption)
    | with_reducible exact pc_xr (by assumption)
    | with_reducible exact fr_j_X12_shared_0_23 (by assumption)
    | with_reducible refine pc_nk fun _ => ?_
    | with_reducible refine pc_if ?_ ?_
    | with_reducible refine pc_ck ?_
    | with_reducible refine pc_cb ?_
    | with_reducible refine pc_dv ?_
    | with_reducible refine pc_let fun _ => ?_
    | with_reducible refine pc_letL fun _ => ?_
    | with_reducible refine pc_ldN fun _ => ?_
    | with_reducible refine pc_ldL fun _ => ?_
    | with_reducible refine pc_ldR fun _ => ?_
    | with_reducible refine pc_put (eqF.sN (by assumption) (by decide)) fun _ _ => ?_
    | with_reducible refine pc_put (eqF.sL (by assumption) (by decide)) fun _ _ => ?_
    | with_reducible refine pc_put (eqF.sR (by assumption) (by decide)) fun _ _ => ?_
    | with_reducible refine pc_stN (by decide) (by assumption) fun _ _ => ?_
    | with_reducible refine pc_stL (by decide) (by assumption) fun _ _ => ?_
    | with_reducible refine pc_stR (by decide) (by assumption) fun _ _ => ?_
    | with_reducible refine pc_cpN (by decide) (by assumption) fun _ _ => ?_
    | with_reducible refine pc_pure fun _ => ?_
    | exact pc_some (by assumption)
    | exact pc_some (eqF.bX (by assumption))
    | exact pc_some trivial
    | dsimp only
theorem fr_f_X12_shared {m0 : MM} {m : MM} {l0 : Nat} {l1 : Int} {l2 : Int} {l3 : Int} (h : eqF [12] m0 m) : Pc (f_X12_shared m l0 l1 l2 l3) (RF [12] m0) := by
  unfold f_X12_shared
  repeat' first
    | with_reducible exact pc_x0
    | with_reducible exact pc_xt (by assumption)
    | with_reducible exact pc_xr (by assumption)
    | with_reducible exact fr_j_X12_shared_0_22 (by assumption)
    | with_reducible exact fr_j_X12_shared_0_23 (by assumption)
    | with_reducible refine pc_nk fun _ => ?_
    | with_reducible refine pc_if ?_ ?_
    | with_reducible refine pc_ck ?_
    | with_reducible refine pc_cb ?_
    | with_reducible refine pc_dv ?_
    | with_reducible refine pc_let fun _ => ?_
    | with_reducible refine pc_letL fun _ => ?_
    | with_reducible refine pc_ldN fun _ => ?_
    | with_reducible refine pc_ldL fun _ => ?_
    | with_reducible refine pc_ldR fun _ => ?_
    | with_reducible refine pc_put (eqF.sN (by assumption) (by decide)) fun _ _ => ?_
    | with_reducible refine pc_put (eqF.sL (by assumption) (by decide)) fun _ _ => ?_
    | with_reducible refine pc_put (eqF.sR (by assumption) (by decide)) fun _ _ => ?_
    | with_reducible refine pc_stN (by decide) (by assumption) fun _ _ => ?_
    | with_reducible refine pc_stL (by decide) (by assumption) fun _ _ => ?_
    | with_reducible refine pc_stR (by decide) (by assumption) fun _ _ => ?_
    | with_reducible refine pc_cpN (by decide) (by assumption) fun _ _ => ?_
    | with_reducible refine pc_pure fun _ => ?_
    | exact pc_some (by assumption)
    | exact pc_some (eqF.bX (by assumption))
    | exact pc_some trivial
    | dsimp only
theorem fr_j_X12_spelling_0_71 {m0 : MM} {m : MM} {l0 : Nat} {s0 : Nat} {s1 : Int} (h : eqF [12, 60, 61] m0 m) : Pc (j_X12_spelling_0_71 m l0 s0 s1) (RF [12, 60, 61] m0) := by
  unfold j_X12_spelling_0_71
  repeat' first
    | with_reducible exact pc_x0
    | with_reducible exact pc_xt (by assumption)
    | with_reducible exact pc_xr (by assumption)
    | with_reducible refine pc_nk fun _ => ?_
    | with_reducible refine pc_if ?_ ?_
    | with_reducible refine pc_ck ?_
    | with_reducible refine pc_cb ?_
    | with_reducible refine pc_dv ?_
    | with_reducible refine pc_let fun _ => ?_
    | with_reducible refine pc_letL fun _ => ?_
    | with_reducible refine pc_ldN fun _ => ?_
    | with_reducible refine pc_ldL fun _ => ?_
    | with_reducible refine pc_ldR fun _ => ?_
    | with_reducible refine pc_put (eqF.sN (by assumption) (by decide)) fun _ _ => ?_
    | with_reducible refine pc_put (eqF.sL (by assumption) (by decide)) fun _ _ => ?_
    | with_reducible refine pc_put (eqF.sR (by assumption) (by decide)) fun _ _ => ?_
    | with_reducible refine pc_stN (by decide) (by assumption) fun _ _ => ?_
    | with_reducible refine pc_stL (by decide) (by assumption) fun _ _ => ?_
    | with_reducible refine pc_stR (by decide) (by assumption) fun _ _ => ?_
    | with_reducible refine pc_cpN (by decide) (by assumption) fun _ _ => ?_
    | with_reducible refine pc_bI (fr_f_X12_holds (m0 := _) eqF.rf) (by decide) (by assumption) (fun _ _ _ => ?_) (fun _ _ _ => ?_)
    | with_reducible refine pc_pure fun _ => ?_
    | exact pc_some (by assumption)
    | exact pc_some (eqF.bX (by assumption))
    | exact pc_some trivial
    | dsimp only
theorem fr_j_X12_spelling_0_50 {m0 : MM} {m : MM} {l0 : Nat} {l1 : Int} (h : eqF [12, 60, 61] m0 m) : Pc (j_X12_spelling_0_50 m l0 l1) (RF [12, 60, 61] m0) := by
  unfold j_X12_spelling_0_50
  repeat' first
    | with_reducible exact pc_x0
    | with_reducible exact pc_xt (by assumption)
    | with_reducible exact pc_xr (by assumption)
    | with_reducible exact fr_j_X12_spelling_0_71 (by assumption)
    | with_reducible refine pc_nk fun _ => ?_
    | with_reducible refine pc_if ?_ ?_
    | with_reducible refine pc_ck ?_
    | with_reducible refine pc_cb ?_
    | with_reducible refine pc_dv ?_
    | with_reducible refine pc_let fun _ => ?_
    | with_reducible refine pc_letL fun _ => ?_
    | with_reducible refine pc_ldN fun _ => ?_
    | with_reducible refine pc_ldL fun _ => ?_
    | with_reducible refine pc_ldR fun _ => ?_
    | with_reducible refine pc_put (eqF.sN (by assumption) (by decide)) fun _ _ => ?_
    | with_reducible refine pc_put (eqF.sL (by assumption) (by decide)) fun _ _ => ?_
    | with_reducible refine pc_put (eqF.sR (by assumption) (by decide)) fun _ _ => ?_
    | with_reducible refine pc_stN (by decide) (by assumption) fun _ _ => ?_
    | with_reducible refine pc_stL (by decide) (by assumption) fun _ _ => ?_
    | with_reducible refine pc_stR (by decide) (by assumption) fun _ _ => ?_
    | with_reducible refine pc_cpN (by decide) (by assumption) fun _ _ => ?_
    | with_reducible refine pc_pure fun _ => ?_
    | exact pc_some (by assumption)
    | exact pc_some (eqF.bX (by assumption))
    | exact pc_some trivial
    | dsimp only
theorem fr_j_X12_spelling_0_14 {m0 : MM} {m : MM} {l0 : Nat} {s0 : Int} (h : eqF [12, 60, 61] m0 m) : Pc (j_X12_spelling_0_14 m l0 s0) (RF [12, 60, 61] m0) := by
  unfold j_X12_spelling_0_14
  repeat' first
    | with_reducible exact pc_x0
    | with_reducible exact pc_xt (by assumption)
    | with_reducible exact pc_xr (by assumption)
    | with_reducible exact fr_j_X12_spelling_0_50 (by assumption)
    | with_reducible refine pc_nk fun _ => ?_
    | with_reducible refine pc_if ?_ ?_
    | with_reducible refine pc_ck ?_
    | with_reducible refine pc_cb ?_
    | with_reducible refine pc_dv ?_
    | with_reducible refine pc_let fun _ => ?_
    | with_reducible refine pc_letL fun _ => ?_
    | with_reducible refine pc_ldN fun _ => ?_
    | with_reducible refine pc_ldL fun _ => ?_
    | with_reducible refine pc_ldR fun _ => ?_
    | with_reducible refine pc_put (eqF.sN (by assumption) (by decide)) fun _ _ => ?_
    | with_reducible refine pc_put (eqF.sL (by assumption) (by decide)) fun _ _ => ?_
    | with_reducible refine pc_put (eqF.sR (by assumption) (by decide)) fun _ _ => ?_
    | with_reducible refine pc_stN (by decide) (by assumption) fun _ _ => ?_
    | with_reducible refine pc_stL (by decide) (by assumption) fun _ _ => ?_
    | with_reducible refine pc_stR (by decide) (by assumption) fun _ _ => ?_
    | with_reducible refine pc_cpN (by decide) (by assumption) fun _ _ => ?_
    | with_reducible refine pc_pure fun _ => ?_
    | exact pc_some (by assumption)
    | exact pc_some (eqF.bX (by assumption))
    | exact pc_some trivial
    | dsimp only
theorem fr_f_X12_spelling {m0 : MM} {m : MM} {l0 : Nat} (h : eqF [12, 60, 61] m0 m) : Pc (f_X12_spelling m l0) (RF [12, 60, 61] m0) := by
  unfold f_X12_spelling
  repeat' first
    | with_reducible exact pc_x0
    | with_reducible exact pc_xt (by assumption)
    | with_reducible exact pc_xr (by assumption)
    | with_reducible exact fr_j_X12_spelling_0_14 (by assumption)
    | with_reducible refine pc_nk fun _ => ?_
    | with_reducible refine pc_if ?_ ?_
    | with_reducible refine pc_ck ?_
    | with_reducible refine pc_cb ?_
    | with_reducible refine pc_dv ?_
    | with_reducible refine pc_let fun _ => ?_
    | with_reducible refine pc_letL fun _ => ?_
    | with_reducible refine pc_ldN fun _ => ?_
    | with_reducible refine pc_ldL fun _ => ?_
    | with_reducible refine pc_ldR fun _ => ?_
    | with_reducible refine pc_put (eqF.sN (by assumption) (by decide)) fun _ _ => ?_
    | with_reducible refine pc_put (eqF.sL (by assumption) (by decide)) fun _ _ => ?_
    | with_reducible refine pc_put (eqF.sR (by assumption) (by decide)) fun _ _ => ?_
    | with_reducible refine pc_stN (by decide) (by assumption) fun _ _ => ?_
    | with_reducible refine pc_stL (by decide) (by assumption) fun _ _ => ?_
    | with_reducible refine pc_stR (by decide) (by assumption) fun _ _ => ?_
    | with_reducible refine pc_cpN (by decide) (by assumption) fun _ _ => ?_
    | with_reducible refine pc_pure fun _ => ?_
    | exact pc_some (by assumption)
    | exact pc_some (eqF.bX (by assumption))
    | exact pc_some trivial
    | dsimp only
theorem fr_j_X12_state_0_49 {m0 : MM} {m : MM} {l0 : Nat} {l1 : Int} {l2 : Int} {l3 : Int} {s0 : Nat} {s1 : Int} (h : eqF [12] m0 m) : Pc (j_X12_state_0_49 m l0 l1 l2 l3 s0 s1) (RF [12] m0) := by
  unfold j_X12_state_0_49
  repeat' first
    | with_reducible exact pc_x0
    | with_reducible exact pc_xt (by assumption)
    | with_reducible exact pc_xr (by assumption)
    | with_reducible refine pc_nk fun _ => ?_
    | with_reducible refine pc_if ?_ ?_
    | with_reducible refine pc_ck ?_
    | with_reducible refine pc_cb ?_
    | with_reducible refine pc_dv ?_
    | with_reducible refine pc_let fun _ => ?_
    | with_reducible refine pc_letL fun _ => ?_
    | with_reducible refine pc_ldN fun _ => ?_
    | with_reducible refine pc_ldL fun _ => ?_
    | with_reducible refine pc_ldR fun _ => ?_
    | with_reducible refine pc_put (eqF.sN (by assumption) (by decide)) fun _ _ => ?_
    | with_reducible refine pc_put (eqF.sL (by assumption) (by decide)) fun _ _ => ?_
    | with_reducible refine pc_put (eqF.sR (by assumption) (by decide)) fun _ _ => ?_
    | with_reducible refine pc_stN (by decide) (by assumption) fun _ _ => ?_
    | with_reducible refine pc_stL (by decide) (by assumption) fun _ _ => ?_
    | with_reducible refine pc_stR (by decide) (by assumption) fun _ _ => ?_
    | with_reducible refine pc_cpN (by decide) (by assumption) fun _ _ => ?_
    | with_reducible refine pc_bI (fr_f_X12_holds (m0 := _) eqF.rf) (by decide) (by assumption) (fun _ _ _ => ?_) (fun _ _ _ => ?_)
    | with_reducible refine pc_pure fun _ => ?_
    | exact pc_some (by assumption)
    | exact pc_some (eqF.bX (by assumption))
    | exact pc_some trivial
    | dsimp only
theorem fr_j_X12_state_0_23 {m0 : MM} {m : MM} {l0 : Nat} {l1 : Int} {l2 : Int} {l3 : Int} {s0 : Int} (h : eqF [12] m0 m) : Pc (j_X12_state_0_23 m l0 l1 l2 l3 s0) (RF [12] m0) := by
  unfold j_X12_state_0_23
  repeat' first
    | with_reducible exact pc_x0
    | with_reducible exact pc_xt (by assumption)
    | with_reducible exact pc_xr (by assumption)
    | with_reducible exact fr_j_X12_state_0_49 (by assumption)
    | with_reducible refine pc_nk fun _ => ?_
    | with_reducible refine pc_if ?_ ?_
    | with_reducible refine pc_ck ?_
    | with_reducible refine pc_cb ?_
    | with_reducible refine pc_dv ?_
    | with_reducible refine pc_let fun _ => ?_
    | with_reducible refine pc_letL fun _ => ?_
    | with_reducible refine pc_ldN fun _ => ?_
    | with_reducible refine pc_ldL fun _ => ?_
    | with_reducible refine pc_ldR fun _ => ?_
    | with_reducible refine pc_put (eqF.sN (by assumption) (by decide)) fun _ _ => ?_
    | with_reducible refine pc_put (eqF.sL (by assumption) (by decide)) fun _ _ => ?_
    | with_reducible refine pc_put (eqF.sR (by assumption) (by decide)) fun _ _ => ?_
    | with_reducible refine pc_stN (by decide) (by assumption) fun _ _ => ?_
    | with_reducible refine pc_stL (by decide) (by assumption) fun _ _ => ?_
    | with_reducible refine pc_stR (by decide) (by assumption) fun _ _ => ?_
    | with_reducible refine pc_cpN (by decide) (by assumption) fun _ _ => ?_
    | with_reducible refine pc_pure fun _ => ?_
    | exact pc_some (by assumption)
    | exact pc_some (eqF.bX (by assumption))
    | exact pc_some trivial
    | dsimp only
theorem fr_j_X12_state_0_22 {m0 : MM} {m : MM} {l0 : Nat} {l1 : Int} {l2 : Int} {l3 : Int} (h : eqF [12] m0 m) : Pc (j_X12_state_0_22 m l0 l1 l2 l3) (RF [12] m0) := by
  unfold j_X12_state_0_22
  repeat' first
    | with_reducible exact pc_x0
    | with_reducible exact pc_xt (by assumption)
    | with_reducible exact pc_xr (by assumption)
    | with_reducible exact fr_j_X12_state_0_23 (by assumption)
    | with_reducible refine pc_nk fun _ => ?_
    | with_reducible refine pc_if ?_ ?_
    | with_reducible refine pc_ck ?_
    | with_reducible refine pc_cb ?_
    | with_reducible refine pc_dv ?_
    | with_reducible refine pc_let fun _ => ?_
    | with_reducible refine pc_letL fun _ => ?_
    | with_reducible refine pc_ldN fun _ => ?_
    | with_reducible refine pc_ldL fun _ => ?_
    | with_reducible refine pc_ldR fun _ => ?_
    | with_reducible refine pc_put (eqF.sN (by assumption) (by decide)) fun _ _ => ?_
    | with_reducible refine pc_put (eqF.sL (by assumption) (by decide)) fun _ _ => ?_
    | with_reducible refine pc_put (eqF.sR (by assumption) (by decide)) fun _ _ => ?_
    | with_reducible refine pc_stN (by decide) (by assumption) fun _ _ => ?_
    | with_reducible refine pc_stL (by decide) (by assumption) fun _ _ => ?_
    | with_reducible refine pc_stR (by decide) (by assumption) fun _ _ => ?_
    | with_reducible refine pc_cpN (by decide) (by assumption) fun _ _ => ?_
    | with_reducible refine pc_pure fun _ => ?_
    | exact pc_some (by assumption)
    | exact pc_some (eqF.bX (by assumption))
    | exact pc_some trivial
    | dsimp only
theorem fr_f_X12_state {m0 : MM} {m : MM} {l0 : Nat} {l1 : Int} {l2 : Int} {l3 : Int} (h : eqF [12] m0 m) : Pc (f_X12_state m l0 l1 l2 l3) (RF [12] m0) := by
  unfold f_X12_state
  repeat' first
    | with_reducible exact pc_x0
    | with_reducible exact pc_xt (by assumption)
    | with_reducible exact pc_xr (by assumption)
    | with_reducible exact fr_j_X12_state_0_22 (by assumption)
    | with_reducible exact fr_j_X12_state_0_23 (by assumption)
    | with_reducible refine pc_nk fun _ => ?_
    | with_reducible refine pc_if ?_ ?_
    | with_reducible refine pc_ck ?_
    | with_reducible refine pc_cb ?_
    | with_reducible refine pc_dv ?_
    | with_reducible refine pc_let fun _ => ?_
    | with_reducible refine pc_letL fun _ => ?_
    | with_reducible refine pc_ldN fun _ => ?_
    | with_reducible refine pc_ldL fun _ => ?_
    | with_reducible refine pc_ldR fun _ => ?_
    | with_reducible refine pc_put (eqF.sN (by assumption) (by decide)) fun _ _ => ?_
    | with_reducible refine pc_put (eqF.sL (by assumption) (by decide)) fun _ _ => ?_
    | with_reducible refine pc_put (eqF.sR (by assumption) (by decide)) fun _ _ => ?_
    | with_reducible refine pc_stN (by decide) (by assumption) fun _ _ => ?_
    | with_reducible refine pc_stL (by decide) (by assumption) fun _ _ => ?_
    | with_reducible refine pc_stR (by decide) (by assumption) fun _ _ => ?_
    | with_reducible refine pc_cpN (by decide) (by assumption) fun _ _ => ?_
    | with_reducible refine pc_pure fun _ => ?_
    | exact pc_some (by assumption)
    | exact pc_some (eqF.bX (by assumption))
    | exact pc_some trivial
    | dsimp only
theorem fr_b_X12_type_113 {m0 : MM} {l0 : Nat} {l1 : Int64} {l3 : Int} {l5 : Int} {mm : MM} (h : eqF [12, 59] m0 mm) : Pc (b_X12_type_113 l0 l1 l3 l5 mm) (fun z => Sum.elim (fun s => eqF [12, 59] m0 s.2) (fun z => eqF [12, 59] m0 z) z) := by
  unfold b_X12_type_113
  repeat' first
    | with_reducible exact pc_x0
    | with_reducible exact pc_xt (by assumption)
    | with_reducible exact pc_xr (by assumption)
    | with_reducible refine pc_nk fun _ => ?_
    | with_reducible refine pc_if ?_ ?_
    | with_reducible refine pc_ck ?_
    | with_reducible refine pc_cb ?_
    | with_reducible refine pc_dv ?_
    | with_reducible refine pc_let fun _ => ?_
    | with_reducible refine pc_letL fun _ => ?_
    | with_reducible refine pc_ldN fun _ => ?_
    | with_reducible refine pc_ldL fun _ => ?_
    | with_reducible refine pc_ldR fun _ => ?_
    | with_reducible refine pc_put (eqF.sN (by assumption) (by decide)) fun _ _ => ?_
    | with_reducible refine pc_put (eqF.sL (by assumption) (by decide)) fun _ _ => ?_
    | with_reducible refine pc_put (eqF.sR (by assumption) (by decide)) fun _ _ => ?_
    | with_reducible refine pc_stN (by decide) (by assumption) fun _ _ => ?_
    | with_reducible refine pc_stL (by decide) (by assumption) fun _ _ => ?_
    | with_reducible refine pc_stR (by decide) (by assumption) fun _ _ => ?_
    | with_reducible refine pc_cpN (by decide) (by assumption) fun _ _ => ?_
    | with_reducible refine pc_pure fun _ => ?_
    | exact pc_some (by assumption)
    | exact pc_some (eqF.bX (by assumption))
    | exact pc_some trivial
    | dsimp only
theorem fr_j_X12_type_0_156 {m0 : MM} {m : MM} {l0 : Nat} (h : eqF [12, 59] m0 m) : Pc (j_X12_type_0_156 m l0) (RF [12, 59] m0) := by
  unfold j_X12_type_0_156
  repeat' first
    | with_reducible exact pc_x0
    | with_reducible exact pc_xt (by assumption)
    | with_reducible exact pc_xr (by assumption)
    | with_reducible refine pc_nk fun _ => ?_
    | with_reducible refine pc_if ?_ ?_
    | with_reducible refine pc_ck ?_
    | with_reducible refine pc_cb ?_
    | with_reducible refine pc_dv ?_
    | with_reducible refine pc_let fun _ => ?_
    | with_reducible refine pc_letL fun _ => ?_
    | with_reducible refine pc_ldN fun _ => ?_
    | with_reducible refine pc_ldL fun _ => ?_
    | with_reducible refine pc_ldR fun _ => ?_
    | with_reducible refine pc_put (eqF.sN (by assumption) (by decide)) fun _ _ => ?_
    | with_reducible refine pc_put (eqF.sL (by assumption) (by decide)) fun _ _ => ?_
    | with_reducible refine pc_put (eqF.sR (by assumption) (by decide)) fun _ _ => ?_
    | with_reducible refine pc_stN (by decide) (by assumption) fun _ _ => ?_
    | with_reducible refine pc_stL (by decide) (by assumption) fun _ _ => ?_
    | with_reducible refine pc_stR (by decide) (by assumption) fun _ _ => ?_
    | with_reducible refine pc_cpN (by decide) (by assumption) fun _ _ => ?_
    | with_reducible refine pc_pure fun _ => ?_
    | exact pc_some (by assumption)
    | exact pc_some (eqF.bX (by assumption))
    | exact pc_some trivial
    | dsimp only
theorem fr_j_X12_type_0_102 {m0 : MM} {m : MM} {l0 : Nat} {l1 : Int64} {l3 : Int} {s0 : Nat} {s1 : Int} (h : eqF [12, 59] m0 m) : Pc (j_X12_type_0_102 m l0 l1 l3 s0 s1) (RF [12, 59] m0) := by
  unfold j_X12_type_0_102
  repeat' first
    | with_reducible exact pc_x0
    | with_reducible exact pc_xt (by assumption)
    | with_reducible exact pc_xr (by assumption)
    | with_reducible exact fr_j_X12_type_0_156 (by assumption)
    | with_reducible refine pc_nk fun _ => ?_
    | with_reducible refine pc_if ?_ ?_
    | with_reducible refine pc_ck ?_
    | with_reducible refine pc_cb ?_
    | with_reducible refine pc_dv ?_
    | with_reducible refine pc_let fun _ => ?_
    | with_reducible refine pc_letL fun _ => ?_
    | with_reducible refine pc_ldN fun _ => ?_
    | with_reducible refine pc_ldL fun _ => ?_
    | with_reducible refine pc_ldR fun _ => ?_
    | with_reducible refine pc_put (eqF.sN (by assumption) (by decide)) fun _ _ => ?_
    | with_reducible refine pc_put (eqF.sL (by assumption) (by decide)) fun _ _ => ?_
    | with_reducible refine pc_put (eqF.sR (by assumption) (by decide)) fun _ _ => ?_
    | with_reducible refine pc_stN (by decide) (by assumption) fun _ _ => ?_
    | with_reducible refine pc_stL (by decide) (by assumption) fun _ _ => ?_
    | with_reducible refine pc_stR (by decide) (by assumption) fun _ _ => ?_
    | with_reducible refine pc_cpN (by decide) (by assumption) fun _ _ => ?_
    | with_reducible refine pc_bI (fr_f_X12_holds (m0 := _) eqF.rf) (by decide) (by assumption) (fun _ _ _ => ?_) (fun _ _ _ => ?_)
    | with_reducible refine pc_lp (fun s => eqF [12, 59] m0 s.2) (fun z => eqF [12, 59] m0 z) (by assumption) (fun s hs => fr_b_X12_type_113 hs) (fun z hz => ?_)
    | with_reducible refine pc_pure fun _ => ?_
    | exact pc_some (by assumption)
    | exact pc_some (eqF.bX (by assumption))
    | exact pc_some trivial
    | dsimp only
theorem fr_j_X12_type_0_76 {m0 : MM} {m : MM} {l0 : Nat} {l1 : Int64} {l3 : Int} {l4 : Int} (h : eqF [12, 59] m0 m) : Pc (j_X12_type_0_76 m l0 l1 l3 l4) (RF [12, 59] m0) := by
  unfold j_X12_type_0_76
  repeat' first
    | with_reducible exact pc_x0
    | with_reducible exact pc_xt (by assumption)
    | with_reducible exact pc_xr (by assumption)
    | with_reducible exact fr_j_X12_type_0_102 (by assumption)
    | with_reducible refine pc_nk fun _ => ?_
    | with_reducible refine pc_if ?_ ?_
    | with_reducible refine pc_ck ?_
    | with_reducible refine pc_cb ?_
    | with_reducible refine pc_dv ?_
    | with_reducible refine pc_let fun _ => ?_
    | with_reducible refine pc_letL fun _ => ?_
    | with_reducible refine pc_ldN fun _ => ?_
    | with_reducible refine pc_ldL fun _ => ?_
    | with_reducible refine pc_ldR fun _ => ?_
    | with_reducible refine pc_put (eqF.sN (by assumption) (by decide)) fun _ _ => ?_
    | with_reducible refine pc_put (eqF.sL (by assumption) (by decide)) fun _ _ => ?_
    | with_reducible refine pc_put (eqF.sR (by assumption) (by decide)) fun _ _ => ?_
    | with_reducible refine pc_stN (by decide) (by assumption) fun _ _ => ?_
    | with_reducible refine pc_stL (by decide) (by assumption) fun _ _ => ?_
    | with_reducible refine pc_stR (by decide) (by assumption) fun _ _ => ?_
    | with_reducible refine pc_cpN (by decide) (by assumption) fun _ _ => ?_
    | with_reducible refine pc_pure fun _ => ?_
    | exact pc_some (by assumption)
    | exact pc_some (eqF.bX (by assumption))
    | exact pc_some trivial
    | dsimp only
theorem fr_f_X12_type {m0 : MM} {m : MM} {l0 : Nat} {l1 : Int64} {l3 : Int} (h : eqF [12, 59] m0 m) : Pc (f_X12_type m l0 l1 l3) (RF [12, 59] m0) := by
  unfold f_X12_type
  repeat' first
    | with_reducible exact pc_x0
    | with_reducible exact pc_xt (by assumption)
    | with_reducible exact pc_xr (by assumption)
    | with_reducible exact fr_j_X12_type_0_76 (by assumption)
    | with_reducible refine pc_nk fun _ => ?_
    | with_reducible refine pc_if ?_ ?_
    | with_reducible refine pc_ck ?_
    | with_reducible refine pc_cb ?_
    | with_reducible refine pc_dv ?_
    | with_reducible refine pc_let fun _ => ?_
    | with_reducible refine pc_letL fun _ => ?_
    | with_reducible refine pc_ldN fun _ => ?_
    | with_reducible refine pc_ldL fun _ => ?_
    | with_reducible refine pc_ldR fun _ => ?_
    | with_reducible refine pc_put (eqF.sN (by assumption) (by decide)) fun _ _ => ?_
    | with_reducible refine pc_put (eqF.sL (by assumption) (by decide)) fun _ _ => ?_
    | with_reducible refine pc_put (eqF.sR (by assumption) (by decide)) fun _ _ => ?_
    | with_reducible refine pc_stN (by decide) (by assumption) fun _ _ => ?_
    | with_reducible refine pc_stL (by decide) (by assumption) fun _ _ => ?_
    | with_reducible refine pc_stR (by decide) (by assumption) fun _ _ => ?_
    | with_reducible refine pc_cpN (by decide) (by assumption) fun _ _ => ?_
    | with_reducible refine pc_pure fun _ => ?_
    | exact pc_some (by assumption)
    | exact pc_some (eqF.bX (by assumption))
    | exact pc_some trivial
    | dsimp only
theorem fr_j_X12_wear_0_36 {m0 : MM} {m : MM} {l0 : Nat} {l1 : Int} {s0 : Nat} {s1 : Int} (h : eqF [12, 63] m0 m) : Pc (j_X12_wear_0_36 m l0 l1 s0 s1) (RF [12, 63] m0) := by
  unfold j_X12_wear_0_36
  repeat' first
    | with_reducible exact pc_x0
    | with_reducible exact pc_xt (by assumption)
    | with_reducible exact pc_xr (by assumption)
    | with_reducible refine pc_nk fun _ => ?_
    | with_reducible refine pc_if ?_ ?_
    | with_reducible refine pc_ck ?_
    | with_reducible refine pc_cb ?_
    | with_reducible refine pc_dv ?_
    | with_reducible refine pc_let fun _ => ?_
    | with_reducible refine pc_letL fun _ => ?_
    | with_reducible refine pc_ldN fun _ => ?_
    | with_reducible refine pc_ldL fun _ => ?_
    | with_reducible refine pc_ldR fun _ => ?_
    | with_reducible refine pc_put (eqF.sN (by assumption) (by decide)) fun _ _ => ?_
    | with_reducible refine pc_put (eqF.sL (by assumption) (by decide)) fun _ _ => ?_
    | with_reducible refine pc_put (eqF.sR (by assumption) (by decide)) fun _ _ => ?_
    | with_reducible refine pc_stN (by decide) (by assumption) fun _ _ => ?_
    | with_reducible refine pc_stL (by decide) (by assumption) fun _ _ => ?_
    | with_reducible refine pc_stR (by decide) (by assumption) fun _ _ => ?_
    | with_reducible refine pc_cpN (by decide) (by assumption) fun _ _ => ?_
    | with_reducible refine pc_bI (fr_f_X12_holds (m0 := _) eqF.rf) (by decide) (by assumption) (fun _ _ _ => ?_) (fun _ _ _ => ?_)
    | with_reducible refine pc_pure fun _ => ?_
    | exact pc_some (by assumption)
    | exact pc_some (eqF.bX (by assumption))
    | exact pc_some trivial
    | dsimp only
theorem fr_f_X12_wear {m0 : MM} {m : MM} {l0 : Nat} {l1 : Int} (h : eqF [12, 63] m0 m) : Pc (f_X12_wear m l0 l1) (RF [12, 63] m0) := by
  unfold f_X12_wear
  repeat' first
    | with_reducible exact pc_x0
    | with_reducible exact pc_xt (by assumption)
    | with_reducible exact pc_xr (by assumption)
    | with_reducible exact fr_j_X12_wear_0_36 (by assumption)
    | with_reducible refine pc_nk fun _ => ?_
    | with_reducible refine pc_if ?_ ?_
    | with_reducible refine pc_ck ?_
    | with_reducible refine pc_cb ?_
    | with_reducible refine pc_dv ?_
    | with_reducible refine pc_let fun _ => ?_
    | with_reducible refine pc_letL fun _ => ?_
    | with_reducible refine pc_ldN fun _ => ?_
    | with_reducible refine pc_ldL fun _ => ?_
    | with_reducible refine pc_ldR fun _ => ?_
    | with_reducible refine pc_put (eqF.sN (by assumption) (by decide)) fun _ _ => ?_
    | with_reducible refine pc_put (eqF.sL (by assumption) (by decide)) fun _ _ => ?_
    | with_reducible refine pc_put (eqF.sR (by assumption) (by decide)) fun _ _ => ?_
    | with_reducible refine pc_stN (by decide) (by assumption) fun _ _ => ?_
    | with_reducible refine pc_stL (by decide) (by assumption) fun _ _ => ?_
    | with_reducible refine pc_stR (by decide) (by assumption) fun _ _ => ?_
    | with_reducible refine pc_cpN (by decide) (by assumption) fun _ _ => ?_
    | with_reducible refine pc_pure fun _ => ?_
    | exact pc_some (by assumption)
    | exact pc_some (eqF.bX (by assumption))
    | exact pc_some trivial
    | dsimp only
theorem fr_f_X12_wipe {m0 : MM} {m : MM} {l0 : Nat} (h : eqF [12] m0 m) : Pc (f_X12_wipe m l0) (RF [12] m0) := by
  unfold f_X12_wipe
  repeat' first
    | with_reducible exact pc_x0
    | with_reducible exact pc_xt (by assumption)
    | with_reducible exact pc_xr (by assumption)
    | with_reducible refine pc_nk fun _ => ?_
    | with_reducible refine pc_if ?_ ?_
    | with_reducible refine pc_ck ?_
    | with_reducible refine pc_cb ?_
    | with_reducible refine pc_dv ?_
    | with_reducible refine pc_let fun _ => ?_
    | with_reducible refine pc_letL fun _ => ?_
    | with_reducible refine pc_ldN fun _ => ?_
    | with_reducible refine pc_ldL fun _ => ?_
    | with_reducible refine pc_ldR fun _ => ?_
    | with_reducible refine pc_put (eqF.sN (by assumption) (by decide)) fun _ _ => ?_
    | with_reducible refine pc_put (eqF.sL (by assumption) (by decide)) fun _ _ => ?_
    | with_reducible refine pc_put (eqF.sR (by assumption) (by decide)) fun _ _ => ?_
    | with_reducible refine pc_stN (by decide) (by assumption) fun _ _ => ?_
    | with_reducible refine pc_stL (by decide) (by assumption) fun _ _ => ?_
    | with_reducible refine pc_stR (by decide) (by assumption) fun _ _ => ?_
    | with_reducible refine pc_cpN (by decide) (by assumption) fun _ _ => ?_
    | with_reducible refine pc_pure fun _ => ?_
    | exact pc_some (by assumption)
    | exact pc_some (eqF.bX (by assumption))
    | exact pc_some trivial
    | dsimp only
