set_option maxRecDepth 8000
theorem d_X11_handAt_0 : dk me_X11_handAt 0 (.iload_n 1) 1 1 := And.intro (by decide +kernel) rfl
theorem d_X11_handAt_1 : dk me_X11_handAt 1 (.ifCond .lt 21) 3 4 := And.intro (by decide +kernel) rfl
theorem d_X11_handAt_4 : dk me_X11_handAt 4 (.iload_n 1) 1 5 := And.intro (by decide +kernel) rfl
theorem d_X11_handAt_5 : dk me_X11_handAt 5 (.aload_n 0) 1 6 := And.intro (by decide +kernel) rfl
theorem d_X11_handAt_6 : dk me_X11_handAt 6 (.getfield 25) 3 9 := And.intro (by decide +kernel) rfl
theorem d_X11_handAt_9 : dk me_X11_handAt 9 (.arraylength) 1 10 := And.intro (by decide +kernel) rfl
theorem d_X11_handAt_10 : dk me_X11_handAt 10 (.if_icmp .ge 12) 3 13 := And.intro (by decide +kernel) rfl
theorem d_X11_handAt_13 : dk me_X11_handAt 13 (.aload_n 0) 1 14 := And.intro (by decide +kernel) rfl
theorem d_X11_handAt_14 : dk me_X11_handAt 14 (.getfield 25) 3 17 := And.intro (by decide +kernel) rfl
theorem d_X11_handAt_17 : dk me_X11_handAt 17 (.iload_n 1) 1 18 := And.intro (by decide +kernel) rfl
theorem d_X11_handAt_18 : dk me_X11_handAt 18 (.aaload) 1 19 := And.intro (by decide +kernel) rfl
theorem d_X11_handAt_19 : dk me_X11_handAt 19 (.goto 4) 3 22 := And.intro (by decide +kernel) rfl
theorem d_X11_handAt_22 : dk me_X11_handAt 22 (.aconst_null) 1 23 := And.intro (by decide +kernel) rfl
theorem d_X11_handAt_23 : dk me_X11_handAt 23 (.astore_n 2) 1 24 := And.intro (by decide +kernel) rfl
theorem d_X11_handAt_24 : dk me_X11_handAt 24 (.aload_n 2) 1 25 := And.intro (by decide +kernel) rfl
theorem d_X11_handAt_25 : dk me_X11_handAt 25 (.ifnonnull 14) 3 28 := And.intro (by decide +kernel) rfl
theorem d_X11_handAt_28 : dk me_X11_handAt 28 (.new 446) 3 31 := And.intro (by decide +kernel) rfl
theorem d_X11_handAt_31 : dk me_X11_handAt 31 (.dup) 1 32 := And.intro (by decide +kernel) rfl
theorem d_X11_handAt_32 : dk me_X11_handAt 32 (.ldc_w 465) 3 35 := And.intro (by decide +kernel) rfl
theorem d_X11_handAt_35 : dk me_X11_handAt 35 (.invokespecial 450) 3 38 := And.intro (by decide +kernel) rfl
theorem d_X11_handAt_38 : dk me_X11_handAt 38 (.athrow) 1 39 := And.intro (by decide +kernel) rfl
theorem d_X11_handAt_39 : dk me_X11_handAt 39 (.aload_n 2) 1 40 := And.intro (by decide +kernel) rfl
theorem d_X11_handAt_40 : dk me_X11_handAt 40 (.areturn) 1 41 := And.intro (by decide +kernel) rfl
theorem ms_X11_handAt {fx : FX} {m : MM} {l0 : Nat} {l1 : Int} : MS fx me_X11_handAt [aR (some (11, l0)), aI l1] m (f_X11_handAt m l0 l1) := by
  refine ms_of rfl mf_X11_handAt (b8 rfl) ?_
  refine s_top ?_
  show Sim fx me_X11_handAt 0 [(0, aR (some (11, l0))), (1, aI l1)] [] m _
  unfold f_X11_handAt
  have hj_X11_handAt_0_23 : ∀ (m_23 : MM) (s0_23 : Option (Nat × Nat)), Sim fx me_X11_handAt 23 [] [aR s0_23] m_23 ((j_X11_handAt_0_23 m_23 s0_23).bind (fun z => some z)) := by
    intro m_23 s0_23
    unfold j_X11_handAt_0_23
    refine s_astore_n (L' := [(2, aR s0_23)]) d_X11_handAt_23 (b8 rfl) rfl (s_aload_n d_X11_handAt_24 m0_ (s_ifnonnull (tgt := 39) d_X11_handAt_25 rfl ?_ ?_))
    · exact s_aload_n d_X11_handAt_39 m0_ (s_aret d_X11_handAt_40 rfl (Or.inl ⟨_, rfl⟩) rfl)
    exact s_throw (e := 0) (text := "there is no such hand") (names := ["java/lang/RuntimeException", "java/lang/Exception"]) rfl rfl (by decide +kernel) (by decide +kernel) (b8 rfl) wk_tf_446_450 wi_0 tf_446_450 gtf_446_450 (by decide) d_X11_handAt_28 d_X11_handAt_31 d_X11_handAt_32 d_X11_handAt_35 d_X11_handAt_38 (b8 rfl) (b8 rfl) rfl
  have hj_X11_handAt_0_22 : ∀ (m_22 : MM), Sim fx me_X11_handAt 22 [] [] m_22 ((j_X11_handAt_0_22 m_22).bind (fun z => some z)) := by
    intro m_22
    unfold j_X11_handAt_0_22
    exact s_null d_X11_handAt_22 (s_sub (sub0) (hj_X11_handAt_0_23 m_22 none))
  refine s_iload_n d_X11_handAt_0 m1_ (s_if_lt (tgt := 22) d_X11_handAt_1 rfl ?_ ?_)
  · exact s_sub (sub0) (hj_X11_handAt_0_22 m)
  refine s_iload_n d_X11_handAt_4 m1_ (s_aload_n d_X11_handAt_5 m0_ (s_getR cf d_X11_handAt_6 fl_X11_25 (s_nk fun i1 => (s_len d_X11_handAt_9 ka_55 ta_55 (s_icmp_ge (tgt := 22) d_X11_handAt_10 rfl ?_ ?_)))))
  · exact s_sub (sub0) (hj_X11_handAt_0_22 m)
  refine s_aload_n d_X11_handAt_13 m0_ (s_getR cf d_X11_handAt_14 fl_X11_25 (s_nk fun i2 => (s_iload_n d_X11_handAt_17 m1_ (s_ldR d_X11_handAt_18 ka_55 ta_55 rfl rfl fun r3 => (s_goto (tgt := 23) d_X11_handAt_19 rfl ?_)))))
  exact s_sub (sub0) (hj_X11_handAt_0_23 m r3)
theorem d_X11_pressAt_0 : dk me_X11_pressAt 0 (.iload_n 1) 1 1 := And.intro (by decide +kernel) rfl
theorem d_X11_pressAt_1 : dk me_X11_pressAt 1 (.ifCond .lt 12) 3 4 := And.intro (by decide +kernel) rfl
theorem d_X11_pressAt_4 : dk me_X11_pressAt 4 (.iload_n 1) 1 5 := And.intro (by decide +kernel) rfl
theorem d_X11_pressAt_5 : dk me_X11_pressAt 5 (.aload_n 0) 1 6 := And.intro (by decide +kernel) rfl
theorem d_X11_pressAt_6 : dk me_X11_pressAt 6 (.getfield 37) 3 9 := And.intro (by decide +kernel) rfl
theorem d_X11_pressAt_9 : dk me_X11_pressAt 9 (.arraylength) 1 10 := And.intro (by decide +kernel) rfl
theorem d_X11_pressAt_10 : dk me_X11_pressAt 10 (.if_icmp .lt 14) 3 13 := And.intro (by decide +kernel) rfl
theorem d_X11_pressAt_13 : dk me_X11_pressAt 13 (.new 446) 3 16 := And.intro (by decide +kernel) rfl
theorem d_X11_pressAt_16 : dk me_X11_pressAt 16 (.dup) 1 17 := And.intro (by decide +kernel) rfl
theorem d_X11_pressAt_17 : dk me_X11_pressAt 17 (.ldc_w 467) 3 20 := And.intro (by decide +kernel) rfl
theorem d_X11_pressAt_20 : dk me_X11_pressAt 20 (.invokespecial 450) 3 23 := And.intro (by decide +kernel) rfl
theorem d_X11_pressAt_23 : dk me_X11_pressAt 23 (.athrow) 1 24 := And.intro (by decide +kernel) rfl
theorem d_X11_pressAt_24 : dk me_X11_pressAt 24 (.aload_n 0) 1 25 := And.intro (by decide +kernel) rfl
theorem d_X11_pressAt_25 : dk me_X11_pressAt 25 (.getfield 37) 3 28 := And.intro (by decide +kernel) rfl
theorem d_X11_pressAt_28 : dk me_X11_pressAt 28 (.iload_n 1) 1 29 := And.intro (by decide +kernel) rfl
theorem d_X11_pressAt_29 : dk me_X11_pressAt 29 (.aaload) 1 30 := And.intro (by decide +kernel) rfl
theorem d_X11_pressAt_30 : dk me_X11_pressAt 30 (.areturn) 1 31 := And.intro (by decide +kernel) rfl
theorem ms_X11_pressAt {fx : FX} {m : MM} {l0 : Nat} {l1 : Int} : MS fx me_X11_pressAt [aR (some (11, l0)), aI l1] m (f_X11_pressAt m l0 l1) := by
  refine ms_of rfl mf_X11_pressAt (b8 rfl) ?_
  refine s_top ?_
  show Sim fx me_X11_pressAt 0 [(0, aR (some (11, l0))), (1, aI l1)] [] m _
  unfold f_X11_pressAt
  have hj_X11_pressAt_0_13 : ∀ (m_13 : MM), Sim fx me_X11_pressAt 13 [] [] m_13 ((j_X11_pressAt_0_13 m_13).bind (fun z => some z)) := by
    intro m_13
    unfold j_X11_pressAt_0_13
    exact s_throw (e := 0) (text := "there is no such press") (names := ["java/lang/RuntimeException", "java/lang/Exception"]) rfl rfl (by decide +kernel) (by decide +kernel) (b8 rfl) wk_tf_446_450 wi_0 tf_446_450 gtf_446_450 (by decide) d_X11_pressAt_13 d_X11_pressAt_16 d_X11_pressAt_17 d_X11_pressAt_20 d_X11_pressAt_23 (b8 rfl) (b8 rfl) rfl
  refine s_iload_n d_X11_pressAt_0 m1_ (s_if_lt (tgt := 13) d_X11_pressAt_1 rfl ?_ ?_)
  · exact s_sub (sub0) (hj_X11_pressAt_0_13 m)
  refine s_iload_n d_X11_pressAt_4 m1_ (s_aload_n d_X11_pressAt_5 m0_ (s_getR cf d_X11_pressAt_6 fl_X11_37 (s_nk fun i1 => (s_len d_X11_pressAt_9 ka_57 ta_57 (s_icmp_lt (tgt := 24) d_X11_pressAt_10 rfl ?_ ?_)))))
  · exact s_aload_n d_X11_pressAt_24 m0_ (s_getR cf d_X11_pressAt_25 fl_X11_37 (s_nk fun i2 => (s_iload_n d_X11_pressAt_28 m1_ (s_ldR d_X11_pressAt_29 ka_57 ta_57 rfl rfl fun r3 => (s_aret d_X11_pressAt_30 rfl (Or.inl ⟨_, rfl⟩) rfl)))))
  exact s_sub (sub0) (hj_X11_pressAt_0_13 m)
theorem d_X11_requireArgument_0 : dk me_X11_requireArgument 0 (.iload_n 0) 1 1 := And.intro (by decide +kernel) rfl
theorem d_X11_requireArgument_1 : dk me_X11_requireArgument 1 (.ifCond .ne 14) 3 4 := And.intro (by decide +kernel) rfl
theorem d_X11_requireArgument_4 : dk me_X11_requireArgument 4 (.new 453) 3 7 := And.intro (by decide +kernel) rfl
theorem d_X11_requireArgument_7 : dk me_X11_requireArgument 7 (.dup) 1 8 := And.intro (by decide +kernel) rfl
theorem d_X11_requireArgument_8 : dk me_X11_requireArgument 8 (.ldc_w 455) 3 11 := And.intro (by decide +kernel) rfl
theorem d_X11_requireArgument_11 : dk me_X11_requireArgument 11 (.invokespecial 457) 3 14 := And.intro (by decide +kernel) rfl
theorem d_X11_requireArgument_14 : dk me_X11_requireArgument 14 (.athrow) 1 15 := And.intro (by decide +kernel) rfl
theorem d_X11_requireArgument_15 : dk me_X11_requireArgument 15 (.return_) 1 16 := And.intro (by decide +kernel) rfl
theorem ms_X11_requireArgument {fx : FX} {m : MM} {l0 : Int} : MS fx me_X11_requireArgument [aI l0] m (f_X11_requireArgument m l0) := by
  refine ms_of rfl mf_X11_requireArgument (b8 rfl) ?_
  refine s_top ?_
  show Sim fx me_X11_requireArgument 0 [(0, aI l0)] [] m _
  unfold f_X11_requireArgument
  refine s_iload_n d_X11_requireArgument_0 m0_ (s_if_ne (tgt := 15) d_X11_requireArgument_1 rfl ?_ ?_)
  · exact s_vret d_X11_requireArgument_15 rfl rfl
  exact s_throw (e := 1) (text := "an argument is out of range, or the tape does not serve") (names := ["java/lang/RuntimeException", "java/lang/Exception"]) rfl rfl (by decide +kernel) (by decide +kernel) (b8 rfl) wk_tf_453_457 wi_1 tf_453_457 gtf_453_457 (by decide) d_X11_requireArgument_4 d_X11_requireArgument_7 d_X11_requireArgument_8 d_X11_requireArgument_11 d_X11_requireArgument_14 (b8 rfl) (b8 rfl) rfl
theorem d_X11_requireIndex_0 : dk me_X11_requireIndex 0 (.iload_n 0) 1 1 := And.intro (by decide +kernel) rfl
theorem d_X11_requireIndex_1 : dk me_X11_requireIndex 1 (.ifCond .ne 14) 3 4 := And.intro (by decide +kernel) rfl
theorem d_X11_requireIndex_4 : dk me_X11_requireIndex 4 (.new 446) 3 7 := And.intro (by decide +kernel) rfl
theorem d_X11_requireIndex_7 : dk me_X11_requireIndex 7 (.dup) 1 8 := And.intro (by decide +kernel) rfl
theorem d_X11_requireIndex_8 : dk me_X11_requireIndex 8 (.ldc_w 448) 3 11 := And.intro (by decide +kernel) rfl
theorem d_X11_requireIndex_11 : dk me_X11_requireIndex 11 (.invokespecial 450) 3 14 := And.intro (by decide +kernel) rfl
theorem d_X11_requireIndex_14 : dk me_X11_requireIndex 14 (.athrow) 1 15 := And.intro (by decide +kernel) rfl
theorem d_X11_requireIndex_15 : dk me_X11_requireIndex 15 (.return_) 1 16 := And.intro (by decide +kernel) rfl
theorem ms_X11_requireIndex {fx : FX} {m : MM} {l0 : Int} : MS fx me_X11_requireIndex [aI l0] m (f_X11_requireIndex m l0) := by
  refine ms_of rfl mf_X11_requireIndex (b8 rfl) ?_
  refine s_top ?_
  show Sim fx me_X11_requireIndex 0 [(0, aI l0)] [] m _
  unfold f_X11_requireIndex
  refine s_iload_n d_X11_requireIndex_0 m0_ (s_if_ne (tgt := 15) d_X11_requireIndex_1 rfl ?_ ?_)
  · exact s_vret d_X11_requireIndex_15 rfl rfl
  exact s_throw (e := 0) (text := "there is no such one") (names := ["java/lang/RuntimeException", "java/lang/Exception"]) rfl rfl (by decide +kernel) (by decide +kernel) (b8 rfl) wk_tf_446_450 wi_0 tf_446_450 gtf_446_450 (by decide) d_X11_requireIndex_4 d_X11_requireIndex_7 d_X11_requireIndex_8 d_X11_requireIndex_11 d_X11_requireIndex_14 (b8 rfl) (b8 rfl) rfl
theorem d_X11_account_0 : dk me_X11_account 0 (.iload_n 1) 1 1 := And.intro (by decide +kernel) rfl
theorem d_X11_account_1 : dk me_X11_account 1 (.ifCond .lt 12) 3 4 := And.intro (by decide +kernel) rfl
theorem d_X11_account_4 : dk me_X11_account 4 (.iload_n 1) 1 5 := And.intro (by decide +kernel) rfl
theorem d_X11_account_5 : dk me_X11_account 5 (.iconst 4) 1 6 := And.intro (by decide +kernel) rfl
theorem d_X11_account_6 : dk me_X11_account 6 (.if_icmp .gt 7) 3 9 := And.intro (by decide +kernel) rfl
theorem d_X11_account_9 : dk me_X11_account 9 (.iconst 1) 1 10 := And.intro (by decide +kernel) rfl
theorem d_X11_account_10 : dk me_X11_account 10 (.goto 4) 3 13 := And.intro (by decide +kernel) rfl
theorem d_X11_account_13 : dk me_X11_account 13 (.iconst 0) 1 14 := And.intro (by decide +kernel) rfl
theorem d_X11_account_14 : dk me_X11_account 14 (.invokestatic 53) 3 17 := And.intro (by decide +kernel) rfl
theorem d_X11_account_17 : dk me_X11_account 17 (.iload_n 1) 1 18 := And.intro (by decide +kernel) rfl
theorem d_X11_account_18 : dk me_X11_account 18 (.iconst 4) 1 19 := And.intro (by decide +kernel) rfl
theorem d_X11_account_19 : dk me_X11_account 19 (.if_icmp .ne 27) 3 22 := And.intro (by decide +kernel) rfl
theorem d_X11_account_22 : dk me_X11_account 22 (.iload_n 2) 1 23 := And.intro (by decide +kernel) rfl
theorem d_X11_account_23 : dk me_X11_account 23 (.ifCond .lt 12) 3 26 := And.intro (by decide +kernel) rfl
theorem d_X11_account_26 : dk me_X11_account 26 (.iload_n 2) 1 27 := And.intro (by decide +kernel) rfl
theorem d_X11_account_27 : dk me_X11_account 27 (.iconst 4) 1 28 := And.intro (by decide +kernel) rfl
theorem d_X11_account_28 : dk me_X11_account 28 (.if_icmp .ge 7) 3 31 := And.intro (by decide +kernel) rfl
theorem d_X11_account_31 : dk me_X11_account 31 (.iconst 1) 1 32 := And.intro (by decide +kernel) rfl
theorem d_X11_account_32 : dk me_X11_account 32 (.goto 4) 3 35 := And.intro (by decide +kernel) rfl
theorem d_X11_account_35 : dk me_X11_account 35 (.iconst 0) 1 36 := And.intro (by decide +kernel) rfl
theorem d_X11_account_36 : dk me_X11_account 36 (.invokestatic 115) 3 39 := And.intro (by decide +kernel) rfl
theorem d_X11_account_39 : dk me_X11_account 39 (.aload_n 0) 1 40 := And.intro (by decide +kernel) rfl
theorem d_X11_account_40 : dk me_X11_account 40 (.getfield 42) 3 43 := And.intro (by decide +kernel) rfl
theorem d_X11_account_43 : dk me_X11_account 43 (.iload_n 2) 1 44 := And.intro (by decide +kernel) rfl
theorem d_X11_account_44 : dk me_X11_account 44 (.iaload) 1 45 := And.intro (by decide +kernel) rfl
theorem d_X11_account_45 : dk me_X11_account 45 (.ireturn) 1 46 := And.intro (by decide +kernel) rfl
theorem d_X11_account_46 : dk me_X11_account 46 (.iload_n 1) 1 47 := And.intro (by decide +kernel) rfl
theorem d_X11_account_47 : dk me_X11_account 47 (.iconst 2) 1 48 := And.intro (by decide +kernel) rfl
theorem d_X11_account_48 : dk me_X11_account 48 (.if_icmp .lt 26) 3 51 := And.intro (by decide +kernel) rfl
theorem d_X11_account_51 : dk me_X11_account 51 (.aload_n 0) 1 52 := And.intro (by decide +kernel) rfl
theorem d_X11_account_52 : dk me_X11_account 52 (.iload_n 2) 1 53 := And.intro (by decide +kernel) rfl
theorem d_X11_account_53 : dk me_X11_account 53 (.invokevirtual 287) 3 56 := And.intro (by decide +kernel) rfl
theorem d_X11_account_56 : dk me_X11_account 56 (.astore_n 3) 1 57 := And.intro (by decide +kernel) rfl
theorem d_X11_account_57 : dk me_X11_account 57 (.iload_n 1) 1 58 := And.intro (by decide +kernel) rfl
theorem d_X11_account_58 : dk me_X11_account 58 (.iconst 2) 1 59 := And.intro (by decide +kernel) rfl
theorem d_X11_account_59 : dk me_X11_account 59 (.if_icmp .ne 10) 3 62 := And.intro (by decide +kernel) rfl
theorem d_X11_account_62 : dk me_X11_account 62 (.aload_n 3) 1 63 := And.intro (by decide +kernel) rfl
theorem d_X11_account_63 : dk me_X11_account 63 (.getfield 438) 3 66 := And.intro (by decide +kernel) rfl
theorem d_X11_account_66 : dk me_X11_account 66 (.goto 7) 3 69 := And.intro (by decide +kernel) rfl
theorem d_X11_account_69 : dk me_X11_account 69 (.aload_n 3) 1 70 := And.intro (by decide +kernel) rfl
theorem d_X11_account_70 : dk me_X11_account 70 (.getfield 440) 3 73 := And.intro (by decide +kernel) rfl
theorem d_X11_account_73 : dk me_X11_account 73 (.ireturn) 1 74 := And.intro (by decide +kernel) rfl
theorem d_X11_account_74 : dk me_X11_account 74 (.aload_n 0) 1 75 := And.intro (by decide +kernel) rfl
theorem d_X11_account_75 : dk me_X11_account 75 (.iload_n 2) 1 76 := And.intro (by decide +kernel) rfl
theorem d_X11_account_76 : dk me_X11_account 76 (.invokevirtual 196) 3 79 := And.intro (by decide +kernel) rfl
theorem d_X11_account_79 : dk me_X11_account 79 (.astore_n 3) 1 80 := And.intro (by decide +kernel) rfl
theorem d_X11_account_80 : dk me_X11_account 80 (.iload_n 1) 1 81 := And.intro (by decide +kernel) rfl
theorem d_X11_account_81 : dk me_X11_account 81 (.ifCond .ne 10) 3 84 := And.intro (by decide +kernel) rfl
theorem d_X11_account_84 : dk me_X11_account 84 (.aload_n 3) 1 85 := And.intro (by decide +kernel) rfl
theorem d_X11_account_85 : dk me_X11_account 85 (.getfield 219) 3 88 := And.intro (by decide +kernel) rfl
theorem d_X11_account_88 : dk me_X11_account 88 (.goto 7) 3 91 := And.intro (by decide +kernel) rfl
theorem d_X11_account_91 : dk me_X11_account 91 (.aload_n 3) 1 92 := And.intro (by decide +kernel) rfl
theorem d_X11_account_92 : dk me_X11_account 92 (.getfield 443) 3 95 := And.intro (by decide +kernel) rfl
theorem d_X11_account_95 : dk me_X11_account 95 (.ireturn) 1 96 := And.intro (by decide +kernel) rfl
theorem ms_X11_account {fx : FX} {m : MM} {l0 : Nat} {l1 : Int} {l2 : Int} : MS fx me_X11_account [aR (some (11, l0)), aI l1, aI l2] m (f_X11_account m l0 l1 l2) := by
  refine ms_of rfl mf_X11_account (b8 rfl) ?_
  refine s_top ?_
  show Sim fx me_X11_account 0 [(0, aR (some (11, l0))), (1, aI l1), (2, aI l2)] [] m _
  unfold f_X11_account
  have hj_X11_account_0_36 : ∀ (m_36 : MM) (l0_36 : Nat) (l2_36 : Int) (s0_36 : Int), Sim fx me_X11_account 36 [(0, aR (some (11, l0_36))), (2, aI l2_36)] [aI s0_36] m_36 ((j_X11_account_0_36 m_36 l0_36 l2_36 s0_36).bind (fun z => some z)) := by
    intro m_36 l0_36 l2_36 s0_36
    unfold j_X11_account_0_36
    refine s_cV (r_S d_X11_account_36 k_X11_requireIndex w_451 rfl rfl) ms_X11_requireIndex (b8 rfl) rfl rfl rfl (fun h => by cases h) (fun _ _ => Or.inr rfl) fun m9 => (s_aload_n d_X11_account_39 m0_ (s_getR cf d_X11_account_40 fl_X11_42 (s_nk fun i11 => (s_iload_n d_X11_account_43 m1_ (s_ldN d_X11_account_44 ka_58 rfl fun v12 => ?_)))))
    exact s_iret d_X11_account_45 rfl rfl
  have hj_X11_account_0_35 : ∀ (m_35 : MM) (l0_35 : Nat) (l2_35 : Int), Sim fx me_X11_account 35 [(0, aR (some (11, l0_35))), (2, aI l2_35)] [] m_35 ((j_X11_account_0_35 m_35 l0_35 l2_35).bind (fun z => some z)) := by
    intro m_35 l0_35 l2_35
    unfold j_X11_account_0_35
    exact s_iconst d_X11_account_35 n_0 (s_sub (subc m0_ (subc m1_ sub0)) (hj_X11_account_0_36 m_35 l0_35 l2_35 0))
  have hj_X11_account_0_14 : ∀ (m_14 : MM) (l0_14 : Nat) (l1_14 : Int) (l2_14 : Int) (s0_14 : Int), Sim fx me_X11_account 14 [(0, aR (some (11, l0_14))), (1, aI l1_14), (2, aI l2_14)] [aI s0_14] m_14 ((j_X11_account_0_14 m_14 l0_14 l1_14 l2_14 s0_14).bind (fun z => some z)) := by
    intro m_14 l0_14 l1_14 l2_14 s0_14
    unfold j_X11_account_0_14
    refine s_cV (r_S d_X11_account_14 k_X11_requireArgument w_284 rfl rfl) ms_X11_requireArgument (b8 rfl) rfl rfl rfl (fun h => by cases h) (fun _ _ => Or.inr rfl) fun m1 => (s_iload_n d_X11_account_17 m1_ (s_iconst d_X11_account_18 n_4 (s_icmp_ne (tgt := 46) d_X11_account_19 rfl ?_ ?_)))
    · refine s_iload_n d_X11_account_46 m1_ (s_iconst d_X11_account_47 n_2 (s_icmp_lt (tgt := 74) d_X11_account_48 rfl ?_ ?_))
      · refine s_aload_n d_X11_account_74 m0_ (s_iload_n d_X11_account_75 m2_ (s_cR (r_V d_X11_account_76 k_X11_handAt w_892 rfl rfl) ms_X11_handAt (b8 rfl) rfl rfl rfl (fun h => by cases h) (fun _ _ => Or.inr rfl) fun r4 m3 => (s_nk fun i5 => (s_astore_n (L' := [(3, aR (some (3, i5))), (0, aR (some (11, l0_14))), (1, aI l1_14), (2, aI l2_14)]) d_X11_account_79 (b8 rfl) rfl (s_iload_n d_X11_account_80 m2_ ?_)))))
        refine s_if_ne (tgt := 91) d_X11_account_81 rfl ?_ ?_
        · exact s_aload_n d_X11_account_91 m0_ (s_getN cf d_X11_account_92 fl_X11_443 (s_iret d_X11_account_95 rfl rfl))
        exact s_aload_n d_X11_account_84 m0_ (s_getN cf d_X11_account_85 fl_X11_219 (s_goto (tgt := 95) d_X11_account_88 rfl (s_iret d_X11_account_95 rfl rfl)))
      refine s_aload_n d_X11_account_51 m0_ (s_iload_n d_X11_account_52 m2_ (s_cR (r_V d_X11_account_53 k_X11_pressAt w_1053 rfl rfl) ms_X11_pressAt (b8 rfl) rfl rfl rfl (fun h => by cases h) (fun _ _ => Or.inr rfl) fun r7 m6 => (s_nk fun i8 => (s_astore_n (L' := [(3, aR (some (6, i8))), (0, aR (some (11, l0_14))), (1, aI l1_14), (2, aI l2_14)]) d_X11_account_56 (b8 rfl) rfl (s_iload_n d_X11_account_57 m2_ ?_)))))
      refine s_iconst d_X11_account_58 n_2 (s_icmp_ne (tgt := 69) d_X11_account_59 rfl ?_ ?_)
      · exact s_aload_n d_X11_account_69 m0_ (s_getN cf d_X11_account_70 fl_X11_440 (s_iret d_X11_account_73 rfl rfl))
      exact s_aload_n d_X11_account_62 m0_ (s_getN cf d_X11_account_63 fl_X11_438 (s_goto (tgt := 73) d_X11_account_66 rfl (s_iret d_X11_account_73 rfl rfl)))
    refine s_iload_n d_X11_account_22 m2_ (s_if_lt (tgt := 35) d_X11_account_23 rfl ?_ ?_)
    · exact s_sub (subc m0_ (subc m2_ sub0)) (hj_X11_account_0_35 m1 l0_14 l2_14)
    refine s_iload_n d_X11_account_26 m2_ (s_iconst d_X11_account_27 n_4 (s_icmp_ge (tgt := 35) d_X11_account_28 rfl ?_ ?_))
    · exact s_sub (subc m0_ (subc m2_ sub0)) (hj_X11_account_0_35 m1 l0_14 l2_14)
    exact s_iconst d_X11_account_31 n_1 (s_goto (tgt := 36) d_X11_account_32 rfl (s_sub (subc m0_ (subc m2_ sub0)) (hj_X11_account_0_36 m1 l0_14 l2_14 1)))
  have hj_X11_account_0_13 : ∀ (m_13 : MM) (l0_13 : Nat) (l1_13 : Int) (l2_13 : Int), Sim fx me_X11_account 13 [(0, aR (some (11, l0_13))), (1, aI l1_13), (2, aI l2_13)] [] m_13 ((j_X11_account_0_13 m_13 l0_13 l1_13 l2_13).bind (fun z => some z)) := by
    intro m_13 l0_13 l1_13 l2_13
    unfold j_X11_account_0_13
    exact s_iconst d_X11_account_13 n_0 (s_sub (subc m0_ (subc m1_ (subc m2_ sub0))) (hj_X11_account_0_14 m_13 l0_13 l1_13 l2_13 0))
  refine s_iload_n d_X11_account_0 m1_ (s_if_lt (tgt := 13) d_X11_account_1 rfl ?_ ?_)
  · exact s_sub (subc m0_ (subc m1_ (subc m2_ sub0))) (hj_X11_account_0_13 m l0 l1 l2)
  refine s_iload_n d_X11_account_4 m1_ (s_iconst d_X11_account_5 n_4 (s_icmp_gt (tgt := 13) d_X11_account_6 rfl ?_ ?_))
  · exact s_sub (subc m0_ (subc m1_ (subc m2_ sub0))) (hj_X11_account_0_13 m l0 l1 l2)
  exact s_iconst d_X11_account_9 n_1 (s_goto (tgt := 14) d_X11_account_10 rfl (s_sub (subc m0_ (subc m1_ (subc m2_ sub0))) (hj_X11_account_0_14 m l0 l1 l2 1)))
theorem d_L_account_0 : dk me_L_account 0 (.aload_n 3) 1 1 := And.intro (by decide +kernel) rfl
theorem d_L_account_1 : dk me_L_account 1 (.iconst 0) 1 2 := And.intro (by decide +kernel) rfl
theorem d_L_account_2 : dk me_L_account 2 (.aload_n 0) 1 3 := And.intro (by decide +kernel) rfl
theorem d_L_account_3 : dk me_L_account 3 (.iload_n 1) 1 4 := And.intro (by decide +kernel) rfl
theorem d_L_account_4 : dk me_L_account 4 (.iload_n 2) 1 5 := And.intro (by decide +kernel) rfl
theorem d_L_account_5 : dk me_L_account 5 (.invokevirtual 141) 3 8 := And.intro (by decide +kernel) rfl
theorem d_L_account_8 : dk me_L_account 8 (.i2l) 1 9 := And.intro (by decide +kernel) rfl
theorem d_L_account_9 : dk me_L_account 9 (.lastore) 1 10 := And.intro (by decide +kernel) rfl
theorem d_L_account_10 : dk me_L_account 10 (.goto 11) 3 13 := And.intro (by decide +kernel) rfl
theorem d_L_account_13 : dk me_L_account 13 (.astore 4) 2 15 := And.intro (by decide +kernel) rfl
theorem d_L_account_15 : dk me_L_account 15 (.iconst 1) 1 16 := And.intro (by decide +kernel) rfl
theorem d_L_account_16 : dk me_L_account 16 (.ireturn) 1 17 := And.intro (by decide +kernel) rfl
theorem d_L_account_17 : dk me_L_account 17 (.astore 4) 2 19 := And.intro (by decide +kernel) rfl
theorem d_L_account_19 : dk me_L_account 19 (.iconst 2) 1 20 := And.intro (by decide +kernel) rfl
theorem d_L_account_20 : dk me_L_account 20 (.ireturn) 1 21 := And.intro (by decide +kernel) rfl
theorem d_L_account_21 : dk me_L_account 21 (.iconst 0) 1 22 := And.intro (by decide +kernel) rfl
theorem d_L_account_22 : dk me_L_account 22 (.ireturn) 1 23 := And.intro (by decide +kernel) rfl
theorem ms_L_account {fx : FX} {m : MM} {l0 : Nat} {l1 : Int} {l2 : Int} {l3 : Nat} : MS fx me_L_account [aR (some (11, l0)), aI l1, aI l2, aR (some (131, l3))] m (f_L_account m l0 l1 l2 l3) := by
  refine ms_ofH rfl mf_L_account (b8 rfl) ?_
  refine s_top ?_
  show Sim fx me_L_account 0 [(0, aR (some (11, l0))), (1, aI l1), (2, aI l2), (3, aR (some (131, l3)))] [] m _
  unfold f_L_account
  refine s_aload_n d_L_account_0 m3_ (s_iconst d_L_account_1 n_0 (s_aload_n d_L_account_2 m0_ (s_iload_n d_L_account_3 m1_ (s_iload_n d_L_account_4 m2_ (s_cIC (r_V d_L_account_5 k_X11_account w_1399 rfl rfl) ms_X11_account (b8 rfl) rfl rfl ?_ ?_ ?_ fun v2 m1 => ?_)))))
  · refine fun mx => Or.inr ⟨17, ⟨rfl, by decide, 1, wx_13_1, Or.inr ⟨by decide, ⟨rfl, by decide, 0, wx_29_0, Or.inl ⟨rfl, rfl⟩⟩⟩⟩, fun qx => ?_⟩
    exact s_astoreV (L' := [(4, aV (.ref qx)), (0, aR (some (11, l0))), (1, aI l1), (2, aI l2), (3, aR (some (131, l3)))]) d_L_account_17 (b8 rfl) rfl (s_iconst d_L_account_19 n_2 (s_iret d_L_account_20 rfl rfl))
  · refine fun mx => Or.inr ⟨13, ⟨rfl, by decide, 1, wx_13_1, Or.inl ⟨rfl, rfl⟩⟩, fun qx => ?_⟩
    exact s_astoreV (L' := [(4, aV (.ref qx)), (0, aR (some (11, l0))), (1, aI l1), (2, aI l2), (3, aR (some (131, l3)))]) d_L_account_13 (b8 rfl) rfl (s_iconst d_L_account_15 n_1 (s_iret d_L_account_16 rfl rfl))
  · exact fun _ => Or.inl rfl
  exact s_i2l d_L_account_8 (s_stL d_L_account_9 ka_131 rfl fun m3 => (s_goto (tgt := 21) d_L_account_10 rfl (s_iconst d_L_account_21 n_0 (s_iret d_L_account_22 rfl rfl))))
theorem d_X0_hasForme_0 : dk me_X0_hasForme 0 (.iload_n 1) 1 1 := And.intro (by decide +kernel) rfl
theorem d_X0_hasForme_1 : dk me_X0_hasForme 1 (.ifCond .lt 16) 3 4 := And.intro (by decide +kernel) rfl
theorem d_X0_hasForme_4 : dk me_X0_hasForme 4 (.iload_n 1) 1 5 := And.intro (by decide +kernel) rfl
theorem d_X0_hasForme_5 : dk me_X0_hasForme 5 (.aload_n 0) 1 6 := And.intro (by decide +kernel) rfl
theorem d_X0_hasForme_6 : dk me_X0_hasForme 6 (.getfield 42) 3 9 := And.intro (by decide +kernel) rfl
theorem d_X0_hasForme_9 : dk me_X0_hasForme 9 (.arraylength) 1 10 := And.intro (by decide +kernel) rfl
theorem d_X0_hasForme_10 : dk me_X0_hasForme 10 (.if_icmp .ge 7) 3 13 := And.intro (by decide +kernel) rfl
theorem d_X0_hasForme_13 : dk me_X0_hasForme 13 (.iconst 1) 1 14 := And.intro (by decide +kernel) rfl
theorem d_X0_hasForme_14 : dk me_X0_hasForme 14 (.goto 4) 3 17 := And.intro (by decide +kernel) rfl
theorem d_X0_hasForme_17 : dk me_X0_hasForme 17 (.iconst 0) 1 18 := And.intro (by decide +kernel) rfl
theorem d_X0_hasForme_18 : dk me_X0_hasForme 18 (.ireturn) 1 19 := And.intro (by decide +kernel) rfl
theorem ms_X0_hasForme {fx : FX} {m : MM} {l0 : Nat} {l1 : Int} : MS fx me_X0_hasForme [aR (some (0, l0)), aI l1] m ((f_X0_hasForme m l0 l1).bind fun v => some (.inl (some (aI v)), m)) := by
  refine ms_of rfl mf_X0_hasForme (b8 rfl) ?_
  show Sim fx me_X0_hasForme 0 [(0, aR (some (0, l0))), (1, aI l1)] [] m _
  unfold f_X0_hasForme
  refine s_iload_n d_X0_hasForme_0 m1_ (s_if_lt (tgt := 17) d_X0_hasForme_1 rfl ?_ ?_)
  · exact s_iconst d_X0_hasForme_17 n_0 (s_zretl d_X0_hasForme_18 rfl (by decide) rfl)
  refine s_iload_n d_X0_hasForme_4 m1_ (s_aload_n d_X0_hasForme_5 m0_ (s_getR cf d_X0_hasForme_6 fl_X0_42 (s_nk fun i1 => (s_len d_X0_hasForme_9 ka_14 ta_14 (s_icmp_ge (tgt := 17) d_X0_hasForme_10 rfl ?_ ?_)))))
  · exact s_iconst d_X0_hasForme_17 n_0 (s_zretl d_X0_hasForme_18 rfl (by decide) rfl)
  exact s_iconst d_X0_hasForme_13 n_1 (s_goto (tgt := 18) d_X0_hasForme_14 rfl (s_zretl d_X0_hasForme_18 rfl (by decide) rfl))
theorem d_X11_bookAt_0 : dk me_X11_bookAt 0 (.iload_n 1) 1 1 := And.intro (by decide +kernel) rfl
theorem d_X11_bookAt_1 : dk me_X11_bookAt 1 (.ifCond .lt 21) 3 4 := And.intro (by decide +kernel) rfl
theorem d_X11_bookAt_4 : dk me_X11_bookAt 4 (.iload_n 1) 1 5 := And.intro (by decide +kernel) rfl
theorem d_X11_bookAt_5 : dk me_X11_bookAt 5 (.aload_n 0) 1 6 := And.intro (by decide +kernel) rfl
theorem d_X11_bookAt_6 : dk me_X11_bookAt 6 (.getfield 31) 3 9 := And.intro (by decide +kernel) rfl
theorem d_X11_bookAt_9 : dk me_X11_bookAt 9 (.arraylength) 1 10 := And.intro (by decide +kernel) rfl
theorem d_X11_bookAt_10 : dk me_X11_bookAt 10 (.if_icmp .ge 12) 3 13 := And.intro (by decide +kernel) rfl
theorem d_X11_bookAt_13 : dk me_X11_bookAt 13 (.aload_n 0) 1 14 := And.intro (by decide +kernel) rfl
theorem d_X11_bookAt_14 : dk me_X11_bookAt 14 (.getfield 31) 3 17 := And.intro (by decide +kernel) rfl
theorem d_X11_bookAt_17 : dk me_X11_bookAt 17 (.iload_n 1) 1 18 := And.intro (by decide +kernel) rfl
theorem d_X11_bookAt_18 : dk me_X11_bookAt 18 (.aaload) 1 19 := And.intro (by decide +kernel) rfl
theorem d_X11_bookAt_19 : dk me_X11_bookAt 19 (.goto 4) 3 22 := And.intro (by decide +kernel) rfl
theorem d_X11_bookAt_22 : dk me_X11_bookAt 22 (.aconst_null) 1 23 := And.intro (by decide +kernel) rfl
theorem d_X11_bookAt_23 : dk me_X11_bookAt 23 (.astore_n 2) 1 24 := And.intro (by decide +kernel) rfl
theorem d_X11_bookAt_24 : dk me_X11_bookAt 24 (.aload_n 2) 1 25 := And.intro (by decide +kernel) rfl
theorem d_X11_bookAt_25 : dk me_X11_bookAt 25 (.ifnonnull 14) 3 28 := And.intro (by decide +kernel) rfl
theorem d_X11_bookAt_28 : dk me_X11_bookAt 28 (.new 446) 3 31 := And.intro (by decide +kernel) rfl
theorem d_X11_bookAt_31 : dk me_X11_bookAt 31 (.dup) 1 32 := And.intro (by decide +kernel) rfl
theorem d_X11_bookAt_32 : dk me_X11_bookAt 32 (.ldc_w 463) 3 35 := And.intro (by decide +kernel) rfl
theorem d_X11_bookAt_35 : dk me_X11_bookAt 35 (.invokespecial 450) 3 38 := And.intro (by decide +kernel) rfl
theorem d_X11_bookAt_38 : dk me_X11_bookAt 38 (.athrow) 1 39 := And.intro (by decide +kernel) rfl
theorem d_X11_bookAt_39 : dk me_X11_bookAt 39 (.aload_n 2) 1 40 := And.intro (by decide +kernel) rfl
theorem d_X11_bookAt_40 : dk me_X11_bookAt 40 (.areturn) 1 41 := And.intro (by decide +kernel) rfl
theorem ms_X11_bookAt {fx : FX} {m : MM} {l0 : Nat} {l1 : Int} : MS fx me_X11_bookAt [aR (some (11, l0)), aI l1] m (f_X11_bookAt m l0 l1) := by
  refine ms_of rfl mf_X11_bookAt (b8 rfl) ?_
  refine s_top ?_
  show Sim fx me_X11_bookAt 0 [(0, aR (some (11, l0))), (1, aI l1)] [] m _
  unfold f_X11_bookAt
  have hj_X11_bookAt_0_23 : ∀ (m_23 : MM) (s0_23 : Option (Nat × Nat)), Sim fx me_X11_bookAt 23 [] [aR s0_23] m_23 ((j_X11_bookAt_0_23 m_23 s0_23).bind (fun z => some z)) := by
    intro m_23 s0_23
    unfold j_X11_bookAt_0_23
    refine s_astore_n (L' := [(2, aR s0_23)]) d_X11_bookAt_23 (b8 rfl) rfl (s_aload_n d_X11_bookAt_24 m0_ (s_ifnonnull (tgt := 39) d_X11_bookAt_25 rfl ?_ ?_))
    · exact s_aload_n d_X11_bookAt_39 m0_ (s_aret d_X11_bookAt_40 rfl (Or.inl ⟨_, rfl⟩) rfl)
    exact s_throw (e := 0) (text := "there is no such book") (names := ["java/lang/RuntimeException", "java/lang/Exception"]) rfl rfl (by decide +kernel) (by decide +kernel) (b8 rfl) wk_tf_446_450 wi_0 tf_446_450 gtf_446_450 (by decide) d_X11_bookAt_28 d_X11_bookAt_31 d_X11_bookAt_32 d_X11_bookAt_35 d_X11_bookAt_38 (b8 rfl) (b8 rfl) rfl
  have hj_X11_bookAt_0_22 : ∀ (m_22 : MM), Sim fx me_X11_bookAt 22 [] [] m_22 ((j_X11_bookAt_0_22 m_22).bind (fun z => some z)) := by
    intro m_22
    unfold j_X11_bookAt_0_22
    exact s_null d_X11_bookAt_22 (s_sub (sub0) (hj_X11_bookAt_0_23 m_22 none))
  refine s_iload_n d_X11_bookAt_0 m1_ (s_if_lt (tgt := 22) d_X11_bookAt_1 rfl ?_ ?_)
  · exact s_sub (sub0) (hj_X11_bookAt_0_22 m)
  refine s_iload_n d_X11_bookAt_4 m1_ (s_aload_n d_X11_bookAt_5 m0_ (s_getR cf d_X11_bookAt_6 fl_X11_31 (s_nk fun i1 => (s_len d_X11_bookAt_9 ka_56 ta_56 (s_icmp_ge (tgt := 22) d_X11_bookAt_10 rfl ?_ ?_)))))
  · exact s_sub (sub0) (hj_X11_bookAt_0_22 m)
  refine s_aload_n d_X11_bookAt_13 m0_ (s_getR cf d_X11_bookAt_14 fl_X11_31 (s_nk fun i2 => (s_iload_n d_X11_bookAt_17 m1_ (s_ldR d_X11_bookAt_18 ka_56 ta_56 rfl rfl fun r3 => (s_goto (tgt := 23) d_X11_bookAt_19 rfl ?_)))))
  exact s_sub (sub0) (hj_X11_bookAt_0_23 m r3)
theorem d_X7_allAheadOf_0 : dk me_X7_allAheadOf 0 (.aload_n 0) 1 1 := And.intro (by decide +kernel) rfl
theorem d_X7_allAheadOf_1 : dk me_X7_allAheadOf 1 (.getfield 9) 3 4 := And.intro (by decide +kernel) rfl
theorem d_X7_allAheadOf_4 : dk me_X7_allAheadOf 4 (.iload_n 1) 1 5 := And.intro (by decide +kernel) rfl
theorem d_X7_allAheadOf_5 : dk me_X7_allAheadOf 5 (.iaload) 1 6 := And.intro (by decide +kernel) rfl
theorem d_X7_allAheadOf_6 : dk me_X7_allAheadOf 6 (.istore_n 3) 1 7 := And.intro (by decide +kernel) rfl
theorem d_X7_allAheadOf_7 : dk me_X7_allAheadOf 7 (.iconst 0) 1 8 := And.intro (by decide +kernel) rfl
theorem d_X7_allAheadOf_8 : dk me_X7_allAheadOf 8 (.istore 4) 2 10 := And.intro (by decide +kernel) rfl
theorem d_X7_allAheadOf_10 : dk me_X7_allAheadOf 10 (.iload 4) 2 12 := And.intro (by decide +kernel) rfl
theorem d_X7_allAheadOf_12 : dk me_X7_allAheadOf 12 (.iload_n 2) 1 13 := And.intro (by decide +kernel) rfl
theorem d_X7_allAheadOf_13 : dk me_X7_allAheadOf 13 (.if_icmp .ge 43) 3 16 := And.intro (by decide +kernel) rfl
theorem d_X7_allAheadOf_16 : dk me_X7_allAheadOf 16 (.iconst 0) 1 17 := And.intro (by decide +kernel) rfl
theorem d_X7_allAheadOf_17 : dk me_X7_allAheadOf 17 (.istore 5) 2 19 := And.intro (by decide +kernel) rfl
theorem d_X7_allAheadOf_19 : dk me_X7_allAheadOf 19 (.iload 5) 2 21 := And.intro (by decide +kernel) rfl
theorem d_X7_allAheadOf_21 : dk me_X7_allAheadOf 21 (.iload_n 2) 1 22 := And.intro (by decide +kernel) rfl
theorem d_X7_allAheadOf_22 : dk me_X7_allAheadOf 22 (.if_icmp .ge 28) 3 25 := And.intro (by decide +kernel) rfl
theorem d_X7_allAheadOf_25 : dk me_X7_allAheadOf 25 (.iload_n 3) 1 26 := And.intro (by decide +kernel) rfl
theorem d_X7_allAheadOf_26 : dk me_X7_allAheadOf 26 (.iconst 1) 1 27 := And.intro (by decide +kernel) rfl
theorem d_X7_allAheadOf_27 : dk me_X7_allAheadOf 27 (.iload 5) 2 29 := And.intro (by decide +kernel) rfl
theorem d_X7_allAheadOf_29 : dk me_X7_allAheadOf 29 (.ishl) 1 30 := And.intro (by decide +kernel) rfl
theorem d_X7_allAheadOf_30 : dk me_X7_allAheadOf 30 (.iand) 1 31 := And.intro (by decide +kernel) rfl
theorem d_X7_allAheadOf_31 : dk me_X7_allAheadOf 31 (.ifCond .eq 13) 3 34 := And.intro (by decide +kernel) rfl
theorem d_X7_allAheadOf_34 : dk me_X7_allAheadOf 34 (.iload_n 3) 1 35 := And.intro (by decide +kernel) rfl
theorem d_X7_allAheadOf_35 : dk me_X7_allAheadOf 35 (.aload_n 0) 1 36 := And.intro (by decide +kernel) rfl
theorem d_X7_allAheadOf_36 : dk me_X7_allAheadOf 36 (.getfield 9) 3 39 := And.intro (by decide +kernel) rfl
theorem d_X7_allAheadOf_39 : dk me_X7_allAheadOf 39 (.iload 5) 2 41 := And.intro (by decide +kernel) rfl
theorem d_X7_allAheadOf_41 : dk me_X7_allAheadOf 41 (.iaload) 1 42 := And.intro (by decide +kernel) rfl
theorem d_X7_allAheadOf_42 : dk me_X7_allAheadOf 42 (.ior) 1 43 := And.intro (by decide +kernel) rfl
theorem d_X7_allAheadOf_43 : dk me_X7_allAheadOf 43 (.istore_n 3) 1 44 := And.intro (by decide +kernel) rfl
theorem d_X7_allAheadOf_44 : dk me_X7_allAheadOf 44 (.iinc 5 1) 3 47 := And.intro (by decide +kernel) rfl
theorem d_X7_allAheadOf_47 : dk me_X7_allAheadOf 47 (.goto (-28)) 3 50 := And.intro (by decide +kernel) rfl
theorem d_X7_allAheadOf_50 : dk me_X7_allAheadOf 50 (.iinc 4 1) 3 53 := And.intro (by decide +kernel) rfl
theorem d_X7_allAheadOf_53 : dk me_X7_allAheadOf 53 (.goto (-43)) 3 56 := And.intro (by decide +kernel) rfl
theorem d_X7_allAheadOf_56 : dk me_X7_allAheadOf 56 (.iload_n 3) 1 57 := And.intro (by decide +kernel) rfl
theorem d_X7_allAheadOf_57 : dk me_X7_allAheadOf 57 (.ireturn) 1 58 := And.intro (by decide +kernel) rfl
theorem ms_X7_allAheadOf {fx : FX} {m : MM} {l0 : Nat} {l1 : Int} {l2 : Int} : MS fx me_X7_allAheadOf [aR (some (7, l0)), aI l1, aI l2] m ((f_X7_allAheadOf m l0 l1 l2).bind fun v => some (.inl (some (aI v)), m)) := by
  refine ms_of rfl mf_X7_allAheadOf (b8 rfl) ?_
  show Sim fx me_X7_allAheadOf 0 [(0, aR (some (7, l0))), (1, aI l1), (2, aI l2)] [] m _
  unfold f_X7_allAheadOf
  have hj_X7_allAheadOf_0_56 : ∀ (l3_56 : Int), Sim fx me_X7_allAheadOf 56 [(3, aI l3_56)] [] m ((j_X7_allAheadOf_0_56 m l3_56).bind (fun v => some (.inl (some (aI v)), m))) := by
    intro l3_56
    unfold j_X7_allAheadOf_0_56
    exact s_iload_n d_X7_allAheadOf_56 m0_ (s_iret d_X7_allAheadOf_57 rfl rfl)
  refine s_aload_n d_X7_allAheadOf_0 m0_ (s_getR cf d_X7_allAheadOf_1 fl_X7_9 (s_nk fun i1 => (s_iload_n d_X7_allAheadOf_4 m1_ (s_ldN d_X7_allAheadOf_5 ka_39 rfl fun v2 => (s_istore_n (L' := [(3, aI v2), (0, aR (some (7, l0))), (1, aI l1), (2, aI l2)]) d_X7_allAheadOf_6 (b8 rfl) rfl ?_)))))
  refine s_iconst d_X7_allAheadOf_7 n_0 (s_istore (L' := [(4, aI 0), (3, aI v2), (0, aR (some (7, l0))), (1, aI l1), (2, aI l2)]) d_X7_allAheadOf_8 (b8 rfl) rfl (s_sub (subc m1_ (subc m0_ (subc m2_ (subc m4_ sub0)))) (s_lp2 (fun s => [(3, aI (s.1)), (4, aI (s.2)), (0, aR (some (7, l0))), (2, aI l2)]) (fun s => m) (v2, 0) fun k10 hx10 s ih0 => ?_)))
  obtain ⟨l3_10, l4_10⟩ := s
  have ih10 := ih0
  clear ih0
  try dsimp only
  unfold b_X7_allAheadOf_10
  have hj_X7_allAheadOf_10_50 : ∀ (l3_50 : Int) (l4_50 : Int), Sim fx me_X7_allAheadOf 50 [(0, aR (some (7, l0))), (2, aI l2), (3, aI l3_50), (4, aI l4_50)] [] m ((j_X7_allAheadOf_10_50 m l0 l2 l3_50 l4_50).bind k10) := by
    intro l3_50 l4_50
    unfold j_X7_allAheadOf_10_50
    exact s_iinc (L' := [(4, aI (l4_50 + 1)), (0, aR (some (7, l0))), (2, aI l2), (3, aI l3_50)]) d_X7_allAheadOf_50 m3_ (b8 rfl) rfl (s_goto (tgt := 10) d_X7_allAheadOf_53 rfl (s_sub (subc m3_ (subc m0_ (subc m1_ (subc m2_ sub0)))) (s_back (ih10 (l3_50, (l4_50 + 1))))))
  refine s_iload d_X7_allAheadOf_10 m1_ (s_iload_n d_X7_allAheadOf_12 m3_ (s_icmp_ge (tgt := 56) d_X7_allAheadOf_13 rfl ?_ ?_))
  · exact s_exit (hx10 _) (s_sub (subc m0_ sub0) (hj_X7_allAheadOf_0_56 l3_10))
  refine s_iconst d_X7_allAheadOf_16 n_0 (s_istore (L' := [(5, aI 0), (3, aI l3_10), (4, aI l4_10), (0, aR (some (7, l0))), (2, aI l2)]) d_X7_allAheadOf_17 (b8 rfl) rfl (s_sub (subc m1_ (subc m0_ (subc m3_ (subc m4_ (subc m2_ sub0))))) (s_lp2 (fun s => [(3, aI (s.1)), (5, aI (s.2)), (0, aR (some (7, l0))), (2, aI l2), (4, aI l4_10)]) (fun s => m) (l3_10, 0) fun k19 hx19 s ih0 => ?_)))
  obtain ⟨l3_19, l5_19⟩ := s
  have ih19 := ih0
  clear ih0
  try dsimp only
  unfold b_X7_allAheadOf_19
  refine s_iload d_X7_allAheadOf_19 m1_ (s_iload_n d_X7_allAheadOf_21 m3_ (s_icmp_ge (tgt := 50) d_X7_allAheadOf_22 rfl ?_ ?_))
  · exact s_exit (hx19 _) (s_sub (subc m2_ (subc m3_ (subc m0_ (subc m4_ sub0)))) (hj_X7_allAheadOf_10_50 l3_19 l4_10))
  refine s_iload_n d_X7_allAheadOf_25 m0_ (s_iconst d_X7_allAheadOf_26 n_1 (s_iload d_X7_allAheadOf_27 m1_ (s_ishl d_X7_allAheadOf_29 (s_iand d_X7_allAheadOf_30 (s_if_eq (tgt := 44) d_X7_allAheadOf_31 rfl ?_ ?_)))))
  · exact s_iinc (L' := [(5, aI (l5_19 + 1)), (3, aI l3_19), (0, aR (some (7, l0))), (2, aI l2), (4, aI l4_10)]) d_X7_allAheadOf_44 m1_ (b8 rfl) rfl (s_goto (tgt := 19) d_X7_allAheadOf_47 rfl (s_sub (subc m1_ (subc m0_ (subc m2_ (subc m3_ (subc m4_ sub0))))) (s_back (ih19 (l3_19, (l5_19 + 1))))))
  refine s_iload_n d_X7_allAheadOf_34 m0_ (s_aload_n d_X7_allAheadOf_35 m2_ (s_getR cf d_X7_allAheadOf_36 fl_X7_9 (s_nk fun i3 => (s_iload d_X7_allAheadOf_39 m1_ (s_ldN d_X7_allAheadOf_41 ka_39 rfl fun v4 => ?_)))))
  exact s_ior d_X7_allAheadOf_42 (s_istore_n (L' := [(3, aI (ior' l3_19 v4)), (5, aI l5_19), (0, aR (some (7, l0))), (2, aI l2), (4, aI l4_10)]) d_X7_allAheadOf_43 (b8 rfl) rfl (s_iinc (L' := [(5, aI (l5_19 + 1)), (3, aI (ior' l3_19 v4)), (0, aR (some (7, l0))), (2, aI l2), (4, aI l4_10)]) d_X7_allAheadOf_44 m1_ (b8 rfl) rfl (s_goto (tgt := 19) d_X7_allAheadOf_47 rfl (s_sub (subc m1_ (subc m0_ (subc m2_ (subc m3_ (subc m4_ sub0))))) (s_back (ih19 ((ior' l3_19 v4), (l5_19 + 1))))))))
theorem d_X7_readPiece_0 : dk me_X7_readPiece 0 (.iconst 0) 1 1 := And.intro (by decide +kernel) rfl
theorem d_X7_readPiece_1 : dk me_X7_readPiece 1 (.istore_n 3) 1 2 := And.intro (by decide +kernel) rfl
theorem d_X7_readPiece_2 : dk me_X7_readPiece 2 (.iload_n 3) 1 3 := And.intro (by decide +kernel) rfl
theorem d_X7_readPiece_3 : dk me_X7_readPiece 3 (.aload_n 1) 1 4 := And.intro (by decide +kernel) rfl
theorem d_X7_readPiece_4 : dk me_X7_readPiece 4 (.getfield 30) 3 7 := And.intro (by decide +kernel) rfl
theorem d_X7_readPiece_7 : dk me_X7_readPiece 7 (.arraylength) 1 8 := And.intro (by decide +kernel) rfl
theorem d_X7_readPiece_8 : dk me_X7_readPiece 8 (.if_icmp .ge 80) 3 11 := And.intro (by decide +kernel) rfl
theorem d_X7_readPiece_11 : dk me_X7_readPiece 11 (.aload_n 1) 1 12 := And.intro (by decide +kernel) rfl
theorem d_X7_readPiece_12 : dk me_X7_readPiece 12 (.getfield 30) 3 15 := And.intro (by decide +kernel) rfl
theorem d_X7_readPiece_15 : dk me_X7_readPiece 15 (.iload_n 3) 1 16 := And.intro (by decide +kernel) rfl
theorem d_X7_readPiece_16 : dk me_X7_readPiece 16 (.aaload) 1 17 := And.intro (by decide +kernel) rfl
theorem d_X7_readPiece_17 : dk me_X7_readPiece 17 (.getfield 49) 3 20 := And.intro (by decide +kernel) rfl
theorem d_X7_readPiece_20 : dk me_X7_readPiece 20 (.iload_n 2) 1 21 := And.intro (by decide +kernel) rfl
theorem d_X7_readPiece_21 : dk me_X7_readPiece 21 (.iaload) 1 22 := And.intro (by decide +kernel) rfl
theorem d_X7_readPiece_22 : dk me_X7_readPiece 22 (.istore 4) 2 24 := And.intro (by decide +kernel) rfl
theorem d_X7_readPiece_24 : dk me_X7_readPiece 24 (.iconst 0) 1 25 := And.intro (by decide +kernel) rfl
theorem d_X7_readPiece_25 : dk me_X7_readPiece 25 (.istore 5) 2 27 := And.intro (by decide +kernel) rfl
theorem d_X7_readPiece_27 : dk me_X7_readPiece 27 (.iload 5) 2 29 := And.intro (by decide +kernel) rfl
theorem d_X7_readPiece_29 : dk me_X7_readPiece 29 (.aload_n 1) 1 30 := And.intro (by decide +kernel) rfl
theorem d_X7_readPiece_30 : dk me_X7_readPiece 30 (.getfield 30) 3 33 := And.intro (by decide +kernel) rfl
theorem d_X7_readPiece_33 : dk me_X7_readPiece 33 (.arraylength) 1 34 := And.intro (by decide +kernel) rfl
theorem d_X7_readPiece_34 : dk me_X7_readPiece 34 (.if_icmp .ge 48) 3 37 := And.intro (by decide +kernel) rfl
theorem d_X7_readPiece_37 : dk me_X7_readPiece 37 (.aload_n 1) 1 38 := And.intro (by decide +kernel) rfl
theorem d_X7_readPiece_38 : dk me_X7_readPiece 38 (.getfield 30) 3 41 := And.intro (by decide +kernel) rfl
theorem d_X7_readPiece_41 : dk me_X7_readPiece 41 (.iload 5) 2 43 := And.intro (by decide +kernel) rfl
theorem d_X7_readPiece_43 : dk me_X7_readPiece 43 (.aaload) 1 44 := And.intro (by decide +kernel) rfl
theorem d_X7_readPiece_44 : dk me_X7_readPiece 44 (.getfield 49) 3 47 := And.intro (by decide +kernel) rfl
theorem d_X7_readPiece_47 : dk me_X7_readPiece 47 (.iload_n 2) 1 48 := And.intro (by decide +kernel) rfl
theorem d_X7_readPiece_48 : dk me_X7_readPiece 48 (.iaload) 1 49 := And.intro (by decide +kernel) rfl
theorem d_X7_readPiece_49 : dk me_X7_readPiece 49 (.istore 6) 2 51 := And.intro (by decide +kernel) rfl
theorem d_X7_readPiece_51 : dk me_X7_readPiece 51 (.iload 6) 2 53 := And.intro (by decide +kernel) rfl
theorem d_X7_readPiece_53 : dk me_X7_readPiece 53 (.ifCond .le 23) 3 56 := And.intro (by decide +kernel) rfl
theorem d_X7_readPiece_56 : dk me_X7_readPiece 56 (.iload 6) 2 58 := And.intro (by decide +kernel) rfl
theorem d_X7_readPiece_58 : dk me_X7_readPiece 58 (.iload 4) 2 60 := And.intro (by decide +kernel) rfl
theorem d_X7_readPiece_60 : dk me_X7_readPiece 60 (.if_icmp .ge 16) 3 63 := And.intro (by decide +kernel) rfl
theorem d_X7_readPiece_63 : dk me_X7_readPiece 63 (.aload_n 0) 1 64 := And.intro (by decide +kernel) rfl
theorem d_X7_readPiece_64 : dk me_X7_readPiece 64 (.getfield 9) 3 67 := And.intro (by decide +kernel) rfl
theorem d_X7_readPiece_67 : dk me_X7_readPiece 67 (.iload_n 3) 1 68 := And.intro (by decide +kernel) rfl
theorem d_X7_readPiece_68 : dk me_X7_readPiece 68 (.dup2) 1 69 := And.intro (by decide +kernel) rfl
theorem d_X7_readPiece_69 : dk me_X7_readPiece 69 (.iaload) 1 70 := And.intro (by decide +kernel) rfl
theorem d_X7_readPiece_70 : dk me_X7_readPiece 70 (.iconst 1) 1 71 := And.intro (by decide +kernel) rfl
theorem d_X7_readPiece_71 : dk me_X7_readPiece 71 (.iload 5) 2 73 := And.intro (by decide +kernel) rfl
theorem d_X7_readPiece_73 : dk me_X7_readPiece 73 (.ishl) 1 74 := And.intro (by decide +kernel) rfl
theorem d_X7_readPiece_74 : dk me_X7_readPiece 74 (.ior) 1 75 := And.intro (by decide +kernel) rfl
theorem d_X7_readPiece_75 : dk me_X7_readPiece 75 (.iastore) 1 76 := And.intro (by decide +kernel) rfl
theorem d_X7_readPiece_76 : dk me_X7_readPiece 76 (.iinc 5 1) 3 79 := And.intro (by decide +kernel) rfl
theorem d_X7_readPiece_79 : dk me_X7_readPiece 79 (.goto (-52)) 3 82 := And.intro (by decide +kernel) rfl
theorem d_X7_readPiece_82 : dk me_X7_readPiece 82 (.iinc 3 1) 3 85 := And.intro (by decide +kernel) rfl
theorem d_X7_readPiece_85 : dk me_X7_readPiece 85 (.goto (-83)) 3 88 := And.intro (by decide +kernel) rfl
theorem d_X7_readPiece_88 : dk me_X7_readPiece 88 (.return_) 1 89 := And.intro (by decide +kernel) rfl
theorem ms_X7_readPiece {fx : FX} {m : MM} {l0 : Nat} {l1 : Nat} {l2 : Int} : MS fx me_X7_readPiece [aR (some (7, l0)), aR (some (0, l1)), aI l2] m (f_X7_readPiece m l0 l1 l2) := by
  refine ms_of rfl mf_X7_readPiece (b8 rfl) ?_
  refine s_top ?_
  show Sim fx me_X7_readPiece 0 [(0, aR (some (7, l0))), (1, aR (some (0, l1))), (2, aI l2)] [] m _
  unfold f_X7_readPiece
  have hj_X7_readPiece_0_88 : ∀ (m_88 : MM), Sim fx me_X7_readPiece 88 [] [] m_88 ((j_X7_readPiece_0_88 m_88).bind (fun z => some z)) := by
    intro m_88
    unfold j_X7_readPiece_0_88
    exact s_vret d_X7_readPiece_88 rfl rfl
  refine s_iconst d_X7_readPiece_0 n_0 (s_istore_n (L' := [(3, aI 0), (0, aR (some (7, l0))), (1, aR (some (0, l1))), (2, aI l2)]) d_X7_readPiece_1 (b8 rfl) rfl (s_sub (subc m0_ (subc m1_ (subc m2_ (subc m3_ sub0)))) (s_lp2 (fun s => [(3, aI (s.1)), (0, aR (some (7, l0))), (1, aR (some (0, l1))), (2, aI l2)]) (fun s => s.2) (0, m) fun k2 hx2 s ih0 => ?_)))
  obtain ⟨l3_2, mm_2⟩ := s
  have ih2 := ih0
  clear ih0
  try dsimp only
  unfold b_X7_readPiece_2
  have hj_X7_readPiece_2_82 : ∀ (m_82 : MM) (l3_82 : Int), Sim fx me_X7_readPiece 82 [(0, aR (some (7, l0))), (1, aR (some (0, l1))), (2, aI l2), (3, aI l3_82)] [] m_82 ((j_X7_readPiece_2_82 m_82 l0 l1 l2 l3_82).bind k2) := by
    intro m_82 l3_82
    unfold j_X7_readPiece_2_82
    exact s_iinc (L' := [(3, aI (l3_82 + 1)), (0, aR (some (7, l0))), (1, aR (some (0, l1))), (2, aI l2)]) d_X7_readPiece_82 m3_ (b8 rfl) rfl (s_goto (tgt := 2) d_X7_readPiece_85 rfl (s_sub (subc m0_ (subc m1_ (subc m2_ (subc m3_ sub0)))) (s_back (ih2 ((l3_82 + 1), m_82)))))
  refine s_iload_n d_X7_readPiece_2 m0_ (s_aload_n d_X7_readPiece_3 m2_ (s_getR cf d_X7_readPiece_4 fl_X7_30 (s_nk fun i1 => (s_len d_X7_readPiece_7 ka_14 ta_14 (s_icmp_ge (tgt := 88) d_X7_readPiece_8 rfl ?_ ?_)))))
  · exact s_exit (hx2 _) (s_sub (sub0) (hj_X7_readPiece_0_88 mm_2))
  refine s_aload_n d_X7_readPiece_11 m2_ (s_getR cf d_X7_readPiece_12 fl_X7_30 (s_nk fun i2 => (s_iload_n d_X7_readPiece_15 m0_ (s_ldR d_X7_readPiece_16 ka_14 ta_14 rfl rfl fun r3 => (s_nk fun i4 => ?_)))))
  refine s_getR cf d_X7_readPiece_17 fl_X7_49 (s_nk fun i5 => (s_iload_n d_X7_readPiece_20 m3_ (s_ldN d_X7_readPiece_21 ka_25 rfl fun v6 => (s_istore (L' := [(4, aI v6), (3, aI l3_2), (0, aR (some (7, l0))), (1, aR (some (0, l1))), (2, aI l2)]) d_X7_readPiece_22 (b8 rfl) rfl (s_iconst d_X7_readPiece_24 n_0 ?_)))))
  refine s_istore (L' := [(5, aI 0), (4, aI v6), (3, aI l3_2), (0, aR (some (7, l0))), (1, aR (some (0, l1))), (2, aI l2)]) d_X7_readPiece_25 (b8 rfl) rfl (s_sub (subc m0_ (subc m3_ (subc m4_ (subc m5_ (subc m2_ (subc m1_ sub0)))))) (s_lp2 (fun s => [(5, aI (s.1)), (0, aR (some (7, l0))), (1, aR (some (0, l1))), (2, aI l2), (3, aI l3_2), (4, aI v6)]) (fun s => s.2) (0, mm_2) fun k27 hx27 s ih0 => ?_))
  obtain ⟨l5_27, mm_27⟩ := s
  have ih27 := ih0
  clear ih0
  try dsimp only
  unfold b_X7_readPiece_27
  refine s_iload d_X7_readPiece_27 m0_ (s_aload_n d_X7_readPiece_29 m2_ (s_getR cf d_X7_readPiece_30 fl_X7_30 (s_nk fun i7 => (s_len d_X7_readPiece_33 ka_14 ta_14 (s_icmp_ge (tgt := 82) d_X7_readPiece_34 rfl ?_ ?_)))))
  · exact s_exit (hx27 _) (s_sub (subc m1_ (subc m2_ (subc m3_ (subc m4_ sub0)))) (hj_X7_readPiece_2_82 mm_27 l3_2))
  refine s_aload_n d_X7_readPiece_37 m2_ (s_getR cf d_X7_readPiece_38 fl_X7_30 (s_nk fun i8 => (s_iload d_X7_readPiece_41 m0_ (s_ldR d_X7_readPiece_43 ka_14 ta_14 rfl rfl fun r9 => (s_nk fun i10 => ?_)))))
  refine s_getR cf d_X7_readPiece_44 fl_X7_49 (s_nk fun i11 => (s_iload_n d_X7_readPiece_47 m3_ (s_ldN d_X7_readPiece_48 ka_25 rfl fun v12 => (s_istore (L' := [(6, aI v12), (5, aI l5_27), (0, aR (some (7, l0))), (1, aR (some (0, l1))), (2, aI l2), (3, aI l3_2), (4, aI v6)]) d_X7_readPiece_49 (b8 rfl) rfl (s_iload d_X7_readPiece_51 m0_ ?_)))))
  refine s_if_le (tgt := 76) d_X7_readPiece_53 rfl ?_ ?_
  · exact s_iinc (L' := [(5, aI (l5_27 + 1)), (6, aI v12), (0, aR (some (7, l0))), (1, aR (some (0, l1))), (2, aI l2), (3, aI l3_2), (4, aI v6)]) d_X7_readPiece_76 m1_ (b8 rfl) rfl (s_goto (tgt := 27) d_X7_readPiece_79 rfl (s_sub (subc m0_ (subc m2_ (subc m3_ (subc m4_ (subc m5_ (subc m6_ sub0)))))) (s_back (ih27 ((l5_27 + 1), mm_27)))))
  refine s_iload d_X7_readPiece_56 m0_ (s_iload d_X7_readPiece_58 m6_ (s_icmp_ge (tgt := 76) d_X7_readPiece_60 rfl ?_ ?_))
  · exact s_iinc (L' := [(5, aI (l5_27 + 1)), (6, aI v12), (0, aR (some (7, l0))), (1, aR (some (0, l1))), (2, aI l2), (3, aI l3_2), (4, aI v6)]) d_X7_readPiece_76 m1_ (b8 rfl) rfl (s_goto (tgt := 27) d_X7_readPiece_79 rfl (s_sub (subc m0_ (subc m2_ (subc m3_ (subc m4_ (subc m5_ (subc m6_ sub0)))))) (s_back (ih27 ((l5_27 + 1), mm_27)))))
  refine s_aload_n d_X7_readPiece_63 m2_ (s_getR cf d_X7_readPiece_64 fl_X7_9 (s_nk fun i13 => (s_iload_n d_X7_readPiece_67 m5_ (s_dup2 d_X7_readPiece_68 rfl rfl (s_ldN d_X7_readPiece_69 ka_39 rfl fun v14 => ?_)))))
  refine s_iconst d_X7_readPiece_70 n_1 (s_iload d_X7_readPiece_71 m1_ (s_ishl d_X7_readPiece_73 (s_ior d_X7_readPiece_74 (s_stN d_X7_readPiece_75 ka_39 rfl fun m15 => (s_iinc (L' := [(5, aI (l5_27 + 1)), (6, aI v12), (0, aR (some (7, l0))), (1, aR (some (0, l1))), (2, aI l2), (3, aI l3_2), (4, aI v6)]) d_X7_readPiece_76 m1_ (b8 rfl) rfl ?_)))))
  exact s_goto (tgt := 27) d_X7_readPiece_79 rfl (s_sub (subc m0_ (subc m2_ (subc m3_ (subc m4_ (subc m5_ (subc m6_ sub0)))))) (s_back (ih27 ((l5_27 + 1), m15))))
theorem d_X7_readFormes_0 : dk me_X7_readFormes 0 (.iconst 0) 1 1 := And.intro (by decide +kernel) rfl
theorem d_X7_readFormes_1 : dk me_X7_readFormes 1 (.istore_n 3) 1 2 := And.intro (by decide +kernel) rfl
theorem d_X7_readFormes_2 : dk me_X7_readFormes 2 (.iload_n 3) 1 3 := And.intro (by decide +kernel) rfl
theorem d_X7_readFormes_3 : dk me_X7_readFormes 3 (.aload_n 1) 1 4 := And.intro (by decide +kernel) rfl
theorem d_X7_readFormes_4 : dk me_X7_readFormes 4 (.getfield 30) 3 7 := And.intro (by decide +kernel) rfl
theorem d_X7_readFormes_7 : dk me_X7_readFormes 7 (.arraylength) 1 8 := And.intro (by decide +kernel) rfl
theorem d_X7_readFormes_8 : dk me_X7_readFormes 8 (.if_icmp .ge 16) 3 11 := And.intro (by decide +kernel) rfl
theorem d_X7_readFormes_11 : dk me_X7_readFormes 11 (.aload_n 0) 1 12 := And.intro (by decide +kernel) rfl
theorem d_X7_readFormes_12 : dk me_X7_readFormes 12 (.getfield 9) 3 15 := And.intro (by decide +kernel) rfl
theorem d_X7_readFormes_15 : dk me_X7_readFormes 15 (.iload_n 3) 1 16 := And.intro (by decide +kernel) rfl
theorem d_X7_readFormes_16 : dk me_X7_readFormes 16 (.iconst 0) 1 17 := And.intro (by decide +kernel) rfl
theorem d_X7_readFormes_17 : dk me_X7_readFormes 17 (.iastore) 1 18 := And.intro (by decide +kernel) rfl
theorem d_X7_readFormes_18 : dk me_X7_readFormes 18 (.iinc 3 1) 3 21 := And.intro (by decide +kernel) rfl
theorem d_X7_readFormes_21 : dk me_X7_readFormes 21 (.goto (-19)) 3 24 := And.intro (by decide +kernel) rfl
theorem d_X7_readFormes_24 : dk me_X7_readFormes 24 (.iconst 0) 1 25 := And.intro (by decide +kernel) rfl
theorem d_X7_readFormes_25 : dk me_X7_readFormes 25 (.istore_n 3) 1 26 := And.intro (by decide +kernel) rfl
theorem d_X7_readFormes_26 : dk me_X7_readFormes 26 (.iload_n 3) 1 27 := And.intro (by decide +kernel) rfl
theorem d_X7_readFormes_27 : dk me_X7_readFormes 27 (.aload_n 2) 1 28 := And.intro (by decide +kernel) rfl
theorem d_X7_readFormes_28 : dk me_X7_readFormes 28 (.getfield 36) 3 31 := And.intro (by decide +kernel) rfl
theorem d_X7_readFormes_31 : dk me_X7_readFormes 31 (.if_icmp .ge 24) 3 34 := And.intro (by decide +kernel) rfl
theorem d_X7_readFormes_34 : dk me_X7_readFormes 34 (.aload_n 2) 1 35 := And.intro (by decide +kernel) rfl
theorem d_X7_readFormes_35 : dk me_X7_readFormes 35 (.getfield 42) 3 38 := And.intro (by decide +kernel) rfl
theorem d_X7_readFormes_38 : dk me_X7_readFormes 38 (.iload_n 3) 1 39 := And.intro (by decide +kernel) rfl
theorem d_X7_readFormes_39 : dk me_X7_readFormes 39 (.iaload) 1 40 := And.intro (by decide +kernel) rfl
theorem d_X7_readFormes_40 : dk me_X7_readFormes 40 (.ifCond .le 9) 3 43 := And.intro (by decide +kernel) rfl
theorem d_X7_readFormes_43 : dk me_X7_readFormes 43 (.aload_n 0) 1 44 := And.intro (by decide +kernel) rfl
theorem d_X7_readFormes_44 : dk me_X7_readFormes 44 (.aload_n 1) 1 45 := And.intro (by decide +kernel) rfl
theorem d_X7_readFormes_45 : dk me_X7_readFormes 45 (.iload_n 3) 1 46 := And.intro (by decide +kernel) rfl
theorem d_X7_readFormes_46 : dk me_X7_readFormes 46 (.invokevirtual 45) 3 49 := And.intro (by decide +kernel) rfl
theorem d_X7_readFormes_49 : dk me_X7_readFormes 49 (.iinc 3 1) 3 52 := And.intro (by decide +kernel) rfl
theorem d_X7_readFormes_52 : dk me_X7_readFormes 52 (.goto (-26)) 3 55 := And.intro (by decide +kernel) rfl
theorem d_X7_readFormes_55 : dk me_X7_readFormes 55 (.return_) 1 56 := And.intro (by decide +kernel) rfl
theorem ms_X7_readFormes {fx : FX} {m : MM} {l0 : Nat} {l1 : Nat} {l2 : Nat} : MS fx me_X7_readFormes [aR (some (7, l0)), aR (some (0, l1)), aR (some (1, l2))] m (f_X7_readFormes m l0 l1 l2) := by
  refine ms_of rfl mf_X7_readFormes (b8 rfl) ?_
  refine s_top ?_
  show Sim fx me_X7_readFormes 0 [(0, aR (some (7, l0))), (1, aR (some (0, l1))), (2, aR (some (1, l2)))] [] m _
  unfold f_X7_readFormes
  have hj_X7_readFormes_0_55 : ∀ (m_55 : MM), Sim fx me_X7_readFormes 55 [] [] m_55 ((j_X7_readFormes_0_55 m_55).bind (fun z => some z)) := by
    intro m_55
    unfold j_X7_readFormes_0_55
    exact s_vret d_X7_readFormes_55 rfl rfl
  have hj_X7_readFormes_0_24 : ∀ (m_24 : MM) (l0_24 : Nat) (l1_24 : Nat) (l2_24 : Nat), Sim fx me_X7_readFormes 24 [(0, aR (some (7, l0_24))), (1, aR (some (0, l1_24))), (2, aR (some (1, l2_24)))] [] m_24 ((j_X7_readFormes_0_24 m_24 l0_24 l1_24 l2_24).bind (fun z => some z)) := by
    intro m_24 l0_24 l1_24 l2_24
    unfold j_X7_readFormes_0_24
    refine s_iconst d_X7_readFormes_24 n_0 (s_istore_n (L' := [(3, aI 0), (0, aR (some (7, l0_24))), (1, aR (some (0, l1_24))), (2, aR (some (1, l2_24)))]) d_X7_readFormes_25 (b8 rfl) rfl (s_sub (subc m0_ (subc m1_ (subc m2_ (subc m3_ sub0)))) (s_lp2 (fun s => [(3, aI (s.1)), (0, aR (some (7, l0_24))), (1, aR (some (0, l1_24))), (2, aR (some (1, l2_24)))]) (fun s => s.2) (0, m_24) fun k26 hx26 s ih0 => ?_)))
    obtain ⟨l3_26, mm_26⟩ := s
    have ih26 := ih0
    clear ih0
    try dsimp only
    unfold b_X7_readFormes_26
    refine s_iload_n d_X7_readFormes_26 m0_ (s_aload_n d_X7_readFormes_27 m3_ (s_getN cf d_X7_readFormes_28 fl_X7_36 (s_icmp_ge (tgt := 55) d_X7_readFormes_31 rfl ?_ ?_)))
    · exact s_exit (hx26 _) (s_sub (sub0) (hj_X7_readFormes_0_55 mm_26))
    refine s_aload_n d_X7_readFormes_34 m3_ (s_getR cf d_X7_readFormes_35 fl_X7_42 (s_nk fun i4 => (s_iload_n d_X7_readFormes_38 m0_ (s_ldN d_X7_readFormes_39 ka_21 rfl fun v5 => (s_if_le (tgt := 49) d_X7_readFormes_40 rfl ?_ ?_)))))
    · exact s_iinc (L' := [(3, aI (l3_26 + 1)), (0, aR (some (7, l0_24))), (1, aR (some (0, l1_24))), (2, aR (some (1, l2_24)))]) d_X7_readFormes_49 m0_ (b8 rfl) rfl (s_goto (tgt := 26) d_X7_readFormes_52 rfl (s_sub (subc m0_ (subc m1_ (subc m2_ (subc m3_ sub0)))) (s_back (ih26 ((l3_26 + 1), mm_26)))))
    refine s_aload_n d_X7_readFormes_43 m1_ (s_aload_n d_X7_readFormes_44 m2_ (s_iload_n d_X7_readFormes_45 m0_ (s_cV (r_V d_X7_readFormes_46 k_X7_readPiece w_1291 rfl rfl) ms_X7_readPiece (b8 rfl) rfl rfl rfl (fun _ _ _ => rfl) (fun _ _ => Or.inl rfl) fun m6 => (s_iinc (L' := [(3, aI (l3_26 + 1)), (0, aR (some (7, l0_24))), (1, aR (some (0, l1_24))), (2, aR (some (1, l2_24)))]) d_X7_readFormes_49 m0_ (b8 rfl) rfl (s_goto (tgt := 26) d_X7_readFormes_52 rfl ?_)))))
    exact s_sub (subc m0_ (subc m1_ (subc m2_ (subc m3_ sub0)))) (s_back (ih26 ((l3_26 + 1), m6)))
  refine s_iconst d_X7_readFormes_0 n_0 (s_istore_n (L' := [(3, aI 0), (0, aR (some (7, l0))), (1, aR (some (0, l1))), (2, aR (some (1, l2)))]) d_X7_readFormes_1 (b8 rfl) rfl (s_sub (subc m0_ (subc m1_ (subc m2_ (subc m3_ sub0)))) (s_lp2 (fun s => [(3, aI (s.1)), (0, aR (some (7, l0))), (1, aR (some (0, l1))), (2, aR (some (1, l2)))]) (fun s => s.2) (0, m) fun k2 hx2 s ih0 => ?_)))
  obtain ⟨l3_2, mm_2⟩ := s
  have ih2 := ih0
  clear ih0
  try dsimp only
  unfold b_X7_readFormes_2
  refine s_iload_n d_X7_readFormes_2 m0_ (s_aload_n d_X7_readFormes_3 m2_ (s_getR cf d_X7_readFormes_4 fl_X7_30 (s_nk fun i1 => (s_len d_X7_readFormes_7 ka_14 ta_14 (s_icmp_ge (tgt := 24) d_X7_readFormes_8 rfl ?_ ?_)))))
  · exact s_exit (hx2 _) (s_sub (subc m1_ (subc m2_ (subc m3_ sub0))) (hj_X7_readFormes_0_24 mm_2 l0 l1 l2))
  refine s_aload_n d_X7_readFormes_11 m1_ (s_getR cf d_X7_readFormes_12 fl_X7_9 (s_nk fun i2 => (s_iload_n d_X7_readFormes_15 m0_ (s_iconst d_X7_readFormes_16 n_0 (s_stN d_X7_readFormes_17 ka_39 rfl fun m3 => ?_)))))
  exact s_iinc (L' := [(3, aI (l3_2 + 1)), (0, aR (some (7, l0))), (1, aR (some (0, l1))), (2, aR (some (1, l2)))]) d_X7_readFormes_18 m0_ (b8 rfl) rfl (s_goto (tgt := 2) d_X7_readFormes_21 rfl (s_sub (subc m0_ (subc m1_ (subc m2_ (subc m3_ sub0)))) (s_back (ih2 ((l3_2 + 1), m3)))))
theorem d_X11_ahead_0 : dk me_X11_ahead 0 (.aload_n 0) 1 1 := And.intro (by decide +kernel) rfl
theorem d_X11_ahead_1 : dk me_X11_ahead 1 (.iload_n 1) 1 2 := And.intro (by decide +kernel) rfl
theorem d_X11_ahead_2 : dk me_X11_ahead 2 (.invokevirtual 143) 3 5 := And.intro (by decide +kernel) rfl
theorem d_X11_ahead_5 : dk me_X11_ahead 5 (.astore 4) 2 7 := And.intro (by decide +kernel) rfl
theorem d_X11_ahead_7 : dk me_X11_ahead 7 (.aload 4) 2 9 := And.intro (by decide +kernel) rfl
theorem d_X11_ahead_9 : dk me_X11_ahead 9 (.iload_n 2) 1 10 := And.intro (by decide +kernel) rfl
theorem d_X11_ahead_10 : dk me_X11_ahead 10 (.invokevirtual 415) 3 13 := And.intro (by decide +kernel) rfl
theorem d_X11_ahead_13 : dk me_X11_ahead 13 (.ifCond .eq 16) 3 16 := And.intro (by decide +kernel) rfl
theorem d_X11_ahead_16 : dk me_X11_ahead 16 (.aload 4) 2 18 := And.intro (by decide +kernel) rfl
theorem d_X11_ahead_18 : dk me_X11_ahead 18 (.iload_n 3) 1 19 := And.intro (by decide +kernel) rfl
theorem d_X11_ahead_19 : dk me_X11_ahead 19 (.invokevirtual 415) 3 22 := And.intro (by decide +kernel) rfl
theorem d_X11_ahead_22 : dk me_X11_ahead 22 (.ifCond .eq 7) 3 25 := And.intro (by decide +kernel) rfl
theorem d_X11_ahead_25 : dk me_X11_ahead 25 (.iconst 1) 1 26 := And.intro (by decide +kernel) rfl
theorem d_X11_ahead_26 : dk me_X11_ahead 26 (.goto 4) 3 29 := And.intro (by decide +kernel) rfl
theorem d_X11_ahead_29 : dk me_X11_ahead 29 (.iconst 0) 1 30 := And.intro (by decide +kernel) rfl
theorem d_X11_ahead_30 : dk me_X11_ahead 30 (.invokestatic 115) 3 33 := And.intro (by decide +kernel) rfl
theorem d_X11_ahead_33 : dk me_X11_ahead 33 (.iload_n 2) 1 34 := And.intro (by decide +kernel) rfl
theorem d_X11_ahead_34 : dk me_X11_ahead 34 (.iload_n 3) 1 35 := And.intro (by decide +kernel) rfl
theorem d_X11_ahead_35 : dk me_X11_ahead 35 (.if_icmp .eq 7) 3 38 := And.intro (by decide +kernel) rfl
theorem d_X11_ahead_38 : dk me_X11_ahead 38 (.iconst 1) 1 39 := And.intro (by decide +kernel) rfl
theorem d_X11_ahead_39 : dk me_X11_ahead 39 (.goto 4) 3 42 := And.intro (by decide +kernel) rfl
theorem d_X11_ahead_42 : dk me_X11_ahead 42 (.iconst 0) 1 43 := And.intro (by decide +kernel) rfl
theorem d_X11_ahead_43 : dk me_X11_ahead 43 (.invokestatic 53) 3 46 := And.intro (by decide +kernel) rfl
theorem d_X11_ahead_46 : dk me_X11_ahead 46 (.aload_n 0) 1 47 := And.intro (by decide +kernel) rfl
theorem d_X11_ahead_47 : dk me_X11_ahead 47 (.getfield 49) 3 50 := And.intro (by decide +kernel) rfl
theorem d_X11_ahead_50 : dk me_X11_ahead 50 (.aload 4) 2 52 := And.intro (by decide +kernel) rfl
theorem d_X11_ahead_52 : dk me_X11_ahead 52 (.aload_n 0) 1 53 := And.intro (by decide +kernel) rfl
theorem d_X11_ahead_53 : dk me_X11_ahead 53 (.getfield 19) 3 56 := And.intro (by decide +kernel) rfl
theorem d_X11_ahead_56 : dk me_X11_ahead 56 (.invokevirtual 405) 3 59 := And.intro (by decide +kernel) rfl
theorem d_X11_ahead_59 : dk me_X11_ahead 59 (.aload_n 0) 1 60 := And.intro (by decide +kernel) rfl
theorem d_X11_ahead_60 : dk me_X11_ahead 60 (.getfield 49) 3 63 := And.intro (by decide +kernel) rfl
theorem d_X11_ahead_63 : dk me_X11_ahead 63 (.iload_n 3) 1 64 := And.intro (by decide +kernel) rfl
theorem d_X11_ahead_64 : dk me_X11_ahead 64 (.aload 4) 2 66 := And.intro (by decide +kernel) rfl
theorem d_X11_ahead_66 : dk me_X11_ahead 66 (.getfield 338) 3 69 := And.intro (by decide +kernel) rfl
theorem d_X11_ahead_69 : dk me_X11_ahead 69 (.arraylength) 1 70 := And.intro (by decide +kernel) rfl
theorem d_X11_ahead_70 : dk me_X11_ahead 70 (.invokevirtual 418) 3 73 := And.intro (by decide +kernel) rfl
theorem d_X11_ahead_73 : dk me_X11_ahead 73 (.iconst 1) 1 74 := And.intro (by decide +kernel) rfl
theorem d_X11_ahead_74 : dk me_X11_ahead 74 (.iload_n 2) 1 75 := And.intro (by decide +kernel) rfl
theorem d_X11_ahead_75 : dk me_X11_ahead 75 (.ishl) 1 76 := And.intro (by decide +kernel) rfl
theorem d_X11_ahead_76 : dk me_X11_ahead 76 (.iand) 1 77 := And.intro (by decide +kernel) rfl
theorem d_X11_ahead_77 : dk me_X11_ahead 77 (.ifCond .eq 5) 3 80 := And.intro (by decide +kernel) rfl
theorem d_X11_ahead_80 : dk me_X11_ahead 80 (.iconst 1) 1 81 := And.intro (by decide +kernel) rfl
theorem d_X11_ahead_81 : dk me_X11_ahead 81 (.ireturn) 1 82 := And.intro (by decide +kernel) rfl
theorem d_X11_ahead_82 : dk me_X11_ahead 82 (.aload_n 0) 1 83 := And.intro (by decide +kernel) rfl
theorem d_X11_ahead_83 : dk me_X11_ahead 83 (.getfield 49) 3 86 := And.intro (by decide +kernel) rfl
theorem d_X11_ahead_86 : dk me_X11_ahead 86 (.iload_n 2) 1 87 := And.intro (by decide +kernel) rfl
theorem d_X11_ahead_87 : dk me_X11_ahead 87 (.aload 4) 2 89 := And.intro (by decide +kernel) rfl
theorem d_X11_ahead_89 : dk me_X11_ahead 89 (.getfield 338) 3 92 := And.intro (by decide +kernel) rfl
theorem d_X11_ahead_92 : dk me_X11_ahead 92 (.arraylength) 1 93 := And.intro (by decide +kernel) rfl
theorem d_X11_ahead_93 : dk me_X11_ahead 93 (.invokevirtual 418) 3 96 := And.intro (by decide +kernel) rfl
theorem d_X11_ahead_96 : dk me_X11_ahead 96 (.iconst 1) 1 97 := And.intro (by decide +kernel) rfl
theorem d_X11_ahead_97 : dk me_X11_ahead 97 (.iload_n 3) 1 98 := And.intro (by decide +kernel) rfl
theorem d_X11_ahead_98 : dk me_X11_ahead 98 (.ishl) 1 99 := And.intro (by decide +kernel) rfl
theorem d_X11_ahead_99 : dk me_X11_ahead 99 (.iand) 1 100 := And.intro (by decide +kernel) rfl
theorem d_X11_ahead_100 : dk me_X11_ahead 100 (.ifCond .eq 7) 3 103 := And.intro (by decide +kernel) rfl
theorem d_X11_ahead_103 : dk me_X11_ahead 103 (.iconst (-1)) 1 104 := And.intro (by decide +kernel) rfl
theorem d_X11_ahead_104 : dk me_X11_ahead 104 (.goto 4) 3 107 := And.intro (by decide +kernel) rfl
theorem d_X11_ahead_107 : dk me_X11_ahead 107 (.iconst 0) 1 108 := And.intro (by decide +kernel) rfl
theorem d_X11_ahead_108 : dk me_X11_ahead 108 (.ireturn) 1 109 := And.intro (by decide +kernel) rfl
theorem ms_X11_ahead {fx : FX} {m : MM} {l0 : Nat} {l1 : Int} {l2 : Int} {l3 : Int} : MS fx me_X11_ahead [aR (some (11, l0)), aI l1, aI l2, aI l3] m (f_X11_ahead m l0 l1 l2 l3) := by
  refine ms_of rfl mf_X11_ahead (b8 rfl) ?_
  refine s_top ?_
  show Sim fx me_X11_ahead 0 [(0, aR (some (11, l0))), (1, aI l1), (2, aI l2), (3, aI l3)] [] m _
  unfold f_X11_ahead
  have hj_X11_ahead_0_43 : ∀ (m_43 : MM) (l0_43 : Nat) (l2_43 : Int) (l3_43 : Int) (l4_43 : Nat) (s0_43 : Int), Sim fx me_X11_ahead 43 [(0, aR (some (11, l0_43))), (2, aI l2_43), (3, aI l3_43), (4, aR (some (0, l4_43)))] [aI s0_43] m_43 ((j_X11_ahead_0_43 m_43 l0_43 l2_43 l3_43 l4_43 s0_43).bind (fun z => some z)) := by
    intro m_43 l0_43 l2_43 l3_43 l4_43 s0_43
    unfold j_X11_ahead_0_43
    refine s_cV (r_S d_X11_ahead_43 k_X11_requireArgument w_284 rfl rfl) ms_X11_requireArgument (b8 rfl) rfl rfl rfl (fun h => by cases h) (fun _ _ => Or.inr rfl) fun m8 => (s_aload_n d_X11_ahead_46 m0_ (s_getR cf d_X11_ahead_47 fl_X11_49 (s_nk fun i10 => (s_aload d_X11_ahead_50 m3_ (s_aload_n d_X11_ahead_52 m0_ ?_)))))
    refine s_getR cf d_X11_ahead_53 fl_X11_19 (s_nk fun i11 => (s_cV (r_V d_X11_ahead_56 k_X7_readFormes w_1287 rfl rfl) ms_X7_readFormes (b8 rfl) rfl rfl rfl (fun _ _ _ => rfl) (fun _ _ => Or.inl rfl) fun m12 => (s_aload_n d_X11_ahead_59 m0_ (s_getR cf d_X11_ahead_60 fl_X11_49 (s_nk fun i14 => ?_)))))
    refine s_iload_n d_X11_ahead_63 m2_ (s_aload d_X11_ahead_64 m3_ (s_getR cf d_X11_ahead_66 fl_X11_338 (s_nk fun i15 => (s_len d_X11_ahead_69 ka_14 ta_14 (s_pI (r_V d_X11_ahead_70 k_X7_allAheadOf w_1317 rfl rfl) ms_X7_allAheadOf (b8 rfl) rfl rfl rfl fun v16 => ?_)))))
    refine s_iconst d_X11_ahead_73 n_1 (s_iload_n d_X11_ahead_74 m1_ (s_ishl d_X11_ahead_75 (s_iand d_X11_ahead_76 (s_if_eq (tgt := 82) d_X11_ahead_77 rfl ?_ ?_))))
    · refine s_aload_n d_X11_ahead_82 m0_ (s_getR cf d_X11_ahead_83 fl_X11_49 (s_nk fun i17 => (s_iload_n d_X11_ahead_86 m1_ (s_aload d_X11_ahead_87 m3_ (s_getR cf d_X11_ahead_89 fl_X11_338 ?_)))))
      refine s_nk fun i18 => (s_len d_X11_ahead_92 ka_14 ta_14 (s_pI (r_V d_X11_ahead_93 k_X7_allAheadOf w_1317 rfl rfl) ms_X7_allAheadOf (b8 rfl) rfl rfl rfl fun v19 => (s_iconst d_X11_ahead_96 n_1 (s_iload_n d_X11_ahead_97 m2_ (s_ishl d_X11_ahead_98 ?_)))))
      refine s_iand d_X11_ahead_99 (s_if_eq (tgt := 107) d_X11_ahead_100 rfl ?_ ?_)
      · exact s_iconst d_X11_ahead_107 n_0 (s_iret d_X11_ahead_108 rfl rfl)
      exact s_iconst d_X11_ahead_103 n_m1 (s_goto (tgt := 108) d_X11_ahead_104 rfl (s_iret d_X11_ahead_108 rfl rfl))
    exact s_iconst d_X11_ahead_80 n_1 (s_iret d_X11_ahead_81 rfl rfl)
  have hj_X11_ahead_0_30 : ∀ (m_30 : MM) (l0_30 : Nat) (l2_30 : Int) (l3_30 : Int) (l4_30 : Nat) (s0_30 : Int), Sim fx me_X11_ahead 30 [(0, aR (some (11, l0_30))), (2, aI l2_30), (3, aI l3_30), (4, aR (some (0, l4_30)))] [aI s0_30] m_30 ((j_X11_ahead_0_30 m_30 l0_30 l2_30 l3_30 l4_30 s0_30).bind (fun z => some z)) := by
    intro m_30 l0_30 l2_30 l3_30 l4_30 s0_30
    unfold j_X11_ahead_0_30
    refine s_cV (r_S d_X11_ahead_30 k_X11_requireIndex w_451 rfl rfl) ms_X11_requireIndex (b8 rfl) rfl rfl rfl (fun h => by cases h) (fun _ _ => Or.inr rfl) fun m6 => (s_iload_n d_X11_ahead_33 m1_ (s_iload_n d_X11_ahead_34 m2_ (s_icmp_eq (tgt := 42) d_X11_ahead_35 rfl ?_ ?_)))
    · exact s_iconst d_X11_ahead_42 n_0 (s_sub (subc m0_ (subc m1_ (subc m2_ (subc m3_ sub0)))) (hj_X11_ahead_0_43 m6 l0_30 l2_30 l3_30 l4_30 0))
    exact s_iconst d_X11_ahead_38 n_1 (s_goto (tgt := 43) d_X11_ahead_39 rfl (s_sub (subc m0_ (subc m1_ (subc m2_ (subc m3_ sub0)))) (hj_X11_ahead_0_43 m6 l0_30 l2_30 l3_30 l4_30 1)))
  have hj_X11_ahead_0_29 : ∀ (m_29 : MM) (l0_29 : Nat) (l2_29 : Int) (l3_29 : Int) (l4_29 : Nat), Sim fx me_X11_ahead 29 [(0, aR (some (11, l0_29))), (2, aI l2_29), (3, aI l3_29), (4, aR (some (0, l4_29)))] [] m_29 ((j_X11_ahead_0_29 m_29 l0_29 l2_29 l3_29 l4_29).bind (fun z => some z)) := by
    intro m_29 l0_29 l2_29 l3_29 l4_29
    unfold j_X11_ahead_0_29
    exact s_iconst d_X11_ahead_29 n_0 (s_sub (subc m0_ (subc m1_ (subc m2_ (subc m3_ sub0)))) (hj_X11_ahead_0_30 m_29 l0_29 l2_29 l3_29 l4_29 0))
  refine s_aload_n d_X11_ahead_0 m0_ (s_iload_n d_X11_ahead_1 m1_ (s_cR (r_V d_X11_ahead_2 k_X11_bookAt w_814 rfl rfl) ms_X11_bookAt (b8 rfl) rfl rfl rfl (fun h => by cases h) (fun _ _ => Or.inr rfl) fun r2 m1 => (s_nk fun i3 => (s_astore (L' := [(4, aR (some (0, i3))), (0, aR (some (11, l0))), (1, aI l1), (2, aI l2), (3, aI l3)]) d_X11_ahead_5 (b8 rfl) rfl (s_aload d_X11_ahead_7 m0_ ?_)))))
  refine s_iload_n d_X11_ahead_9 m3_ (s_pI (r_V d_X11_ahead_10 k_X0_hasForme w_1028 rfl rfl) ms_X0_hasForme (b8 rfl) rfl rfl rfl fun v4 => (s_if_eq (tgt := 29) d_X11_ahead_13 rfl ?_ ?_))
  · exact s_sub (subc m1_ (subc m3_ (subc m4_ (subc m0_ sub0)))) (hj_X11_ahead_0_29 m1 l0 l2 l3 i3)
  refine s_aload d_X11_ahead_16 m0_ (s_iload_n d_X11_ahead_18 m4_ (s_pI (r_V d_X11_ahead_19 k_X0_hasForme w_1028 rfl rfl) ms_X0_hasForme (b8 rfl) rfl rfl rfl fun v5 => (s_if_eq (tgt := 29) d_X11_ahead_22 rfl ?_ ?_)))
  · exact s_sub (subc m1_ (subc m3_ (subc m4_ (subc m0_ sub0)))) (hj_X11_ahead_0_29 m1 l0 l2 l3 i3)
  exact s_iconst d_X11_ahead_25 n_1 (s_goto (tgt := 30) d_X11_ahead_26 rfl (s_sub (subc m1_ (subc m3_ (subc m4_ (subc m0_ sub0)))) (hj_X11_ahead_0_30 m1 l0 l2 l3 i3 1)))
theorem d_L_ahead_0 : dk me_L_ahead 0 (.aload 4) 2 2 := And.intro (by decide +kernel) rfl
theorem d_L_ahead_2 : dk me_L_ahead 2 (.iconst 0) 1 3 := And.intro (by decide +kernel) rfl
theorem d_L_ahead_3 : dk me_L_ahead 3 (.aload_n 0) 1 4 := And.intro (by decide +kernel) rfl
theorem d_L_ahead_4 : dk me_L_ahead 4 (.iload_n 1) 1 5 := And.intro (by decide +kernel) rfl
theorem d_L_ahead_5 : dk me_L_ahead 5 (.iload_n 2) 1 6 := And.intro (by decide +kernel) rfl
theorem d_L_ahead_6 : dk me_L_ahead 6 (.iload_n 3) 1 7 := And.intro (by decide +kernel) rfl
theorem d_L_ahead_7 : dk me_L_ahead 7 (.invokevirtual 129) 3 10 := And.intro (by decide +kernel) rfl
theorem d_L_ahead_10 : dk me_L_ahead 10 (.i2l) 1 11 := And.intro (by decide +kernel) rfl
theorem d_L_ahead_11 : dk me_L_ahead 11 (.lastore) 1 12 := And.intro (by decide +kernel) rfl
theorem d_L_ahead_12 : dk me_L_ahead 12 (.goto 11) 3 15 := And.intro (by decide +kernel) rfl
theorem d_L_ahead_15 : dk me_L_ahead 15 (.astore 5) 2 17 := And.intro (by decide +kernel) rfl
theorem d_L_ahead_17 : dk me_L_ahead 17 (.iconst 1) 1 18 := And.intro (by decide +kernel) rfl
theorem d_L_ahead_18 : dk me_L_ahead 18 (.ireturn) 1 19 := And.intro (by decide +kernel) rfl
theorem d_L_ahead_19 : dk me_L_ahead 19 (.astore 5) 2 21 := And.intro (by decide +kernel) rfl
theorem d_L_ahead_21 : dk me_L_ahead 21 (.iconst 2) 1 22 := And.intro (by decide +kernel) rfl
theorem d_L_ahead_22 : dk me_L_ahead 22 (.ireturn) 1 23 := And.intro (by decide +kernel) rfl
theorem d_L_ahead_23 : dk me_L_ahead 23 (.iconst 0) 1 24 := And.intro (by decide +kernel) rfl
theorem d_L_ahead_24 : dk me_L_ahead 24 (.ireturn) 1 25 := And.intro (by decide +kernel) rfl
theorem ms_L_ahead {fx : FX} {m : MM} {l0 : Nat} {l1 : Int} {l2 : Int} {l3 : Int} {l4 : Nat} : MS fx me_L_ahead [aR (some (11, l0)), aI l1, aI l2, aI l3, aR (some (131, l4))] m (f_L_ahead m l0 l1 l2 l3 l4) := by
  refine ms_ofH rfl mf_L_ahead (b8 rfl) ?_
  refine s_top ?_
  show Sim fx me_L_ahead 0 [(0, aR (some (11, l0))), (1, aI l1), (2, aI l2), (3, aI l3), (4, aR (some (131, l4)))] [] m _
  unfold f_L_ahead
  refine s_aload d_L_ahead_0 m4_ (s_iconst d_L_ahead_2 n_0 (s_aload_n d_L_ahead_3 m0_ (s_iload_n d_L_ahead_4 m1_ (s_iload_n d_L_ahead_5 m2_ (s_iload_n d_L_ahead_6 m3_ ?_)))))
  refine s_cIC (r_V d_L_ahead_7 k_X11_ahead w_1313 rfl rfl) ms_X11_ahead (b8 rfl) rfl rfl ?_ ?_ ?_ fun v2 m1 => ?_
  · refine fun mx => Or.inr ⟨15, ⟨rfl, by decide, 0, wx_29_0, Or.inl ⟨rfl, rfl⟩⟩, fun qx => ?_⟩
    exact s_astoreV (L' := [(5, aV (.ref qx)), (0, aR (some (11, l0))), (1, aI l1), (2, aI l2), (3, aI l3), (4, aR (some (131, l4)))]) d_L_ahead_15 (b8 rfl) rfl (s_iconst d_L_ahead_17 n_1 (s_iret d_L_ahead_18 rfl rfl))
  · refine fun mx => Or.inr ⟨19, ⟨rfl, by decide, 0, wx_29_0, Or.inr ⟨by decide, ⟨rfl, by decide, 1, wx_13_1, Or.inl ⟨rfl, rfl⟩⟩⟩⟩, fun qx => ?_⟩
    exact s_astoreV (L' := [(5, aV (.ref qx)), (0, aR (some (11, l0))), (1, aI l1), (2, aI l2), (3, aI l3), (4, aR (some (131, l4)))]) d_L_ahead_19 (b8 rfl) rfl (s_iconst d_L_ahead_21 n_2 (s_iret d_L_ahead_22 rfl rfl))
  · exact fun _ => Or.inl rfl
  exact s_i2l d_L_ahead_10 (s_stL d_L_ahead_11 ka_131 rfl fun m3 => (s_goto (tgt := 23) d_L_ahead_12 rfl (s_iconst d_L_ahead_23 n_0 (s_iret d_L_ahead_24 rfl rfl))))
theorem d_X0_hasCopy_0 : dk me_X0_hasCopy 0 (.iload_n 1) 1 1 := And.intro (by decide +kernel) rfl
theorem d_X0_hasCopy_1 : dk me_X0_hasCopy 1 (.ifCond .lt 15) 3 4 := And.intro (by decide +kernel) rfl
theorem d_X0_hasCopy_4 : dk me_X0_hasCopy 4 (.iload_n 1) 1 5 := And.intro (by decide +kernel) rfl
theorem d_X0_hasCopy_5 : dk me_X0_hasCopy 5 (.aload_n 0) 1 6 := And.intro (by decide +kernel) rfl
theorem d_X0_hasCopy_6 : dk me_X0_hasCopy 6 (.getfield 28) 3 9 := And.intro (by decide +kernel) rfl
theorem d_X0_hasCopy_9 : dk me_X0_hasCopy 9 (.if_icmp .ge 7) 3 12 := And.intro (by decide +kernel) rfl
theorem d_X0_hasCopy_12 : dk me_X0_hasCopy 12 (.iconst 1) 1 13 := And.intro (by decide +kernel) rfl
theorem d_X0_hasCopy_13 : dk me_X0_hasCopy 13 (.goto 4) 3 16 := And.intro (by decide +kernel) rfl
theorem d_X0_hasCopy_16 : dk me_X0_hasCopy 16 (.iconst 0) 1 17 := And.intro (by decide +kernel) rfl
theorem d_X0_hasCopy_17 : dk me_X0_hasCopy 17 (.ireturn) 1 18 := And.intro (by decide +kernel) rfl
theorem ms_X0_hasCopy {fx : FX} {m : MM} {l0 : Nat} {l1 : Int} : MS fx me_X0_hasCopy [aR (some (0, l0)), aI l1] m ((f_X0_hasCopy m l0 l1).bind fun v => some (.inl (some (aI v)), m)) := by
  refine ms_of rfl mf_X0_hasCopy (b8 rfl) ?_
  show Sim fx me_X0_hasCopy 0 [(0, aR (some (0, l0))), (1, aI l1)] [] m _
  unfold f_X0_hasCopy
  refine s_iload_n d_X0_hasCopy_0 m1_ (s_if_lt (tgt := 16) d_X0_hasCopy_1 rfl ?_ ?_)
  · exact s_iconst d_X0_hasCopy_16 n_0 (s_zretl d_X0_hasCopy_17 rfl (by decide) rfl)
  refine s_iload_n d_X0_hasCopy_4 m1_ (s_aload_n d_X0_hasCopy_5 m0_ (s_getN cf d_X0_hasCopy_6 fl_X0_28 (s_icmp_ge (tgt := 16) d_X0_hasCopy_9 rfl ?_ ?_)))
  · exact s_iconst d_X0_hasCopy_16 n_0 (s_zretl d_X0_hasCopy_17 rfl (by decide) rfl)
  exact s_iconst d_X0_hasCopy_12 n_1 (s_goto (tgt := 17) d_X0_hasCopy_13 rfl (s_zretl d_X0_hasCopy_17 rfl (by decide) rfl))
theorem d_X0_formeOfPage_0 : dk me_X0_formeOfPage 0 (.iload_n 0) 1 1 := And.intro (by decide +kernel) rfl
theorem d_X0_formeOfPage_1 : dk me_X0_formeOfPage 1 (.iconst 2) 1 2 := And.intro (by decide +kernel) rfl
theorem d_X0_formeOfPage_2 : dk me_X0_formeOfPage 2 (.iload_n 1) 1 3 := And.intro (by decide +kernel) rfl
theorem d_X0_formeOfPage_3 : dk me_X0_formeOfPage 3 (.imul) 1 4 := And.intro (by decide +kernel) rfl
theorem d_X0_formeOfPage_4 : dk me_X0_formeOfPage 4 (.irem) 1 5 := And.intro (by decide +kernel) rfl
theorem d_X0_formeOfPage_5 : dk me_X0_formeOfPage 5 (.iconst 1) 1 6 := And.intro (by decide +kernel) rfl
theorem d_X0_formeOfPage_6 : dk me_X0_formeOfPage 6 (.iadd) 1 7 := And.intro (by decide +kernel) rfl
theorem d_X0_formeOfPage_7 : dk me_X0_formeOfPage 7 (.istore_n 2) 1 8 := And.intro (by decide +kernel) rfl
theorem d_X0_formeOfPage_8 : dk me_X0_formeOfPage 8 (.iload_n 0) 1 9 := And.intro (by decide +kernel) rfl
theorem d_X0_formeOfPage_9 : dk me_X0_formeOfPage 9 (.iconst 2) 1 10 := And.intro (by decide +kernel) rfl
theorem d_X0_formeOfPage_10 : dk me_X0_formeOfPage 10 (.iload_n 1) 1 11 := And.intro (by decide +kernel) rfl
theorem d_X0_formeOfPage_11 : dk me_X0_formeOfPage 11 (.imul) 1 12 := And.intro (by decide +kernel) rfl
theorem d_X0_formeOfPage_12 : dk me_X0_formeOfPage 12 (.idiv) 1 13 := And.intro (by decide +kernel) rfl
theorem d_X0_formeOfPage_13 : dk me_X0_formeOfPage 13 (.iconst 2) 1 14 := And.intro (by decide +kernel) rfl
theorem d_X0_formeOfPage_14 : dk me_X0_formeOfPage 14 (.imul) 1 15 := And.intro (by decide +kernel) rfl
theorem d_X0_formeOfPage_15 : dk me_X0_formeOfPage 15 (.iload_n 2) 1 16 := And.intro (by decide +kernel) rfl
theorem d_X0_formeOfPage_16 : dk me_X0_formeOfPage 16 (.iconst 4) 1 17 := And.intro (by decide +kernel) rfl
theorem d_X0_formeOfPage_17 : dk me_X0_formeOfPage 17 (.irem) 1 18 := And.intro (by decide +kernel) rfl
theorem d_X0_formeOfPage_18 : dk me_X0_formeOfPage 18 (.iconst 1) 1 19 := And.intro (by decide +kernel) rfl
theorem d_X0_formeOfPage_19 : dk me_X0_formeOfPage 19 (.if_icmp .gt 7) 3 22 := And.intro (by decide +kernel) rfl
theorem d_X0_formeOfPage_22 : dk me_X0_formeOfPage 22 (.iconst 0) 1 23 := And.intro (by decide +kernel) rfl
theorem d_X0_formeOfPage_23 : dk me_X0_formeOfPage 23 (.goto 4) 3 26 := And.intro (by decide +kernel) rfl
theorem d_X0_formeOfPage_26 : dk me_X0_formeOfPage 26 (.iconst 1) 1 27 := And.intro (by decide +kernel) rfl
theorem d_X0_formeOfPage_27 : dk me_X0_formeOfPage 27 (.iadd) 1 28 := And.intro (by decide +kernel) rfl
theorem d_X0_formeOfPage_28 : dk me_X0_formeOfPage 28 (.ireturn) 1 29 := And.intro (by decide +kernel) rfl
theorem ms_X0_formeOfPage {fx : FX} {m : MM} {l0 : Int} {l1 : Int} : MS fx me_X0_formeOfPage [aI l0, aI l1] m ((f_X0_formeOfPage m l0 l1).bind fun v => some (.inl (some (aI v)), m)) := by
  refine ms_of rfl mf_X0_formeOfPage (b8 rfl) ?_
  show Sim fx me_X0_formeOfPage 0 [(0, aI l0), (1, aI l1)] [] m _
  unfold f_X0_formeOfPage
  refine s_iload_n d_X0_formeOfPage_0 m0_ (s_iconst d_X0_formeOfPage_1 n_2 (s_iload_n d_X0_formeOfPage_2 m1_ (s_imul d_X0_formeOfPage_3 rfl rfl (s_ck (s_irem d_X0_formeOfPage_4 ?_)))))
  refine s_iconst d_X0_formeOfPage_5 n_1 (s_iadd d_X0_formeOfPage_6 rfl rfl (s_ck (s_istore_n (L' := [(2, aI ((l0 % (2 * l1)) + 1)), (0, aI l0), (1, aI l1)]) d_X0_formeOfPage_7 (b8 rfl) rfl (s_iload_n d_X0_formeOfPage_8 m1_ (s_iconst d_X0_formeOfPage_9 n_2 ?_)))))
  refine s_iload_n d_X0_formeOfPage_10 m2_ (s_imul d_X0_formeOfPage_11 rfl rfl (s_ck (s_idiv d_X0_formeOfPage_12 (s_iconst d_X0_formeOfPage_13 n_2 (s_imul d_X0_formeOfPage_14 rfl rfl ?_)))))
  refine s_iload_n d_X0_formeOfPage_15 m0_ (s_iconst d_X0_formeOfPage_16 n_4 (s_irem d_X0_formeOfPage_17 (s_iconst d_X0_formeOfPage_18 n_1 (s_icmp_gt (tgt := 26) d_X0_formeOfPage_19 rfl ?_ ?_))))
  · exact s_iconst d_X0_formeOfPage_26 n_1 (s_iadd d_X0_formeOfPage_27 rfl rfl (s_ck (s_iret d_X0_formeOfPage_28 rfl rfl)))
  exact s_iconst d_X0_formeOfPage_22 n_0 (s_goto (tgt := 27) d_X0_formeOfPage_23 rfl (s_iadd d_X0_formeOfPage_27 rfl rfl (s_ck (s_iret d_X0_formeOfPage_28 rfl rfl))))
theorem d_X0_formeNumber_0 : dk me_X0_formeNumber 0 (.iload_n 1) 1 1 := And.intro (by decide +kernel) rfl
theorem d_X0_formeNumber_1 : dk me_X0_formeNumber 1 (.aload_n 0) 1 2 := And.intro (by decide +kernel) rfl
theorem d_X0_formeNumber_2 : dk me_X0_formeNumber 2 (.getfield 18) 3 5 := And.intro (by decide +kernel) rfl
theorem d_X0_formeNumber_5 : dk me_X0_formeNumber 5 (.invokestatic 71) 3 8 := And.intro (by decide +kernel) rfl
theorem d_X0_formeNumber_8 : dk me_X0_formeNumber 8 (.ireturn) 1 9 := And.intro (by decide +kernel) rfl
theorem ms_X0_formeNumber {fx : FX} {m : MM} {l0 : Nat} {l1 : Int} : MS fx me_X0_formeNumber [aR (some (0, l0)), aI l1] m ((f_X0_formeNumber m l0 l1).bind fun v => some (.inl (some (aI v)), m)) := by
  refine ms_of rfl mf_X0_formeNumber (b8 rfl) ?_
  show Sim fx me_X0_formeNumber 0 [(0, aR (some (0, l0))), (1, aI l1)] [] m _
  unfold f_X0_formeNumber
  exact s_iload_n d_X0_formeNumber_0 m1_ (s_aload_n d_X0_formeNumber_1 m0_ (s_getN cf d_X0_formeNumber_2 fl_X0_18 (s_pI (r_S d_X0_formeNumber_5 k_X0_formeOfPage w_668 rfl rfl) ms_X0_formeOfPage (b8 rfl) rfl rfl rfl fun v1 => (s_iret d_X0_formeNumber_8 rfl rfl))))
theorem d_X2_stateOf_0 : dk me_X2_stateOf 0 (.iconst 0) 1 1 := And.intro (by decide +kernel) rfl
theorem d_X2_stateOf_1 : dk me_X2_stateOf 1 (.istore_n 2) 1 2 := And.intro (by decide +kernel) rfl
theorem d_X2_stateOf_2 : dk me_X2_stateOf 2 (.iconst 1) 1 3 := And.intro (by decide +kernel) rfl
theorem d_X2_stateOf_3 : dk me_X2_stateOf 3 (.istore_n 3) 1 4 := And.intro (by decide +kernel) rfl
theorem d_X2_stateOf_4 : dk me_X2_stateOf 4 (.iload_n 3) 1 5 := And.intro (by decide +kernel) rfl
theorem d_X2_stateOf_5 : dk me_X2_stateOf 5 (.aload_n 0) 1 6 := And.intro (by decide +kernel) rfl
theorem d_X2_stateOf_6 : dk me_X2_stateOf 6 (.getfield 22) 3 9 := And.intro (by decide +kernel) rfl
theorem d_X2_stateOf_9 : dk me_X2_stateOf 9 (.if_icmp .ge 21) 3 12 := And.intro (by decide +kernel) rfl
theorem d_X2_stateOf_12 : dk me_X2_stateOf 12 (.aload_n 0) 1 13 := And.intro (by decide +kernel) rfl
theorem d_X2_stateOf_13 : dk me_X2_stateOf 13 (.getfield 38) 3 16 := And.intro (by decide +kernel) rfl
theorem d_X2_stateOf_16 : dk me_X2_stateOf 16 (.iload_n 3) 1 17 := And.intro (by decide +kernel) rfl
theorem d_X2_stateOf_17 : dk me_X2_stateOf 17 (.iaload) 1 18 := And.intro (by decide +kernel) rfl
theorem d_X2_stateOf_18 : dk me_X2_stateOf 18 (.iload_n 1) 1 19 := And.intro (by decide +kernel) rfl
theorem d_X2_stateOf_19 : dk me_X2_stateOf 19 (.if_icmp .gt 5) 3 22 := And.intro (by decide +kernel) rfl
theorem d_X2_stateOf_22 : dk me_X2_stateOf 22 (.iload_n 3) 1 23 := And.intro (by decide +kernel) rfl
theorem d_X2_stateOf_23 : dk me_X2_stateOf 23 (.istore_n 2) 1 24 := And.intro (by decide +kernel) rfl
theorem d_X2_stateOf_24 : dk me_X2_stateOf 24 (.iinc 3 1) 3 27 := And.intro (by decide +kernel) rfl
theorem d_X2_stateOf_27 : dk me_X2_stateOf 27 (.goto (-23)) 3 30 := And.intro (by decide +kernel) rfl
theorem d_X2_stateOf_30 : dk me_X2_stateOf 30 (.iload_n 2) 1 31 := And.intro (by decide +kernel) rfl
theorem d_X2_stateOf_31 : dk me_X2_stateOf 31 (.ireturn) 1 32 := And.intro (by decide +kernel) rfl
theorem ms_X2_stateOf {fx : FX} {m : MM} {l0 : Nat} {l1 : Int} : MS fx me_X2_stateOf [aR (some (2, l0)), aI l1] m ((f_X2_stateOf m l0 l1).bind fun v => some (.inl (some (aI v)), m)) := by
  refine ms_of rfl mf_X2_stateOf (b8 rfl) ?_
  show Sim fx me_X2_stateOf 0 [(0, aR (some (2, l0))), (1, aI l1)] [] m _
  unfold f_X2_stateOf
  have hj_X2_stateOf_0_30 : ∀ (l2_30 : Int), Sim fx me_X2_stateOf 30 [(2, aI l2_30)] [] m ((j_X2_stateOf_0_30 m l2_30).bind (fun v => some (.inl (some (aI v)), m))) := by
    intro l2_30
    unfold j_X2_stateOf_0_30
    exact s_iload_n d_X2_stateOf_30 m0_ (s_iret d_X2_stateOf_31 rfl rfl)
  refine s_iconst d_X2_stateOf_0 n_0 (s_istore_n (L' := [(2, aI 0), (0, aR (some (2, l0))), (1, aI l1)]) d_X2_stateOf_1 (b8 rfl) rfl (s_iconst d_X2_stateOf_2 n_1 (s_istore_n (L' := [(3, aI 1), (2, aI 0), (0, aR (some (2, l0))), (1, aI l1)]) d_X2_stateOf_3 (b8 rfl) rfl (s_sub (subc m1_ (subc m0_ (subc m2_ (subc m3_ sub0)))) (s_lp2 (fun s => [(2, aI (s.1)), (3, aI (s.2)), (0, aR (some (2, l0))), (1, aI l1)]) (fun s => m) (0, 1) fun k4 hx4 s ih0 => ?_)))))
  obtain ⟨l2_4, l3_4⟩ := s
  have ih4 := ih0
  clear ih0
  try dsimp only
  unfold b_X2_stateOf_4
  refine s_iload_n d_X2_stateOf_4 m1_ (s_aload_n d_X2_stateOf_5 m2_ (s_getN cf d_X2_stateOf_6 fl_X2_22 (s_icmp_ge (tgt := 30) d_X2_stateOf_9 rfl ?_ ?_)))
  · exact s_exit (hx4 _) (s_sub (subc m0_ sub0) (hj_X2_stateOf_0_30 l2_4))
  refine s_aload_n d_X2_stateOf_12 m2_ (s_getR cf d_X2_stateOf_13 fl_X2_38 (s_nk fun i1 => (s_iload_n d_X2_stateOf_16 m1_ (s_ldN d_X2_stateOf_17 ka_26 rfl fun v2 => (s_iload_n d_X2_stateOf_18 m3_ ?_)))))
  refine s_icmp_gt (tgt := 24) d_X2_stateOf_19 rfl ?_ ?_
  · exact s_iinc (L' := [(3, aI (l3_4 + 1)), (2, aI l2_4), (0, aR (some (2, l0))), (1, aI l1)]) d_X2_stateOf_24 m1_ (b8 rfl) rfl (s_goto (tgt := 4) d_X2_stateOf_27 rfl (s_sub (subc m1_ (subc m0_ (subc m2_ (subc m3_ sub0)))) (s_back (ih4 (l2_4, (l3_4 + 1))))))
  exact s_iload_n d_X2_stateOf_22 m1_ (s_istore_n (L' := [(2, aI l3_4), (3, aI l3_4), (0, aR (some (2, l0))), (1, aI l1)]) d_X2_stateOf_23 (b8 rfl) rfl (s_iinc (L' := [(3, aI (l3_4 + 1)), (2, aI l3_4), (0, aR (some (2, l0))), (1, aI l1)]) d_X2_stateOf_24 m1_ (b8 rfl) rfl (s_goto (tgt := 4) d_X2_stateOf_27 rfl (s_sub (subc m1_ (subc m0_ (subc m2_ (subc m3_ sub0)))) (s_back (ih4 (l3_4, (l3_4 + 1))))))))
theorem d_X8_stateOn_0 : dk me_X8_stateOn 0 (.aload_n 1) 1 1 := And.intro (by decide +kernel) rfl
theorem d_X8_stateOn_1 : dk me_X8_stateOn 1 (.aload_n 1) 1 2 := And.intro (by decide +kernel) rfl
theorem d_X8_stateOn_2 : dk me_X8_stateOn 2 (.aload_n 0) 1 3 := And.intro (by decide +kernel) rfl
theorem d_X8_stateOn_3 : dk me_X8_stateOn 3 (.getfield 24) 3 6 := And.intro (by decide +kernel) rfl
theorem d_X8_stateOn_6 : dk me_X8_stateOn 6 (.if_acmp .ne 7) 3 9 := And.intro (by decide +kernel) rfl
theorem d_X8_stateOn_9 : dk me_X8_stateOn 9 (.iload_n 2) 1 10 := And.intro (by decide +kernel) rfl
theorem d_X8_stateOn_10 : dk me_X8_stateOn 10 (.goto 11) 3 13 := And.intro (by decide +kernel) rfl
theorem d_X8_stateOn_13 : dk me_X8_stateOn 13 (.aload_n 1) 1 14 := And.intro (by decide +kernel) rfl
theorem d_X8_stateOn_14 : dk me_X8_stateOn 14 (.getfield 33) 3 17 := And.intro (by decide +kernel) rfl
theorem d_X8_stateOn_17 : dk me_X8_stateOn 17 (.iconst 1) 1 18 := And.intro (by decide +kernel) rfl
theorem d_X8_stateOn_18 : dk me_X8_stateOn 18 (.isub) 1 19 := And.intro (by decide +kernel) rfl
theorem d_X8_stateOn_19 : dk me_X8_stateOn 19 (.iload_n 2) 1 20 := And.intro (by decide +kernel) rfl
theorem d_X8_stateOn_20 : dk me_X8_stateOn 20 (.isub) 1 21 := And.intro (by decide +kernel) rfl
theorem d_X8_stateOn_21 : dk me_X8_stateOn 21 (.invokevirtual 36) 3 24 := And.intro (by decide +kernel) rfl
theorem d_X8_stateOn_24 : dk me_X8_stateOn 24 (.ireturn) 1 25 := And.intro (by decide +kernel) rfl
theorem ms_X8_stateOn {fx : FX} {m : MM} {l0 : Nat} {l1 : Nat} {l2 : Int} : MS fx me_X8_stateOn [aR (some (8, l0)), aR (some (2, l1)), aI l2] m ((f_X8_stateOn m l0 l1 l2).bind fun v => some (.inl (some (aI v)), m)) := by
  refine ms_of rfl mf_X8_stateOn (b8 rfl) ?_
  show Sim fx me_X8_stateOn 0 [(0, aR (some (8, l0))), (1, aR (some (2, l1))), (2, aI l2)] [] m _
  unfold f_X8_stateOn
  have hj_X8_stateOn_0_21 : ∀ (s0_21 : Nat) (s1_21 : Int), Sim fx me_X8_stateOn 21 [] [aI s1_21, aR (some (2, s0_21))] m ((j_X8_stateOn_0_21 m s0_21 s1_21).bind (fun v => some (.inl (some (aI v)), m))) := by
    intro s0_21 s1_21
    unfold j_X8_stateOn_0_21
    exact s_pI (r_V d_X8_stateOn_21 k_X2_stateOf w_1217 rfl rfl) ms_X2_stateOf (b8 rfl) rfl rfl rfl fun v1 => (s_iret d_X8_stateOn_24 rfl rfl)
  refine s_aload_n d_X8_stateOn_0 m1_ (s_aload_n d_X8_stateOn_1 m1_ (s_aload_n d_X8_stateOn_2 m0_ (s_getR cf d_X8_stateOn_3 fl_X8_24 (s_acmpne (tgt := 13) d_X8_stateOn_6 rfl ?_ ?_))))
  · refine s_aload_n d_X8_stateOn_13 m1_ (s_getN cf d_X8_stateOn_14 fl_X8_33 (s_iconst d_X8_stateOn_17 n_1 (s_isub d_X8_stateOn_18 rfl rfl (s_iload_n d_X8_stateOn_19 m2_ (s_isub d_X8_stateOn_20 rfl rfl ?_)))))
    exact s_ck (s_sub (sub0) (hj_X8_stateOn_0_21 l1 (((gN m 2 l1 1) - 1) - l2)))
  exact s_iload_n d_X8_stateOn_9 m2_ (s_goto (tgt := 21) d_X8_stateOn_10 rfl (s_sub (sub0) (hj_X8_stateOn_0_21 l1 l2)))
theorem d_X0_stateIn_0 : dk me_X0_stateIn 0 (.aload_n 0) 1 1 := And.intro (by decide +kernel) rfl
theorem d_X0_stateIn_1 : dk me_X0_stateIn 1 (.getfield 68) 3 4 := And.intro (by decide +kernel) rfl
theorem d_X0_stateIn_4 : dk me_X0_stateIn 4 (.iload_n 1) 1 5 := And.intro (by decide +kernel) rfl
theorem d_X0_stateIn_5 : dk me_X0_stateIn 5 (.aaload) 1 6 := And.intro (by decide +kernel) rfl
theorem d_X0_stateIn_6 : dk me_X0_stateIn 6 (.iload_n 2) 1 7 := And.intro (by decide +kernel) rfl
theorem d_X0_stateIn_7 : dk me_X0_stateIn 7 (.iconst 2) 1 8 := And.intro (by decide +kernel) rfl
theorem d_X0_stateIn_8 : dk me_X0_stateIn 8 (.idiv) 1 9 := And.intro (by decide +kernel) rfl
theorem d_X0_stateIn_9 : dk me_X0_stateIn 9 (.iaload) 1 10 := And.intro (by decide +kernel) rfl
theorem d_X0_stateIn_10 : dk me_X0_stateIn 10 (.istore_n 3) 1 11 := And.intro (by decide +kernel) rfl
theorem d_X0_stateIn_11 : dk me_X0_stateIn 11 (.iload_n 3) 1 12 := And.intro (by decide +kernel) rfl
theorem d_X0_stateIn_12 : dk me_X0_stateIn 12 (.iconst (-1)) 1 13 := And.intro (by decide +kernel) rfl
theorem d_X0_stateIn_13 : dk me_X0_stateIn 13 (.if_icmp .ne 5) 3 16 := And.intro (by decide +kernel) rfl
theorem d_X0_stateIn_16 : dk me_X0_stateIn 16 (.iconst (-1)) 1 17 := And.intro (by decide +kernel) rfl
theorem d_X0_stateIn_17 : dk me_X0_stateIn 17 (.ireturn) 1 18 := And.intro (by decide +kernel) rfl
theorem d_X0_stateIn_18 : dk me_X0_stateIn 18 (.aload_n 0) 1 19 := And.intro (by decide +kernel) rfl
theorem d_X0_stateIn_19 : dk me_X0_stateIn 19 (.getfield 55) 3 22 := And.intro (by decide +kernel) rfl
theorem d_X0_stateIn_22 : dk me_X0_stateIn 22 (.iload_n 2) 1 23 := And.intro (by decide +kernel) rfl
theorem d_X0_stateIn_23 : dk me_X0_stateIn 23 (.iconst 2) 1 24 := And.intro (by decide +kernel) rfl
theorem d_X0_stateIn_24 : dk me_X0_stateIn 24 (.aload_n 0) 1 25 := And.intro (by decide +kernel) rfl
theorem d_X0_stateIn_25 : dk me_X0_stateIn 25 (.getfield 18) 3 28 := And.intro (by decide +kernel) rfl
theorem d_X0_stateIn_28 : dk me_X0_stateIn 28 (.imul) 1 29 := And.intro (by decide +kernel) rfl
theorem d_X0_stateIn_29 : dk me_X0_stateIn 29 (.idiv) 1 30 := And.intro (by decide +kernel) rfl
theorem d_X0_stateIn_30 : dk me_X0_stateIn 30 (.aaload) 1 31 := And.intro (by decide +kernel) rfl
theorem d_X0_stateIn_31 : dk me_X0_stateIn 31 (.aload_n 0) 1 32 := And.intro (by decide +kernel) rfl
theorem d_X0_stateIn_32 : dk me_X0_stateIn 32 (.getfield 42) 3 35 := And.intro (by decide +kernel) rfl
theorem d_X0_stateIn_35 : dk me_X0_stateIn 35 (.aload_n 0) 1 36 := And.intro (by decide +kernel) rfl
theorem d_X0_stateIn_36 : dk me_X0_stateIn 36 (.iload_n 2) 1 37 := And.intro (by decide +kernel) rfl
theorem d_X0_stateIn_37 : dk me_X0_stateIn 37 (.invokevirtual 78) 3 40 := And.intro (by decide +kernel) rfl
theorem d_X0_stateIn_40 : dk me_X0_stateIn 40 (.aaload) 1 41 := And.intro (by decide +kernel) rfl
theorem d_X0_stateIn_41 : dk me_X0_stateIn 41 (.iload_n 3) 1 42 := And.intro (by decide +kernel) rfl
theorem d_X0_stateIn_42 : dk me_X0_stateIn 42 (.invokevirtual 133) 3 45 := And.intro (by decide +kernel) rfl
theorem d_X0_stateIn_45 : dk me_X0_stateIn 45 (.ireturn) 1 46 := And.intro (by decide +kernel) rfl
theorem ms_X0_stateIn {fx : FX} {m : MM} {l0 : Nat} {l1 : Int} {l2 : Int} : MS fx me_X0_stateIn [aR (some (0, l0)), aI l1, aI l2] m ((f_X0_stateIn m l0 l1 l2).bind fun v => some (.inl (some (aI v)), m)) := by
  refine ms_of rfl mf_X0_stateIn (b8 rfl) ?_
  show Sim fx me_X0_stateIn 0 [(0, aR (some (0, l0))), (1, aI l1), (2, aI l2)] [] m _
  unfold f_X0_stateIn
  refine s_aload_n d_X0_stateIn_0 m0_ (s_getR cf d_X0_stateIn_1 fl_X0_68 (s_nk fun i1 => (s_iload_n d_X0_stateIn_4 m1_ (s_ldR d_X0_stateIn_5 ka_17 ta_17 rfl rfl fun r2 => (s_nk fun i3 => ?_)))))
  refine s_iload_n d_X0_stateIn_6 m2_ (s_iconst d_X0_stateIn_7 n_2 (s_idiv d_X0_stateIn_8 (s_ldN d_X0_stateIn_9 ka_18 rfl fun v4 => (s_istore_n (L' := [(3, aI v4), (0, aR (some (0, l0))), (1, aI l1), (2, aI l2)]) d_X0_stateIn_10 (b8 rfl) rfl (s_iload_n d_X0_stateIn_11 m0_ ?_)))))
  refine s_iconst d_X0_stateIn_12 n_m1 (s_icmp_ne (tgt := 18) d_X0_stateIn_13 rfl ?_ ?_)
  · refine s_aload_n d_X0_stateIn_18 m1_ (s_getR cf d_X0_stateIn_19 fl_X0_55 (s_nk fun i5 => (s_iload_n d_X0_stateIn_22 m3_ (s_iconst d_X0_stateIn_23 n_2 (s_aload_n d_X0_stateIn_24 m1_ ?_)))))
    refine s_getN cf d_X0_stateIn_25 fl_X0_18 (s_imul d_X0_stateIn_28 rfl rfl (s_ck (s_idiv d_X0_stateIn_29 (s_ldR d_X0_stateIn_30 ka_15 ta_15 rfl rfl fun r6 => (s_nk fun i7 => ?_)))))
    refine s_aload_n d_X0_stateIn_31 m1_ (s_getR cf d_X0_stateIn_32 fl_X0_42 (s_nk fun i8 => (s_aload_n d_X0_stateIn_35 m1_ (s_iload_n d_X0_stateIn_36 m3_ (s_pI (r_V d_X0_stateIn_37 k_X0_formeNumber w_988 rfl rfl) ms_X0_formeNumber (b8 rfl) rfl rfl rfl fun v9 => ?_)))))
    exact s_ldR d_X0_stateIn_40 ka_14 ta_14 rfl rfl fun r10 => (s_nk fun i11 => (s_iload_n d_X0_stateIn_41 m0_ (s_pI (r_V d_X0_stateIn_42 k_X8_stateOn w_1213 rfl rfl) ms_X8_stateOn (b8 rfl) rfl rfl rfl fun v12 => (s_iret d_X0_stateIn_45 rfl rfl))))
  exact s_iconst d_X0_stateIn_16 n_m1 (s_iret d_X0_stateIn_17 rfl rfl)
theorem d_X0_hasSameStates_0 : dk me_X0_hasSameStates 0 (.iconst 0) 1 1 := And.intro (by decide +kernel) rfl
theorem d_X0_hasSameStates_1 : dk me_X0_hasSameStates 1 (.istore_n 3) 1 2 := And.intro (by decide +kernel) rfl
theorem d_X0_hasSameStates_2 : dk me_X0_hasSameStates 2 (.iload_n 3) 1 3 := And.intro (by decide +kernel) rfl
theorem d_X0_hasSameStates_3 : dk me_X0_hasSameStates 3 (.aload_n 0) 1 4 := And.intro (by decide +kernel) rfl
theorem d_X0_hasSameStates_4 : dk me_X0_hasSameStates 4 (.getfield 33) 3 7 := And.intro (by decide +kernel) rfl
theorem d_X0_hasSameStates_7 : dk me_X0_hasSameStates 7 (.arraylength) 1 8 := And.intro (by decide +kernel) rfl
theorem d_X0_hasSameStates_8 : dk me_X0_hasSameStates 8 (.if_icmp .ge 26) 3 11 := And.intro (by decide +kernel) rfl
theorem d_X0_hasSameStates_11 : dk me_X0_hasSameStates 11 (.aload_n 0) 1 12 := And.intro (by decide +kernel) rfl
theorem d_X0_hasSameStates_12 : dk me_X0_hasSameStates 12 (.iload_n 1) 1 13 := And.intro (by decide +kernel) rfl
theorem d_X0_hasSameStates_13 : dk me_X0_hasSameStates 13 (.iload_n 3) 1 14 := And.intro (by decide +kernel) rfl
theorem d_X0_hasSameStates_14 : dk me_X0_hasSameStates 14 (.invokevirtual 137) 3 17 := And.intro (by decide +kernel) rfl
theorem d_X0_hasSameStates_17 : dk me_X0_hasSameStates 17 (.aload_n 0) 1 18 := And.intro (by decide +kernel) rfl
theorem d_X0_hasSameStates_18 : dk me_X0_hasSameStates 18 (.iload_n 2) 1 19 := And.intro (by decide +kernel) rfl
theorem d_X0_hasSameStates_19 : dk me_X0_hasSameStates 19 (.iload_n 3) 1 20 := And.intro (by decide +kernel) rfl
theorem d_X0_hasSameStates_20 : dk me_X0_hasSameStates 20 (.invokevirtual 137) 3 23 := And.intro (by decide +kernel) rfl
theorem d_X0_hasSameStates_23 : dk me_X0_hasSameStates 23 (.if_icmp .eq 5) 3 26 := And.intro (by decide +kernel) rfl
theorem d_X0_hasSameStates_26 : dk me_X0_hasSameStates 26 (.iconst 0) 1 27 := And.intro (by decide +kernel) rfl
theorem d_X0_hasSameStates_27 : dk me_X0_hasSameStates 27 (.ireturn) 1 28 := And.intro (by decide +kernel) rfl
theorem d_X0_hasSameStates_28 : dk me_X0_hasSameStates 28 (.iinc 3 1) 3 31 := And.intro (by decide +kernel) rfl
theorem d_X0_hasSameStates_31 : dk me_X0_hasSameStates 31 (.goto (-29)) 3 34 := And.intro (by decide +kernel) rfl
theorem d_X0_hasSameStates_34 : dk me_X0_hasSameStates 34 (.iconst 1) 1 35 := And.intro (by decide +kernel) rfl
theorem d_X0_hasSameStates_35 : dk me_X0_hasSameStates 35 (.ireturn) 1 36 := And.intro (by decide +kernel) rfl
theorem ms_X0_hasSameStates {fx : FX} {m : MM} {l0 : Nat} {l1 : Int} {l2 : Int} : MS fx me_X0_hasSameStates [aR (some (0, l0)), aI l1, aI l2] m ((f_X0_hasSameStates m l0 l1 l2).bind fun v => some (.inl (some (aI v)), m)) := by
  refine ms_of rfl mf_X0_hasSameStates (b8 rfl) ?_
  show Sim fx me_X0_hasSameStates 0 [(0, aR (some (0, l0))), (1, aI l1), (2, aI l2)] [] m _
  unfold f_X0_hasSameStates
  have hj_X0_hasSameStates_0_34 : Sim fx me_X0_hasSameStates 34 [] [] m ((j_X0_hasSameStates_0_34 m).bind (fun v => some (.inl (some (aI v)), m))) := by
    unfold j_X0_hasSameStates_0_34
    exact s_iconst d_X0_hasSameStates_34 n_1 (s_zretl d_X0_hasSameStates_35 rfl (by decide) rfl)
  refine s_iconst d_X0_hasSameStates_0 n_0 (s_istore_n (L' := [(3, aI 0), (0, aR (some (0, l0))), (1, aI l1), (2, aI l2)]) d_X0_hasSameStates_1 (b8 rfl) rfl (s_sub (subc m0_ (subc m1_ (subc m2_ (subc m3_ sub0)))) (s_lp2 (fun s => [(3, aI s), (0, aR (some (0, l0))), (1, aI l1), (2, aI l2)]) (fun s => m) 0 fun k2 hx2 s ih0 => ?_)))
  obtain ⟨l3_2, rfl⟩ : ∃ q, q = s := ⟨s, rfl⟩
  have ih2 := ih0
  clear ih0
  try dsimp only
  unfold b_X0_hasSameStates_2
  refine s_iload_n d_X0_hasSameStates_2 m0_ (s_aload_n d_X0_hasSameStates_3 m1_ (s_getR cf d_X0_hasSameStates_4 fl_X0_33 (s_nk fun i1 => (s_len d_X0_hasSameStates_7 ka_13 ta_13 (s_icmp_ge (tgt := 34) d_X0_hasSameStates_8 rfl ?_ ?_)))))
  · exact s_exit (hx2 _) (s_sub (sub0) (hj_X0_hasSameStates_0_34 ))
  refine s_aload_n d_X0_hasSameStates_11 m1_ (s_iload_n d_X0_hasSameStates_12 m2_ (s_iload_n d_X0_hasSameStates_13 m0_ (s_pI (r_V d_X0_hasSameStates_14 k_X0_stateIn w_1261 rfl rfl) ms_X0_stateIn (b8 rfl) rfl rfl rfl fun v2 => (s_aload_n d_X0_hasSameStates_17 m1_ (s_iload_n d_X0_hasSameStates_18 m3_ ?_)))))
  refine s_iload_n d_X0_hasSameStates_19 m0_ (s_pI (r_V d_X0_hasSameStates_20 k_X0_stateIn w_1261 rfl rfl) ms_X0_stateIn (b8 rfl) rfl rfl rfl fun v3 => (s_icmp_eq (tgt := 28) d_X0_hasSameStates_23 rfl ?_ ?_))
  · exact s_iinc (L' := [(3, aI (l3_2 + 1)), (0, aR (some (0, l0))), (1, aI l1), (2, aI l2)]) d_X0_hasSameStates_28 m0_ (b8 rfl) rfl (s_goto (tgt := 2) d_X0_hasSameStates_31 rfl (s_sub (subc m0_ (subc m1_ (subc m2_ (subc m3_ sub0)))) (s_back (ih2 (l3_2 + 1)))))
  exact s_iconst d_X0_hasSameStates_26 n_0 (s_zretl d_X0_hasSameStates_27 rfl (by decide) ((hx2 _).trans rfl))
theorem d_X11_requireState_0 : dk me_X11_requireState 0 (.iload_n 0) 1 1 := And.intro (by decide +kernel) rfl
theorem d_X11_requireState_1 : dk me_X11_requireState 1 (.ifCond .ne 14) 3 4 := And.intro (by decide +kernel) rfl
theorem d_X11_requireState_4 : dk me_X11_requireState 4 (.new 458) 3 7 := And.intro (by decide +kernel) rfl
theorem d_X11_requireState_7 : dk me_X11_requireState 7 (.dup) 1 8 := And.intro (by decide +kernel) rfl
theorem d_X11_requireState_8 : dk me_X11_requireState 8 (.ldc_w 460) 3 11 := And.intro (by decide +kernel) rfl
theorem d_X11_requireState_11 : dk me_X11_requireState 11 (.invokespecial 462) 3 14 := And.intro (by decide +kernel) rfl
theorem d_X11_requireState_14 : dk me_X11_requireState 14 (.athrow) 1 15 := And.intro (by decide +kernel) rfl
theorem d_X11_requireState_15 : dk me_X11_requireState 15 (.return_) 1 16 := And.intro (by decide +kernel) rfl
theorem ms_X11_requireState {fx : FX} {m : MM} {l0 : Int} : MS fx me_X11_requireState [aI l0] m (f_X11_requireState m l0) := by
  refine ms_of rfl mf_X11_requireState (b8 rfl) ?_
  refine s_top ?_
  show Sim fx me_X11_requireState 0 [(0, aI l0)] [] m _
  unfold f_X11_requireState
  refine s_iload_n d_X11_requireState_0 m0_ (s_if_ne (tgt := 15) d_X11_requireState_1 rfl ?_ ?_)
  · exact s_vret d_X11_requireState_15 rfl rfl
  exact s_throw (e := 2) (text := "the house is not in a state for this") (names := ["java/lang/RuntimeException", "java/lang/Exception"]) rfl rfl (by decide +kernel) (by decide +kernel) (b8 rfl) wk_tf_458_462 wi_2 tf_458_462 gtf_458_462 (by decide) d_X11_requireState_4 d_X11_requireState_7 d_X11_requireState_8 d_X11_requireState_11 d_X11_requireState_14 (b8 rfl) (b8 rfl) rfl
theorem d_X11_alike_0 : dk me_X11_alike 0 (.aload_n 0) 1 1 := And.intro (by decide +kernel) rfl
theorem d_X11_alike_1 : dk me_X11_alike 1 (.iload_n 1) 1 2 := And.intro (by decide +kernel) rfl
theorem d_X11_alike_2 : dk me_X11_alike 2 (.invokevirtual 143) 3 5 := And.intro (by decide +kernel) rfl
theorem d_X11_alike_5 : dk me_X11_alike 5 (.astore_n 3) 1 6 := And.intro (by decide +kernel) rfl
theorem d_X11_alike_6 : dk me_X11_alike 6 (.aload_n 3) 1 7 := And.intro (by decide +kernel) rfl
theorem d_X11_alike_7 : dk me_X11_alike 7 (.iload_n 2) 1 8 := And.intro (by decide +kernel) rfl
theorem d_X11_alike_8 : dk me_X11_alike 8 (.invokevirtual 369) 3 11 := And.intro (by decide +kernel) rfl
theorem d_X11_alike_11 : dk me_X11_alike 11 (.invokestatic 115) 3 14 := And.intro (by decide +kernel) rfl
theorem d_X11_alike_14 : dk me_X11_alike 14 (.aload_n 3) 1 15 := And.intro (by decide +kernel) rfl
theorem d_X11_alike_15 : dk me_X11_alike 15 (.getfield 357) 3 18 := And.intro (by decide +kernel) rfl
theorem d_X11_alike_18 : dk me_X11_alike 18 (.invokestatic 69) 3 21 := And.intro (by decide +kernel) rfl
theorem d_X11_alike_21 : dk me_X11_alike 21 (.iconst 0) 1 22 := And.intro (by decide +kernel) rfl
theorem d_X11_alike_22 : dk me_X11_alike 22 (.istore 4) 2 24 := And.intro (by decide +kernel) rfl
theorem d_X11_alike_24 : dk me_X11_alike 24 (.iconst 0) 1 25 := And.intro (by decide +kernel) rfl
theorem d_X11_alike_25 : dk me_X11_alike 25 (.istore 5) 2 27 := And.intro (by decide +kernel) rfl
theorem d_X11_alike_27 : dk me_X11_alike 27 (.iload 5) 2 29 := And.intro (by decide +kernel) rfl
theorem d_X11_alike_29 : dk me_X11_alike 29 (.aload_n 3) 1 30 := And.intro (by decide +kernel) rfl
theorem d_X11_alike_30 : dk me_X11_alike 30 (.getfield 314) 3 33 := And.intro (by decide +kernel) rfl
theorem d_X11_alike_33 : dk me_X11_alike 33 (.if_icmp .ge 22) 3 36 := And.intro (by decide +kernel) rfl
theorem d_X11_alike_36 : dk me_X11_alike 36 (.aload_n 3) 1 37 := And.intro (by decide +kernel) rfl
theorem d_X11_alike_37 : dk me_X11_alike 37 (.iload_n 2) 1 38 := And.intro (by decide +kernel) rfl
theorem d_X11_alike_38 : dk me_X11_alike 38 (.iload 5) 2 40 := And.intro (by decide +kernel) rfl
theorem d_X11_alike_40 : dk me_X11_alike 40 (.invokevirtual 395) 3 43 := And.intro (by decide +kernel) rfl
theorem d_X11_alike_43 : dk me_X11_alike 43 (.ifCond .eq 6) 3 46 := And.intro (by decide +kernel) rfl
theorem d_X11_alike_46 : dk me_X11_alike 46 (.iinc 4 1) 3 49 := And.intro (by decide +kernel) rfl
theorem d_X11_alike_49 : dk me_X11_alike 49 (.iinc 5 1) 3 52 := And.intro (by decide +kernel) rfl
theorem d_X11_alike_52 : dk me_X11_alike 52 (.goto (-25)) 3 55 := And.intro (by decide +kernel) rfl
theorem d_X11_alike_55 : dk me_X11_alike 55 (.iload 4) 2 57 := And.intro (by decide +kernel) rfl
theorem d_X11_alike_57 : dk me_X11_alike 57 (.ireturn) 1 58 := And.intro (by decide +kernel) rfl
theorem ms_X11_alike {fx : FX} {m : MM} {l0 : Nat} {l1 : Int} {l2 : Int} : MS fx me_X11_alike [aR (some (11, l0)), aI l1, aI l2] m (f_X11_alike m l0 l1 l2) := by
  refine ms_of rfl mf_X11_alike (b8 rfl) ?_
  refine s_top ?_
  show Sim fx me_X11_alike 0 [(0, aR (some (11, l0))), (1, aI l1), (2, aI l2)] [] m _
  unfold f_X11_alike
  have hj_X11_alike_0_55 : ∀ (m_55 : MM) (l4_55 : Int), Sim fx me_X11_alike 55 [(4, aI l4_55)] [] m_55 ((j_X11_alike_0_55 m_55 l4_55).bind (fun z => some z)) := by
    intro m_55 l4_55
    unfold j_X11_alike_0_55
    exact s_iload d_X11_alike_55 m0_ (s_iret d_X11_alike_57 rfl rfl)
  refine s_aload_n d_X11_alike_0 m0_ (s_iload_n d_X11_alike_1 m1_ (s_cR (r_V d_X11_alike_2 k_X11_bookAt w_814 rfl rfl) ms_X11_bookAt (b8 rfl) rfl rfl rfl (fun h => by cases h) (fun _ _ => Or.inr rfl) fun r2 m1 => (s_nk fun i3 => (s_astore_n (L' := [(3, aR (some (0, i3))), (0, aR (some (11, l0))), (1, aI l1), (2, aI l2)]) d_X11_alike_5 (b8 rfl) rfl (s_aload_n d_X11_alike_6 m0_ ?_)))))
  refine s_iload_n d_X11_alike_7 m3_ (s_pI (r_V d_X11_alike_8 k_X0_hasCopy w_1187 rfl rfl) ms_X0_hasCopy (b8 rfl) rfl rfl rfl fun v4 => (s_cV (r_S d_X11_alike_11 k_X11_requireIndex w_451 rfl rfl) ms_X11_requireIndex (b8 rfl) rfl rfl rfl (fun h => by cases h) (fun _ _ => Or.inr rfl) fun m5 => (s_aload_n d_X11_alike_14 m0_ (s_getB cf d_X11_alike_15 fl_X11_357 (s_cV (r_S d_X11_alike_18 k_X11_requireState w_363 rfl rfl) ms_X11_requireState (b8 rfl) rfl rfl rfl (fun h => by cases h) (fun _ _ => Or.inr rfl) fun m7 => ?_)))))
  refine s_iconst d_X11_alike_21 n_0 (s_istore (L' := [(4, aI 0), (3, aR (some (0, i3))), (0, aR (some (11, l0))), (1, aI l1), (2, aI l2)]) d_X11_alike_22 (b8 rfl) rfl (s_iconst d_X11_alike_24 n_0 (s_istore (L' := [(5, aI 0), (4, aI 0), (3, aR (some (0, i3))), (0, aR (some (11, l0))), (1, aI l1), (2, aI l2)]) d_X11_alike_25 (b8 rfl) rfl (s_sub (subc m1_ (subc m0_ (subc m5_ (subc m2_ sub0)))) (s_lp2 (fun s => [(4, aI (s.1)), (5, aI (s.2)), (2, aI l2), (3, aR (some (0, i3)))]) (fun s => m7) (0, 0) fun k27 hx27 s ih0 => ?_)))))
  obtain ⟨l4_27, l5_27⟩ := s
  have ih27 := ih0
  clear ih0
  try dsimp only
  unfold b_X11_alike_27
  refine s_iload d_X11_alike_27 m1_ (s_aload_n d_X11_alike_29 m3_ (s_getN cf d_X11_alike_30 fl_X11_314 (s_icmp_ge (tgt := 55) d_X11_alike_33 rfl ?_ ?_)))
  · exact s_exit (hx27 _) (s_sub (subc m0_ sub0) (hj_X11_alike_0_55 m7 l4_27))
  refine s_aload_n d_X11_alike_36 m3_ (s_iload_n d_X11_alike_37 m2_ (s_iload d_X11_alike_38 m1_ (s_pI (r_V d_X11_alike_40 k_X0_hasSameStates w_1257 rfl rfl) ms_X0_hasSameStates (b8 rfl) rfl rfl rfl fun v9 => (s_if_eq (tgt := 49) d_X11_alike_43 rfl ?_ ?_))))
  · exact s_iinc (L' := [(5, aI (l5_27 + 1)), (4, aI l4_27), (2, aI l2), (3, aR (some (0, i3)))]) d_X11_alike_49 m1_ (b8 rfl) rfl (s_goto (tgt := 27) d_X11_alike_52 rfl (s_sub (subc m1_ (subc m0_ (subc m2_ (subc m3_ sub0)))) (s_back (ih27 (l4_27, (l5_27 + 1))))))
  exact s_iinc (L' := [(4, aI (l4_27 + 1)), (5, aI l5_27), (2, aI l2), (3, aR (some (0, i3)))]) d_X11_alike_46 m0_ (b8 rfl) rfl (s_iinc (L' := [(5, aI (l5_27 + 1)), (4, aI (l4_27 + 1)), (2, aI l2), (3, aR (some (0, i3)))]) d_X11_alike_49 m1_ (b8 rfl) rfl (s_goto (tgt := 27) d_X11_alike_52 rfl (s_sub (subc m1_ (subc m0_ (subc m2_ (subc m3_ sub0)))) (s_back (ih27 ((l4_27 + 1), (l5_27 + 1)))))))
theorem d_L_alike_0 : dk me_L_alike 0 (.aload_n 3) 1 1 := And.intro (by decide +kernel) rfl
theorem d_L_alike_1 : dk me_L_alike 1 (.iconst 0) 1 2 := And.intro (by decide +kernel) rfl
theorem d_L_alike_2 : dk me_L_alike 2 (.aload_n 0) 1 3 := And.intro (by decide +kernel) rfl
theorem d_L_alike_3 : dk me_L_alike 3 (.iload_n 1) 1 4 := And.intro (by decide +kernel) rfl
theorem d_L_alike_4 : dk me_L_alike 4 (.iload_n 2) 1 5 := And.intro (by decide +kernel) rfl
theorem d_L_alike_5 : dk me_L_alike 5 (.invokevirtual 114) 3 8 := And.intro (by decide +kernel) rfl
theorem d_L_alike_8 : dk me_L_alike 8 (.i2l) 1 9 := And.intro (by decide +kernel) rfl
theorem d_L_alike_9 : dk me_L_alike 9 (.lastore) 1 10 := And.intro (by decide +kernel) rfl
theorem d_L_alike_10 : dk me_L_alike 10 (.goto 11) 3 13 := And.intro (by decide +kernel) rfl
theorem d_L_alike_13 : dk me_L_alike 13 (.astore 4) 2 15 := And.intro (by decide +kernel) rfl
theorem d_L_alike_15 : dk me_L_alike 15 (.iconst 1) 1 16 := And.intro (by decide +kernel) rfl
theorem d_L_alike_16 : dk me_L_alike 16 (.ireturn) 1 17 := And.intro (by decide +kernel) rfl
theorem d_L_alike_17 : dk me_L_alike 17 (.astore 4) 2 19 := And.intro (by decide +kernel) rfl
theorem d_L_alike_19 : dk me_L_alike 19 (.iconst 2) 1 20 := And.intro (by decide +kernel) rfl
theorem d_L_alike_20 : dk me_L_alike 20 (.ireturn) 1 21 := And.intro (by decide +kernel) rfl
theorem d_L_alike_21 : dk me_L_alike 21 (.iconst 0) 1 22 := And.intro (by decide +kernel) rfl
theorem d_L_alike_22 : dk me_L_alike 22 (.ireturn) 1 23 := And.intro (by decide +kernel) rfl
theorem ms_L_alike {fx : FX} {m : MM} {l0 : Nat} {l1 : Int} {l2 : Int} {l3 : Nat} : MS fx me_L_alike [aR (some (11, l0)), aI l1, aI l2, aR (some (131, l3))] m (f_L_alike m l0 l1 l2 l3) := by
  refine ms_ofH rfl mf_L_alike (b8 rfl) ?_
  refine s_top ?_
  show Sim fx me_L_alike 0 [(0, aR (some (11, l0))), (1, aI l1), (2, aI l2), (3, aR (some (131, l3)))] [] m _
  unfold f_L_alike
  refine s_aload_n d_L_alike_0 m3_ (s_iconst d_L_alike_1 n_0 (s_aload_n d_L_alike_2 m0_ (s_iload_n d_L_alike_3 m1_ (s_iload_n d_L_alike_4 m2_ (s_cIC (r_V d_L_alike_5 k_X11_alike w_1253 rfl rfl) ms_X11_alike (b8 rfl) rfl rfl ?_ ?_ ?_ fun v2 m1 => ?_)))))
  · refine fun mx => Or.inr ⟨13, ⟨rfl, by decide, 0, wx_29_0, Or.inl ⟨rfl, rfl⟩⟩, fun qx => ?_⟩
    exact s_astoreV (L' := [(4, aV (.ref qx)), (0, aR (some (11, l0))), (1, aI l1), (2, aI l2), (3, aR (some (131, l3)))]) d_L_alike_13 (b8 rfl) rfl (s_iconst d_L_alike_15 n_1 (s_iret d_L_alike_16 rfl rfl))
  · exact fun _ => Or.inl rfl
  · refine fun mx => Or.inr ⟨17, ⟨rfl, by decide, 0, wx_29_0, Or.inr ⟨by decide, ⟨rfl, by decide, 2, wx_15_2, Or.inl ⟨rfl, rfl⟩⟩⟩⟩, fun qx => ?_⟩
    exact s_astoreV (L' := [(4, aV (.ref qx)), (0, aR (some (11, l0))), (1, aI l1), (2, aI l2), (3, aR (some (131, l3)))]) d_L_alike_17 (b8 rfl) rfl (s_iconst d_L_alike_19 n_2 (s_iret d_L_alike_20 rfl rfl))
  exact s_i2l d_L_alike_8 (s_stL d_L_alike_9 ka_131 rfl fun m3 => (s_goto (tgt := 21) d_L_alike_10 rfl (s_iconst d_L_alike_21 n_0 (s_iret d_L_alike_22 rfl rfl))))
theorem d_X0_gather_0 : dk me_X0_gather 0 (.iconst 0) 1 1 := And.intro (by decide +kernel) rfl
theorem d_X0_gather_1 : dk me_X0_gather 1 (.istore_n 1) 1 2 := And.intro (by decide +kernel) rfl
theorem d_X0_gather_2 : dk me_X0_gather 2 (.iload_n 1) 1 3 := And.intro (by decide +kernel) rfl
theorem d_X0_gather_3 : dk me_X0_gather 3 (.aload_n 0) 1 4 := And.intro (by decide +kernel) rfl
theorem d_X0_gather_4 : dk me_X0_gather 4 (.getfield 28) 3 7 := And.intro (by decide +kernel) rfl
theorem d_X0_gather_7 : dk me_X0_gather 7 (.if_icmp .ge 57) 3 10 := And.intro (by decide +kernel) rfl
theorem d_X0_gather_10 : dk me_X0_gather 10 (.iconst 0) 1 11 := And.intro (by decide +kernel) rfl
theorem d_X0_gather_11 : dk me_X0_gather 11 (.istore_n 2) 1 12 := And.intro (by decide +kernel) rfl
theorem d_X0_gather_12 : dk me_X0_gather 12 (.iload_n 2) 1 13 := And.intro (by decide +kernel) rfl
theorem d_X0_gather_13 : dk me_X0_gather 13 (.aload_n 0) 1 14 := And.intro (by decide +kernel) rfl
theorem d_X0_gather_14 : dk me_X0_gather 14 (.getfield 68) 3 17 := And.intro (by decide +kernel) rfl
theorem d_X0_gather_17 : dk me_X0_gather 17 (.iload_n 1) 1 18 := And.intro (by decide +kernel) rfl
theorem d_X0_gather_18 : dk me_X0_gather 18 (.aaload) 1 19 := And.intro (by decide +kernel) rfl
theorem d_X0_gather_19 : dk me_X0_gather 19 (.arraylength) 1 20 := And.intro (by decide +kernel) rfl
theorem d_X0_gather_20 : dk me_X0_gather 20 (.if_icmp .ge 38) 3 23 := And.intro (by decide +kernel) rfl
theorem d_X0_gather_23 : dk me_X0_gather 23 (.aload_n 0) 1 24 := And.intro (by decide +kernel) rfl
theorem d_X0_gather_24 : dk me_X0_gather 24 (.getfield 68) 3 27 := And.intro (by decide +kernel) rfl
theorem d_X0_gather_27 : dk me_X0_gather 27 (.iload_n 1) 1 28 := And.intro (by decide +kernel) rfl
theorem d_X0_gather_28 : dk me_X0_gather 28 (.aaload) 1 29 := And.intro (by decide +kernel) rfl
theorem d_X0_gather_29 : dk me_X0_gather 29 (.iload_n 2) 1 30 := And.intro (by decide +kernel) rfl
theorem d_X0_gather_30 : dk me_X0_gather 30 (.iload_n 1) 1 31 := And.intro (by decide +kernel) rfl
theorem d_X0_gather_31 : dk me_X0_gather 31 (.aload_n 0) 1 32 := And.intro (by decide +kernel) rfl
theorem d_X0_gather_32 : dk me_X0_gather 32 (.getfield 55) 3 35 := And.intro (by decide +kernel) rfl
theorem d_X0_gather_35 : dk me_X0_gather 35 (.iload_n 2) 1 36 := And.intro (by decide +kernel) rfl
theorem d_X0_gather_36 : dk me_X0_gather 36 (.aload_n 0) 1 37 := And.intro (by decide +kernel) rfl
theorem d_X0_gather_37 : dk me_X0_gather 37 (.getfield 18) 3 40 := And.intro (by decide +kernel) rfl
theorem d_X0_gather_40 : dk me_X0_gather 40 (.idiv) 1 41 := And.intro (by decide +kernel) rfl
theorem d_X0_gather_41 : dk me_X0_gather 41 (.aaload) 1 42 := And.intro (by decide +kernel) rfl
theorem d_X0_gather_42 : dk me_X0_gather 42 (.getfield 127) 3 45 := And.intro (by decide +kernel) rfl
theorem d_X0_gather_45 : dk me_X0_gather 45 (.iadd) 1 46 := And.intro (by decide +kernel) rfl
theorem d_X0_gather_46 : dk me_X0_gather 46 (.aload_n 0) 1 47 := And.intro (by decide +kernel) rfl
theorem d_X0_gather_47 : dk me_X0_gather 47 (.getfield 28) 3 50 := And.intro (by decide +kernel) rfl
theorem d_X0_gather_50 : dk me_X0_gather 50 (.irem) 1 51 := And.intro (by decide +kernel) rfl
theorem d_X0_gather_51 : dk me_X0_gather 51 (.iastore) 1 52 := And.intro (by decide +kernel) rfl
theorem d_X0_gather_52 : dk me_X0_gather 52 (.iinc 2 1) 3 55 := And.intro (by decide +kernel) rfl
theorem d_X0_gather_55 : dk me_X0_gather 55 (.goto (-43)) 3 58 := And.intro (by decide +kernel) rfl
theorem d_X0_gather_58 : dk me_X0_gather 58 (.iinc 1 1) 3 61 := And.intro (by decide +kernel) rfl
theorem d_X0_gather_61 : dk me_X0_gather 61 (.goto (-59)) 3 64 := And.intro (by decide +kernel) rfl
theorem d_X0_gather_64 : dk me_X0_gather 64 (.aload_n 0) 1 65 := And.intro (by decide +kernel) rfl
theorem d_X0_gather_65 : dk me_X0_gather 65 (.iconst 1) 1 66 := And.intro (by decide +kernel) rfl
theorem d_X0_gather_66 : dk me_X0_gather 66 (.putfield 130) 3 69 := And.intro (by decide +kernel) rfl
theorem d_X0_gather_69 : dk me_X0_gather 69 (.return_) 1 70 := And.intro (by decide +kernel) rfl
theorem ms_X0_gather {fx : FX} {m : MM} {l0 : Nat} : MS fx me_X0_gather [aR (some (0, l0))] m (f_X0_gather m l0) := by
  refine ms_of rfl mf_X0_gather (b8 rfl) ?_
  refine s_top ?_
  show Sim fx me_X0_gather 0 [(0, aR (some (0, l0)))] [] m _
  unfold f_X0_gather
  have hj_X0_gather_0_64 : ∀ (m_64 : MM) (l0_64 : Nat), Sim fx me_X0_gather 64 [(0, aR (some (0, l0_64)))] [] m_64 ((j_X0_gather_0_64 m_64 l0_64).bind (fun z => some z)) := by
    intro m_64 l0_64
    unfold j_X0_gather_0_64
    exact s_aload_n d_X0_gather_64 m0_ (s_iconst d_X0_gather_65 n_1 (s_putBl cf d_X0_gather_66 fl_X0_130 (fun h => by cases h) (by decide) fun m11 => (s_vret d_X0_gather_69 rfl rfl)))
  refine s_iconst d_X0_gather_0 n_0 (s_istore_n (L' := [(1, aI 0), (0, aR (some (0, l0)))]) d_X0_gather_1 (b8 rfl) rfl (s_sub (subc m0_ (subc m1_ sub0)) (s_lp2 (fun s => [(1, aI (s.1)), (0, aR (some (0, l0)))]) (fun s => s.2) (0, m) fun k2 hx2 s ih0 => ?_)))
  obtain ⟨l1_2, mm_2⟩ := s
  have ih2 := ih0
  clear ih0
  try dsimp only
  unfold b_X0_gather_2
  have hj_X0_gather_2_58 : ∀ (m_58 : MM) (l1_58 : Int), Sim fx me_X0_gather 58 [(0, aR (some (0, l0))), (1, aI l1_58)] [] m_58 ((j_X0_gather_2_58 m_58 l0 l1_58).bind k2) := by
    intro m_58 l1_58
    unfold j_X0_gather_2_58
    exact s_iinc (L' := [(1, aI (l1_58 + 1)), (0, aR (some (0, l0)))]) d_X0_gather_58 m1_ (b8 rfl) rfl (s_goto (tgt := 2) d_X0_gather_61 rfl (s_sub (subc m0_ (subc m1_ sub0)) (s_back (ih2 ((l1_58 + 1), m_58)))))
  refine s_iload_n d_X0_gather_2 m0_ (s_aload_n d_X0_gather_3 m1_ (s_getN cf d_X0_gather_4 fl_X0_28 (s_icmp_ge (tgt := 64) d_X0_gather_7 rfl ?_ ?_)))
  · exact s_exit (hx2 _) (s_sub (subc m1_ sub0) (hj_X0_gather_0_64 mm_2 l0))
  refine s_iconst d_X0_gather_10 n_0 (s_istore_n (L' := [(2, aI 0), (1, aI l1_2), (0, aR (some (0, l0)))]) d_X0_gather_11 (b8 rfl) rfl (s_sub (subc m0_ (subc m2_ (subc m1_ sub0))) (s_lp2 (fun s => [(2, aI (s.1)), (0, aR (some (0, l0))), (1, aI l1_2)]) (fun s => s.2) (0, mm_2) fun k12 hx12 s ih0 => ?_)))
  obtain ⟨l2_12, mm_12⟩ := s
  have ih12 := ih0
  clear ih0
  try dsimp only
  unfold b_X0_gather_12
  refine s_iload_n d_X0_gather_12 m0_ (s_aload_n d_X0_gather_13 m1_ (s_getR cf d_X0_gather_14 fl_X0_68 (s_nk fun i1 => (s_iload_n d_X0_gather_17 m2_ (s_ldR d_X0_gather_18 ka_17 ta_17 rfl rfl fun r2 => ?_)))))
  refine s_nk fun i3 => (s_len d_X0_gather_19 ka_18 ta_18 (s_icmp_ge (tgt := 58) d_X0_gather_20 rfl ?_ ?_))
  · exact s_exit (hx12 _) (s_sub (subc m1_ (subc m2_ sub0)) (hj_X0_gather_2_58 mm_12 l1_2))
  refine s_aload_n d_X0_gather_23 m1_ (s_getR cf d_X0_gather_24 fl_X0_68 (s_nk fun i4 => (s_iload_n d_X0_gather_27 m2_ (s_ldR d_X0_gather_28 ka_17 ta_17 rfl rfl fun r5 => (s_nk fun i6 => ?_)))))
  refine s_iload_n d_X0_gather_29 m0_ (s_iload_n d_X0_gather_30 m2_ (s_aload_n d_X0_gather_31 m1_ (s_getR cf d_X0_gather_32 fl_X0_55 (s_nk fun i7 => (s_iload_n d_X0_gather_35 m0_ ?_)))))
  refine s_aload_n d_X0_gather_36 m1_ (s_getN cf d_X0_gather_37 fl_X0_18 (s_idiv d_X0_gather_40 (s_ldR d_X0_gather_41 ka_15 ta_15 rfl rfl fun r8 => (s_nk fun i9 => (s_getN cf d_X0_gather_42 fl_X0_127 ?_)))))
  refine s_iadd d_X0_gather_45 rfl rfl (s_aload_n d_X0_gather_46 m1_ (s_getN cf d_X0_gather_47 fl_X0_28 (s_ck1 (s_irem d_X0_gather_50 (s_stN d_X0_gather_51 ka_18 rfl fun m10 => ?_)))))
  exact s_iinc (L' := [(2, aI (l2_12 + 1)), (0, aR (some (0, l0))), (1, aI l1_2)]) d_X0_gather_52 m0_ (b8 rfl) rfl (s_goto (tgt := 12) d_X0_gather_55 rfl (s_sub (subc m0_ (subc m1_ (subc m2_ sub0))) (s_back (ih12 ((l2_12 + 1), m10)))))
theorem d_X2_wasDone_0 : dk me_X2_wasDone 0 (.aload_n 0) 1 1 := And.intro (by decide +kernel) rfl
theorem d_X2_wasDone_1 : dk me_X2_wasDone 1 (.getfield 15) 3 4 := And.intro (by decide +kernel) rfl
theorem d_X2_wasDone_4 : dk me_X2_wasDone 4 (.iconst 3) 1 5 := And.intro (by decide +kernel) rfl
theorem d_X2_wasDone_5 : dk me_X2_wasDone 5 (.if_icmp .eq 11) 3 8 := And.intro (by decide +kernel) rfl
theorem d_X2_wasDone_8 : dk me_X2_wasDone 8 (.aload_n 0) 1 9 := And.intro (by decide +kernel) rfl
theorem d_X2_wasDone_9 : dk me_X2_wasDone 9 (.getfield 15) 3 12 := And.intro (by decide +kernel) rfl
theorem d_X2_wasDone_12 : dk me_X2_wasDone 12 (.iconst 4) 1 13 := And.intro (by decide +kernel) rfl
theorem d_X2_wasDone_13 : dk me_X2_wasDone 13 (.if_icmp .ne 7) 3 16 := And.intro (by decide +kernel) rfl
theorem d_X2_wasDone_16 : dk me_X2_wasDone 16 (.iconst 1) 1 17 := And.intro (by decide +kernel) rfl
theorem d_X2_wasDone_17 : dk me_X2_wasDone 17 (.goto 4) 3 20 := And.intro (by decide +kernel) rfl
theorem d_X2_wasDone_20 : dk me_X2_wasDone 20 (.iconst 0) 1 21 := And.intro (by decide +kernel) rfl
theorem d_X2_wasDone_21 : dk me_X2_wasDone 21 (.ireturn) 1 22 := And.intro (by decide +kernel) rfl
theorem ms_X2_wasDone {fx : FX} {m : MM} {l0 : Nat} : MS fx me_X2_wasDone [aR (some (2, l0))] m ((f_X2_wasDone m l0).bind fun v => some (.inl (some (aI v)), m)) := by
  refine ms_of rfl mf_X2_wasDone (b8 rfl) ?_
  show Sim fx me_X2_wasDone 0 [(0, aR (some (2, l0)))] [] m _
  unfold f_X2_wasDone
  refine s_aload_n d_X2_wasDone_0 m0_ (s_getN cf d_X2_wasDone_1 fl_X2_15 (s_iconst d_X2_wasDone_4 n_3 (s_icmp_eq (tgt := 16) d_X2_wasDone_5 rfl ?_ ?_)))
  · exact s_iconst d_X2_wasDone_16 n_1 (s_goto (tgt := 21) d_X2_wasDone_17 rfl (s_zretl d_X2_wasDone_21 rfl (by decide) rfl))
  refine s_aload_n d_X2_wasDone_8 m0_ (s_getN cf d_X2_wasDone_9 fl_X2_15 (s_iconst d_X2_wasDone_12 n_4 (s_icmp_ne (tgt := 20) d_X2_wasDone_13 rfl ?_ ?_)))
  · exact s_iconst d_X2_wasDone_20 n_0 (s_zretl d_X2_wasDone_21 rfl (by decide) rfl)
  exact s_iconst d_X2_wasDone_16 n_1 (s_goto (tgt := 21) d_X2_wasDone_17 rfl (s_zretl d_X2_wasDone_21 rfl (by decide) rfl))
theorem d_X0_isPrinted_0 : dk me_X0_isPrinted 0 (.aload_n 0) 1 1 := And.intro (by decide +kernel) rfl
theorem d_X0_isPrinted_1 : dk me_X0_isPrinted 1 (.getfield 42) 3 4 := And.intro (by decide +kernel) rfl
theorem d_X0_isPrinted_4 : dk me_X0_isPrinted 4 (.astore_n 1) 1 5 := And.intro (by decide +kernel) rfl
theorem d_X0_isPrinted_5 : dk me_X0_isPrinted 5 (.aload_n 1) 1 6 := And.intro (by decide +kernel) rfl
theorem d_X0_isPrinted_6 : dk me_X0_isPrinted 6 (.arraylength) 1 7 := And.intro (by decide +kernel) rfl
theorem d_X0_isPrinted_7 : dk me_X0_isPrinted 7 (.istore_n 2) 1 8 := And.intro (by decide +kernel) rfl
theorem d_X0_isPrinted_8 : dk me_X0_isPrinted 8 (.iconst 0) 1 9 := And.intro (by decide +kernel) rfl
theorem d_X0_isPrinted_9 : dk me_X0_isPrinted 9 (.istore_n 3) 1 10 := And.intro (by decide +kernel) rfl
theorem d_X0_isPrinted_10 : dk me_X0_isPrinted 10 (.iload_n 3) 1 11 := And.intro (by decide +kernel) rfl
theorem d_X0_isPrinted_11 : dk me_X0_isPrinted 11 (.iload_n 2) 1 12 := And.intro (by decide +kernel) rfl
theorem d_X0_isPrinted_12 : dk me_X0_isPrinted 12 (.if_icmp .ge 24) 3 15 := And.intro (by decide +kernel) rfl
theorem d_X0_isPrinted_15 : dk me_X0_isPrinted 15 (.aload_n 1) 1 16 := And.intro (by decide +kernel) rfl
theorem d_X0_isPrinted_16 : dk me_X0_isPrinted 16 (.iload_n 3) 1 17 := And.intro (by decide +kernel) rfl
theorem d_X0_isPrinted_17 : dk me_X0_isPrinted 17 (.aaload) 1 18 := And.intro (by decide +kernel) rfl
theorem d_X0_isPrinted_18 : dk me_X0_isPrinted 18 (.astore 4) 2 20 := And.intro (by decide +kernel) rfl
theorem d_X0_isPrinted_20 : dk me_X0_isPrinted 20 (.aload 4) 2 22 := And.intro (by decide +kernel) rfl
theorem d_X0_isPrinted_22 : dk me_X0_isPrinted 22 (.invokevirtual 124) 3 25 := And.intro (by decide +kernel) rfl
theorem d_X0_isPrinted_25 : dk me_X0_isPrinted 25 (.ifCond .ne 5) 3 28 := And.intro (by decide +kernel) rfl
theorem d_X0_isPrinted_28 : dk me_X0_isPrinted 28 (.iconst 0) 1 29 := And.intro (by decide +kernel) rfl
theorem d_X0_isPrinted_29 : dk me_X0_isPrinted 29 (.ireturn) 1 30 := And.intro (by decide +kernel) rfl
theorem d_X0_isPrinted_30 : dk me_X0_isPrinted 30 (.iinc 3 1) 3 33 := And.intro (by decide +kernel) rfl
theorem d_X0_isPrinted_33 : dk me_X0_isPrinted 33 (.goto (-23)) 3 36 := And.intro (by decide +kernel) rfl
theorem d_X0_isPrinted_36 : dk me_X0_isPrinted 36 (.iconst 1) 1 37 := And.intro (by decide +kernel) rfl
theorem d_X0_isPrinted_37 : dk me_X0_isPrinted 37 (.ireturn) 1 38 := And.intro (by decide +kernel) rfl
theorem ms_X0_isPrinted {fx : FX} {m : MM} {l0 : Nat} : MS fx me_X0_isPrinted [aR (some (0, l0))] m ((f_X0_isPrinted m l0).bind fun v => some (.inl (some (aI v)), m)) := by
  refine ms_of rfl mf_X0_isPrinted (b8 rfl) ?_
  show Sim fx me_X0_isPrinted 0 [(0, aR (some (0, l0)))] [] m _
  unfold f_X0_isPrinted
  have hj_X0_isPrinted_0_36 : Sim fx me_X0_isPrinted 36 [] [] m ((j_X0_isPrinted_0_36 m).bind (fun v => some (.inl (some (aI v)), m))) := by
    unfold j_X0_isPrinted_0_36
    exact s_iconst d_X0_isPrinted_36 n_1 (s_zretl d_X0_isPrinted_37 rfl (by decide) rfl)
  refine s_aload_n d_X0_isPrinted_0 m0_ (s_getR cf d_X0_isPrinted_1 fl_X0_42 (s_nk fun i1 => (s_astore_n (L' := [(1, aR (some (14, i1))), (0, aR (some (0, l0)))]) d_X0_isPrinted_4 (b8 rfl) rfl (s_aload_n d_X0_isPrinted_5 m0_ (s_len d_X0_isPrinted_6 ka_14 ta_14 ?_)))))
  refine s_istore_n (L' := [(2, aI (lenI m 14 i1)), (1, aR (some (14, i1))), (0, aR (some (0, l0)))]) d_X0_isPrinted_7 (b8 rfl) rfl (s_iconst d_X0_isPrinted_8 n_0 (s_istore_n (L' := [(3, aI 0), (2, aI (lenI m 14 i1)), (1, aR (some (14, i1))), (0, aR (some (0, l0)))]) d_X0_isPrinted_9 (b8 rfl) rfl (s_sub (subc m0_ (subc m2_ (subc m1_ sub0))) (s_lp2 (fun s => [(3, aI s), (1, aR (some (14, i1))), (2, aI (lenI m 14 i1))]) (fun s => m) 0 fun k10 hx10 s ih0 => ?_))))
  obtain ⟨l3_10, rfl⟩ : ∃ q, q = s := ⟨s, rfl⟩
  have ih10 := ih0
  clear ih0
  try dsimp only
  unfold b_X0_isPrinted_10
  refine s_iload_n d_X0_isPrinted_10 m0_ (s_iload_n d_X0_isPrinted_11 m2_ (s_icmp_ge (tgt := 36) d_X0_isPrinted_12 rfl ?_ ?_))
  · exact s_exit (hx10 _) (s_sub (sub0) (hj_X0_isPrinted_0_36 ))
  refine s_aload_n d_X0_isPrinted_15 m1_ (s_iload_n d_X0_isPrinted_16 m0_ (s_ldR d_X0_isPrinted_17 ka_14 ta_14 rfl rfl fun r2 => (s_nk fun i3 => (s_astore (L' := [(4, aR (some (2, i3))), (3, aI l3_10), (1, aR (some (14, i1))), (2, aI (lenI m 14 i1))]) d_X0_isPrinted_18 (b8 rfl) rfl (s_aload d_X0_isPrinted_20 m0_ ?_)))))
  refine s_pI (r_V d_X0_isPrinted_22 k_X2_wasDone w_1172 rfl rfl) ms_X2_wasDone (b8 rfl) rfl rfl rfl fun v4 => (s_if_ne (tgt := 30) d_X0_isPrinted_25 rfl ?_ ?_)
  · exact s_iinc (L' := [(3, aI (l3_10 + 1)), (4, aR (some (2, i3))), (1, aR (some (14, i1))), (2, aI (lenI m 14 i1))]) d_X0_isPrinted_30 m1_ (b8 rfl) rfl (s_goto (tgt := 10) d_X0_isPrinted_33 rfl (s_sub (subc m0_ (subc m2_ (subc m3_ sub0))) (s_back (ih10 (l3_10 + 1)))))
  exact s_iconst d_X0_isPrinted_28 n_0 (s_zretl d_X0_isPrinted_29 rfl (by decide) ((hx10 _).trans rfl))
theorem d_X11_bind_0 : dk me_X11_bind 0 (.aload_n 0) 1 1 := And.intro (by decide +kernel) rfl
theorem d_X11_bind_1 : dk me_X11_bind 1 (.iload_n 1) 1 2 := And.intro (by decide +kernel) rfl
theorem d_X11_bind_2 : dk me_X11_bind 2 (.invokevirtual 143) 3 5 := And.intro (by decide +kernel) rfl
theorem d_X11_bind_5 : dk me_X11_bind 5 (.astore_n 2) 1 6 := And.intro (by decide +kernel) rfl
theorem d_X11_bind_6 : dk me_X11_bind 6 (.aload_n 2) 1 7 := And.intro (by decide +kernel) rfl
theorem d_X11_bind_7 : dk me_X11_bind 7 (.getfield 357) 3 10 := And.intro (by decide +kernel) rfl
theorem d_X11_bind_10 : dk me_X11_bind 10 (.ifCond .ne 14) 3 13 := And.intro (by decide +kernel) rfl
theorem d_X11_bind_13 : dk me_X11_bind 13 (.aload_n 2) 1 14 := And.intro (by decide +kernel) rfl
theorem d_X11_bind_14 : dk me_X11_bind 14 (.invokevirtual 363) 3 17 := And.intro (by decide +kernel) rfl
theorem d_X11_bind_17 : dk me_X11_bind 17 (.ifCond .eq 7) 3 20 := And.intro (by decide +kernel) rfl
theorem d_X11_bind_20 : dk me_X11_bind 20 (.iconst 1) 1 21 := And.intro (by decide +kernel) rfl
theorem d_X11_bind_21 : dk me_X11_bind 21 (.goto 4) 3 24 := And.intro (by decide +kernel) rfl
theorem d_X11_bind_24 : dk me_X11_bind 24 (.iconst 0) 1 25 := And.intro (by decide +kernel) rfl
theorem d_X11_bind_25 : dk me_X11_bind 25 (.invokestatic 69) 3 28 := And.intro (by decide +kernel) rfl
theorem d_X11_bind_28 : dk me_X11_bind 28 (.aload_n 2) 1 29 := And.intro (by decide +kernel) rfl
theorem d_X11_bind_29 : dk me_X11_bind 29 (.invokevirtual 366) 3 32 := And.intro (by decide +kernel) rfl
theorem d_X11_bind_32 : dk me_X11_bind 32 (.aload_n 2) 1 33 := And.intro (by decide +kernel) rfl
theorem d_X11_bind_33 : dk me_X11_bind 33 (.getfield 314) 3 36 := And.intro (by decide +kernel) rfl
theorem d_X11_bind_36 : dk me_X11_bind 36 (.ireturn) 1 37 := And.intro (by decide +kernel) rfl
theorem ms_X11_bind {fx : FX} {m : MM} {l0 : Nat} {l1 : Int} : MS fx me_X11_bind [aR (some (11, l0)), aI l1] m (f_X11_bind m l0 l1) := by
  refine ms_of rfl mf_X11_bind (b8 rfl) ?_
  refine s_top ?_
  show Sim fx me_X11_bind 0 [(0, aR (some (11, l0))), (1, aI l1)] [] m _
  unfold f_X11_bind
  have hj_X11_bind_0_25 : ∀ (m_25 : MM) (l2_25 : Nat) (s0_25 : Int), Sim fx me_X11_bind 25 [(2, aR (some (0, l2_25)))] [aI s0_25] m_25 ((j_X11_bind_0_25 m_25 l2_25 s0_25).bind (fun z => some z)) := by
    intro m_25 l2_25 s0_25
    unfold j_X11_bind_0_25
    exact s_cV (r_S d_X11_bind_25 k_X11_requireState w_363 rfl rfl) ms_X11_requireState (b8 rfl) rfl rfl rfl (fun h => by cases h) (fun _ _ => Or.inr rfl) fun m5 => (s_aload_n d_X11_bind_28 m0_ (s_cV (r_V d_X11_bind_29 k_X0_gather w_1176 rfl rfl) ms_X0_gather (b8 rfl) rfl rfl rfl (fun _ _ _ => rfl) (fun _ _ => Or.inl rfl) fun m7 => (s_aload_n d_X11_bind_32 m0_ (s_getN cf d_X11_bind_33 fl_X11_314 (s_iret d_X11_bind_36 rfl rfl)))))
  have hj_X11_bind_0_24 : ∀ (m_24 : MM) (l2_24 : Nat), Sim fx me_X11_bind 24 [(2, aR (some (0, l2_24)))] [] m_24 ((j_X11_bind_0_24 m_24 l2_24).bind (fun z => some z)) := by
    intro m_24 l2_24
    unfold j_X11_bind_0_24
    exact s_iconst d_X11_bind_24 n_0 (s_sub (subc m0_ sub0) (hj_X11_bind_0_25 m_24 l2_24 0))
  refine s_aload_n d_X11_bind_0 m0_ (s_iload_n d_X11_bind_1 m1_ (s_cR (r_V d_X11_bind_2 k_X11_bookAt w_814 rfl rfl) ms_X11_bookAt (b8 rfl) rfl rfl rfl (fun h => by cases h) (fun _ _ => Or.inr rfl) fun r2 m1 => (s_nk fun i3 => (s_astore_n (L' := [(2, aR (some (0, i3))), (0, aR (some (11, l0))), (1, aI l1)]) d_X11_bind_5 (b8 rfl) rfl (s_aload_n d_X11_bind_6 m0_ ?_)))))
  refine s_getB cf d_X11_bind_7 fl_X11_357 (s_if_ne (tgt := 24) d_X11_bind_10 rfl ?_ ?_)
  · exact s_sub (subc m0_ sub0) (hj_X11_bind_0_24 m1 i3)
  refine s_aload_n d_X11_bind_13 m0_ (s_pI (r_V d_X11_bind_14 k_X0_isPrinted w_1168 rfl rfl) ms_X0_isPrinted (b8 rfl) rfl rfl rfl fun v4 => (s_if_eq (tgt := 24) d_X11_bind_17 rfl ?_ ?_))
  · exact s_sub (subc m0_ sub0) (hj_X11_bind_0_24 m1 i3)
  exact s_iconst d_X11_bind_20 n_1 (s_goto (tgt := 25) d_X11_bind_21 rfl (s_sub (subc m0_ sub0) (hj_X11_bind_0_25 m1 i3 1)))
theorem d_L_bind_0 : dk me_L_bind 0 (.aload_n 2) 1 1 := And.intro (by decide +kernel) rfl
theorem d_L_bind_1 : dk me_L_bind 1 (.iconst 0) 1 2 := And.intro (by decide +kernel) rfl
theorem d_L_bind_2 : dk me_L_bind 2 (.aload_n 0) 1 3 := And.intro (by decide +kernel) rfl
theorem d_L_bind_3 : dk me_L_bind 3 (.iload_n 1) 1 4 := And.intro (by decide +kernel) rfl
theorem d_L_bind_4 : dk me_L_bind 4 (.invokevirtual 95) 3 7 := And.intro (by decide +kernel) rfl
theorem d_L_bind_7 : dk me_L_bind 7 (.i2l) 1 8 := And.intro (by decide +kernel) rfl
theorem d_L_bind_8 : dk me_L_bind 8 (.lastore) 1 9 := And.intro (by decide +kernel) rfl
theorem d_L_bind_9 : dk me_L_bind 9 (.goto 9) 3 12 := And.intro (by decide +kernel) rfl
theorem d_L_bind_12 : dk me_L_bind 12 (.astore_n 3) 1 13 := And.intro (by decide +kernel) rfl
theorem d_L_bind_13 : dk me_L_bind 13 (.iconst 1) 1 14 := And.intro (by decide +kernel) rfl
theorem d_L_bind_14 : dk me_L_bind 14 (.ireturn) 1 15 := And.intro (by decide +kernel) rfl
theorem d_L_bind_15 : dk me_L_bind 15 (.astore_n 3) 1 16 := And.intro (by decide +kernel) rfl
theorem d_L_bind_16 : dk me_L_bind 16 (.iconst 2) 1 17 := And.intro (by decide +kernel) rfl
theorem d_L_bind_17 : dk me_L_bind 17 (.ireturn) 1 18 := And.intro (by decide +kernel) rfl
theorem d_L_bind_18 : dk me_L_bind 18 (.iconst 0) 1 19 := And.intro (by decide +kernel) rfl
theorem d_L_bind_19 : dk me_L_bind 19 (.ireturn) 1 20 := And.intro (by decide +kernel) rfl
theorem ms_L_bind {fx : FX} {m : MM} {l0 : Nat} {l1 : Int} {l2 : Nat} : MS fx me_L_bind [aR (some (11, l0)), aI l1, aR (some (131, l2))] m (f_L_bind m l0 l1 l2) := by
  refine ms_ofH rfl mf_L_bind (b8 rfl) ?_
  refine s_top ?_
  show Sim fx me_L_bind 0 [(0, aR (some (11, l0))), (1, aI l1), (2, aR (some (131, l2)))] [] m _
  unfold f_L_bind
  refine s_aload_n d_L_bind_0 m2_ (s_iconst d_L_bind_1 n_0 (s_aload_n d_L_bind_2 m0_ (s_iload_n d_L_bind_3 m1_ (s_cIC (r_V d_L_bind_4 k_X11_bind w_1164 rfl rfl) ms_X11_bind (b8 rfl) rfl rfl ?_ ?_ ?_ fun v2 m1 => ?_))))
  · refine fun mx => Or.inr ⟨12, ⟨rfl, by decide, 0, wx_29_0, Or.inl ⟨rfl, rfl⟩⟩, fun qx => ?_⟩
    exact s_astoreV_n (L' := [(3, aV (.ref qx)), (0, aR (some (11, l0))), (1, aI l1), (2, aR (some (131, l2)))]) d_L_bind_12 (b8 rfl) rfl (s_iconst d_L_bind_13 n_1 (s_iret d_L_bind_14 rfl rfl))
  · exact fun _ => Or.inl rfl
  · refine fun mx => Or.inr ⟨15, ⟨rfl, by decide, 0, wx_29_0, Or.inr ⟨by decide, ⟨rfl, by decide, 2, wx_15_2, Or.inl ⟨rfl, rfl⟩⟩⟩⟩, fun qx => ?_⟩
    exact s_astoreV_n (L' := [(3, aV (.ref qx)), (0, aR (some (11, l0))), (1, aI l1), (2, aR (some (131, l2)))]) d_L_bind_15 (b8 rfl) rfl (s_iconst d_L_bind_16 n_2 (s_iret d_L_bind_17 rfl rfl))
  exact s_i2l d_L_bind_7 (s_stL d_L_bind_8 ka_131 rfl fun m3 => (s_goto (tgt := 18) d_L_bind_9 rfl (s_iconst d_L_bind_18 n_0 (s_iret d_L_bind_19 rfl rfl))))
theorem d_X0_placeInForme_0 : dk me_X0_placeInForme 0 (.iload_n 0) 1 1 := And.intro (by decide +kernel) rfl
theorem d_X0_placeInForme_1 : dk me_X0_placeInForme 1 (.iconst 2) 1 2 := And.intro (by decide +kernel) rfl
theorem d_X0_placeInForme_2 : dk me_X0_placeInForme 2 (.iload_n 1) 1 3 := And.intro (by decide +kernel) rfl
theorem d_X0_placeInForme_3 : dk me_X0_placeInForme 3 (.imul) 1 4 := And.intro (by decide +kernel) rfl
theorem d_X0_placeInForme_4 : dk me_X0_placeInForme 4 (.irem) 1 5 := And.intro (by decide +kernel) rfl
theorem d_X0_placeInForme_5 : dk me_X0_placeInForme 5 (.iconst 2) 1 6 := And.intro (by decide +kernel) rfl
theorem d_X0_placeInForme_6 : dk me_X0_placeInForme 6 (.idiv) 1 7 := And.intro (by decide +kernel) rfl
theorem d_X0_placeInForme_7 : dk me_X0_placeInForme 7 (.ireturn) 1 8 := And.intro (by decide +kernel) rfl
theorem ms_X0_placeInForme {fx : FX} {m : MM} {l0 : Int} {l1 : Int} : MS fx me_X0_placeInForme [aI l0, aI l1] m ((f_X0_placeInForme m l0 l1).bind fun v => some (.inl (some (aI v)), m)) := by
  refine ms_of rfl mf_X0_placeInForme (b8 rfl) ?_
  show Sim fx me_X0_placeInForme 0 [(0, aI l0), (1, aI l1)] [] m _
  unfold f_X0_placeInForme
  refine s_iload_n d_X0_placeInForme_0 m0_ (s_iconst d_X0_placeInForme_1 n_2 (s_iload_n d_X0_placeInForme_2 m1_ (s_imul d_X0_placeInForme_3 rfl rfl (s_ck (s_irem d_X0_placeInForme_4 ?_)))))
  exact s_iconst d_X0_placeInForme_5 n_2 (s_idiv d_X0_placeInForme_6 (s_iret d_X0_placeInForme_7 rfl rfl))
theorem d_X0_pagesOf_0 : dk me_X0_pagesOf 0 (.iload_n 2) 1 1 := And.intro (by decide +kernel) rfl
theorem d_X0_pagesOf_1 : dk me_X0_pagesOf 1 (.anewarray 31) 3 4 := And.intro (by decide +kernel) rfl
theorem d_X0_pagesOf_4 : dk me_X0_pagesOf 4 (.astore_n 3) 1 5 := And.intro (by decide +kernel) rfl
theorem d_X0_pagesOf_5 : dk me_X0_pagesOf 5 (.iconst 0) 1 6 := And.intro (by decide +kernel) rfl
theorem d_X0_pagesOf_6 : dk me_X0_pagesOf 6 (.istore 4) 2 8 := And.intro (by decide +kernel) rfl
theorem d_X0_pagesOf_8 : dk me_X0_pagesOf 8 (.iload 4) 2 10 := And.intro (by decide +kernel) rfl
theorem d_X0_pagesOf_10 : dk me_X0_pagesOf 10 (.aload_n 1) 1 11 := And.intro (by decide +kernel) rfl
theorem d_X0_pagesOf_11 : dk me_X0_pagesOf 11 (.arraylength) 1 12 := And.intro (by decide +kernel) rfl
theorem d_X0_pagesOf_12 : dk me_X0_pagesOf 12 (.if_icmp .ge 31) 3 15 := And.intro (by decide +kernel) rfl
theorem d_X0_pagesOf_15 : dk me_X0_pagesOf 15 (.iload 4) 2 17 := And.intro (by decide +kernel) rfl
theorem d_X0_pagesOf_17 : dk me_X0_pagesOf 17 (.iload_n 2) 1 18 := And.intro (by decide +kernel) rfl
theorem d_X0_pagesOf_18 : dk me_X0_pagesOf 18 (.invokestatic 71) 3 21 := And.intro (by decide +kernel) rfl
theorem d_X0_pagesOf_21 : dk me_X0_pagesOf 21 (.iload_n 0) 1 22 := And.intro (by decide +kernel) rfl
theorem d_X0_pagesOf_22 : dk me_X0_pagesOf 22 (.if_icmp .ne 15) 3 25 := And.intro (by decide +kernel) rfl
theorem d_X0_pagesOf_25 : dk me_X0_pagesOf 25 (.aload_n 3) 1 26 := And.intro (by decide +kernel) rfl
theorem d_X0_pagesOf_26 : dk me_X0_pagesOf 26 (.iload 4) 2 28 := And.intro (by decide +kernel) rfl
theorem d_X0_pagesOf_28 : dk me_X0_pagesOf 28 (.iload_n 2) 1 29 := And.intro (by decide +kernel) rfl
theorem d_X0_pagesOf_29 : dk me_X0_pagesOf 29 (.invokestatic 75) 3 32 := And.intro (by decide +kernel) rfl
theorem d_X0_pagesOf_32 : dk me_X0_pagesOf 32 (.aload_n 1) 1 33 := And.intro (by decide +kernel) rfl
theorem d_X0_pagesOf_33 : dk me_X0_pagesOf 33 (.iload 4) 2 35 := And.intro (by decide +kernel) rfl
theorem d_X0_pagesOf_35 : dk me_X0_pagesOf 35 (.aaload) 1 36 := And.intro (by decide +kernel) rfl
theorem d_X0_pagesOf_36 : dk me_X0_pagesOf 36 (.aastore) 1 37 := And.intro (by decide +kernel) rfl
theorem d_X0_pagesOf_37 : dk me_X0_pagesOf 37 (.iinc 4 1) 3 40 := And.intro (by decide +kernel) rfl
theorem d_X0_pagesOf_40 : dk me_X0_pagesOf 40 (.goto (-32)) 3 43 := And.intro (by decide +kernel) rfl
theorem d_X0_pagesOf_43 : dk me_X0_pagesOf 43 (.aload_n 3) 1 44 := And.intro (by decide +kernel) rfl
theorem d_X0_pagesOf_44 : dk me_X0_pagesOf 44 (.areturn) 1 45 := And.intro (by decide +kernel) rfl
theorem ms_X0_pagesOf {fx : FX} {m : MM} {l0 : Int} {l1 : Nat} {l2 : Int} : MS fx me_X0_pagesOf [aI l0, aR (some (13, l1)), aI l2] m (f_X0_pagesOf m l0 l1 l2) := by
  refine ms_of rfl mf_X0_pagesOf (b8 rfl) ?_
  refine s_top ?_
  show Sim fx me_X0_pagesOf 0 [(0, aI l0), (1, aR (some (13, l1))), (2, aI l2)] [] m _
  unfold f_X0_pagesOf
  have hj_X0_pagesOf_0_43 : ∀ (m_43 : MM) (l3_43 : Nat), Sim fx me_X0_pagesOf 43 [(3, aR (some (19, l3_43)))] [] m_43 ((j_X0_pagesOf_0_43 m_43 l3_43).bind (fun z => some z)) := by
    intro m_43 l3_43
    unfold j_X0_pagesOf_0_43
    exact s_aload_n d_X0_pagesOf_43 m0_ (s_aret d_X0_pagesOf_44 rfl (Or.inr ⟨_, rfl⟩) rfl)
  refine s_iload_n d_X0_pagesOf_0 m2_ (s_newQ d_X0_pagesOf_1 ka_19 (by decide) (by decide) w_564 rfl fun m1 => (s_astore_n (L' := [(3, aR (some (19, (gC m 19)))), (0, aI l0), (1, aR (some (13, l1))), (2, aI l2)]) d_X0_pagesOf_4 (b8 rfl) rfl (s_iconst d_X0_pagesOf_5 n_0 (s_istore (L' := [(4, aI 0), (3, aR (some (19, (gC m 19)))), (0, aI l0), (1, aR (some (13, l1))), (2, aI l2)]) d_X0_pagesOf_6 (b8 rfl) rfl (s_sub (subc m0_ (subc m2_ (subc m3_ (subc m4_ (subc m1_ sub0))))) (s_lp2 (fun s => [(4, aI (s.1)), (0, aI l0), (1, aR (some (13, l1))), (2, aI l2), (3, aR (some (19, (gC m 19))))]) (fun s => s.2) (0, m1) fun k8 hx8 s ih0 => ?_))))))
  obtain ⟨l4_8, mm_8⟩ := s
  have ih8 := ih0
  clear ih0
  try dsimp only
  unfold b_X0_pagesOf_8
  refine s_iload d_X0_pagesOf_8 m0_ (s_aload_n d_X0_pagesOf_10 m2_ (s_len d_X0_pagesOf_11 ka_13 ta_13 (s_icmp_ge (tgt := 43) d_X0_pagesOf_12 rfl ?_ ?_)))
  · exact s_exit (hx8 _) (s_sub (subc m4_ sub0) (hj_X0_pagesOf_0_43 mm_8 (gC m 19)))
  refine s_iload d_X0_pagesOf_15 m0_ (s_iload_n d_X0_pagesOf_17 m3_ (s_pI (r_S d_X0_pagesOf_18 k_X0_formeOfPage w_668 rfl rfl) ms_X0_formeOfPage (b8 rfl) rfl rfl rfl fun v2 => (s_iload_n d_X0_pagesOf_21 m1_ (s_icmp_ne (tgt := 37) d_X0_pagesOf_22 rfl ?_ ?_))))
  · exact s_iinc (L' := [(4, aI (l4_8 + 1)), (0, aI l0), (1, aR (some (13, l1))), (2, aI l2), (3, aR (some (19, (gC m 19))))]) d_X0_pagesOf_37 m0_ (b8 rfl) rfl (s_goto (tgt := 8) d_X0_pagesOf_40 rfl (s_sub (subc m0_ (subc m1_ (subc m2_ (subc m3_ (subc m4_ sub0))))) (s_back (ih8 ((l4_8 + 1), mm_8)))))
  refine s_aload_n d_X0_pagesOf_25 m4_ (s_iload d_X0_pagesOf_26 m0_ (s_iload_n d_X0_pagesOf_28 m3_ (s_pI (r_S d_X0_pagesOf_29 k_X0_placeInForme w_671 rfl rfl) ms_X0_placeInForme (b8 rfl) rfl rfl rfl fun v3 => (s_aload_n d_X0_pagesOf_32 m2_ (s_iload d_X0_pagesOf_33 m0_ ?_)))))
  exact s_ldR d_X0_pagesOf_35 ka_13 ta_13 rfl rfl fun r4 => (s_nk fun i5 => (s_stR d_X0_pagesOf_36 ka_19 (by decide) (b8 rfl) rfl rfl fun m6 => (s_iinc (L' := [(4, aI (l4_8 + 1)), (0, aI l0), (1, aR (some (13, l1))), (2, aI l2), (3, aR (some (19, (gC m 19))))]) d_X0_pagesOf_37 m0_ (b8 rfl) rfl (s_goto (tgt := 8) d_X0_pagesOf_40 rfl (s_sub (subc m0_ (subc m1_ (subc m2_ (subc m3_ (subc m4_ sub0))))) (s_back (ih8 ((l4_8 + 1), m6))))))))
theorem d_X2_init_0 : dk me_X2_init 0 (.aload_n 0) 1 1 := And.intro (by decide +kernel) rfl
theorem d_X2_init_1 : dk me_X2_init 1 (.invokespecial 3) 3 4 := And.intro (by decide +kernel) rfl
theorem d_X2_init_4 : dk me_X2_init 4 (.aload_n 0) 1 5 := And.intro (by decide +kernel) rfl
theorem d_X2_init_5 : dk me_X2_init 5 (.sipush 400) 3 8 := And.intro (by decide +kernel) rfl
theorem d_X2_init_8 : dk me_X2_init 8 (.newarray .int) 2 10 := And.intro (by decide +kernel) rfl
theorem d_X2_init_10 : dk me_X2_init 10 (.putfield 9) 3 13 := And.intro (by decide +kernel) rfl
theorem d_X2_init_13 : dk me_X2_init 13 (.aload_n 0) 1 14 := And.intro (by decide +kernel) rfl
theorem d_X2_init_14 : dk me_X2_init 14 (.iconst 0) 1 15 := And.intro (by decide +kernel) rfl
theorem d_X2_init_15 : dk me_X2_init 15 (.putfield 15) 3 18 := And.intro (by decide +kernel) rfl
theorem d_X2_init_18 : dk me_X2_init 18 (.aload_n 0) 1 19 := And.intro (by decide +kernel) rfl
theorem d_X2_init_19 : dk me_X2_init 19 (.iconst (-1)) 1 20 := And.intro (by decide +kernel) rfl
theorem d_X2_init_20 : dk me_X2_init 20 (.putfield 19) 3 23 := And.intro (by decide +kernel) rfl
theorem d_X2_init_23 : dk me_X2_init 23 (.aload_n 0) 1 24 := And.intro (by decide +kernel) rfl
theorem d_X2_init_24 : dk me_X2_init 24 (.iconst 1) 1 25 := And.intro (by decide +kernel) rfl
theorem d_X2_init_25 : dk me_X2_init 25 (.putfield 22) 3 28 := And.intro (by decide +kernel) rfl
theorem d_X2_init_28 : dk me_X2_init 28 (.aload_n 0) 1 29 := And.intro (by decide +kernel) rfl
theorem d_X2_init_29 : dk me_X2_init 29 (.iconst (-1)) 1 30 := And.intro (by decide +kernel) rfl
theorem d_X2_init_30 : dk me_X2_init 30 (.putfield 25) 3 33 := And.intro (by decide +kernel) rfl
theorem d_X2_init_33 : dk me_X2_init 33 (.aload_n 0) 1 34 := And.intro (by decide +kernel) rfl
theorem d_X2_init_34 : dk me_X2_init 34 (.iconst (-1)) 1 35 := And.intro (by decide +kernel) rfl
theorem d_X2_init_35 : dk me_X2_init 35 (.putfield 28) 3 38 := And.intro (by decide +kernel) rfl
theorem d_X2_init_38 : dk me_X2_init 38 (.aload_n 0) 1 39 := And.intro (by decide +kernel) rfl
theorem d_X2_init_39 : dk me_X2_init 39 (.aload_n 1) 1 40 := And.intro (by decide +kernel) rfl
theorem d_X2_init_40 : dk me_X2_init 40 (.putfield 31) 3 43 := And.intro (by decide +kernel) rfl
theorem d_X2_init_43 : dk me_X2_init 43 (.aload_n 0) 1 44 := And.intro (by decide +kernel) rfl
theorem d_X2_init_44 : dk me_X2_init 44 (.iload_n 2) 1 45 := And.intro (by decide +kernel) rfl
theorem d_X2_init_45 : dk me_X2_init 45 (.putfield 35) 3 48 := And.intro (by decide +kernel) rfl
theorem d_X2_init_48 : dk me_X2_init 48 (.aload_n 0) 1 49 := And.intro (by decide +kernel) rfl
theorem d_X2_init_49 : dk me_X2_init 49 (.iload_n 2) 1 50 := And.intro (by decide +kernel) rfl
theorem d_X2_init_50 : dk me_X2_init 50 (.newarray .int) 2 52 := And.intro (by decide +kernel) rfl
theorem d_X2_init_52 : dk me_X2_init 52 (.putfield 38) 3 55 := And.intro (by decide +kernel) rfl
theorem d_X2_init_55 : dk me_X2_init 55 (.return_) 1 56 := And.intro (by decide +kernel) rfl
theorem ms_X2_init {fx : FX} {m : MM} {l0 : Nat} {l1 : Nat} {l2 : Int} : MS fx me_X2_init [aR (some (2, l0)), aR (some (19, l1)), aI l2] m (f_X2_init m l0 l1 l2) := by
  refine ms_of rfl mf_X2_init (b8 rfl) ?_
  refine s_top ?_
  show Sim fx me_X2_init 0 [(0, aR (some (2, l0))), (1, aR (some (19, l1))), (2, aI l2)] [] m _
  unfold f_X2_init
  refine s_aload_n d_X2_init_0 m0_ (s_objInit d_X2_init_1 w_677 wo_1 wo_2 (b8 rfl) (b8 rfl) (s_aload_n d_X2_init_4 m0_ (s_sipush d_X2_init_5 n_400 rfl (s_newA d_X2_init_8 ka_25 rfl ty_int w_130 rfl fun m1 => (s_putR cf d_X2_init_10 fl_X2_9 (fun _ => ⟨rfl, _, rfl, rfl⟩) fun m2 => ?_)))))
  refine s_aload_n d_X2_init_13 m0_ (s_iconst d_X2_init_14 n_0 (s_putN cf d_X2_init_15 fl_X2_15 (fun h => by cases h) fun m3 => (s_aload_n d_X2_init_18 m0_ (s_iconst d_X2_init_19 n_m1 (s_putN cf d_X2_init_20 fl_X2_19 (fun h => by cases h) fun m4 => ?_)))))
  refine s_aload_n d_X2_init_23 m0_ (s_iconst d_X2_init_24 n_1 (s_putN cf d_X2_init_25 fl_X2_22 (fun h => by cases h) fun m5 => (s_aload_n d_X2_init_28 m0_ (s_iconst d_X2_init_29 n_m1 (s_putN cf d_X2_init_30 fl_X2_25 (fun h => by cases h) fun m6 => ?_)))))
  refine s_aload_n d_X2_init_33 m0_ (s_iconst d_X2_init_34 n_m1 (s_putN cf d_X2_init_35 fl_X2_28 (fun h => by cases h) fun m7 => (s_aload_n d_X2_init_38 m0_ (s_aload_n d_X2_init_39 m1_ (s_putR cf d_X2_init_40 fl_X2_31 (fun _ => ⟨rfl, _, rfl, rfl⟩) fun m8 => ?_)))))
  refine s_aload_n d_X2_init_43 m0_ (s_iload_n d_X2_init_44 m2_ (s_putN cf d_X2_init_45 fl_X2_35 (fun _ => ⟨rfl, _, rfl, rfl⟩) fun m9 => (s_aload_n d_X2_init_48 m0_ (s_iload_n d_X2_init_49 m2_ (s_newA d_X2_init_50 ka_26 rfl ty_int w_130 rfl fun m10 => ?_)))))
  exact s_putR cf d_X2_init_52 fl_X2_38 (fun _ => ⟨rfl, _, rfl, rfl⟩) fun m11 => (s_vret d_X2_init_55 rfl rfl)
theorem d_X5_init_0 : dk me_X5_init 0 (.aload_n 0) 1 1 := And.intro (by decide +kernel) rfl
theorem d_X5_init_1 : dk me_X5_init 1 (.invokespecial 3) 3 4 := And.intro (by decide +kernel) rfl
theorem d_X5_init_4 : dk me_X5_init 4 (.aload_n 0) 1 5 := And.intro (by decide +kernel) rfl
theorem d_X5_init_5 : dk me_X5_init 5 (.iload_n 1) 1 6 := And.intro (by decide +kernel) rfl
theorem d_X5_init_6 : dk me_X5_init 6 (.newarray .int) 2 8 := And.intro (by decide +kernel) rfl
theorem d_X5_init_8 : dk me_X5_init 8 (.putfield 9) 3 11 := And.intro (by decide +kernel) rfl
theorem d_X5_init_11 : dk me_X5_init 11 (.aload_n 0) 1 12 := And.intro (by decide +kernel) rfl
theorem d_X5_init_12 : dk me_X5_init 12 (.iload_n 1) 1 13 := And.intro (by decide +kernel) rfl
theorem d_X5_init_13 : dk me_X5_init 13 (.newarray .int) 2 15 := And.intro (by decide +kernel) rfl
theorem d_X5_init_15 : dk me_X5_init 15 (.putfield 15) 3 18 := And.intro (by decide +kernel) rfl
theorem d_X5_init_18 : dk me_X5_init 18 (.aload_n 0) 1 19 := And.intro (by decide +kernel) rfl
theorem d_X5_init_19 : dk me_X5_init 19 (.iload_n 1) 1 20 := And.intro (by decide +kernel) rfl
theorem d_X5_init_20 : dk me_X5_init 20 (.newarray .boolean) 2 22 := And.intro (by decide +kernel) rfl
theorem d_X5_init_22 : dk me_X5_init 22 (.putfield 18) 3 25 := And.intro (by decide +kernel) rfl
theorem d_X5_init_25 : dk me_X5_init 25 (.aload_n 0) 1 26 := And.intro (by decide +kernel) rfl
theorem d_X5_init_26 : dk me_X5_init 26 (.iload_n 2) 1 27 := And.intro (by decide +kernel) rfl
theorem d_X5_init_27 : dk me_X5_init 27 (.iload_n 1) 1 28 := And.intro (by decide +kernel) rfl
theorem d_X5_init_28 : dk me_X5_init 28 (.multianewarray 22 2) 4 32 := And.intro (by decide +kernel) rfl
theorem d_X5_init_32 : dk me_X5_init 32 (.putfield 24) 3 35 := And.intro (by decide +kernel) rfl
theorem d_X5_init_35 : dk me_X5_init 35 (.return_) 1 36 := And.intro (by decide +kernel) rfl
theorem ms_X5_init {fx : FX} {m : MM} {l0 : Nat} {l1 : Int} {l2 : Int} : MS fx me_X5_init [aR (some (5, l0)), aI l1, aI l2] m (f_X5_init m l0 l1 l2) := by
  refine ms_of rfl mf_X5_init (b8 rfl) ?_
  refine s_top ?_
  show Sim fx me_X5_init 0 [(0, aR (some (5, l0))), (1, aI l1), (2, aI l2)] [] m _
  unfold f_X5_init
  refine s_aload_n d_X5_init_0 m0_ (s_objInit d_X5_init_1 w_576 wo_1 wo_2 (b8 rfl) (b8 rfl) (s_aload_n d_X5_init_4 m0_ (s_iload_n d_X5_init_5 m1_ (s_newA d_X5_init_6 ka_34 rfl ty_int w_130 rfl fun m1 => (s_putR cf d_X5_init_8 fl_X5_9 (fun _ => ⟨rfl, _, rfl, rfl⟩) fun m2 => ?_)))))
  refine s_aload_n d_X5_init_11 m0_ (s_iload_n d_X5_init_12 m1_ (s_newA d_X5_init_13 ka_35 rfl ty_int w_130 rfl fun m3 => (s_putR cf d_X5_init_15 fl_X5_15 (fun _ => ⟨rfl, _, rfl, rfl⟩) fun m4 => (s_aload_n d_X5_init_18 m0_ (s_iload_n d_X5_init_19 m1_ ?_)))))
  refine s_newA d_X5_init_20 ka_36 rfl ty_boolean w_132 rfl fun m5 => (s_putR cf d_X5_init_22 fl_X5_18 (fun _ => ⟨rfl, _, rfl, rfl⟩) fun m6 => (s_aload_n d_X5_init_25 m0_ (s_iload_n d_X5_init_26 m2_ (s_iload_n d_X5_init_27 m1_ (s_bump fun m7 => ?_)))))
  exact s_newM d_X5_init_28 ka_37 ka_38 w_577 w_130 rfl rfl fun m8 => (s_putR cf d_X5_init_32 fl_X5_24 (fun _ => ⟨rfl, _, rfl, rfl⟩) fun m9 => (s_vret d_X5_init_35 rfl rfl))
theorem d_X4_init_0 : dk me_X4_init 0 (.aload_n 0) 1 1 := And.intro (by decide +kernel) rfl
theorem d_X4_init_1 : dk me_X4_init 1 (.invokespecial 3) 3 4 := And.intro (by decide +kernel) rfl
theorem d_X4_init_4 : dk me_X4_init 4 (.aload_n 0) 1 5 := And.intro (by decide +kernel) rfl
theorem d_X4_init_5 : dk me_X4_init 5 (.bipush 61) 2 7 := And.intro (by decide +kernel) rfl
theorem d_X4_init_7 : dk me_X4_init 7 (.newarray .int) 2 9 := And.intro (by decide +kernel) rfl
theorem d_X4_init_9 : dk me_X4_init 9 (.putfield 9) 3 12 := And.intro (by decide +kernel) rfl
theorem d_X4_init_12 : dk me_X4_init 12 (.aload_n 0) 1 13 := And.intro (by decide +kernel) rfl
theorem d_X4_init_13 : dk me_X4_init 13 (.bipush 61) 2 15 := And.intro (by decide +kernel) rfl
theorem d_X4_init_15 : dk me_X4_init 15 (.newarray .boolean) 2 17 := And.intro (by decide +kernel) rfl
theorem d_X4_init_17 : dk me_X4_init 17 (.putfield 15) 3 20 := And.intro (by decide +kernel) rfl
theorem d_X4_init_20 : dk me_X4_init 20 (.aload_n 0) 1 21 := And.intro (by decide +kernel) rfl
theorem d_X4_init_21 : dk me_X4_init 21 (.bipush 61) 2 23 := And.intro (by decide +kernel) rfl
theorem d_X4_init_23 : dk me_X4_init 23 (.newarray .int) 2 25 := And.intro (by decide +kernel) rfl
theorem d_X4_init_25 : dk me_X4_init 25 (.putfield 19) 3 28 := And.intro (by decide +kernel) rfl
theorem d_X4_init_28 : dk me_X4_init 28 (.aload_n 0) 1 29 := And.intro (by decide +kernel) rfl
theorem d_X4_init_29 : dk me_X4_init 29 (.bipush 61) 2 31 := And.intro (by decide +kernel) rfl
theorem d_X4_init_31 : dk me_X4_init 31 (.newarray .int) 2 33 := And.intro (by decide +kernel) rfl
theorem d_X4_init_33 : dk me_X4_init 33 (.putfield 22) 3 36 := And.intro (by decide +kernel) rfl
theorem d_X4_init_36 : dk me_X4_init 36 (.aload_n 0) 1 37 := And.intro (by decide +kernel) rfl
theorem d_X4_init_37 : dk me_X4_init 37 (.iconst (-1)) 1 38 := And.intro (by decide +kernel) rfl
theorem d_X4_init_38 : dk me_X4_init 38 (.putfield 25) 3 41 := And.intro (by decide +kernel) rfl
theorem d_X4_init_41 : dk me_X4_init 41 (.aload_n 0) 1 42 := And.intro (by decide +kernel) rfl
theorem d_X4_init_42 : dk me_X4_init 42 (.iload_n 1) 1 43 := And.intro (by decide +kernel) rfl
theorem d_X4_init_43 : dk me_X4_init 43 (.putfield 29) 3 46 := And.intro (by decide +kernel) rfl
theorem d_X4_init_46 : dk me_X4_init 46 (.aload_n 0) 1 47 := And.intro (by decide +kernel) rfl
theorem d_X4_init_47 : dk me_X4_init 47 (.iload_n 2) 1 48 := And.intro (by decide +kernel) rfl
theorem d_X4_init_48 : dk me_X4_init 48 (.newarray .int) 2 50 := And.intro (by decide +kernel) rfl
theorem d_X4_init_50 : dk me_X4_init 50 (.putfield 32) 3 53 := And.intro (by decide +kernel) rfl
theorem d_X4_init_53 : dk me_X4_init 53 (.aload_n 0) 1 54 := And.intro (by decide +kernel) rfl
theorem d_X4_init_54 : dk me_X4_init 54 (.iload_n 2) 1 55 := And.intro (by decide +kernel) rfl
theorem d_X4_init_55 : dk me_X4_init 55 (.newarray .int) 2 57 := And.intro (by decide +kernel) rfl
theorem d_X4_init_57 : dk me_X4_init 57 (.putfield 35) 3 60 := And.intro (by decide +kernel) rfl
theorem d_X4_init_60 : dk me_X4_init 60 (.aload_n 0) 1 61 := And.intro (by decide +kernel) rfl
theorem d_X4_init_61 : dk me_X4_init 61 (.iload_n 2) 1 62 := And.intro (by decide +kernel) rfl
theorem d_X4_init_62 : dk me_X4_init 62 (.newarray .boolean) 2 64 := And.intro (by decide +kernel) rfl
theorem d_X4_init_64 : dk me_X4_init 64 (.putfield 38) 3 67 := And.intro (by decide +kernel) rfl
theorem d_X4_init_67 : dk me_X4_init 67 (.aload_n 0) 1 68 := And.intro (by decide +kernel) rfl
theorem d_X4_init_68 : dk me_X4_init 68 (.new 41) 3 71 := And.intro (by decide +kernel) rfl
theorem d_X4_init_71 : dk me_X4_init 71 (.dup) 1 72 := And.intro (by decide +kernel) rfl
theorem d_X4_init_72 : dk me_X4_init 72 (.iload_n 1) 1 73 := And.intro (by decide +kernel) rfl
theorem d_X4_init_73 : dk me_X4_init 73 (.iload_n 2) 1 74 := And.intro (by decide +kernel) rfl
theorem d_X4_init_74 : dk me_X4_init 74 (.imul) 1 75 := And.intro (by decide +kernel) rfl
theorem d_X4_init_75 : dk me_X4_init 75 (.iload_n 3) 1 76 := And.intro (by decide +kernel) rfl
theorem d_X4_init_76 : dk me_X4_init 76 (.invokespecial 43) 3 79 := And.intro (by decide +kernel) rfl
theorem d_X4_init_79 : dk me_X4_init 79 (.putfield 46) 3 82 := And.intro (by decide +kernel) rfl
theorem d_X4_init_82 : dk me_X4_init 82 (.return_) 1 83 := And.intro (by decide +kernel) rfl
theorem ms_X4_init {fx : FX} {m : MM} {l0 : Nat} {l1 : Int} {l2 : Int} {l3 : Int} : MS fx me_X4_init [aR (some (4, l0)), aI l1, aI l2, aI l3] m (f_X4_init m l0 l1 l2 l3) := by
  refine ms_of rfl mf_X4_init (b8 rfl) ?_
  refine s_top ?_
  show Sim fx me_X4_init 0 [(0, aR (some (4, l0))), (1, aI l1), (2, aI l2), (3, aI l3)] [] m _
  unfold f_X4_init
  refine s_aload_n d_X4_init_0 m0_ (s_objInit d_X4_init_1 w_570 wo_1 wo_2 (b8 rfl) (b8 rfl) (s_aload_n d_X4_init_4 m0_ (s_bipush d_X4_init_5 n_61 rfl (s_newA d_X4_init_7 ka_27 rfl ty_int w_130 rfl fun m1 => (s_putR cf d_X4_init_9 fl_X4_9 (fun _ => ⟨rfl, _, rfl, rfl⟩) fun m2 => ?_)))))
  refine s_aload_n d_X4_init_12 m0_ (s_bipush d_X4_init_13 n_61 rfl (s_newA d_X4_init_15 ka_28 rfl ty_boolean w_132 rfl fun m3 => (s_putR cf d_X4_init_17 fl_X4_15 (fun _ => ⟨rfl, _, rfl, rfl⟩) fun m4 => (s_aload_n d_X4_init_20 m0_ (s_bipush d_X4_init_21 n_61 rfl ?_)))))
  refine s_newA d_X4_init_23 ka_29 rfl ty_int w_130 rfl fun m5 => (s_putR cf d_X4_init_25 fl_X4_19 (fun _ => ⟨rfl, _, rfl, rfl⟩) fun m6 => (s_aload_n d_X4_init_28 m0_ (s_bipush d_X4_init_29 n_61 rfl (s_newA d_X4_init_31 ka_30 rfl ty_int w_130 rfl fun m7 => (s_putR cf d_X4_init_33 fl_X4_22 (fun _ => ⟨rfl, _, rfl, rfl⟩) fun m8 => ?_)))))
  refine s_aload_n d_X4_init_36 m0_ (s_iconst d_X4_init_37 n_m1 (s_putN cf d_X4_init_38 fl_X4_25 (fun h => by cases h) fun m9 => (s_aload_n d_X4_init_41 m0_ (s_iload_n d_X4_init_42 m1_ (s_putN cf d_X4_init_43 fl_X4_29 (fun _ => ⟨rfl, _, rfl, rfl⟩) fun m10 => ?_)))))
  refine s_aload_n d_X4_init_46 m0_ (s_iload_n d_X4_init_47 m2_ (s_newA d_X4_init_48 ka_31 rfl ty_int w_130 rfl fun m11 => (s_putR cf d_X4_init_50 fl_X4_32 (fun _ => ⟨rfl, _, rfl, rfl⟩) fun m12 => (s_aload_n d_X4_init_53 m0_ (s_iload_n d_X4_init_54 m2_ ?_)))))
  refine s_newA d_X4_init_55 ka_32 rfl ty_int w_130 rfl fun m13 => (s_putR cf d_X4_init_57 fl_X4_35 (fun _ => ⟨rfl, _, rfl, rfl⟩) fun m14 => (s_aload_n d_X4_init_60 m0_ (s_iload_n d_X4_init_61 m2_ (s_newA d_X4_init_62 ka_33 rfl ty_boolean w_132 rfl fun m15 => (s_putR cf d_X4_init_64 fl_X4_38 (fun _ => ⟨rfl, _, rfl, rfl⟩) fun m16 => ?_)))))
  refine s_aload_n d_X4_init_67 m0_ (s_new cf d_X4_init_68 nw_X4_41 fun m17 => (s_dup d_X4_init_71 rfl (s_iload_n d_X4_init_72 m1_ (s_iload_n d_X4_init_73 m2_ (s_imul d_X4_init_74 rfl rfl ?_)))))
  exact s_iload_n d_X4_init_75 m3_ (s_ck1 (s_cV (r_I d_X4_init_76 k_X5_init w_573 rfl rfl) ms_X5_init (b8 rfl) rfl rfl rfl (fun _ _ _ => rfl) (fun _ _ => Or.inl rfl) fun m18 => (s_putR cf d_X4_init_79 fl_X4_46 (fun _ => ⟨rfl, _, rfl, rfl⟩) fun m20 => (s_vret d_X4_init_82 rfl rfl))))
theorem d_X8_init_0 : dk me_X8_init 0 (.aload_n 0) 1 1 := And.intro (by decide +kernel) rfl
theorem d_X8_init_1 : dk me_X8_init 1 (.invokespecial 3) 3 4 := And.intro (by decide +kernel) rfl
theorem d_X8_init_4 : dk me_X8_init 4 (.aload_n 0) 1 5 := And.intro (by decide +kernel) rfl
theorem d_X8_init_5 : dk me_X8_init 5 (.aload_n 1) 1 6 := And.intro (by decide +kernel) rfl
theorem d_X8_init_6 : dk me_X8_init 6 (.putfield 9) 3 9 := And.intro (by decide +kernel) rfl
theorem d_X8_init_9 : dk me_X8_init 9 (.aload_n 0) 1 10 := And.intro (by decide +kernel) rfl
theorem d_X8_init_10 : dk me_X8_init 10 (.aload_n 2) 1 11 := And.intro (by decide +kernel) rfl
theorem d_X8_init_11 : dk me_X8_init 11 (.putfield 15) 3 14 := And.intro (by decide +kernel) rfl
theorem d_X8_init_14 : dk me_X8_init 14 (.return_) 1 15 := And.intro (by decide +kernel) rfl
theorem ms_X8_init {fx : FX} {m : MM} {l0 : Nat} {l1 : Nat} {l2 : Nat} : MS fx me_X8_init [aR (some (8, l0)), aR (some (2, l1)), aR (some (2, l2))] m (f_X8_init m l0 l1 l2) := by
  refine ms_of rfl mf_X8_init (b8 rfl) ?_
  refine s_top ?_
  show Sim fx me_X8_init 0 [(0, aR (some (8, l0))), (1, aR (some (2, l1))), (2, aR (some (2, l2)))] [] m _
  unfold f_X8_init
  refine s_aload_n d_X8_init_0 m0_ (s_objInit d_X8_init_1 w_735 wo_1 wo_2 (b8 rfl) (b8 rfl) (s_aload_n d_X8_init_4 m0_ (s_aload_n d_X8_init_5 m1_ (s_putR cf d_X8_init_6 fl_X8_9 (fun _ => ⟨rfl, _, rfl, rfl⟩) fun m1 => (s_aload_n d_X8_init_9 m0_ ?_)))))
  exact s_aload_n d_X8_init_10 m2_ (s_putR cf d_X8_init_11 fl_X8_15 (fun _ => ⟨rfl, _, rfl, rfl⟩) fun m2 => (s_vret d_X8_init_14 rfl rfl))
theorem d_X9_init_0 : dk me_X9_init 0 (.aload_n 0) 1 1 := And.intro (by decide +kernel) rfl
theorem d_X9_init_1 : dk me_X9_init 1 (.invokespecial 3) 3 4 := And.intro (by decide +kernel) rfl
theorem d_X9_init_4 : dk me_X9_init 4 (.aload_n 0) 1 5 := And.intro (by decide +kernel) rfl
theorem d_X9_init_5 : dk me_X9_init 5 (.bipush 60) 2 7 := And.intro (by decide +kernel) rfl
theorem d_X9_init_7 : dk me_X9_init 7 (.newarray .long) 2 9 := And.intro (by decide +kernel) rfl
theorem d_X9_init_9 : dk me_X9_init 9 (.putfield 9) 3 12 := And.intro (by decide +kernel) rfl
theorem d_X9_init_12 : dk me_X9_init 12 (.aload_n 0) 1 13 := And.intro (by decide +kernel) rfl
theorem d_X9_init_13 : dk me_X9_init 13 (.bipush 60) 2 15 := And.intro (by decide +kernel) rfl
theorem d_X9_init_15 : dk me_X9_init 15 (.newarray .long) 2 17 := And.intro (by decide +kernel) rfl
theorem d_X9_init_17 : dk me_X9_init 17 (.putfield 15) 3 20 := And.intro (by decide +kernel) rfl
theorem d_X9_init_20 : dk me_X9_init 20 (.aload_n 0) 1 21 := And.intro (by decide +kernel) rfl
theorem d_X9_init_21 : dk me_X9_init 21 (.bipush 60) 2 23 := And.intro (by decide +kernel) rfl
theorem d_X9_init_23 : dk me_X9_init 23 (.newarray .long) 2 25 := And.intro (by decide +kernel) rfl
theorem d_X9_init_25 : dk me_X9_init 25 (.putfield 18) 3 28 := And.intro (by decide +kernel) rfl
theorem d_X9_init_28 : dk me_X9_init 28 (.aload_n 0) 1 29 := And.intro (by decide +kernel) rfl
theorem d_X9_init_29 : dk me_X9_init 29 (.bipush 60) 2 31 := And.intro (by decide +kernel) rfl
theorem d_X9_init_31 : dk me_X9_init 31 (.newarray .int) 2 33 := And.intro (by decide +kernel) rfl
theorem d_X9_init_33 : dk me_X9_init 33 (.putfield 21) 3 36 := And.intro (by decide +kernel) rfl
theorem d_X9_init_36 : dk me_X9_init 36 (.aload_n 0) 1 37 := And.intro (by decide +kernel) rfl
theorem d_X9_init_37 : dk me_X9_init 37 (.bipush 60) 2 39 := And.intro (by decide +kernel) rfl
theorem d_X9_init_39 : dk me_X9_init 39 (.newarray .boolean) 2 41 := And.intro (by decide +kernel) rfl
theorem d_X9_init_41 : dk me_X9_init 41 (.putfield 25) 3 44 := And.intro (by decide +kernel) rfl
theorem d_X9_init_44 : dk me_X9_init 44 (.return_) 1 45 := And.intro (by decide +kernel) rfl
theorem ms_X9_init {fx : FX} {m : MM} {l0 : Nat} : MS fx me_X9_init [aR (some (9, l0))] m (f_X9_init m l0) := by
  refine ms_of rfl mf_X9_init (b8 rfl) ?_
  refine s_top ?_
  show Sim fx me_X9_init 0 [(0, aR (some (9, l0)))] [] m _
  unfold f_X9_init
  refine s_aload_n d_X9_init_0 m0_ (s_objInit d_X9_init_1 w_538 wo_1 wo_2 (b8 rfl) (b8 rfl) (s_aload_n d_X9_init_4 m0_ (s_bipush d_X9_init_5 n_60 rfl (s_newA d_X9_init_7 ka_45 rfl ty_long w_131 rfl fun m1 => (s_putR cf d_X9_init_9 fl_X9_9 (fun _ => ⟨rfl, _, rfl, rfl⟩) fun m2 => ?_)))))
  refine s_aload_n d_X9_init_12 m0_ (s_bipush d_X9_init_13 n_60 rfl (s_newA d_X9_init_15 ka_46 rfl ty_long w_131 rfl fun m3 => (s_putR cf d_X9_init_17 fl_X9_15 (fun _ => ⟨rfl, _, rfl, rfl⟩) fun m4 => (s_aload_n d_X9_init_20 m0_ (s_bipush d_X9_init_21 n_60 rfl ?_)))))
  refine s_newA d_X9_init_23 ka_47 rfl ty_long w_131 rfl fun m5 => (s_putR cf d_X9_init_25 fl_X9_18 (fun _ => ⟨rfl, _, rfl, rfl⟩) fun m6 => (s_aload_n d_X9_init_28 m0_ (s_bipush d_X9_init_29 n_60 rfl (s_newA d_X9_init_31 ka_48 rfl ty_int w_130 rfl fun m7 => (s_putR cf d_X9_init_33 fl_X9_21 (fun _ => ⟨rfl, _, rfl, rfl⟩) fun m8 => ?_)))))
  exact s_aload_n d_X9_init_36 m0_ (s_bipush d_X9_init_37 n_60 rfl (s_newA d_X9_init_39 ka_49 rfl ty_boolean w_132 rfl fun m9 => (s_putR cf d_X9_init_41 fl_X9_25 (fun _ => ⟨rfl, _, rfl, rfl⟩) fun m10 => (s_vret d_X9_init_44 rfl rfl))))
theorem d_X0_init_0 : dk me_X0_init 0 (.aload_n 0) 1 1 := And.intro (by decide +kernel) rfl
theorem d_X0_init_1 : dk me_X0_init 1 (.invokespecial 3) 3 4 := And.intro (by decide +kernel) rfl
theorem d_X0_init_4 : dk me_X0_init 4 (.aload_n 0) 1 5 := And.intro (by decide +kernel) rfl
theorem d_X0_init_5 : dk me_X0_init 5 (.new 9) 3 8 := And.intro (by decide +kernel) rfl
theorem d_X0_init_8 : dk me_X0_init 8 (.dup) 1 9 := And.intro (by decide +kernel) rfl
theorem d_X0_init_9 : dk me_X0_init 9 (.invokespecial 11) 3 12 := And.intro (by decide +kernel) rfl
theorem d_X0_init_12 : dk me_X0_init 12 (.putfield 12) 3 15 := And.intro (by decide +kernel) rfl
theorem d_X0_init_15 : dk me_X0_init 15 (.aload_n 0) 1 16 := And.intro (by decide +kernel) rfl
theorem d_X0_init_16 : dk me_X0_init 16 (.iload_n 1) 1 17 := And.intro (by decide +kernel) rfl
theorem d_X0_init_17 : dk me_X0_init 17 (.putfield 18) 3 20 := And.intro (by decide +kernel) rfl
theorem d_X0_init_20 : dk me_X0_init 20 (.aload_n 0) 1 21 := And.intro (by decide +kernel) rfl
theorem d_X0_init_21 : dk me_X0_init 21 (.iload_n 3) 1 22 := And.intro (by decide +kernel) rfl
theorem d_X0_init_22 : dk me_X0_init 22 (.putfield 22) 3 25 := And.intro (by decide +kernel) rfl
theorem d_X0_init_25 : dk me_X0_init 25 (.aload_n 0) 1 26 := And.intro (by decide +kernel) rfl
theorem d_X0_init_26 : dk me_X0_init 26 (.iload 4) 2 28 := And.intro (by decide +kernel) rfl
theorem d_X0_init_28 : dk me_X0_init 28 (.putfield 25) 3 31 := And.intro (by decide +kernel) rfl
theorem d_X0_init_31 : dk me_X0_init 31 (.aload_n 0) 1 32 := And.intro (by decide +kernel) rfl
theorem d_X0_init_32 : dk me_X0_init 32 (.iload 5) 2 34 := And.intro (by decide +kernel) rfl
theorem d_X0_init_34 : dk me_X0_init 34 (.putfield 28) 3 37 := And.intro (by decide +kernel) rfl
theorem d_X0_init_37 : dk me_X0_init 37 (.aload_n 0) 1 38 := And.intro (by decide +kernel) rfl
theorem d_X0_init_38 : dk me_X0_init 38 (.iconst 2) 1 39 := And.intro (by decide +kernel) rfl
theorem d_X0_init_39 : dk me_X0_init 39 (.iload_n 1) 1 40 := And.intro (by decide +kernel) rfl
theorem d_X0_init_40 : dk me_X0_init 40 (.imul) 1 41 := And.intro (by decide +kernel) rfl
theorem d_X0_init_41 : dk me_X0_init 41 (.iload_n 2) 1 42 := And.intro (by decide +kernel) rfl
theorem d_X0_init_42 : dk me_X0_init 42 (.imul) 1 43 := And.intro (by decide +kernel) rfl
theorem d_X0_init_43 : dk me_X0_init 43 (.anewarray 31) 3 46 := And.intro (by decide +kernel) rfl
theorem d_X0_init_46 : dk me_X0_init 46 (.putfield 33) 3 49 := And.intro (by decide +kernel) rfl
theorem d_X0_init_49 : dk me_X0_init 49 (.iconst 0) 1 50 := And.intro (by decide +kernel) rfl
theorem d_X0_init_50 : dk me_X0_init 50 (.istore 6) 2 52 := And.intro (by decide +kernel) rfl
theorem d_X0_init_52 : dk me_X0_init 52 (.iload 6) 2 54 := And.intro (by decide +kernel) rfl
theorem d_X0_init_54 : dk me_X0_init 54 (.aload_n 0) 1 55 := And.intro (by decide +kernel) rfl
theorem d_X0_init_55 : dk me_X0_init 55 (.getfield 33) 3 58 := And.intro (by decide +kernel) rfl
theorem d_X0_init_58 : dk me_X0_init 58 (.arraylength) 1 59 := And.intro (by decide +kernel) rfl
theorem d_X0_init_59 : dk me_X0_init 59 (.if_icmp .ge 28) 3 62 := And.intro (by decide +kernel) rfl
theorem d_X0_init_62 : dk me_X0_init 62 (.aload_n 0) 1 63 := And.intro (by decide +kernel) rfl
theorem d_X0_init_63 : dk me_X0_init 63 (.getfield 33) 3 66 := And.intro (by decide +kernel) rfl
theorem d_X0_init_66 : dk me_X0_init 66 (.iload 6) 2 68 := And.intro (by decide +kernel) rfl
theorem d_X0_init_68 : dk me_X0_init 68 (.new 31) 3 71 := And.intro (by decide +kernel) rfl
theorem d_X0_init_71 : dk me_X0_init 71 (.dup) 1 72 := And.intro (by decide +kernel) rfl
theorem d_X0_init_72 : dk me_X0_init 72 (.iload_n 3) 1 73 := And.intro (by decide +kernel) rfl
theorem d_X0_init_73 : dk me_X0_init 73 (.iload 4) 2 75 := And.intro (by decide +kernel) rfl
theorem d_X0_init_75 : dk me_X0_init 75 (.iload 5) 2 77 := And.intro (by decide +kernel) rfl
theorem d_X0_init_77 : dk me_X0_init 77 (.invokespecial 37) 3 80 := And.intro (by decide +kernel) rfl
theorem d_X0_init_80 : dk me_X0_init 80 (.aastore) 1 81 := And.intro (by decide +kernel) rfl
theorem d_X0_init_81 : dk me_X0_init 81 (.iinc 6 1) 3 84 := And.intro (by decide +kernel) rfl
theorem d_X0_init_84 : dk me_X0_init 84 (.goto (-32)) 3 87 := And.intro (by decide +kernel) rfl
theorem d_X0_init_87 : dk me_X0_init 87 (.aload_n 0) 1 88 := And.intro (by decide +kernel) rfl
theorem d_X0_init_88 : dk me_X0_init 88 (.iconst 2) 1 89 := And.intro (by decide +kernel) rfl
theorem d_X0_init_89 : dk me_X0_init 89 (.iload_n 2) 1 90 := And.intro (by decide +kernel) rfl
theorem d_X0_init_90 : dk me_X0_init 90 (.imul) 1 91 := And.intro (by decide +kernel) rfl
theorem d_X0_init_91 : dk me_X0_init 91 (.anewarray 40) 3 94 := And.intro (by decide +kernel) rfl
theorem d_X0_init_94 : dk me_X0_init 94 (.putfield 42) 3 97 := And.intro (by decide +kernel) rfl
theorem d_X0_init_97 : dk me_X0_init 97 (.iconst 0) 1 98 := And.intro (by decide +kernel) rfl
theorem d_X0_init_98 : dk me_X0_init 98 (.istore 6) 2 100 := And.intro (by decide +kernel) rfl
theorem d_X0_init_100 : dk me_X0_init 100 (.iload 6) 2 102 := And.intro (by decide +kernel) rfl
theorem d_X0_init_102 : dk me_X0_init 102 (.aload_n 0) 1 103 := And.intro (by decide +kernel) rfl
theorem d_X0_init_103 : dk me_X0_init 103 (.getfield 42) 3 106 := And.intro (by decide +kernel) rfl
theorem d_X0_init_106 : dk me_X0_init 106 (.arraylength) 1 107 := And.intro (by decide +kernel) rfl
theorem d_X0_init_107 : dk me_X0_init 107 (.if_icmp .ge 35) 3 110 := And.intro (by decide +kernel) rfl
theorem d_X0_init_110 : dk me_X0_init 110 (.aload_n 0) 1 111 := And.intro (by decide +kernel) rfl
theorem d_X0_init_111 : dk me_X0_init 111 (.getfield 42) 3 114 := And.intro (by decide +kernel) rfl
theorem d_X0_init_114 : dk me_X0_init 114 (.iload 6) 2 116 := And.intro (by decide +kernel) rfl
theorem d_X0_init_116 : dk me_X0_init 116 (.new 40) 3 119 := And.intro (by decide +kernel) rfl
theorem d_X0_init_119 : dk me_X0_init 119 (.dup) 1 120 := And.intro (by decide +kernel) rfl
theorem d_X0_init_120 : dk me_X0_init 120 (.iload 6) 2 122 := And.intro (by decide +kernel) rfl
theorem d_X0_init_122 : dk me_X0_init 122 (.aload_n 0) 1 123 := And.intro (by decide +kernel) rfl
theorem d_X0_init_123 : dk me_X0_init 123 (.getfield 33) 3 126 := And.intro (by decide +kernel) rfl
theorem d_X0_init_126 : dk me_X0_init 126 (.iload_n 1) 1 127 := And.intro (by decide +kernel) rfl
theorem d_X0_init_127 : dk me_X0_init 127 (.invokestatic 46) 3 130 := And.intro (by decide +kernel) rfl
theorem d_X0_init_130 : dk me_X0_init 130 (.iload 5) 2 132 := And.intro (by decide +kernel) rfl
theorem d_X0_init_132 : dk me_X0_init 132 (.invokespecial 50) 3 135 := And.intro (by decide +kernel) rfl
theorem d_X0_init_135 : dk me_X0_init 135 (.aastore) 1 136 := And.intro (by decide +kernel) rfl
theorem d_X0_init_136 : dk me_X0_init 136 (.iinc 6 1) 3 139 := And.intro (by decide +kernel) rfl
theorem d_X0_init_139 : dk me_X0_init 139 (.goto (-39)) 3 142 := And.intro (by decide +kernel) rfl
theorem d_X0_init_142 : dk me_X0_init 142 (.aload_n 0) 1 143 := And.intro (by decide +kernel) rfl
theorem d_X0_init_143 : dk me_X0_init 143 (.iload_n 2) 1 144 := And.intro (by decide +kernel) rfl
theorem d_X0_init_144 : dk me_X0_init 144 (.anewarray 53) 3 147 := And.intro (by decide +kernel) rfl
theorem d_X0_init_147 : dk me_X0_init 147 (.putfield 55) 3 150 := And.intro (by decide +kernel) rfl
theorem d_X0_init_150 : dk me_X0_init 150 (.iconst 0) 1 151 := And.intro (by decide +kernel) rfl
theorem d_X0_init_151 : dk me_X0_init 151 (.istore 6) 2 153 := And.intro (by decide +kernel) rfl
theorem d_X0_init_153 : dk me_X0_init 153 (.iload 6) 2 155 := And.intro (by decide +kernel) rfl
theorem d_X0_init_155 : dk me_X0_init 155 (.iload_n 2) 1 156 := And.intro (by decide +kernel) rfl
theorem d_X0_init_156 : dk me_X0_init 156 (.if_icmp .ge 43) 3 159 := And.intro (by decide +kernel) rfl
theorem d_X0_init_159 : dk me_X0_init 159 (.aload_n 0) 1 160 := And.intro (by decide +kernel) rfl
theorem d_X0_init_160 : dk me_X0_init 160 (.getfield 55) 3 163 := And.intro (by decide +kernel) rfl
theorem d_X0_init_163 : dk me_X0_init 163 (.iload 6) 2 165 := And.intro (by decide +kernel) rfl
theorem d_X0_init_165 : dk me_X0_init 165 (.new 53) 3 168 := And.intro (by decide +kernel) rfl
theorem d_X0_init_168 : dk me_X0_init 168 (.dup) 1 169 := And.intro (by decide +kernel) rfl
theorem d_X0_init_169 : dk me_X0_init 169 (.aload_n 0) 1 170 := And.intro (by decide +kernel) rfl
theorem d_X0_init_170 : dk me_X0_init 170 (.getfield 42) 3 173 := And.intro (by decide +kernel) rfl
theorem d_X0_init_173 : dk me_X0_init 173 (.iconst 2) 1 174 := And.intro (by decide +kernel) rfl
theorem d_X0_init_174 : dk me_X0_init 174 (.iload 6) 2 176 := And.intro (by decide +kernel) rfl
theorem d_X0_init_176 : dk me_X0_init 176 (.imul) 1 177 := And.intro (by decide +kernel) rfl
theorem d_X0_init_177 : dk me_X0_init 177 (.aaload) 1 178 := And.intro (by decide +kernel) rfl
theorem d_X0_init_178 : dk me_X0_init 178 (.aload_n 0) 1 179 := And.intro (by decide +kernel) rfl
theorem d_X0_init_179 : dk me_X0_init 179 (.getfield 42) 3 182 := And.intro (by decide +kernel) rfl
theorem d_X0_init_182 : dk me_X0_init 182 (.iconst 2) 1 183 := And.intro (by decide +kernel) rfl
theorem d_X0_init_183 : dk me_X0_init 183 (.iload 6) 2 185 := And.intro (by decide +kernel) rfl
theorem d_X0_init_185 : dk me_X0_init 185 (.imul) 1 186 := And.intro (by decide +kernel) rfl
theorem d_X0_init_186 : dk me_X0_init 186 (.iconst 1) 1 187 := And.intro (by decide +kernel) rfl
theorem d_X0_init_187 : dk me_X0_init 187 (.iadd) 1 188 := And.intro (by decide +kernel) rfl
theorem d_X0_init_188 : dk me_X0_init 188 (.aaload) 1 189 := And.intro (by decide +kernel) rfl
theorem d_X0_init_189 : dk me_X0_init 189 (.invokespecial 59) 3 192 := And.intro (by decide +kernel) rfl
theorem d_X0_init_192 : dk me_X0_init 192 (.aastore) 1 193 := And.intro (by decide +kernel) rfl
theorem d_X0_init_193 : dk me_X0_init 193 (.iinc 6 1) 3 196 := And.intro (by decide +kernel) rfl
theorem d_X0_init_196 : dk me_X0_init 196 (.goto (-43)) 3 199 := And.intro (by decide +kernel) rfl
theorem d_X0_init_199 : dk me_X0_init 199 (.aload_n 0) 1 200 := And.intro (by decide +kernel) rfl
theorem d_X0_init_200 : dk me_X0_init 200 (.aload_n 0) 1 201 := And.intro (by decide +kernel) rfl
theorem d_X0_init_201 : dk me_X0_init 201 (.getfield 33) 3 204 := And.intro (by decide +kernel) rfl
theorem d_X0_init_204 : dk me_X0_init 204 (.arraylength) 1 205 := And.intro (by decide +kernel) rfl
theorem d_X0_init_205 : dk me_X0_init 205 (.newarray .int) 2 207 := And.intro (by decide +kernel) rfl
theorem d_X0_init_207 : dk me_X0_init 207 (.putfield 62) 3 210 := And.intro (by decide +kernel) rfl
theorem d_X0_init_210 : dk me_X0_init 210 (.aload_n 0) 1 211 := And.intro (by decide +kernel) rfl
theorem d_X0_init_211 : dk me_X0_init 211 (.iload 5) 2 213 := And.intro (by decide +kernel) rfl
theorem d_X0_init_213 : dk me_X0_init 213 (.iload_n 1) 1 214 := And.intro (by decide +kernel) rfl
theorem d_X0_init_214 : dk me_X0_init 214 (.iload_n 2) 1 215 := And.intro (by decide +kernel) rfl
theorem d_X0_init_215 : dk me_X0_init 215 (.imul) 1 216 := And.intro (by decide +kernel) rfl
theorem d_X0_init_216 : dk me_X0_init 216 (.multianewarray 66 2) 4 220 := And.intro (by decide +kernel) rfl
theorem d_X0_init_220 : dk me_X0_init 220 (.putfield 68) 3 223 := And.intro (by decide +kernel) rfl
theorem d_X0_init_223 : dk me_X0_init 223 (.return_) 1 224 := And.intro (by decide +kernel) rfl
theorem ms_X0_init {fx : FX} {m : MM} {l0 : Nat} {l1 : Int} {l2 : Int} {l3 : Int} {l4 : Int} {l5 : Int} : MS fx me_X0_init [aR (some (0, l0)), aI l1, aI l2, aI l3, aI l4, aI l5] m (f_X0_init m l0 l1 l2 l3 l4 l5) := by
  refine ms_of rfl mf_X0_init (b8 rfl) ?_
  refine s_top ?_
  show Sim fx me_X0_init 0 [(0, aR (some (0, l0))), (1, aI l1), (2, aI l2), (3, aI l3), (4, aI l4), (5, aI l5)] [] m _
  unfold f_X0_init
  have hj_X0_init_0_199 : ∀ (m_199 : MM) (l0_199 : Nat) (l1_199 : Int) (l2_199 : Int) (l5_199 : Int), Sim fx me_X0_init 199 [(0, aR (some (0, l0_199))), (1, aI l1_199), (2, aI l2_199), (5, aI l5_199)] [] m_199 ((j_X0_init_0_199 m_199 l0_199 l1_199 l2_199 l5_199).bind (fun z => some z)) := by
    intro m_199 l0_199 l1_199 l2_199 l5_199
    unfold j_X0_init_0_199
    refine s_aload_n d_X0_init_199 m0_ (s_aload_n d_X0_init_200 m0_ (s_getR cf d_X0_init_201 fl_X0_33 (s_nk fun i42 => (s_len d_X0_init_204 ka_13 ta_13 (s_newA d_X0_init_205 ka_16 rfl ty_int w_130 rfl fun m43 => ?_)))))
    refine s_putR cf d_X0_init_207 fl_X0_62 (fun _ => ⟨rfl, _, rfl, rfl⟩) fun m44 => (s_aload_n d_X0_init_210 m0_ (s_iload d_X0_init_211 m3_ (s_iload_n d_X0_init_213 m1_ (s_iload_n d_X0_init_214 m2_ (s_imul d_X0_init_215 rfl rfl ?_)))))
    exact s_newM d_X0_init_216 ka_17 ka_18 w_756 w_130 rfl rfl fun m45 => (s_putR cf d_X0_init_220 fl_X0_68 (fun _ => ⟨rfl, _, rfl, rfl⟩) fun m46 => (s_vret d_X0_init_223 rfl rfl))
  have hj_X0_init_0_142 : ∀ (m_142 : MM) (l0_142 : Nat) (l1_142 : Int) (l2_142 : Int) (l5_142 : Int), Sim fx me_X0_init 142 [(0, aR (some (0, l0_142))), (1, aI l1_142), (2, aI l2_142), (5, aI l5_142)] [] m_142 ((j_X0_init_0_142 m_142 l0_142 l1_142 l2_142 l5_142).bind (fun z => some z)) := by
    intro m_142 l0_142 l1_142 l2_142 l5_142
    unfold j_X0_init_0_142
    refine s_aload_n d_X0_init_142 m0_ (s_iload_n d_X0_init_143 m2_ (s_newQ d_X0_init_144 ka_15 (by decide) (by decide) w_729 rfl fun m29 => (s_putR cf d_X0_init_147 fl_X0_55 (fun _ => ⟨rfl, _, rfl, rfl⟩) fun m30 => (s_iconst d_X0_init_150 n_0 (s_istore (L' := [(6, aI 0), (0, aR (some (0, l0_142))), (1, aI l1_142), (2, aI l2_142), (5, aI l5_142)]) d_X0_init_151 (b8 rfl) rfl ?_)))))
    refine s_sub (subc m0_ (subc m1_ (subc m2_ (subc m3_ (subc m4_ sub0))))) (s_lp2 (fun s => [(6, aI (s.1)), (0, aR (some (0, l0_142))), (1, aI l1_142), (2, aI l2_142), (5, aI l5_142)]) (fun s => s.2) (0, m30) fun k153 hx153 s ih0 => ?_)
    obtain ⟨l6_153, mm_153⟩ := s
    have ih153 := ih0
    clear ih0
    try dsimp only
    unfold b_X0_init_153
    refine s_iload d_X0_init_153 m0_ (s_iload_n d_X0_init_155 m3_ (s_icmp_ge (tgt := 199) d_X0_init_156 rfl ?_ ?_))
    · exact s_exit (hx153 _) (s_sub (subc m1_ (subc m2_ (subc m3_ (subc m4_ sub0)))) (hj_X0_init_0_199 mm_153 l0_142 l1_142 l2_142 l5_142))
    refine s_aload_n d_X0_init_159 m1_ (s_getR cf d_X0_init_160 fl_X0_55 (s_nk fun i31 => (s_iload d_X0_init_163 m0_ (s_new cf d_X0_init_165 nw_X0_53 fun m32 => (s_dup d_X0_init_168 rfl ?_)))))
    refine s_aload_n d_X0_init_169 m1_ (s_getR cf d_X0_init_170 fl_X0_42 (s_nk fun i33 => (s_iconst d_X0_init_173 n_2 (s_iload d_X0_init_174 m0_ (s_imul d_X0_init_176 rfl rfl ?_)))))
    refine s_ldR d_X0_init_177 ka_14 ta_14 rfl rfl fun r34 => (s_nk fun i35 => (s_aload_n d_X0_init_178 m1_ (s_getR cf d_X0_init_179 fl_X0_42 (s_nk fun i36 => (s_iconst d_X0_init_182 n_2 ?_)))))
    refine s_iload d_X0_init_183 m0_ (s_imul d_X0_init_185 rfl rfl (s_iconst d_X0_init_186 n_1 (s_iadd d_X0_init_187 rfl rfl (s_ldR d_X0_init_188 ka_14 ta_14 rfl rfl fun r37 => (s_nk fun i38 => ?_)))))
    exact s_cV (r_I d_X0_init_189 k_X8_init w_732 rfl rfl) ms_X8_init (b8 rfl) rfl rfl rfl (fun _ _ _ => rfl) (fun _ _ => Or.inl rfl) fun m39 => (s_stR d_X0_init_192 ka_15 (by decide) (b8 rfl) rfl rfl fun m41 => (s_iinc (L' := [(6, aI (l6_153 + 1)), (0, aR (some (0, l0_142))), (1, aI l1_142), (2, aI l2_142), (5, aI l5_142)]) d_X0_init_193 m0_ (b8 rfl) rfl (s_goto (tgt := 153) d_X0_init_196 rfl (s_sub (subc m0_ (subc m1_ (subc m2_ (subc m3_ (subc m4_ sub0))))) (s_back (ih153 ((l6_153 + 1), m41)))))))
  have hj_X0_init_0_87 : ∀ (m_87 : MM) (l0_87 : Nat) (l1_87 : Int) (l2_87 : Int) (l5_87 : Int), Sim fx me_X0_init 87 [(0, aR (some (0, l0_87))), (1, aI l1_87), (2, aI l2_87), (5, aI l5_87)] [] m_87 ((j_X0_init_0_87 m_87 l0_87 l1_87 l2_87 l5_87).bind (fun z => some z)) := by
    intro m_87 l0_87 l1_87 l2_87 l5_87
    unfold j_X0_init_0_87
    refine s_aload_n d_X0_init_87 m0_ (s_iconst d_X0_init_88 n_2 (s_iload_n d_X0_init_89 m2_ (s_imul d_X0_init_90 rfl rfl (s_newQ d_X0_init_91 ka_14 (by decide) (by decide) w_662 rfl fun m17 => (s_putR cf d_X0_init_94 fl_X0_42 (fun _ => ⟨rfl, _, rfl, rfl⟩) fun m18 => ?_)))))
    refine s_iconst d_X0_init_97 n_0 (s_istore (L' := [(6, aI 0), (0, aR (some (0, l0_87))), (1, aI l1_87), (2, aI l2_87), (5, aI l5_87)]) d_X0_init_98 (b8 rfl) rfl (s_sub (subc m0_ (subc m1_ (subc m2_ (subc m3_ (subc m4_ sub0))))) (s_lp2 (fun s => [(6, aI (s.1)), (0, aR (some (0, l0_87))), (1, aI l1_87), (2, aI l2_87), (5, aI l5_87)]) (fun s => s.2) (0, m18) fun k100 hx100 s ih0 => ?_)))
    obtain ⟨l6_100, mm_100⟩ := s
    have ih100 := ih0
    clear ih0
    try dsimp only
    unfold b_X0_init_100
    refine s_iload d_X0_init_100 m0_ (s_aload_n d_X0_init_102 m1_ (s_getR cf d_X0_init_103 fl_X0_42 (s_nk fun i19 => (s_len d_X0_init_106 ka_14 ta_14 (s_icmp_ge (tgt := 142) d_X0_init_107 rfl ?_ ?_)))))
    · exact s_exit (hx100 _) (s_sub (subc m1_ (subc m2_ (subc m3_ (subc m4_ sub0)))) (hj_X0_init_0_142 mm_100 l0_87 l1_87 l2_87 l5_87))
    refine s_aload_n d_X0_init_110 m1_ (s_getR cf d_X0_init_111 fl_X0_42 (s_nk fun i20 => (s_iload d_X0_init_114 m0_ (s_new cf d_X0_init_116 nw_X0_40 fun m21 => (s_dup d_X0_init_119 rfl ?_)))))
    refine s_iload d_X0_init_120 m0_ (s_aload_n d_X0_init_122 m1_ (s_getR cf d_X0_init_123 fl_X0_33 (s_nk fun i22 => (s_iload_n d_X0_init_126 m2_ (s_cR (r_S d_X0_init_127 k_X0_pagesOf w_665 rfl rfl) ms_X0_pagesOf (b8 rfl) rfl rfl rfl (fun _ _ _ => rfl) (fun _ _ => Or.inl rfl) fun r24 m23 => ?_)))))
    refine s_nk fun i25 => (s_iload d_X0_init_130 m4_ (s_cV (r_I d_X0_init_132 k_X2_init w_674 rfl rfl) ms_X2_init (b8 rfl) rfl rfl rfl (fun _ _ _ => rfl) (fun _ _ => Or.inl rfl) fun m26 => (s_stR d_X0_init_135 ka_14 (by decide) (b8 rfl) rfl rfl fun m28 => (s_iinc (L' := [(6, aI (l6_100 + 1)), (0, aR (some (0, l0_87))), (1, aI l1_87), (2, aI l2_87), (5, aI l5_87)]) d_X0_init_136 m0_ (b8 rfl) rfl (s_goto (tgt := 100) d_X0_init_139 rfl ?_)))))
    exact s_sub (subc m0_ (subc m1_ (subc m2_ (subc m3_ (subc m4_ sub0))))) (s_back (ih100 ((l6_100 + 1), m28)))
  refine s_aload_n d_X0_init_0 m0_ (s_objInit d_X0_init_1 w_532 wo_1 wo_2 (b8 rfl) (b8 rfl) (s_aload_n d_X0_init_4 m0_ (s_new cf d_X0_init_5 nw_X0_9 fun m1 => (s_dup d_X0_init_8 rfl (s_cV (r_IN d_X0_init_9 k_X9_init ne_4 rfl rfl) ms_X9_init (b8 rfl) rfl rfl rfl (fun _ _ _ => rfl) (fun _ _ => Or.inl rfl) fun m2 => ?_)))))
  refine s_putR cf d_X0_init_12 fl_X0_12 (fun _ => ⟨rfl, _, rfl, rfl⟩) fun m4 => (s_aload_n d_X0_init_15 m0_ (s_iload_n d_X0_init_16 m1_ (s_putN cf d_X0_init_17 fl_X0_18 (fun _ => ⟨rfl, _, rfl, rfl⟩) fun m5 => (s_aload_n d_X0_init_20 m0_ (s_iload_n d_X0_init_21 m3_ ?_)))))
  refine s_putN cf d_X0_init_22 fl_X0_22 (fun _ => ⟨rfl, _, rfl, rfl⟩) fun m6 => (s_aload_n d_X0_init_25 m0_ (s_iload d_X0_init_26 m4_ (s_putN cf d_X0_init_28 fl_X0_25 (fun _ => ⟨rfl, _, rfl, rfl⟩) fun m7 => (s_aload_n d_X0_init_31 m0_ (s_iload d_X0_init_32 m5_ ?_)))))
  refine s_putN cf d_X0_init_34 fl_X0_28 (fun _ => ⟨rfl, _, rfl, rfl⟩) fun m8 => (s_aload_n d_X0_init_37 m0_ (s_iconst d_X0_init_38 n_2 (s_iload_n d_X0_init_39 m1_ (s_imul d_X0_init_40 rfl rfl (s_iload_n d_X0_init_41 m2_ ?_)))))
  refine s_imul d_X0_init_42 rfl rfl (s_newQ d_X0_init_43 ka_13 (by decide) (by decide) w_564 rfl fun m9 => (s_putR cf d_X0_init_46 fl_X0_33 (fun _ => ⟨rfl, _, rfl, rfl⟩) fun m10 => (s_iconst d_X0_init_49 n_0 (s_istore (L' := [(6, aI 0), (0, aR (some (0, l0))), (1, aI l1), (2, aI l2), (3, aI l3), (4, aI l4), (5, aI l5)]) d_X0_init_50 (b8 rfl) rfl (s_sub (subc m0_ (subc m1_ (subc m2_ (subc m3_ (subc m4_ (subc m5_ (subc m6_ sub0))))))) (s_lp2 (fun s => [(6, aI (s.1)), (0, aR (some (0, l0))), (1, aI l1), (2, aI l2), (3, aI l3), (4, aI l4), (5, aI l5)]) (fun s => s.2) (0, m10) fun k52 hx52 s ih0 => ?_))))))
  obtain ⟨l6_52, mm_52⟩ := s
  have ih52 := ih0
  clear ih0
  try dsimp only
  unfold b_X0_init_52
  refine s_iload d_X0_init_52 m0_ (s_aload_n d_X0_init_54 m1_ (s_getR cf d_X0_init_55 fl_X0_33 (s_nk fun i11 => (s_len d_X0_init_58 ka_13 ta_13 (s_icmp_ge (tgt := 87) d_X0_init_59 rfl ?_ ?_)))))
  · exact s_exit (hx52 _) (s_sub (subc m1_ (subc m2_ (subc m3_ (subc m6_ sub0)))) (hj_X0_init_0_87 mm_52 l0 l1 l2 l5))
  refine s_aload_n d_X0_init_62 m1_ (s_getR cf d_X0_init_63 fl_X0_33 (s_nk fun i12 => (s_iload d_X0_init_66 m0_ (s_new cf d_X0_init_68 nw_X0_31 fun m13 => (s_dup d_X0_init_71 rfl ?_)))))
  refine s_iload_n d_X0_init_72 m4_ (s_iload d_X0_init_73 m5_ (s_iload d_X0_init_75 m6_ (s_cV (r_I d_X0_init_77 k_X4_init w_567 rfl rfl) ms_X4_init (b8 rfl) rfl rfl rfl (fun _ _ _ => rfl) (fun _ _ => Or.inl rfl) fun m14 => (s_stR d_X0_init_80 ka_13 (by decide) (b8 rfl) rfl rfl fun m16 => (s_iinc (L' := [(6, aI (l6_52 + 1)), (0, aR (some (0, l0))), (1, aI l1), (2, aI l2), (3, aI l3), (4, aI l4), (5, aI l5)]) d_X0_init_81 m0_ (b8 rfl) rfl ?_)))))
  exact s_goto (tgt := 52) d_X0_init_84 rfl (s_sub (subc m0_ (subc m1_ (subc m2_ (subc m3_ (subc m4_ (subc m5_ (subc m6_ sub0))))))) (s_back (ih52 ((l6_52 + 1), m16))))
theorem d_X11_book_0 : dk me_X11_book 0 (.iload_n 1) 1 1 := And.intro (by decide +kernel) rfl
theorem d_X11_book_1 : dk me_X11_book 1 (.iconst 2) 1 2 := And.intro (by decide +kernel) rfl
theorem d_X11_book_2 : dk me_X11_book 2 (.if_icmp .eq 14) 3 5 := And.intro (by decide +kernel) rfl
theorem d_X11_book_5 : dk me_X11_book 5 (.iload_n 1) 1 6 := And.intro (by decide +kernel) rfl
theorem d_X11_book_6 : dk me_X11_book 6 (.iconst 4) 1 7 := And.intro (by decide +kernel) rfl
theorem d_X11_book_7 : dk me_X11_book 7 (.if_icmp .eq 9) 3 10 := And.intro (by decide +kernel) rfl
theorem d_X11_book_10 : dk me_X11_book 10 (.iload_n 1) 1 11 := And.intro (by decide +kernel) rfl
theorem d_X11_book_11 : dk me_X11_book 11 (.bipush 8) 2 13 := And.intro (by decide +kernel) rfl
theorem d_X11_book_13 : dk me_X11_book 13 (.if_icmp .ne 7) 3 16 := And.intro (by decide +kernel) rfl
theorem d_X11_book_16 : dk me_X11_book 16 (.iconst 1) 1 17 := And.intro (by decide +kernel) rfl
theorem d_X11_book_17 : dk me_X11_book 17 (.goto 4) 3 20 := And.intro (by decide +kernel) rfl
theorem d_X11_book_20 : dk me_X11_book 20 (.iconst 0) 1 21 := And.intro (by decide +kernel) rfl
theorem d_X11_book_21 : dk me_X11_book 21 (.invokestatic 53) 3 24 := And.intro (by decide +kernel) rfl
theorem d_X11_book_24 : dk me_X11_book 24 (.iload_n 2) 1 25 := And.intro (by decide +kernel) rfl
theorem d_X11_book_25 : dk me_X11_book 25 (.iconst 1) 1 26 := And.intro (by decide +kernel) rfl
theorem d_X11_book_26 : dk me_X11_book 26 (.if_icmp .lt 15) 3 29 := And.intro (by decide +kernel) rfl
theorem d_X11_book_29 : dk me_X11_book 29 (.iload_n 2) 1 30 := And.intro (by decide +kernel) rfl
theorem d_X11_book_30 : dk me_X11_book 30 (.bipush 8) 2 32 := And.intro (by decide +kernel) rfl
theorem d_X11_book_32 : dk me_X11_book 32 (.iload_n 1) 1 33 := And.intro (by decide +kernel) rfl
theorem d_X11_book_33 : dk me_X11_book 33 (.idiv) 1 34 := And.intro (by decide +kernel) rfl
theorem d_X11_book_34 : dk me_X11_book 34 (.if_icmp .gt 7) 3 37 := And.intro (by decide +kernel) rfl
theorem d_X11_book_37 : dk me_X11_book 37 (.iconst 1) 1 38 := And.intro (by decide +kernel) rfl
theorem d_X11_book_38 : dk me_X11_book 38 (.goto 4) 3 41 := And.intro (by decide +kernel) rfl
theorem d_X11_book_41 : dk me_X11_book 41 (.iconst 0) 1 42 := And.intro (by decide +kernel) rfl
theorem d_X11_book_42 : dk me_X11_book 42 (.invokestatic 53) 3 45 := And.intro (by decide +kernel) rfl
theorem d_X11_book_45 : dk me_X11_book 45 (.iload_n 3) 1 46 := And.intro (by decide +kernel) rfl
theorem d_X11_book_46 : dk me_X11_book 46 (.bipush 10) 2 48 := And.intro (by decide +kernel) rfl
theorem d_X11_book_48 : dk me_X11_book 48 (.if_icmp .lt 13) 3 51 := And.intro (by decide +kernel) rfl
theorem d_X11_book_51 : dk me_X11_book 51 (.iload_n 3) 1 52 := And.intro (by decide +kernel) rfl
theorem d_X11_book_52 : dk me_X11_book 52 (.bipush 24) 2 54 := And.intro (by decide +kernel) rfl
theorem d_X11_book_54 : dk me_X11_book 54 (.if_icmp .gt 7) 3 57 := And.intro (by decide +kernel) rfl
theorem d_X11_book_57 : dk me_X11_book 57 (.iconst 1) 1 58 := And.intro (by decide +kernel) rfl
theorem d_X11_book_58 : dk me_X11_book 58 (.goto 4) 3 61 := And.intro (by decide +kernel) rfl
theorem d_X11_book_61 : dk me_X11_book 61 (.iconst 0) 1 62 := And.intro (by decide +kernel) rfl
theorem d_X11_book_62 : dk me_X11_book 62 (.invokestatic 53) 3 65 := And.intro (by decide +kernel) rfl
theorem d_X11_book_65 : dk me_X11_book 65 (.iload 4) 2 67 := And.intro (by decide +kernel) rfl
theorem d_X11_book_67 : dk me_X11_book 67 (.iconst 1) 1 68 := And.intro (by decide +kernel) rfl
theorem d_X11_book_68 : dk me_X11_book 68 (.if_icmp .lt 14) 3 71 := And.intro (by decide +kernel) rfl
theorem d_X11_book_71 : dk me_X11_book 71 (.iload 4) 2 73 := And.intro (by decide +kernel) rfl
theorem d_X11_book_73 : dk me_X11_book 73 (.bipush 6) 2 75 := And.intro (by decide +kernel) rfl
theorem d_X11_book_75 : dk me_X11_book 75 (.if_icmp .gt 7) 3 78 := And.intro (by decide +kernel) rfl
theorem d_X11_book_78 : dk me_X11_book 78 (.iconst 1) 1 79 := And.intro (by decide +kernel) rfl
theorem d_X11_book_79 : dk me_X11_book 79 (.goto 4) 3 82 := And.intro (by decide +kernel) rfl
theorem d_X11_book_82 : dk me_X11_book 82 (.iconst 0) 1 83 := And.intro (by decide +kernel) rfl
theorem d_X11_book_83 : dk me_X11_book 83 (.invokestatic 53) 3 86 := And.intro (by decide +kernel) rfl
theorem d_X11_book_86 : dk me_X11_book 86 (.iload 5) 2 88 := And.intro (by decide +kernel) rfl
theorem d_X11_book_88 : dk me_X11_book 88 (.iconst 2) 1 89 := And.intro (by decide +kernel) rfl
theorem d_X11_book_89 : dk me_X11_book 89 (.if_icmp .lt 14) 3 92 := And.intro (by decide +kernel) rfl
theorem d_X11_book_92 : dk me_X11_book 92 (.iload 5) 2 94 := And.intro (by decide +kernel) rfl
theorem d_X11_book_94 : dk me_X11_book 94 (.bipush 24) 2 96 := And.intro (by decide +kernel) rfl
theorem d_X11_book_96 : dk me_X11_book 96 (.if_icmp .gt 7) 3 99 := And.intro (by decide +kernel) rfl
theorem d_X11_book_99 : dk me_X11_book 99 (.iconst 1) 1 100 := And.intro (by decide +kernel) rfl
theorem d_X11_book_100 : dk me_X11_book 100 (.goto 4) 3 103 := And.intro (by decide +kernel) rfl
theorem d_X11_book_103 : dk me_X11_book 103 (.iconst 0) 1 104 := And.intro (by decide +kernel) rfl
theorem d_X11_book_104 : dk me_X11_book 104 (.invokestatic 53) 3 107 := And.intro (by decide +kernel) rfl
theorem d_X11_book_107 : dk me_X11_book 107 (.aload_n 0) 1 108 := And.intro (by decide +kernel) rfl
theorem d_X11_book_108 : dk me_X11_book 108 (.getfield 137) 3 111 := And.intro (by decide +kernel) rfl
theorem d_X11_book_111 : dk me_X11_book 111 (.iconst 3) 1 112 := And.intro (by decide +kernel) rfl
theorem d_X11_book_112 : dk me_X11_book 112 (.if_icmp .ge 7) 3 115 := And.intro (by decide +kernel) rfl
theorem d_X11_book_115 : dk me_X11_book 115 (.iconst 1) 1 116 := And.intro (by decide +kernel) rfl
theorem d_X11_book_116 : dk me_X11_book 116 (.goto 4) 3 119 := And.intro (by decide +kernel) rfl
theorem d_X11_book_119 : dk me_X11_book 119 (.iconst 0) 1 120 := And.intro (by decide +kernel) rfl
theorem d_X11_book_120 : dk me_X11_book 120 (.invokestatic 69) 3 123 := And.intro (by decide +kernel) rfl
theorem d_X11_book_123 : dk me_X11_book 123 (.aload_n 0) 1 124 := And.intro (by decide +kernel) rfl
theorem d_X11_book_124 : dk me_X11_book 124 (.getfield 31) 3 127 := And.intro (by decide +kernel) rfl
theorem d_X11_book_127 : dk me_X11_book 127 (.aload_n 0) 1 128 := And.intro (by decide +kernel) rfl
theorem d_X11_book_128 : dk me_X11_book 128 (.getfield 137) 3 131 := And.intro (by decide +kernel) rfl
theorem d_X11_book_131 : dk me_X11_book 131 (.new 29) 3 134 := And.intro (by decide +kernel) rfl
theorem d_X11_book_134 : dk me_X11_book 134 (.dup) 1 135 := And.intro (by decide +kernel) rfl
theorem d_X11_book_135 : dk me_X11_book 135 (.iload_n 1) 1 136 := And.intro (by decide +kernel) rfl
theorem d_X11_book_136 : dk me_X11_book 136 (.iload_n 2) 1 137 := And.intro (by decide +kernel) rfl
theorem d_X11_book_137 : dk me_X11_book 137 (.iload_n 3) 1 138 := And.intro (by decide +kernel) rfl
theorem d_X11_book_138 : dk me_X11_book 138 (.iload 4) 2 140 := And.intro (by decide +kernel) rfl
theorem d_X11_book_140 : dk me_X11_book 140 (.iload 5) 2 142 := And.intro (by decide +kernel) rfl
theorem d_X11_book_142 : dk me_X11_book 142 (.invokespecial 140) 3 145 := And.intro (by decide +kernel) rfl
theorem d_X11_book_145 : dk me_X11_book 145 (.aastore) 1 146 := And.intro (by decide +kernel) rfl
theorem d_X11_book_146 : dk me_X11_book 146 (.aload_n 0) 1 147 := And.intro (by decide +kernel) rfl
theorem d_X11_book_147 : dk me_X11_book 147 (.dup) 1 148 := And.intro (by decide +kernel) rfl
theorem d_X11_book_148 : dk me_X11_book 148 (.getfield 137) 3 151 := And.intro (by decide +kernel) rfl
theorem d_X11_book_151 : dk me_X11_book 151 (.iconst 1) 1 152 := And.intro (by decide +kernel) rfl
theorem d_X11_book_152 : dk me_X11_book 152 (.iadd) 1 153 := And.intro (by decide +kernel) rfl
theorem d_X11_book_153 : dk me_X11_book 153 (.putfield 137) 3 156 := And.intro (by decide +kernel) rfl
theorem d_X11_book_156 : dk me_X11_book 156 (.aload_n 0) 1 157 := And.intro (by decide +kernel) rfl
theorem d_X11_book_157 : dk me_X11_book 157 (.getfield 137) 3 160 := And.intro (by decide +kernel) rfl
theorem d_X11_book_160 : dk me_X11_book 160 (.iconst 1) 1 161 := And.intro (by decide +kernel) rfl
theorem d_X11_book_161 : dk me_X11_book 161 (.isub) 1 162 := And.intro (by decide +kernel) rfl
theorem d_X11_book_162 : dk me_X11_book 162 (.ireturn) 1 163 := And.intro (by decide +kernel) rfl
theorem ms_X11_book {fx : FX} {m : MM} {l0 : Nat} {l1 : Int} {l2 : Int} {l3 : Int} {l4 : Int} {l5 : Int} : MS fx me_X11_book [aR (some (11, l0)), aI l1, aI l2, aI l3, aI l4, aI l5] m (f_X11_book m l0 l1 l2 l3 l4 l5) := by
  refine ms_of rfl mf_X11_book (b8 rfl) ?_
  refine s_top ?_
  show Sim fx me_X11_book 0 [(0, aR (some (11, l0))), (1, aI l1), (2, aI l2), (3, aI l3), (4, aI l4), (5, aI l5)] [] m _
  unfold f_X11_book
  have hj_X11_book_0_120 : ∀ (m_120 : MM) (l0_120 : Nat) (l1_120 : Int) (l2_120 : Int) (l3_120 : Int) (l4_120 : Int) (l5_120 : Int) (s0_120 : Int), Sim fx me_X11_book 120 [(0, aR (some (11, l0_120))), (1, aI l1_120), (2, aI l2_120), (3, aI l3_120), (4, aI l4_120), (5, aI l5_120)] [aI s0_120] m_120 ((j_X11_book_0_120 m_120 l0_120 l1_120 l2_120 l3_120 l4_120 l5_120 s0_120).bind (fun z => some z)) := by
    intro m_120 l0_120 l1_120 l2_120 l3_120 l4_120 l5_120 s0_120
    unfold j_X11_book_0_120
    refine s_cV (r_S d_X11_book_120 k_X11_requireState w_363 rfl rfl) ms_X11_requireState (b8 rfl) rfl rfl rfl (fun h => by cases h) (fun _ _ => Or.inr rfl) fun m11 => (s_aload_n d_X11_book_123 m0_ (s_getR cf d_X11_book_124 fl_X11_31 (s_nk fun i13 => (s_aload_n d_X11_book_127 m0_ (s_getN cf d_X11_book_128 fl_X11_137 ?_)))))
    refine s_bump fun m14 => (s_new cf d_X11_book_131 nw_X11_29 fun m15 => (s_dup d_X11_book_134 rfl (s_iload_n d_X11_book_135 m1_ (s_iload_n d_X11_book_136 m2_ (s_iload_n d_X11_book_137 m3_ ?_)))))
    refine s_iload d_X11_book_138 m4_ (s_iload d_X11_book_140 m5_ (s_cV (r_I d_X11_book_142 k_X0_init w_529 rfl rfl) ms_X0_init (b8 rfl) rfl rfl rfl (fun _ _ _ => rfl) (fun _ _ => Or.inl rfl) fun m16 => (s_stR d_X11_book_145 ka_56 (by decide) (b8 rfl) rfl rfl fun m18 => (s_aload_n d_X11_book_146 m0_ (s_dup d_X11_book_147 rfl ?_)))))
    refine s_getN cf d_X11_book_148 fl_X11_137 (s_iconst d_X11_book_151 n_1 (s_iadd d_X11_book_152 rfl rfl (s_ck (s_putN cf d_X11_book_153 fl_X11_137 (fun h => by cases h) fun m19 => (s_aload_n d_X11_book_156 m0_ ?_)))))
    exact s_getN cf d_X11_book_157 fl_X11_137 (s_iconst d_X11_book_160 n_1 (s_isub d_X11_book_161 rfl rfl (s_ck (s_iret d_X11_book_162 rfl rfl))))
  have hj_X11_book_0_104 : ∀ (m_104 : MM) (l0_104 : Nat) (l1_104 : Int) (l2_104 : Int) (l3_104 : Int) (l4_104 : Int) (l5_104 : Int) (s0_104 : Int), Sim fx me_X11_book 104 [(0, aR (some (11, l0_104))), (1, aI l1_104), (2, aI l2_104), (3, aI l3_104), (4, aI l4_104), (5, aI l5_104)] [aI s0_104] m_104 ((j_X11_book_0_104 m_104 l0_104 l1_104 l2_104 l3_104 l4_104 l5_104 s0_104).bind (fun z => some z)) := by
    intro m_104 l0_104 l1_104 l2_104 l3_104 l4_104 l5_104 s0_104
    unfold j_X11_book_0_104
    refine s_cV (r_S d_X11_book_104 k_X11_requireArgument w_284 rfl rfl) ms_X11_requireArgument (b8 rfl) rfl rfl rfl (fun h => by cases h) (fun _ _ => Or.inr rfl) fun m9 => (s_aload_n d_X11_book_107 m0_ (s_getN cf d_X11_book_108 fl_X11_137 (s_iconst d_X11_book_111 n_3 (s_icmp_ge (tgt := 119) d_X11_book_112 rfl ?_ ?_))))
    · exact s_iconst d_X11_book_119 n_0 (s_sub (subc m0_ (subc m1_ (subc m2_ (subc m3_ (subc m4_ (subc m5_ sub0)))))) (hj_X11_book_0_120 m9 l0_104 l1_104 l2_104 l3_104 l4_104 l5_104 0))
    exact s_iconst d_X11_book_115 n_1 (s_goto (tgt := 120) d_X11_book_116 rfl (s_sub (subc m0_ (subc m1_ (subc m2_ (subc m3_ (subc m4_ (subc m5_ sub0)))))) (hj_X11_book_0_120 m9 l0_104 l1_104 l2_104 l3_104 l4_104 l5_104 1)))
  have hj_X11_book_0_103 : ∀ (m_103 : MM) (l0_103 : Nat) (l1_103 : Int) (l2_103 : Int) (l3_103 : Int) (l4_103 : Int) (l5_103 : Int), Sim fx me_X11_book 103 [(0, aR (some (11, l0_103))), (1, aI l1_103), (2, aI l2_103), (3, aI l3_103), (4, aI l4_103), (5, aI l5_103)] [] m_103 ((j_X11_book_0_103 m_103 l0_103 l1_103 l2_103 l3_103 l4_103 l5_103).bind (fun z => some z)) := by
    intro m_103 l0_103 l1_103 l2_103 l3_103 l4_103 l5_103
    unfold j_X11_book_0_103
    exact s_iconst d_X11_book_103 n_0 (s_sub (subc m0_ (subc m1_ (subc m2_ (subc m3_ (subc m4_ (subc m5_ sub0)))))) (hj_X11_book_0_104 m_103 l0_103 l1_103 l2_103 l3_103 l4_103 l5_103 0))
  have hj_X11_book_0_83 : ∀ (m_83 : MM) (l0_83 : Nat) (l1_83 : Int) (l2_83 : Int) (l3_83 : Int) (l4_83 : Int) (l5_83 : Int) (s0_83 : Int), Sim fx me_X11_book 83 [(0, aR (some (11, l0_83))), (1, aI l1_83), (2, aI l2_83), (3, aI l3_83), (4, aI l4_83), (5, aI l5_83)] [aI s0_83] m_83 ((j_X11_book_0_83 m_83 l0_83 l1_83 l2_83 l3_83 l4_83 l5_83 s0_83).bind (fun z => some z)) := by
    intro m_83 l0_83 l1_83 l2_83 l3_83 l4_83 l5_83 s0_83
    unfold j_X11_book_0_83
    refine s_cV (r_S d_X11_book_83 k_X11_requireArgument w_284 rfl rfl) ms_X11_requireArgument (b8 rfl) rfl rfl rfl (fun h => by cases h) (fun _ _ => Or.inr rfl) fun m7 => (s_iload d_X11_book_86 m5_ (s_iconst d_X11_book_88 n_2 (s_icmp_lt (tgt := 103) d_X11_book_89 rfl ?_ ?_)))
    · exact s_sub (subc m0_ (subc m1_ (subc m2_ (subc m3_ (subc m4_ (subc m5_ sub0)))))) (hj_X11_book_0_103 m7 l0_83 l1_83 l2_83 l3_83 l4_83 l5_83)
    refine s_iload d_X11_book_92 m5_ (s_bipush d_X11_book_94 n_24 rfl (s_icmp_gt (tgt := 103) d_X11_book_96 rfl ?_ ?_))
    · exact s_sub (subc m0_ (subc m1_ (subc m2_ (subc m3_ (subc m4_ (subc m5_ sub0)))))) (hj_X11_book_0_103 m7 l0_83 l1_83 l2_83 l3_83 l4_83 l5_83)
    exact s_iconst d_X11_book_99 n_1 (s_goto (tgt := 104) d_X11_book_100 rfl (s_sub (subc m0_ (subc m1_ (subc m2_ (subc m3_ (subc m4_ (subc m5_ sub0)))))) (hj_X11_book_0_104 m7 l0_83 l1_83 l2_83 l3_83 l4_83 l5_83 1)))
  have hj_X11_book_0_82 : ∀ (m_82 : MM) (l0_82 : Nat) (l1_82 : Int) (l2_82 : Int) (l3_82 : Int) (l4_82 : Int) (l5_82 : Int), Sim fx me_X11_book 82 [(0, aR (some (11, l0_82))), (1, aI l1_82), (2, aI l2_82), (3, aI l3_82), (4, aI l4_82), (5, aI l5_82)] [] m_82 ((j_X11_book_0_82 m_82 l0_82 l1_82 l2_82 l3_82 l4_82 l5_82).bind (fun z => some z)) := by
    intro m_82 l0_82 l1_82 l2_82 l3_82 l4_82 l5_82
    unfold j_X11_book_0_82
    exact s_iconst d_X11_book_82 n_0 (s_sub (subc m0_ (subc m1_ (subc m2_ (subc m3_ (subc m4_ (subc m5_ sub0)))))) (hj_X11_book_0_83 m_82 l0_82 l1_82 l2_82 l3_82 l4_82 l5_82 0))
  have hj_X11_book_0_62 : ∀ (m_62 : MM) (l0_62 : Nat) (l1_62 : Int) (l2_62 : Int) (l3_62 : Int) (l4_62 : Int) (l5_62 : Int) (s0_62 : Int), Sim fx me_X11_book 62 [(0, aR (some (11, l0_62))), (1, aI l1_62), (2, aI l2_62), (3, aI l3_62), (4, aI l4_62), (5, aI l5_62)] [aI s0_62] m_62 ((j_X11_book_0_62 m_62 l0_62 l1_62 l2_62 l3_62 l4_62 l5_62 s0_62).bind (fun z => some z)) := by
    intro m_62 l0_62 l1_62 l2_62 l3_62 l4_62 l5_62 s0_62
    unfold j_X11_book_0_62
    refine s_cV (r_S d_X11_book_62 k_X11_requireArgument w_284 rfl rfl) ms_X11_requireArgument (b8 rfl) rfl rfl rfl (fun h => by cases h) (fun _ _ => Or.inr rfl) fun m5 => (s_iload d_X11_book_65 m4_ (s_iconst d_X11_book_67 n_1 (s_icmp_lt (tgt := 82) d_X11_book_68 rfl ?_ ?_)))
    · exact s_sub (subc m0_ (subc m1_ (subc m2_ (subc m3_ (subc m4_ (subc m5_ sub0)))))) (hj_X11_book_0_82 m5 l0_62 l1_62 l2_62 l3_62 l4_62 l5_62)
    refine s_iload d_X11_book_71 m4_ (s_bipush d_X11_book_73 n_6 rfl (s_icmp_gt (tgt := 82) d_X11_book_75 rfl ?_ ?_))
    · exact s_sub (subc m0_ (subc m1_ (subc m2_ (subc m3_ (subc m4_ (subc m5_ sub0)))))) (hj_X11_book_0_82 m5 l0_62 l1_62 l2_62 l3_62 l4_62 l5_62)
    exact s_iconst d_X11_book_78 n_1 (s_goto (tgt := 83) d_X11_book_79 rfl (s_sub (subc m0_ (subc m1_ (subc m2_ (subc m3_ (subc m4_ (subc m5_ sub0)))))) (hj_X11_book_0_83 m5 l0_62 l1_62 l2_62 l3_62 l4_62 l5_62 1)))
  have hj_X11_book_0_61 : ∀ (m_61 : MM) (l0_61 : Nat) (l1_61 : Int) (l2_61 : Int) (l3_61 : Int) (l4_61 : Int) (l5_61 : Int), Sim fx me_X11_book 61 [(0, aR (some (11, l0_61))), (1, aI l1_61), (2, aI l2_61), (3, aI l3_61), (4, aI l4_61), (5, aI l5_61)] [] m_61 ((j_X11_book_0_61 m_61 l0_61 l1_61 l2_61 l3_61 l4_61 l5_61).bind (fun z => some z)) := by
    intro m_61 l0_61 l1_61 l2_61 l3_61 l4_61 l5_61
    unfold j_X11_book_0_61
    exact s_iconst d_X11_book_61 n_0 (s_sub (subc m0_ (subc m1_ (subc m2_ (subc m3_ (subc m4_ (subc m5_ sub0)))))) (hj_X11_book_0_62 m_61 l0_61 l1_61 l2_61 l3_61 l4_61 l5_61 0))
  have hj_X11_book_0_42 : ∀ (m_42 : MM) (l0_42 : Nat) (l1_42 : Int) (l2_42 : Int) (l3_42 : Int) (l4_42 : Int) (l5_42 : Int) (s0_42 : Int), Sim fx me_X11_book 42 [(0, aR (some (11, l0_42))), (1, aI l1_42), (2, aI l2_42), (3, aI l3_42), (4, aI l4_42), (5, aI l5_42)] [aI s0_42] m_42 ((j_X11_book_0_42 m_42 l0_42 l1_42 l2_42 l3_42 l4_42 l5_42 s0_42).bind (fun z => some z)) := by
    intro m_42 l0_42 l1_42 l2_42 l3_42 l4_42 l5_42 s0_42
    unfold j_X11_book_0_42
    refine s_cV (r_S d_X11_book_42 k_X11_requireArgument w_284 rfl rfl) ms_X11_requireArgument (b8 rfl) rfl rfl rfl (fun h => by cases h) (fun _ _ => Or.inr rfl) fun m3 => (s_iload_n d_X11_book_45 m3_ (s_bipush d_X11_book_46 n_10 rfl (s_icmp_lt (tgt := 61) d_X11_book_48 rfl ?_ ?_)))
    · exact s_sub (subc m0_ (subc m1_ (subc m2_ (subc m3_ (subc m4_ (subc m5_ sub0)))))) (hj_X11_book_0_61 m3 l0_42 l1_42 l2_42 l3_42 l4_42 l5_42)
    refine s_iload_n d_X11_book_51 m3_ (s_bipush d_X11_book_52 n_24 rfl (s_icmp_gt (tgt := 61) d_X11_book_54 rfl ?_ ?_))
    · exact s_sub (subc m0_ (subc m1_ (subc m2_ (subc m3_ (subc m4_ (subc m5_ sub0)))))) (hj_X11_book_0_61 m3 l0_42 l1_42 l2_42 l3_42 l4_42 l5_42)
    exact s_iconst d_X11_book_57 n_1 (s_goto (tgt := 62) d_X11_book_58 rfl (s_sub (subc m0_ (subc m1_ (subc m2_ (subc m3_ (subc m4_ (subc m5_ sub0)))))) (hj_X11_book_0_62 m3 l0_42 l1_42 l2_42 l3_42 l4_42 l5_42 1)))
  have hj_X11_book_0_41 : ∀ (m_41 : MM) (l0_41 : Nat) (l1_41 : Int) (l2_41 : Int) (l3_41 : Int) (l4_41 : Int) (l5_41 : Int), Sim fx me_X11_book 41 [(0, aR (some (11, l0_41))), (1, aI l1_41), (2, aI l2_41), (3, aI l3_41), (4, aI l4_41), (5, aI l5_41)] [] m_41 ((j_X11_book_0_41 m_41 l0_41 l1_41 l2_41 l3_41 l4_41 l5_41).bind (fun z => some z)) := by
    intro m_41 l0_41 l1_41 l2_41 l3_41 l4_41 l5_41
    unfold j_X11_book_0_41
    exact s_iconst d_X11_book_41 n_0 (s_sub (subc m0_ (subc m1_ (subc m2_ (subc m3_ (subc m4_ (subc m5_ sub0)))))) (hj_X11_book_0_42 m_41 l0_41 l1_41 l2_41 l3_41 l4_41 l5_41 0))
  have hj_X11_book_0_21 : ∀ (m_21 : MM) (l0_21 : Nat) (l1_21 : Int) (l2_21 : Int) (l3_21 : Int) (l4_21 : Int) (l5_21 : Int) (s0_21 : Int), Sim fx me_X11_book 21 [(0, aR (some (11, l0_21))), (1, aI l1_21), (2, aI l2_21), (3, aI l3_21), (4, aI l4_21), (5, aI l5_21)] [aI s0_21] m_21 ((j_X11_book_0_21 m_21 l0_21 l1_21 l2_21 l3_21 l4_21 l5_21 s0_21).bind (fun z => some z)) := by
    intro m_21 l0_21 l1_21 l2_21 l3_21 l4_21 l5_21 s0_21
    unfold j_X11_book_0_21
    refine s_cV (r_S d_X11_book_21 k_X11_requireArgument w_284 rfl rfl) ms_X11_requireArgument (b8 rfl) rfl rfl rfl (fun h => by cases h) (fun _ _ => Or.inr rfl) fun m1 => (s_iload_n d_X11_book_24 m2_ (s_iconst d_X11_book_25 n_1 (s_icmp_lt (tgt := 41) d_X11_book_26 rfl ?_ ?_)))
    · exact s_sub (subc m0_ (subc m1_ (subc m2_ (subc m3_ (subc m4_ (subc m5_ sub0)))))) (hj_X11_book_0_41 m1 l0_21 l1_21 l2_21 l3_21 l4_21 l5_21)
    refine s_iload_n d_X11_book_29 m2_ (s_bipush d_X11_book_30 n_8 rfl (s_iload_n d_X11_book_32 m1_ (s_idiv d_X11_book_33 (s_icmp_gt (tgt := 41) d_X11_book_34 rfl ?_ ?_))))
    · exact s_sub (subc m0_ (subc m1_ (subc m2_ (subc m3_ (subc m4_ (subc m5_ sub0)))))) (hj_X11_book_0_41 m1 l0_21 l1_21 l2_21 l3_21 l4_21 l5_21)
    exact s_iconst d_X11_book_37 n_1 (s_goto (tgt := 42) d_X11_book_38 rfl (s_sub (subc m0_ (subc m1_ (subc m2_ (subc m3_ (subc m4_ (subc m5_ sub0)))))) (hj_X11_book_0_42 m1 l0_21 l1_21 l2_21 l3_21 l4_21 l5_21 1)))
  have hj_X11_book_0_16 : ∀ (m_16 : MM) (l0_16 : Nat) (l1_16 : Int) (l2_16 : Int) (l3_16 : Int) (l4_16 : Int) (l5_16 : Int), Sim fx me_X11_book 16 [(0, aR (some (11, l0_16))), (1, aI l1_16), (2, aI l2_16), (3, aI l3_16), (4, aI l4_16), (5, aI l5_16)] [] m_16 ((j_X11_book_0_16 m_16 l0_16 l1_16 l2_16 l3_16 l4_16 l5_16).bind (fun z => some z)) := by
    intro m_16 l0_16 l1_16 l2_16 l3_16 l4_16 l5_16
    unfold j_X11_book_0_16
    exact s_iconst d_X11_book_16 n_1 (s_goto (tgt := 21) d_X11_book_17 rfl (s_sub (subc m0_ (subc m1_ (subc m2_ (subc m3_ (subc m4_ (subc m5_ sub0)))))) (hj_X11_book_0_21 m_16 l0_16 l1_16 l2_16 l3_16 l4_16 l5_16 1)))
  refine s_iload_n d_X11_book_0 m1_ (s_iconst d_X11_book_1 n_2 (s_icmp_eq (tgt := 16) d_X11_book_2 rfl ?_ ?_))
  · exact s_sub (subc m0_ (subc m1_ (subc m2_ (subc m3_ (subc m4_ (subc m5_ sub0)))))) (hj_X11_book_0_16 m l0 l1 l2 l3 l4 l5)
  refine s_iload_n d_X11_book_5 m1_ (s_iconst d_X11_book_6 n_4 (s_icmp_eq (tgt := 16) d_X11_book_7 rfl ?_ ?_))
  · exact s_sub (subc m0_ (subc m1_ (subc m2_ (subc m3_ (subc m4_ (subc m5_ sub0)))))) (hj_X11_book_0_16 m l0 l1 l2 l3 l4 l5)
  refine s_iload_n d_X11_book_10 m1_ (s_bipush d_X11_book_11 n_8 rfl (s_icmp_ne (tgt := 20) d_X11_book_13 rfl ?_ ?_))
  · exact s_iconst d_X11_book_20 n_0 (s_sub (subc m0_ (subc m1_ (subc m2_ (subc m3_ (subc m4_ (subc m5_ sub0)))))) (hj_X11_book_0_21 m l0 l1 l2 l3 l4 l5 0))
  exact s_sub (subc m0_ (subc m1_ (subc m2_ (subc m3_ (subc m4_ (subc m5_ sub0)))))) (hj_X11_book_0_16 m l0 l1 l2 l3 l4 l5)
theorem d_L_book_0 : dk me_L_book 0 (.aload 6) 2 2 := And.intro (by decide +kernel) rfl
theorem d_L_book_2 : dk me_L_book 2 (.iconst 0) 1 3 := And.intro (by decide +kernel) rfl
theorem d_L_book_3 : dk me_L_book 3 (.aload_n 0) 1 4 := And.intro (by decide +kernel) rfl
theorem d_L_book_4 : dk me_L_book 4 (.iload_n 1) 1 5 := And.intro (by decide +kernel) rfl
theorem d_L_book_5 : dk me_L_book 5 (.iload_n 2) 1 6 := And.intro (by decide +kernel) rfl
theorem d_L_book_6 : dk me_L_book 6 (.iload_n 3) 1 7 := And.intro (by decide +kernel) rfl
theorem d_L_book_7 : dk me_L_book 7 (.iload 4) 2 9 := And.intro (by decide +kernel) rfl
theorem d_L_book_9 : dk me_L_book 9 (.iload 5) 2 11 := And.intro (by decide +kernel) rfl
theorem d_L_book_11 : dk me_L_book 11 (.invokevirtual 41) 3 14 := And.intro (by decide +kernel) rfl
theorem d_L_book_14 : dk me_L_book 14 (.i2l) 1 15 := And.intro (by decide +kernel) rfl
theorem d_L_book_15 : dk me_L_book 15 (.lastore) 1 16 := And.intro (by decide +kernel) rfl
theorem d_L_book_16 : dk me_L_book 16 (.goto 11) 3 19 := And.intro (by decide +kernel) rfl
theorem d_L_book_19 : dk me_L_book 19 (.astore 7) 2 21 := And.intro (by decide +kernel) rfl
theorem d_L_book_21 : dk me_L_book 21 (.iconst 1) 1 22 := And.intro (by decide +kernel) rfl
theorem d_L_book_22 : dk me_L_book 22 (.ireturn) 1 23 := And.intro (by decide +kernel) rfl
theorem d_L_book_23 : dk me_L_book 23 (.astore 7) 2 25 := And.intro (by decide +kernel) rfl
theorem d_L_book_25 : dk me_L_book 25 (.iconst 2) 1 26 := And.intro (by decide +kernel) rfl
theorem d_L_book_26 : dk me_L_book 26 (.ireturn) 1 27 := And.intro (by decide +kernel) rfl
theorem d_L_book_27 : dk me_L_book 27 (.iconst 0) 1 28 := And.intro (by decide +kernel) rfl
theorem d_L_book_28 : dk me_L_book 28 (.ireturn) 1 29 := And.intro (by decide +kernel) rfl
theorem ms_L_book {fx : FX} {m : MM} {l0 : Nat} {l1 : Int} {l2 : Int} {l3 : Int} {l4 : Int} {l5 : Int} {l6 : Nat} : MS fx me_L_book [aR (some (11, l0)), aI l1, aI l2, aI l3, aI l4, aI l5, aR (some (131, l6))] m (f_L_book m l0 l1 l2 l3 l4 l5 l6) := by
  refine ms_ofH rfl mf_L_book (b8 rfl) ?_
  refine s_top ?_
  show Sim fx me_L_book 0 [(0, aR (some (11, l0))), (1, aI l1), (2, aI l2), (3, aI l3), (4, aI l4), (5, aI l5), (6, aR (some (131, l6)))] [] m _
  unfold f_L_book
  refine s_aload d_L_book_0 m6_ (s_iconst d_L_book_2 n_0 (s_aload_n d_L_book_3 m0_ (s_iload_n d_L_book_4 m1_ (s_iload_n d_L_book_5 m2_ (s_iload_n d_L_book_6 m3_ ?_)))))
  refine s_iload d_L_book_7 m4_ (s_iload d_L_book_9 m5_ (s_cIC (r_V d_L_book_11 k_X11_book w_524 rfl rfl) ms_X11_book (b8 rfl) rfl rfl ?_ ?_ ?_ fun v2 m1 => ?_))
  · exact fun _ => Or.inl rfl
  · refine fun mx => Or.inr ⟨19, ⟨rfl, by decide, 1, wx_13_1, Or.inl ⟨rfl, rfl⟩⟩, fun qx => ?_⟩
    exact s_astoreV (L' := [(7, aV (.ref qx)), (0, aR (some (11, l0))), (1, aI l1), (2, aI l2), (3, aI l3), (4, aI l4), (5, aI l5), (6, aR (some (131, l6)))]) d_L_book_19 (b8 rfl) rfl (s_iconst d_L_book_21 n_1 (s_iret d_L_book_22 rfl rfl))
  · refine fun mx => Or.inr ⟨23, ⟨rfl, by decide, 1, wx_13_1, Or.inr ⟨by decide, ⟨rfl, by decide, 2, wx_15_2, Or.inl ⟨rfl, rfl⟩⟩⟩⟩, fun qx => ?_⟩
    exact s_astoreV (L' := [(7, aV (.ref qx)), (0, aR (some (11, l0))), (1, aI l1), (2, aI l2), (3, aI l3), (4, aI l4), (5, aI l5), (6, aR (some (131, l6)))]) d_L_book_23 (b8 rfl) rfl (s_iconst d_L_book_25 n_2 (s_iret d_L_book_26 rfl rfl))
  exact s_i2l d_L_book_14 (s_stL d_L_book_15 ka_131 rfl fun m3 => (s_goto (tgt := 27) d_L_book_16 rfl (s_iconst d_L_book_27 n_0 (s_iret d_L_book_28 rfl rfl))))
theorem d_X11_isSort_0 : dk me_X11_isSort 0 (.iload_n 0) 1 1 := And.intro (by decide +kernel) rfl
theorem d_X11_isSort_1 : dk me_X11_isSort 1 (.ifCond .lt 13) 3 4 := And.intro (by decide +kernel) rfl
theorem d_X11_isSort_4 : dk me_X11_isSort 4 (.iload_n 0) 1 5 := And.intro (by decide +kernel) rfl
theorem d_X11_isSort_5 : dk me_X11_isSort 5 (.bipush 28) 2 7 := And.intro (by decide +kernel) rfl
theorem d_X11_isSort_7 : dk me_X11_isSort 7 (.if_icmp .ge 7) 3 10 := And.intro (by decide +kernel) rfl
theorem d_X11_isSort_10 : dk me_X11_isSort 10 (.iconst 1) 1 11 := And.intro (by decide +kernel) rfl
theorem d_X11_isSort_11 : dk me_X11_isSort 11 (.goto 4) 3 14 := And.intro (by decide +kernel) rfl
theorem d_X11_isSort_14 : dk me_X11_isSort 14 (.iconst 0) 1 15 := And.intro (by decide +kernel) rfl
theorem d_X11_isSort_15 : dk me_X11_isSort 15 (.ireturn) 1 16 := And.intro (by decide +kernel) rfl
theorem ms_X11_isSort {fx : FX} {m : MM} {l0 : Int} : MS fx me_X11_isSort [aI l0] m ((f_X11_isSort m l0).bind fun v => some (.inl (some (aI v)), m)) := by
  refine ms_of rfl mf_X11_isSort (b8 rfl) ?_
  show Sim fx me_X11_isSort 0 [(0, aI l0)] [] m _
  unfold f_X11_isSort
  refine s_iload_n d_X11_isSort_0 m0_ (s_if_lt (tgt := 14) d_X11_isSort_1 rfl ?_ ?_)
  · exact s_iconst d_X11_isSort_14 n_0 (s_zretl d_X11_isSort_15 rfl (by decide) rfl)
  refine s_iload_n d_X11_isSort_4 m0_ (s_bipush d_X11_isSort_5 n_28 rfl (s_icmp_ge (tgt := 14) d_X11_isSort_7 rfl ?_ ?_))
  · exact s_iconst d_X11_isSort_14 n_0 (s_zretl d_X11_isSort_15 rfl (by decide) rfl)
  exact s_iconst d_X11_isSort_10 n_1 (s_goto (tgt := 15) d_X11_isSort_11 rfl (s_zretl d_X11_isSort_15 rfl (by decide) rfl))
theorem d_X1_pieceUnder_0 : dk me_X1_pieceUnder 0 (.aload_n 0) 1 1 := And.intro (by decide +kernel) rfl
theorem d_X1_pieceUnder_1 : dk me_X1_pieceUnder 1 (.getfield 24) 3 4 := And.intro (by decide +kernel) rfl
theorem d_X1_pieceUnder_4 : dk me_X1_pieceUnder 4 (.iload_n 1) 1 5 := And.intro (by decide +kernel) rfl
theorem d_X1_pieceUnder_5 : dk me_X1_pieceUnder 5 (.iaload) 1 6 := And.intro (by decide +kernel) rfl
theorem d_X1_pieceUnder_6 : dk me_X1_pieceUnder 6 (.istore_n 3) 1 7 := And.intro (by decide +kernel) rfl
theorem d_X1_pieceUnder_7 : dk me_X1_pieceUnder 7 (.iconst 0) 1 8 := And.intro (by decide +kernel) rfl
theorem d_X1_pieceUnder_8 : dk me_X1_pieceUnder 8 (.istore 4) 2 10 := And.intro (by decide +kernel) rfl
theorem d_X1_pieceUnder_10 : dk me_X1_pieceUnder 10 (.iload 4) 2 12 := And.intro (by decide +kernel) rfl
theorem d_X1_pieceUnder_12 : dk me_X1_pieceUnder 12 (.iload_n 2) 1 13 := And.intro (by decide +kernel) rfl
theorem d_X1_pieceUnder_13 : dk me_X1_pieceUnder 13 (.if_icmp .ge 21) 3 16 := And.intro (by decide +kernel) rfl
theorem d_X1_pieceUnder_16 : dk me_X1_pieceUnder 16 (.iload_n 3) 1 17 := And.intro (by decide +kernel) rfl
theorem d_X1_pieceUnder_17 : dk me_X1_pieceUnder 17 (.iconst (-1)) 1 18 := And.intro (by decide +kernel) rfl
theorem d_X1_pieceUnder_18 : dk me_X1_pieceUnder 18 (.if_icmp .eq 16) 3 21 := And.intro (by decide +kernel) rfl
theorem d_X1_pieceUnder_21 : dk me_X1_pieceUnder 21 (.aload_n 0) 1 22 := And.intro (by decide +kernel) rfl
theorem d_X1_pieceUnder_22 : dk me_X1_pieceUnder 22 (.getfield 21) 3 25 := And.intro (by decide +kernel) rfl
theorem d_X1_pieceUnder_25 : dk me_X1_pieceUnder 25 (.iload_n 3) 1 26 := And.intro (by decide +kernel) rfl
theorem d_X1_pieceUnder_26 : dk me_X1_pieceUnder 26 (.iaload) 1 27 := And.intro (by decide +kernel) rfl
theorem d_X1_pieceUnder_27 : dk me_X1_pieceUnder 27 (.istore_n 3) 1 28 := And.intro (by decide +kernel) rfl
theorem d_X1_pieceUnder_28 : dk me_X1_pieceUnder 28 (.iinc 4 1) 3 31 := And.intro (by decide +kernel) rfl
theorem d_X1_pieceUnder_31 : dk me_X1_pieceUnder 31 (.goto (-21)) 3 34 := And.intro (by decide +kernel) rfl
theorem d_X1_pieceUnder_34 : dk me_X1_pieceUnder 34 (.iload_n 3) 1 35 := And.intro (by decide +kernel) rfl
theorem d_X1_pieceUnder_35 : dk me_X1_pieceUnder 35 (.ireturn) 1 36 := And.intro (by decide +kernel) rfl
theorem ms_X1_pieceUnder {fx : FX} {m : MM} {l0 : Nat} {l1 : Int} {l2 : Int} : MS fx me_X1_pieceUnder [aR (some (1, l0)), aI l1, aI l2] m ((f_X1_pieceUnder m l0 l1 l2).bind fun v => some (.inl (some (aI v)), m)) := by
  refine ms_of rfl mf_X1_pieceUnder (b8 rfl) ?_
  show Sim fx me_X1_pieceUnder 0 [(0, aR (some (1, l0))), (1, aI l1), (2, aI l2)] [] m _
  unfold f_X1_pieceUnder
  have hj_X1_pieceUnder_0_34 : ∀ (l3_34 : Int), Sim fx me_X1_pieceUnder 34 [(3, aI l3_34)] [] m ((j_X1_pieceUnder_0_34 m l3_34).bind (fun v => some (.inl (some (aI v)), m))) := by
    intro l3_34
    unfold j_X1_pieceUnder_0_34
    exact s_iload_n d_X1_pieceUnder_34 m0_ (s_iret d_X1_pieceUnder_35 rfl rfl)
  refine s_aload_n d_X1_pieceUnder_0 m0_ (s_getR cf d_X1_pieceUnder_1 fl_X1_24 (s_nk fun i1 => (s_iload_n d_X1_pieceUnder_4 m1_ (s_ldN d_X1_pieceUnder_5 ka_24 rfl fun v2 => (s_istore_n (L' := [(3, aI v2), (0, aR (some (1, l0))), (1, aI l1), (2, aI l2)]) d_X1_pieceUnder_6 (b8 rfl) rfl ?_)))))
  refine s_iconst d_X1_pieceUnder_7 n_0 (s_istore (L' := [(4, aI 0), (3, aI v2), (0, aR (some (1, l0))), (1, aI l1), (2, aI l2)]) d_X1_pieceUnder_8 (b8 rfl) rfl (s_sub (subc m1_ (subc m0_ (subc m2_ (subc m4_ sub0)))) (s_lp2 (fun s => [(3, aI (s.1)), (4, aI (s.2)), (0, aR (some (1, l0))), (2, aI l2)]) (fun s => m) (v2, 0) fun k10 hx10 s ih0 => ?_)))
  obtain ⟨l3_10, l4_10⟩ := s
  have ih10 := ih0
  clear ih0
  try dsimp only
  unfold b_X1_pieceUnder_10
  refine s_iload d_X1_pieceUnder_10 m1_ (s_iload_n d_X1_pieceUnder_12 m3_ (s_icmp_ge (tgt := 34) d_X1_pieceUnder_13 rfl ?_ ?_))
  · exact s_exit (hx10 _) (s_sub (subc m0_ sub0) (hj_X1_pieceUnder_0_34 l3_10))
  refine s_iload_n d_X1_pieceUnder_16 m0_ (s_iconst d_X1_pieceUnder_17 n_m1 (s_icmp_eq (tgt := 34) d_X1_pieceUnder_18 rfl ?_ ?_))
  · exact s_exit (hx10 _) (s_sub (subc m0_ sub0) (hj_X1_pieceUnder_0_34 l3_10))
  refine s_aload_n d_X1_pieceUnder_21 m2_ (s_getR cf d_X1_pieceUnder_22 fl_X1_21 (s_nk fun i3 => (s_iload_n d_X1_pieceUnder_25 m0_ (s_ldN d_X1_pieceUnder_26 ka_23 rfl fun v4 => (s_istore_n (L' := [(3, aI v4), (4, aI l4_10), (0, aR (some (1, l0))), (2, aI l2)]) d_X1_pieceUnder_27 (b8 rfl) rfl ?_)))))
  exact s_iinc (L' := [(4, aI (l4_10 + 1)), (3, aI v4), (0, aR (some (1, l0))), (2, aI l2)]) d_X1_pieceUnder_28 m1_ (b8 rfl) rfl (s_goto (tgt := 10) d_X1_pieceUnder_31 rfl (s_sub (subc m1_ (subc m0_ (subc m2_ (subc m3_ sub0)))) (s_back (ih10 (v4, (l4_10 + 1))))))
theorem d_X11_box_0 : dk me_X11_box 0 (.iload_n 1) 1 1 := And.intro (by decide +kernel) rfl
theorem d_X11_box_1 : dk me_X11_box 1 (.invokestatic 105) 3 4 := And.intro (by decide +kernel) rfl
theorem d_X11_box_4 : dk me_X11_box 4 (.invokestatic 53) 3 7 := And.intro (by decide +kernel) rfl
theorem d_X11_box_7 : dk me_X11_box 7 (.iload_n 2) 1 8 := And.intro (by decide +kernel) rfl
theorem d_X11_box_8 : dk me_X11_box 8 (.ifCond .lt 7) 3 11 := And.intro (by decide +kernel) rfl
theorem d_X11_box_11 : dk me_X11_box 11 (.iconst 1) 1 12 := And.intro (by decide +kernel) rfl
theorem d_X11_box_12 : dk me_X11_box 12 (.goto 4) 3 15 := And.intro (by decide +kernel) rfl
theorem d_X11_box_15 : dk me_X11_box 15 (.iconst 0) 1 16 := And.intro (by decide +kernel) rfl
theorem d_X11_box_16 : dk me_X11_box 16 (.invokestatic 115) 3 19 := And.intro (by decide +kernel) rfl
theorem d_X11_box_19 : dk me_X11_box 19 (.aload_n 0) 1 20 := And.intro (by decide +kernel) rfl
theorem d_X11_box_20 : dk me_X11_box 20 (.getfield 19) 3 23 := And.intro (by decide +kernel) rfl
theorem d_X11_box_23 : dk me_X11_box 23 (.iload_n 1) 1 24 := And.intro (by decide +kernel) rfl
theorem d_X11_box_24 : dk me_X11_box 24 (.iload_n 2) 1 25 := And.intro (by decide +kernel) rfl
theorem d_X11_box_25 : dk me_X11_box 25 (.invokevirtual 127) 3 28 := And.intro (by decide +kernel) rfl
theorem d_X11_box_28 : dk me_X11_box 28 (.ireturn) 1 29 := And.intro (by decide +kernel) rfl
theorem ms_X11_box {fx : FX} {m : MM} {l0 : Nat} {l1 : Int} {l2 : Int} : MS fx me_X11_box [aR (some (11, l0)), aI l1, aI l2] m (f_X11_box m l0 l1 l2) := by
  refine ms_of rfl mf_X11_box (b8 rfl) ?_
  refine s_top ?_
  show Sim fx me_X11_box 0 [(0, aR (some (11, l0))), (1, aI l1), (2, aI l2)] [] m _
  unfold f_X11_box
  have hj_X11_box_0_16 : ∀ (m_16 : MM) (l0_16 : Nat) (l1_16 : Int) (l2_16 : Int) (s0_16 : Int), Sim fx me_X11_box 16 [(0, aR (some (11, l0_16))), (1, aI l1_16), (2, aI l2_16)] [aI s0_16] m_16 ((j_X11_box_0_16 m_16 l0_16 l1_16 l2_16 s0_16).bind (fun z => some z)) := by
    intro m_16 l0_16 l1_16 l2_16 s0_16
    unfold j_X11_box_0_16
    refine s_cV (r_S d_X11_box_16 k_X11_requireIndex w_451 rfl rfl) ms_X11_requireIndex (b8 rfl) rfl rfl rfl (fun h => by cases h) (fun _ _ => Or.inr rfl) fun m4 => (s_aload_n d_X11_box_19 m0_ (s_getR cf d_X11_box_20 fl_X11_19 (s_nk fun i6 => (s_iload_n d_X11_box_23 m1_ (s_iload_n d_X11_box_24 m2_ ?_)))))
    exact s_pI (r_V d_X11_box_25 k_X1_pieceUnder w_484 rfl rfl) ms_X1_pieceUnder (b8 rfl) rfl rfl rfl fun v7 => (s_iret d_X11_box_28 rfl rfl)
  refine s_iload_n d_X11_box_0 m1_ (s_pI (r_S d_X11_box_1 k_X11_isSort w_428 rfl rfl) ms_X11_isSort (b8 rfl) rfl rfl rfl fun v1 => (s_cV (r_S d_X11_box_4 k_X11_requireArgument w_284 rfl rfl) ms_X11_requireArgument (b8 rfl) rfl rfl rfl (fun h => by cases h) (fun _ _ => Or.inr rfl) fun m2 => (s_iload_n d_X11_box_7 m2_ (s_if_lt (tgt := 15) d_X11_box_8 rfl ?_ ?_))))
  · exact s_iconst d_X11_box_15 n_0 (s_sub (subc m0_ (subc m1_ (subc m2_ sub0))) (hj_X11_box_0_16 m2 l0 l1 l2 0))
  exact s_iconst d_X11_box_11 n_1 (s_goto (tgt := 16) d_X11_box_12 rfl (s_sub (subc m0_ (subc m1_ (subc m2_ sub0))) (hj_X11_box_0_16 m2 l0 l1 l2 1)))
theorem d_L_box_0 : dk me_L_box 0 (.aload_n 3) 1 1 := And.intro (by decide +kernel) rfl
theorem d_L_box_1 : dk me_L_box 1 (.iconst 0) 1 2 := And.intro (by decide +kernel) rfl
theorem d_L_box_2 : dk me_L_box 2 (.aload_n 0) 1 3 := And.intro (by decide +kernel) rfl
theorem d_L_box_3 : dk me_L_box 3 (.iload_n 1) 1 4 := And.intro (by decide +kernel) rfl
theorem d_L_box_4 : dk me_L_box 4 (.iload_n 2) 1 5 := And.intro (by decide +kernel) rfl
theorem d_L_box_5 : dk me_L_box 5 (.invokevirtual 34) 3 8 := And.intro (by decide +kernel) rfl
theorem d_L_box_8 : dk me_L_box 8 (.i2l) 1 9 := And.intro (by decide +kernel) rfl
theorem d_L_box_9 : dk me_L_box 9 (.lastore) 1 10 := And.intro (by decide +kernel) rfl
theorem d_L_box_10 : dk me_L_box 10 (.goto 11) 3 13 := And.intro (by decide +kernel) rfl
theorem d_L_box_13 : dk me_L_box 13 (.astore 4) 2 15 := And.intro (by decide +kernel) rfl
theorem d_L_box_15 : dk me_L_box 15 (.iconst 1) 1 16 := And.intro (by decide +kernel) rfl
theorem d_L_box_16 : dk me_L_box 16 (.ireturn) 1 17 := And.intro (by decide +kernel) rfl
theorem d_L_box_17 : dk me_L_box 17 (.astore 4) 2 19 := And.intro (by decide +kernel) rfl
theorem d_L_box_19 : dk me_L_box 19 (.iconst 2) 1 20 := And.intro (by decide +kernel) rfl
theorem d_L_box_20 : dk me_L_box 20 (.ireturn) 1 21 := And.intro (by decide +kernel) rfl
theorem d_L_box_21 : dk me_L_box 21 (.iconst 0) 1 22 := And.intro (by decide +kernel) rfl
theorem d_L_box_22 : dk me_L_box 22 (.ireturn) 1 23 := And.intro (by decide +kernel) rfl
theorem ms_L_box {fx : FX} {m : MM} {l0 : Nat} {l1 : Int} {l2 : Int} {l3 : Nat} : MS fx me_L_box [aR (some (11, l0)), aI l1, aI l2, aR (some (131, l3))] m (f_L_box m l0 l1 l2 l3) := by
  refine ms_ofH rfl mf_L_box (b8 rfl) ?_
  refine s_top ?_
  show Sim fx me_L_box 0 [(0, aR (some (11, l0))), (1, aI l1), (2, aI l2), (3, aR (some (131, l3)))] [] m _
  unfold f_L_box
  refine s_aload_n d_L_box_0 m3_ (s_iconst d_L_box_1 n_0 (s_aload_n d_L_box_2 m0_ (s_iload_n d_L_box_3 m1_ (s_iload_n d_L_box_4 m2_ (s_cIC (r_V d_L_box_5 k_X11_box w_480 rfl rfl) ms_X11_box (b8 rfl) rfl rfl ?_ ?_ ?_ fun v2 m1 => ?_)))))
  · refine fun mx => Or.inr ⟨17, ⟨rfl, by decide, 1, wx_13_1, Or.inr ⟨by decide, ⟨rfl, by decide, 0, wx_29_0, Or.inl ⟨rfl, rfl⟩⟩⟩⟩, fun qx => ?_⟩
    exact s_astoreV (L' := [(4, aV (.ref qx)), (0, aR (some (11, l0))), (1, aI l1), (2, aI l2), (3, aR (some (131, l3)))]) d_L_box_17 (b8 rfl) rfl (s_iconst d_L_box_19 n_2 (s_iret d_L_box_20 rfl rfl))
  · refine fun mx => Or.inr ⟨13, ⟨rfl, by decide, 1, wx_13_1, Or.inl ⟨rfl, rfl⟩⟩, fun qx => ?_⟩
    exact s_astoreV (L' := [(4, aV (.ref qx)), (0, aR (some (11, l0))), (1, aI l1), (2, aI l2), (3, aR (some (131, l3)))]) d_L_box_13 (b8 rfl) rfl (s_iconst d_L_box_15 n_1 (s_iret d_L_box_16 rfl rfl))
  · exact fun _ => Or.inl rfl
  exact s_i2l d_L_box_8 (s_stL d_L_box_9 ka_131 rfl fun m3 => (s_goto (tgt := 21) d_L_box_10 rfl (s_iconst d_L_box_21 n_0 (s_iret d_L_box_22 rfl rfl))))
theorem d_X0_hasLeaf_0 : dk me_X0_hasLeaf 0 (.iload_n 1) 1 1 := And.intro (by decide +kernel) rfl
theorem d_X0_hasLeaf_1 : dk me_X0_hasLeaf 1 (.ifCond .lt 21) 3 4 := And.intro (by decide +kernel) rfl
theorem d_X0_hasLeaf_4 : dk me_X0_hasLeaf 4 (.iload_n 1) 1 5 := And.intro (by decide +kernel) rfl
theorem d_X0_hasLeaf_5 : dk me_X0_hasLeaf 5 (.aload_n 0) 1 6 := And.intro (by decide +kernel) rfl
theorem d_X0_hasLeaf_6 : dk me_X0_hasLeaf 6 (.getfield 18) 3 9 := And.intro (by decide +kernel) rfl
theorem d_X0_hasLeaf_9 : dk me_X0_hasLeaf 9 (.aload_n 0) 1 10 := And.intro (by decide +kernel) rfl
theorem d_X0_hasLeaf_10 : dk me_X0_hasLeaf 10 (.getfield 55) 3 13 := And.intro (by decide +kernel) rfl
theorem d_X0_hasLeaf_13 : dk me_X0_hasLeaf 13 (.arraylength) 1 14 := And.intro (by decide +kernel) rfl
theorem d_X0_hasLeaf_14 : dk me_X0_hasLeaf 14 (.imul) 1 15 := And.intro (by decide +kernel) rfl
theorem d_X0_hasLeaf_15 : dk me_X0_hasLeaf 15 (.if_icmp .ge 7) 3 18 := And.intro (by decide +kernel) rfl
theorem d_X0_hasLeaf_18 : dk me_X0_hasLeaf 18 (.iconst 1) 1 19 := And.intro (by decide +kernel) rfl
theorem d_X0_hasLeaf_19 : dk me_X0_hasLeaf 19 (.goto 4) 3 22 := And.intro (by decide +kernel) rfl
theorem d_X0_hasLeaf_22 : dk me_X0_hasLeaf 22 (.iconst 0) 1 23 := And.intro (by decide +kernel) rfl
theorem d_X0_hasLeaf_23 : dk me_X0_hasLeaf 23 (.ireturn) 1 24 := And.intro (by decide +kernel) rfl
theorem ms_X0_hasLeaf {fx : FX} {m : MM} {l0 : Nat} {l1 : Int} : MS fx me_X0_hasLeaf [aR (some (0, l0)), aI l1] m ((f_X0_hasLeaf m l0 l1).bind fun v => some (.inl (some (aI v)), m)) := by
  refine ms_of rfl mf_X0_hasLeaf (b8 rfl) ?_
  show Sim fx me_X0_hasLeaf 0 [(0, aR (some (0, l0))), (1, aI l1)] [] m _
  unfold f_X0_hasLeaf
  refine s_iload_n d_X0_hasLeaf_0 m1_ (s_if_lt (tgt := 22) d_X0_hasLeaf_1 rfl ?_ ?_)
  · exact s_iconst d_X0_hasLeaf_22 n_0 (s_zretl d_X0_hasLeaf_23 rfl (by decide) rfl)
  refine s_iload_n d_X0_hasLeaf_4 m1_ (s_aload_n d_X0_hasLeaf_5 m0_ (s_getN cf d_X0_hasLeaf_6 fl_X0_18 (s_aload_n d_X0_hasLeaf_9 m0_ (s_getR cf d_X0_hasLeaf_10 fl_X0_55 (s_nk fun i1 => ?_)))))
  refine s_len d_X0_hasLeaf_13 ka_15 ta_15 (s_imul d_X0_hasLeaf_14 rfl rfl (s_ck (s_icmp_ge (tgt := 22) d_X0_hasLeaf_15 rfl ?_ ?_)))
  · exact s_iconst d_X0_hasLeaf_22 n_0 (s_zretl d_X0_hasLeaf_23 rfl (by decide) rfl)
  exact s_iconst d_X0_hasLeaf_18 n_1 (s_goto (tgt := 23) d_X0_hasLeaf_19 rfl (s_zretl d_X0_hasLeaf_23 rfl (by decide) rfl))
theorem d_X11_cancel_0 : dk me_X11_cancel 0 (.aload_n 0) 1 1 := And.intro (by decide +kernel) rfl
theorem d_X11_cancel_1 : dk me_X11_cancel 1 (.iload_n 1) 1 2 := And.intro (by decide +kernel) rfl
theorem d_X11_cancel_2 : dk me_X11_cancel 2 (.invokevirtual 143) 3 5 := And.intro (by decide +kernel) rfl
theorem d_X11_cancel_5 : dk me_X11_cancel 5 (.astore 4) 2 7 := And.intro (by decide +kernel) rfl
theorem d_X11_cancel_7 : dk me_X11_cancel 7 (.aload 4) 2 9 := And.intro (by decide +kernel) rfl
theorem d_X11_cancel_9 : dk me_X11_cancel 9 (.iload_n 2) 1 10 := And.intro (by decide +kernel) rfl
theorem d_X11_cancel_10 : dk me_X11_cancel 10 (.invokevirtual 369) 3 13 := And.intro (by decide +kernel) rfl
theorem d_X11_cancel_13 : dk me_X11_cancel 13 (.ifCond .eq 16) 3 16 := And.intro (by decide +kernel) rfl
theorem d_X11_cancel_16 : dk me_X11_cancel 16 (.aload 4) 2 18 := And.intro (by decide +kernel) rfl
theorem d_X11_cancel_18 : dk me_X11_cancel 18 (.iload_n 3) 1 19 := And.intro (by decide +kernel) rfl
theorem d_X11_cancel_19 : dk me_X11_cancel 19 (.invokevirtual 372) 3 22 := And.intro (by decide +kernel) rfl
theorem d_X11_cancel_22 : dk me_X11_cancel 22 (.ifCond .eq 7) 3 25 := And.intro (by decide +kernel) rfl
theorem d_X11_cancel_25 : dk me_X11_cancel 25 (.iconst 1) 1 26 := And.intro (by decide +kernel) rfl
theorem d_X11_cancel_26 : dk me_X11_cancel 26 (.goto 4) 3 29 := And.intro (by decide +kernel) rfl
theorem d_X11_cancel_29 : dk me_X11_cancel 29 (.iconst 0) 1 30 := And.intro (by decide +kernel) rfl
theorem d_X11_cancel_30 : dk me_X11_cancel 30 (.invokestatic 115) 3 33 := And.intro (by decide +kernel) rfl
theorem d_X11_cancel_33 : dk me_X11_cancel 33 (.aload 4) 2 35 := And.intro (by decide +kernel) rfl
theorem d_X11_cancel_35 : dk me_X11_cancel 35 (.getfield 357) 3 38 := And.intro (by decide +kernel) rfl
theorem d_X11_cancel_38 : dk me_X11_cancel 38 (.invokestatic 69) 3 41 := And.intro (by decide +kernel) rfl
theorem d_X11_cancel_41 : dk me_X11_cancel 41 (.iconst 0) 1 42 := And.intro (by decide +kernel) rfl
theorem d_X11_cancel_42 : dk me_X11_cancel 42 (.istore 5) 2 44 := And.intro (by decide +kernel) rfl
theorem d_X11_cancel_44 : dk me_X11_cancel 44 (.iload_n 2) 1 45 := And.intro (by decide +kernel) rfl
theorem d_X11_cancel_45 : dk me_X11_cancel 45 (.istore 6) 2 47 := And.intro (by decide +kernel) rfl
theorem d_X11_cancel_47 : dk me_X11_cancel 47 (.iload 6) 2 49 := And.intro (by decide +kernel) rfl
theorem d_X11_cancel_49 : dk me_X11_cancel 49 (.aload 4) 2 51 := And.intro (by decide +kernel) rfl
theorem d_X11_cancel_51 : dk me_X11_cancel 51 (.getfield 314) 3 54 := And.intro (by decide +kernel) rfl
theorem d_X11_cancel_54 : dk me_X11_cancel 54 (.if_icmp .ge 37) 3 57 := And.intro (by decide +kernel) rfl
theorem d_X11_cancel_57 : dk me_X11_cancel 57 (.aload 4) 2 59 := And.intro (by decide +kernel) rfl
theorem d_X11_cancel_59 : dk me_X11_cancel 59 (.getfield 375) 3 62 := And.intro (by decide +kernel) rfl
theorem d_X11_cancel_62 : dk me_X11_cancel 62 (.iload 6) 2 64 := And.intro (by decide +kernel) rfl
theorem d_X11_cancel_64 : dk me_X11_cancel 64 (.aaload) 1 65 := And.intro (by decide +kernel) rfl
theorem d_X11_cancel_65 : dk me_X11_cancel 65 (.iload_n 3) 1 66 := And.intro (by decide +kernel) rfl
theorem d_X11_cancel_66 : dk me_X11_cancel 66 (.iaload) 1 67 := And.intro (by decide +kernel) rfl
theorem d_X11_cancel_67 : dk me_X11_cancel 67 (.iconst (-1)) 1 68 := And.intro (by decide +kernel) rfl
theorem d_X11_cancel_68 : dk me_X11_cancel 68 (.if_icmp .eq 17) 3 71 := And.intro (by decide +kernel) rfl
theorem d_X11_cancel_71 : dk me_X11_cancel 71 (.aload 4) 2 73 := And.intro (by decide +kernel) rfl
theorem d_X11_cancel_73 : dk me_X11_cancel 73 (.getfield 375) 3 76 := And.intro (by decide +kernel) rfl
theorem d_X11_cancel_76 : dk me_X11_cancel 76 (.iload 6) 2 78 := And.intro (by decide +kernel) rfl
theorem d_X11_cancel_78 : dk me_X11_cancel 78 (.aaload) 1 79 := And.intro (by decide +kernel) rfl
theorem d_X11_cancel_79 : dk me_X11_cancel 79 (.iload_n 3) 1 80 := And.intro (by decide +kernel) rfl
theorem d_X11_cancel_80 : dk me_X11_cancel 80 (.iconst (-1)) 1 81 := And.intro (by decide +kernel) rfl
theorem d_X11_cancel_81 : dk me_X11_cancel 81 (.iastore) 1 82 := And.intro (by decide +kernel) rfl
theorem d_X11_cancel_82 : dk me_X11_cancel 82 (.iinc 5 1) 3 85 := And.intro (by decide +kernel) rfl
theorem d_X11_cancel_85 : dk me_X11_cancel 85 (.iinc 6 1) 3 88 := And.intro (by decide +kernel) rfl
theorem d_X11_cancel_88 : dk me_X11_cancel 88 (.goto (-41)) 3 91 := And.intro (by decide +kernel) rfl
theorem d_X11_cancel_91 : dk me_X11_cancel 91 (.iload 5) 2 93 := And.intro (by decide +kernel) rfl
theorem d_X11_cancel_93 : dk me_X11_cancel 93 (.ireturn) 1 94 := And.intro (by decide +kernel) rfl
theorem ms_X11_cancel {fx : FX} {m : MM} {l0 : Nat} {l1 : Int} {l2 : Int} {l3 : Int} : MS fx me_X11_cancel [aR (some (11, l0)), aI l1, aI l2, aI l3] m (f_X11_cancel m l0 l1 l2 l3) := by
  refine ms_of rfl mf_X11_cancel (b8 rfl) ?_
  refine s_top ?_
  show Sim fx me_X11_cancel 0 [(0, aR (some (11, l0))), (1, aI l1), (2, aI l2), (3, aI l3)] [] m _
  unfold f_X11_cancel
  have hj_X11_cancel_0_91 : ∀ (m_91 : MM) (l5_91 : Int), Sim fx me_X11_cancel 91 [(5, aI l5_91)] [] m_91 ((j_X11_cancel_0_91 m_91 l5_91).bind (fun z => some z)) := by
    intro m_91 l5_91
    unfold j_X11_cancel_0_91
    exact s_iload d_X11_cancel_91 m0_ (s_iret d_X11_cancel_93 rfl rfl)
  have hj_X11_cancel_0_30 : ∀ (m_30 : MM) (l2_30 : Int) (l3_30 : Int) (l4_30 : Nat) (s0_30 : Int), Sim fx me_X11_cancel 30 [(2, aI l2_30), (3, aI l3_30), (4, aR (some (0, l4_30)))] [aI s0_30] m_30 ((j_X11_cancel_0_30 m_30 l2_30 l3_30 l4_30 s0_30).bind (fun z => some z)) := by
    intro m_30 l2_30 l3_30 l4_30 s0_30
    unfold j_X11_cancel_0_30
    refine s_cV (r_S d_X11_cancel_30 k_X11_requireIndex w_451 rfl rfl) ms_X11_requireIndex (b8 rfl) rfl rfl rfl (fun h => by cases h) (fun _ _ => Or.inr rfl) fun m6 => (s_aload d_X11_cancel_33 m2_ (s_getB cf d_X11_cancel_35 fl_X11_357 (s_cV (r_S d_X11_cancel_38 k_X11_requireState w_363 rfl rfl) ms_X11_requireState (b8 rfl) rfl rfl rfl (fun h => by cases h) (fun _ _ => Or.inr rfl) fun m8 => (s_iconst d_X11_cancel_41 n_0 (s_istore (L' := [(5, aI 0), (2, aI l2_30), (3, aI l3_30), (4, aR (some (0, l4_30)))]) d_X11_cancel_42 (b8 rfl) rfl ?_)))))
    refine s_iload_n d_X11_cancel_44 m1_ (s_istore (L' := [(6, aI l2_30), (5, aI 0), (2, aI l2_30), (3, aI l3_30), (4, aR (some (0, l4_30)))]) d_X11_cancel_45 (b8 rfl) rfl (s_sub (subc m1_ (subc m0_ (subc m3_ (subc m4_ sub0)))) (s_lp2 (fun s => [(5, aI (s.1)), (6, aI (s.2.1)), (3, aI l3_30), (4, aR (some (0, l4_30)))]) (fun s => s.2.2) (0, l2_30, m8) fun k47 hx47 s ih0 => ?_)))
    obtain ⟨l5_47, l6_47, mm_47⟩ := s
    have ih47 := ih0
    clear ih0
    try dsimp only
    unfold b_X11_cancel_47
    refine s_iload d_X11_cancel_47 m1_ (s_aload d_X11_cancel_49 m3_ (s_getN cf d_X11_cancel_51 fl_X11_314 (s_icmp_ge (tgt := 91) d_X11_cancel_54 rfl ?_ ?_)))
    · exact s_exit (hx47 _) (s_sub (subc m0_ sub0) (hj_X11_cancel_0_91 mm_47 l5_47))
    refine s_aload d_X11_cancel_57 m3_ (s_getR cf d_X11_cancel_59 fl_X11_375 (s_nk fun i10 => (s_iload d_X11_cancel_62 m1_ (s_ldR d_X11_cancel_64 ka_17 ta_17 rfl rfl fun r11 => (s_nk fun i12 => ?_)))))
    refine s_iload_n d_X11_cancel_65 m2_ (s_ldN d_X11_cancel_66 ka_18 rfl fun v13 => (s_iconst d_X11_cancel_67 n_m1 (s_icmp_eq (tgt := 85) d_X11_cancel_68 rfl ?_ ?_)))
    · exact s_iinc (L' := [(6, aI (l6_47 + 1)), (5, aI l5_47), (3, aI l3_30), (4, aR (some (0, l4_30)))]) d_X11_cancel_85 m1_ (b8 rfl) rfl (s_goto (tgt := 47) d_X11_cancel_88 rfl (s_sub (subc m1_ (subc m0_ (subc m2_ (subc m3_ sub0)))) (s_back (ih47 (l5_47, (l6_47 + 1), mm_47)))))
    refine s_aload d_X11_cancel_71 m3_ (s_getR cf d_X11_cancel_73 fl_X11_375 (s_nk fun i14 => (s_iload d_X11_cancel_76 m1_ (s_ldR d_X11_cancel_78 ka_17 ta_17 rfl rfl fun r15 => (s_nk fun i16 => ?_)))))
    refine s_iload_n d_X11_cancel_79 m2_ (s_iconst d_X11_cancel_80 n_m1 (s_stN d_X11_cancel_81 ka_18 rfl fun m17 => (s_iinc (L' := [(5, aI (l5_47 + 1)), (6, aI l6_47), (3, aI l3_30), (4, aR (some (0, l4_30)))]) d_X11_cancel_82 m0_ (b8 rfl) rfl (s_iinc (L' := [(6, aI (l6_47 + 1)), (5, aI (l5_47 + 1)), (3, aI l3_30), (4, aR (some (0, l4_30)))]) d_X11_cancel_85 m1_ (b8 rfl) rfl (s_goto (tgt := 47) d_X11_cancel_88 rfl ?_)))))
    exact s_sub (subc m1_ (subc m0_ (subc m2_ (subc m3_ sub0)))) (s_back (ih47 ((l5_47 + 1), (l6_47 + 1), m17)))
  have hj_X11_cancel_0_29 : ∀ (m_29 : MM) (l2_29 : Int) (l3_29 : Int) (l4_29 : Nat), Sim fx me_X11_cancel 29 [(2, aI l2_29), (3, aI l3_29), (4, aR (some (0, l4_29)))] [] m_29 ((j_X11_cancel_0_29 m_29 l2_29 l3_29 l4_29).bind (fun z => some z)) := by
    intro m_29 l2_29 l3_29 l4_29
    unfold j_X11_cancel_0_29
    exact s_iconst d_X11_cancel_29 n_0 (s_sub (subc m0_ (subc m1_ (subc m2_ sub0))) (hj_X11_cancel_0_30 m_29 l2_29 l3_29 l4_29 0))
  refine s_aload_n d_X11_cancel_0 m0_ (s_iload_n d_X11_cancel_1 m1_ (s_cR (r_V d_X11_cancel_2 k_X11_bookAt w_814 rfl rfl) ms_X11_bookAt (b8 rfl) rfl rfl rfl (fun h => by cases h) (fun _ _ => Or.inr rfl) fun r2 m1 => (s_nk fun i3 => (s_astore (L' := [(4, aR (some (0, i3))), (0, aR (some (11, l0))), (1, aI l1), (2, aI l2), (3, aI l3)]) d_X11_cancel_5 (b8 rfl) rfl (s_aload d_X11_cancel_7 m0_ ?_)))))
  refine s_iload_n d_X11_cancel_9 m3_ (s_pI (r_V d_X11_cancel_10 k_X0_hasCopy w_1187 rfl rfl) ms_X0_hasCopy (b8 rfl) rfl rfl rfl fun v4 => (s_if_eq (tgt := 29) d_X11_cancel_13 rfl ?_ ?_))
  · exact s_sub (subc m3_ (subc m4_ (subc m0_ sub0))) (hj_X11_cancel_0_29 m1 l2 l3 i3)
  refine s_aload d_X11_cancel_16 m0_ (s_iload_n d_X11_cancel_18 m4_ (s_pI (r_V d_X11_cancel_19 k_X0_hasLeaf w_1191 rfl rfl) ms_X0_hasLeaf (b8 rfl) rfl rfl rfl fun v5 => (s_if_eq (tgt := 29) d_X11_cancel_22 rfl ?_ ?_)))
  · exact s_sub (subc m3_ (subc m4_ (subc m0_ sub0))) (hj_X11_cancel_0_29 m1 l2 l3 i3)
  exact s_iconst d_X11_cancel_25 n_1 (s_goto (tgt := 30) d_X11_cancel_26 rfl (s_sub (subc m3_ (subc m4_ (subc m0_ sub0))) (hj_X11_cancel_0_30 m1 l2 l3 i3 1)))
theorem d_L_cancel_0 : dk me_L_cancel 0 (.aload 4) 2 2 := And.intro (by decide +kernel) rfl
theorem d_L_cancel_2 : dk me_L_cancel 2 (.iconst 0) 1 3 := And.intro (by decide +kernel) rfl
theorem d_L_cancel_3 : dk me_L_cancel 3 (.aload_n 0) 1 4 := And.intro (by decide +kernel) rfl
theorem d_L_cancel_4 : dk me_L_cancel 4 (.iload_n 1) 1 5 := And.intro (by decide +kernel) rfl
theorem d_L_cancel_5 : dk me_L_cancel 5 (.iload_n 2) 1 6 := And.intro (by decide +kernel) rfl
theorem d_L_cancel_6 : dk me_L_cancel 6 (.iload_n 3) 1 7 := And.intro (by decide +kernel) rfl
theorem d_L_cancel_7 : dk me_L_cancel 7 (.invokevirtual 102) 3 10 := And.intro (by decide +kernel) rfl
theorem d_L_cancel_10 : dk me_L_cancel 10 (.i2l) 1 11 := And.intro (by decide +kernel) rfl
theorem d_L_cancel_11 : dk me_L_cancel 11 (.lastore) 1 12 := And.intro (by decide +kernel) rfl
theorem d_L_cancel_12 : dk me_L_cancel 12 (.goto 11) 3 15 := And.intro (by decide +kernel) rfl
theorem d_L_cancel_15 : dk me_L_cancel 15 (.astore 5) 2 17 := And.intro (by decide +kernel) rfl
theorem d_L_cancel_17 : dk me_L_cancel 17 (.iconst 1) 1 18 := And.intro (by decide +kernel) rfl
theorem d_L_cancel_18 : dk me_L_cancel 18 (.ireturn) 1 19 := And.intro (by decide +kernel) rfl
theorem d_L_cancel_19 : dk me_L_cancel 19 (.astore 5) 2 21 := And.intro (by decide +kernel) rfl
theorem d_L_cancel_21 : dk me_L_cancel 21 (.iconst 2) 1 22 := And.intro (by decide +kernel) rfl
theorem d_L_cancel_22 : dk me_L_cancel 22 (.ireturn) 1 23 := And.intro (by decide +kernel) rfl
theorem d_L_cancel_23 : dk me_L_cancel 23 (.iconst 0) 1 24 := And.intro (by decide +kernel) rfl
theorem d_L_cancel_24 : dk me_L_cancel 24 (.ireturn) 1 25 := And.intro (by decide +kernel) rfl
theorem ms_L_cancel {fx : FX} {m : MM} {l0 : Nat} {l1 : Int} {l2 : Int} {l3 : Int} {l4 : Nat} : MS fx me_L_cancel [aR (some (11, l0)), aI l1, aI l2, aI l3, aR (some (131, l4))] m (f_L_cancel m l0 l1 l2 l3 l4) := by
  refine ms_ofH rfl mf_L_cancel (b8 rfl) ?_
  refine s_top ?_
  show Sim fx me_L_cancel 0 [(0, aR (some (11, l0))), (1, aI l1), (2, aI l2), (3, aI l3), (4, aR (some (131, l4)))] [] m _
  unfold f_L_cancel
  refine s_aload d_L_cancel_0 m4_ (s_iconst d_L_cancel_2 n_0 (s_aload_n d_L_cancel_3 m0_ (s_iload_n d_L_cancel_4 m1_ (s_iload_n d_L_cancel_5 m2_ (s_iload_n d_L_cancel_6 m3_ ?_)))))
  refine s_cIC (r_V d_L_cancel_7 k_X11_cancel w_1198 rfl rfl) ms_X11_cancel (b8 rfl) rfl rfl ?_ ?_ ?_ fun v2 m1 => ?_
  · refine fun mx => Or.inr ⟨15, ⟨rfl, by decide, 0, wx_29_0, Or.inl ⟨rfl, rfl⟩⟩, fun qx => ?_⟩
    exact s_astoreV (L' := [(5, aV (.ref qx)), (0, aR (some (11, l0))), (1, aI l1), (2, aI l2), (3, aI l3), (4, aR (some (131, l4)))]) d_L_cancel_15 (b8 rfl) rfl (s_iconst d_L_cancel_17 n_1 (s_iret d_L_cancel_18 rfl rfl))
  · exact fun _ => Or.inl rfl
  · refine fun mx => Or.inr ⟨19, ⟨rfl, by decide, 0, wx_29_0, Or.inr ⟨by decide, ⟨rfl, by decide, 2, wx_15_2, Or.inl ⟨rfl, rfl⟩⟩⟩⟩, fun qx => ?_⟩
    exact s_astoreV (L' := [(5, aV (.ref qx)), (0, aR (some (11, l0))), (1, aI l1), (2, aI l2), (3, aI l3), (4, aR (some (131, l4)))]) d_L_cancel_19 (b8 rfl) rfl (s_iconst d_L_cancel_21 n_2 (s_iret d_L_cancel_22 rfl rfl))
  exact s_i2l d_L_cancel_10 (s_stL d_L_cancel_11 ka_131 rfl fun m3 => (s_goto (tgt := 23) d_L_cancel_12 rfl (s_iconst d_L_cancel_23 n_0 (s_iret d_L_cancel_24 rfl rfl))))
theorem d_X1_putOn_0 : dk me_X1_putOn 0 (.aload_n 0) 1 1 := And.intro (by decide +kernel) rfl
theorem d_X1_putOn_1 : dk me_X1_putOn 1 (.getfield 21) 3 4 := And.intro (by decide +kernel) rfl
theorem d_X1_putOn_4 : dk me_X1_putOn 4 (.iload_n 2) 1 5 := And.intro (by decide +kernel) rfl
theorem d_X1_putOn_5 : dk me_X1_putOn 5 (.aload_n 0) 1 6 := And.intro (by decide +kernel) rfl
theorem d_X1_putOn_6 : dk me_X1_putOn 6 (.getfield 24) 3 9 := And.intro (by decide +kernel) rfl
theorem d_X1_putOn_9 : dk me_X1_putOn 9 (.iload_n 1) 1 10 := And.intro (by decide +kernel) rfl
theorem d_X1_putOn_10 : dk me_X1_putOn 10 (.iaload) 1 11 := And.intro (by decide +kernel) rfl
theorem d_X1_putOn_11 : dk me_X1_putOn 11 (.iastore) 1 12 := And.intro (by decide +kernel) rfl
theorem d_X1_putOn_12 : dk me_X1_putOn 12 (.aload_n 0) 1 13 := And.intro (by decide +kernel) rfl
theorem d_X1_putOn_13 : dk me_X1_putOn 13 (.getfield 24) 3 16 := And.intro (by decide +kernel) rfl
theorem d_X1_putOn_16 : dk me_X1_putOn 16 (.iload_n 1) 1 17 := And.intro (by decide +kernel) rfl
theorem d_X1_putOn_17 : dk me_X1_putOn 17 (.iload_n 2) 1 18 := And.intro (by decide +kernel) rfl
theorem d_X1_putOn_18 : dk me_X1_putOn 18 (.iastore) 1 19 := And.intro (by decide +kernel) rfl
theorem d_X1_putOn_19 : dk me_X1_putOn 19 (.aload_n 0) 1 20 := And.intro (by decide +kernel) rfl
theorem d_X1_putOn_20 : dk me_X1_putOn 20 (.getfield 18) 3 23 := And.intro (by decide +kernel) rfl
theorem d_X1_putOn_23 : dk me_X1_putOn 23 (.iload_n 2) 1 24 := And.intro (by decide +kernel) rfl
theorem d_X1_putOn_24 : dk me_X1_putOn 24 (.iload_n 1) 1 25 := And.intro (by decide +kernel) rfl
theorem d_X1_putOn_25 : dk me_X1_putOn 25 (.iastore) 1 26 := And.intro (by decide +kernel) rfl
theorem d_X1_putOn_26 : dk me_X1_putOn 26 (.return_) 1 27 := And.intro (by decide +kernel) rfl
theorem ms_X1_putOn {fx : FX} {m : MM} {l0 : Nat} {l1 : Int} {l2 : Int} : MS fx me_X1_putOn [aR (some (1, l0)), aI l1, aI l2] m (f_X1_putOn m l0 l1 l2) := by
  refine ms_of rfl mf_X1_putOn (b8 rfl) ?_
  refine s_top ?_
  show Sim fx me_X1_putOn 0 [(0, aR (some (1, l0))), (1, aI l1), (2, aI l2)] [] m _
  unfold f_X1_putOn
  refine s_aload_n d_X1_putOn_0 m0_ (s_getR cf d_X1_putOn_1 fl_X1_21 (s_nk fun i1 => (s_iload_n d_X1_putOn_4 m2_ (s_aload_n d_X1_putOn_5 m0_ (s_getR cf d_X1_putOn_6 fl_X1_24 ?_)))))
  refine s_nk fun i2 => (s_iload_n d_X1_putOn_9 m1_ (s_ldN d_X1_putOn_10 ka_24 rfl fun v3 => (s_stN d_X1_putOn_11 ka_23 rfl fun m4 => (s_aload_n d_X1_putOn_12 m0_ (s_getR cf d_X1_putOn_13 fl_X1_24 ?_)))))
  refine s_nk fun i5 => (s_iload_n d_X1_putOn_16 m1_ (s_iload_n d_X1_putOn_17 m2_ (s_stN d_X1_putOn_18 ka_24 rfl fun m6 => (s_aload_n d_X1_putOn_19 m0_ (s_getR cf d_X1_putOn_20 fl_X1_18 ?_)))))
  exact s_nk fun i7 => (s_iload_n d_X1_putOn_23 m2_ (s_iload_n d_X1_putOn_24 m1_ (s_stN d_X1_putOn_25 ka_22 rfl fun m8 => (s_vret d_X1_putOn_26 rfl rfl))))
theorem d_X1_add_0 : dk me_X1_add 0 (.aload_n 0) 1 1 := And.intro (by decide +kernel) rfl
theorem d_X1_add_1 : dk me_X1_add 1 (.getfield 27) 3 4 := And.intro (by decide +kernel) rfl
theorem d_X1_add_4 : dk me_X1_add 4 (.sipush 400) 3 7 := And.intro (by decide +kernel) rfl
theorem d_X1_add_7 : dk me_X1_add 7 (.if_icmp .ge 34) 3 10 := And.intro (by decide +kernel) rfl
theorem d_X1_add_10 : dk me_X1_add 10 (.aload_n 0) 1 11 := And.intro (by decide +kernel) rfl
theorem d_X1_add_11 : dk me_X1_add 11 (.getfield 9) 3 14 := And.intro (by decide +kernel) rfl
theorem d_X1_add_14 : dk me_X1_add 14 (.aload_n 0) 1 15 := And.intro (by decide +kernel) rfl
theorem d_X1_add_15 : dk me_X1_add 15 (.getfield 27) 3 18 := And.intro (by decide +kernel) rfl
theorem d_X1_add_18 : dk me_X1_add 18 (.iload_n 1) 1 19 := And.intro (by decide +kernel) rfl
theorem d_X1_add_19 : dk me_X1_add 19 (.iastore) 1 20 := And.intro (by decide +kernel) rfl
theorem d_X1_add_20 : dk me_X1_add 20 (.aload_n 0) 1 21 := And.intro (by decide +kernel) rfl
theorem d_X1_add_21 : dk me_X1_add 21 (.dup) 1 22 := And.intro (by decide +kernel) rfl
theorem d_X1_add_22 : dk me_X1_add 22 (.getfield 27) 3 25 := And.intro (by decide +kernel) rfl
theorem d_X1_add_25 : dk me_X1_add 25 (.iconst 1) 1 26 := And.intro (by decide +kernel) rfl
theorem d_X1_add_26 : dk me_X1_add 26 (.iadd) 1 27 := And.intro (by decide +kernel) rfl
theorem d_X1_add_27 : dk me_X1_add 27 (.putfield 27) 3 30 := And.intro (by decide +kernel) rfl
theorem d_X1_add_30 : dk me_X1_add 30 (.aload_n 0) 1 31 := And.intro (by decide +kernel) rfl
theorem d_X1_add_31 : dk me_X1_add 31 (.iload_n 1) 1 32 := And.intro (by decide +kernel) rfl
theorem d_X1_add_32 : dk me_X1_add 32 (.aload_n 0) 1 33 := And.intro (by decide +kernel) rfl
theorem d_X1_add_33 : dk me_X1_add 33 (.getfield 27) 3 36 := And.intro (by decide +kernel) rfl
theorem d_X1_add_36 : dk me_X1_add 36 (.iconst 1) 1 37 := And.intro (by decide +kernel) rfl
theorem d_X1_add_37 : dk me_X1_add 37 (.isub) 1 38 := And.intro (by decide +kernel) rfl
theorem d_X1_add_38 : dk me_X1_add 38 (.invokevirtual 31) 3 41 := And.intro (by decide +kernel) rfl
theorem d_X1_add_41 : dk me_X1_add 41 (.return_) 1 42 := And.intro (by decide +kernel) rfl
theorem ms_X1_add {fx : FX} {m : MM} {l0 : Nat} {l1 : Int} : MS fx me_X1_add [aR (some (1, l0)), aI l1] m (f_X1_add m l0 l1) := by
  refine ms_of rfl mf_X1_add (b8 rfl) ?_
  refine s_top ?_
  show Sim fx me_X1_add 0 [(0, aR (some (1, l0))), (1, aI l1)] [] m _
  unfold f_X1_add
  refine s_aload_n d_X1_add_0 m0_ (s_getN cf d_X1_add_1 fl_X1_27 (s_sipush d_X1_add_4 n_400 rfl (s_icmp_ge (tgt := 41) d_X1_add_7 rfl ?_ ?_)))
  · exact s_vret d_X1_add_41 rfl rfl
  refine s_aload_n d_X1_add_10 m0_ (s_getR cf d_X1_add_11 fl_X1_9 (s_nk fun i1 => (s_aload_n d_X1_add_14 m0_ (s_getN cf d_X1_add_15 fl_X1_27 (s_iload_n d_X1_add_18 m1_ ?_)))))
  refine s_stN d_X1_add_19 ka_20 rfl fun m2 => (s_aload_n d_X1_add_20 m0_ (s_dup d_X1_add_21 rfl (s_getN cf d_X1_add_22 fl_X1_27 (s_iconst d_X1_add_25 n_1 (s_iadd d_X1_add_26 rfl rfl ?_)))))
  refine s_ck (s_putN cf d_X1_add_27 fl_X1_27 (fun h => by cases h) fun m3 => (s_aload_n d_X1_add_30 m0_ (s_iload_n d_X1_add_31 m1_ (s_aload_n d_X1_add_32 m0_ (s_getN cf d_X1_add_33 fl_X1_27 ?_)))))
  exact s_iconst d_X1_add_36 n_1 (s_isub d_X1_add_37 rfl rfl (s_ck (s_cV (r_V d_X1_add_38 k_X1_putOn w_435 rfl rfl) ms_X1_putOn (b8 rfl) rfl rfl rfl (fun _ _ _ => rfl) (fun _ _ => Or.inl rfl) fun m4 => (s_vret d_X1_add_41 rfl rfl))))
theorem d_X11_cast_0 : dk me_X11_cast 0 (.iload_n 1) 1 1 := And.intro (by decide +kernel) rfl
theorem d_X11_cast_1 : dk me_X11_cast 1 (.invokestatic 105) 3 4 := And.intro (by decide +kernel) rfl
theorem d_X11_cast_4 : dk me_X11_cast 4 (.ifCond .eq 18) 3 7 := And.intro (by decide +kernel) rfl
theorem d_X11_cast_7 : dk me_X11_cast 7 (.iload_n 2) 1 8 := And.intro (by decide +kernel) rfl
theorem d_X11_cast_8 : dk me_X11_cast 8 (.iconst 1) 1 9 := And.intro (by decide +kernel) rfl
theorem d_X11_cast_9 : dk me_X11_cast 9 (.if_icmp .lt 13) 3 12 := And.intro (by decide +kernel) rfl
theorem d_X11_cast_12 : dk me_X11_cast 12 (.iload_n 2) 1 13 := And.intro (by decide +kernel) rfl
theorem d_X11_cast_13 : dk me_X11_cast 13 (.bipush 40) 2 15 := And.intro (by decide +kernel) rfl
theorem d_X11_cast_15 : dk me_X11_cast 15 (.if_icmp .gt 7) 3 18 := And.intro (by decide +kernel) rfl
theorem d_X11_cast_18 : dk me_X11_cast 18 (.iconst 1) 1 19 := And.intro (by decide +kernel) rfl
theorem d_X11_cast_19 : dk me_X11_cast 19 (.goto 4) 3 22 := And.intro (by decide +kernel) rfl
theorem d_X11_cast_22 : dk me_X11_cast 22 (.iconst 0) 1 23 := And.intro (by decide +kernel) rfl
theorem d_X11_cast_23 : dk me_X11_cast 23 (.invokestatic 53) 3 26 := And.intro (by decide +kernel) rfl
theorem d_X11_cast_26 : dk me_X11_cast 26 (.aload_n 0) 1 27 := And.intro (by decide +kernel) rfl
theorem d_X11_cast_27 : dk me_X11_cast 27 (.getfield 19) 3 30 := And.intro (by decide +kernel) rfl
theorem d_X11_cast_30 : dk me_X11_cast 30 (.getfield 108) 3 33 := And.intro (by decide +kernel) rfl
theorem d_X11_cast_33 : dk me_X11_cast 33 (.iload_n 2) 1 34 := And.intro (by decide +kernel) rfl
theorem d_X11_cast_34 : dk me_X11_cast 34 (.iadd) 1 35 := And.intro (by decide +kernel) rfl
theorem d_X11_cast_35 : dk me_X11_cast 35 (.sipush 400) 3 38 := And.intro (by decide +kernel) rfl
theorem d_X11_cast_38 : dk me_X11_cast 38 (.if_icmp .gt 7) 3 41 := And.intro (by decide +kernel) rfl
theorem d_X11_cast_41 : dk me_X11_cast 41 (.iconst 1) 1 42 := And.intro (by decide +kernel) rfl
theorem d_X11_cast_42 : dk me_X11_cast 42 (.goto 4) 3 45 := And.intro (by decide +kernel) rfl
theorem d_X11_cast_45 : dk me_X11_cast 45 (.iconst 0) 1 46 := And.intro (by decide +kernel) rfl
theorem d_X11_cast_46 : dk me_X11_cast 46 (.invokestatic 69) 3 49 := And.intro (by decide +kernel) rfl
theorem d_X11_cast_49 : dk me_X11_cast 49 (.iconst 0) 1 50 := And.intro (by decide +kernel) rfl
theorem d_X11_cast_50 : dk me_X11_cast 50 (.istore_n 3) 1 51 := And.intro (by decide +kernel) rfl
theorem d_X11_cast_51 : dk me_X11_cast 51 (.iload_n 3) 1 52 := And.intro (by decide +kernel) rfl
theorem d_X11_cast_52 : dk me_X11_cast 52 (.iload_n 2) 1 53 := And.intro (by decide +kernel) rfl
theorem d_X11_cast_53 : dk me_X11_cast 53 (.if_icmp .ge 17) 3 56 := And.intro (by decide +kernel) rfl
theorem d_X11_cast_56 : dk me_X11_cast 56 (.aload_n 0) 1 57 := And.intro (by decide +kernel) rfl
theorem d_X11_cast_57 : dk me_X11_cast 57 (.getfield 19) 3 60 := And.intro (by decide +kernel) rfl
theorem d_X11_cast_60 : dk me_X11_cast 60 (.iload_n 1) 1 61 := And.intro (by decide +kernel) rfl
theorem d_X11_cast_61 : dk me_X11_cast 61 (.invokevirtual 111) 3 64 := And.intro (by decide +kernel) rfl
theorem d_X11_cast_64 : dk me_X11_cast 64 (.iinc 3 1) 3 67 := And.intro (by decide +kernel) rfl
theorem d_X11_cast_67 : dk me_X11_cast 67 (.goto (-16)) 3 70 := And.intro (by decide +kernel) rfl
theorem d_X11_cast_70 : dk me_X11_cast 70 (.aload_n 0) 1 71 := And.intro (by decide +kernel) rfl
theorem d_X11_cast_71 : dk me_X11_cast 71 (.getfield 19) 3 74 := And.intro (by decide +kernel) rfl
theorem d_X11_cast_74 : dk me_X11_cast 74 (.getfield 108) 3 77 := And.intro (by decide +kernel) rfl
theorem d_X11_cast_77 : dk me_X11_cast 77 (.ireturn) 1 78 := And.intro (by decide +kernel) rfl
theorem ms_X11_cast {fx : FX} {m : MM} {l0 : Nat} {l1 : Int} {l2 : Int} : MS fx me_X11_cast [aR (some (11, l0)), aI l1, aI l2] m (f_X11_cast m l0 l1 l2) := by
  refine ms_of rfl mf_X11_cast (b8 rfl) ?_
  refine s_top ?_
  show Sim fx me_X11_cast 0 [(0, aR (some (11, l0))), (1, aI l1), (2, aI l2)] [] m _
  unfold f_X11_cast
  have hj_X11_cast_0_70 : ∀ (m_70 : MM) (l0_70 : Nat), Sim fx me_X11_cast 70 [(0, aR (some (11, l0_70)))] [] m_70 ((j_X11_cast_0_70 m_70 l0_70).bind (fun z => some z)) := by
    intro m_70 l0_70
    unfold j_X11_cast_0_70
    exact s_aload_n d_X11_cast_70 m0_ (s_getR cf d_X11_cast_71 fl_X11_19 (s_nk fun i10 => (s_getN cf d_X11_cast_74 fl_X11_108 (s_iret d_X11_cast_77 rfl rfl))))
  have hj_X11_cast_0_46 : ∀ (m_46 : MM) (l0_46 : Nat) (l1_46 : Int) (l2_46 : Int) (s0_46 : Int), Sim fx me_X11_cast 46 [(0, aR (some (11, l0_46))), (1, aI l1_46), (2, aI l2_46)] [aI s0_46] m_46 ((j_X11_cast_0_46 m_46 l0_46 l1_46 l2_46 s0_46).bind (fun z => some z)) := by
    intro m_46 l0_46 l1_46 l2_46 s0_46
    unfold j_X11_cast_0_46
    refine s_cV (r_S d_X11_cast_46 k_X11_requireState w_363 rfl rfl) ms_X11_requireState (b8 rfl) rfl rfl rfl (fun h => by cases h) (fun _ _ => Or.inr rfl) fun m5 => (s_iconst d_X11_cast_49 n_0 (s_istore_n (L' := [(3, aI 0), (0, aR (some (11, l0_46))), (1, aI l1_46), (2, aI l2_46)]) d_X11_cast_50 (b8 rfl) rfl (s_sub (subc m0_ (subc m1_ (subc m2_ (subc m3_ sub0)))) (s_lp2 (fun s => [(3, aI (s.1)), (0, aR (some (11, l0_46))), (1, aI l1_46), (2, aI l2_46)]) (fun s => s.2) (0, m5) fun k51 hx51 s ih0 => ?_))))
    obtain ⟨l3_51, mm_51⟩ := s
    have ih51 := ih0
    clear ih0
    try dsimp only
    unfold b_X11_cast_51
    refine s_iload_n d_X11_cast_51 m0_ (s_iload_n d_X11_cast_52 m3_ (s_icmp_ge (tgt := 70) d_X11_cast_53 rfl ?_ ?_))
    · exact s_exit (hx51 _) (s_sub (subc m1_ sub0) (hj_X11_cast_0_70 mm_51 l0_46))
    refine s_aload_n d_X11_cast_56 m1_ (s_getR cf d_X11_cast_57 fl_X11_19 (s_nk fun i7 => (s_iload_n d_X11_cast_60 m2_ (s_cV (r_V d_X11_cast_61 k_X1_add w_431 rfl rfl) ms_X1_add (b8 rfl) rfl rfl rfl (fun _ _ _ => rfl) (fun _ _ => Or.inl rfl) fun m8 => (s_iinc (L' := [(3, aI (l3_51 + 1)), (0, aR (some (11, l0_46))), (1, aI l1_46), (2, aI l2_46)]) d_X11_cast_64 m0_ (b8 rfl) rfl ?_)))))
    exact s_goto (tgt := 51) d_X11_cast_67 rfl (s_sub (subc m0_ (subc m1_ (subc m2_ (subc m3_ sub0)))) (s_back (ih51 ((l3_51 + 1), m8))))
  have hj_X11_cast_0_23 : ∀ (m_23 : MM) (l0_23 : Nat) (l1_23 : Int) (l2_23 : Int) (s0_23 : Int), Sim fx me_X11_cast 23 [(0, aR (some (11, l0_23))), (1, aI l1_23), (2, aI l2_23)] [aI s0_23] m_23 ((j_X11_cast_0_23 m_23 l0_23 l1_23 l2_23 s0_23).bind (fun z => some z)) := by
    intro m_23 l0_23 l1_23 l2_23 s0_23
    unfold j_X11_cast_0_23
    refine s_cV (r_S d_X11_cast_23 k_X11_requireArgument w_284 rfl rfl) ms_X11_requireArgument (b8 rfl) rfl rfl rfl (fun h => by cases h) (fun _ _ => Or.inr rfl) fun m2 => (s_aload_n d_X11_cast_26 m0_ (s_getR cf d_X11_cast_27 fl_X11_19 (s_nk fun i4 => (s_getN cf d_X11_cast_30 fl_X11_108 (s_iload_n d_X11_cast_33 m2_ ?_)))))
    refine s_iadd d_X11_cast_34 rfl rfl (s_sipush d_X11_cast_35 n_400 rfl (s_ck1 (s_icmp_gt (tgt := 45) d_X11_cast_38 rfl ?_ ?_)))
    · exact s_iconst d_X11_cast_45 n_0 (s_sub (subc m0_ (subc m1_ (subc m2_ sub0))) (hj_X11_cast_0_46 m2 l0_23 l1_23 l2_23 0))
    exact s_iconst d_X11_cast_41 n_1 (s_goto (tgt := 46) d_X11_cast_42 rfl (s_sub (subc m0_ (subc m1_ (subc m2_ sub0))) (hj_X11_cast_0_46 m2 l0_23 l1_23 l2_23 1)))
  have hj_X11_cast_0_22 : ∀ (m_22 : MM) (l0_22 : Nat) (l1_22 : Int) (l2_22 : Int), Sim fx me_X11_cast 22 [(0, aR (some (11, l0_22))), (1, aI l1_22), (2, aI l2_22)] [] m_22 ((j_X11_cast_0_22 m_22 l0_22 l1_22 l2_22).bind (fun z => some z)) := by
    intro m_22 l0_22 l1_22 l2_22
    unfold j_X11_cast_0_22
    exact s_iconst d_X11_cast_22 n_0 (s_sub (subc m0_ (subc m1_ (subc m2_ sub0))) (hj_X11_cast_0_23 m_22 l0_22 l1_22 l2_22 0))
  refine s_iload_n d_X11_cast_0 m1_ (s_pI (r_S d_X11_cast_1 k_X11_isSort w_428 rfl rfl) ms_X11_isSort (b8 rfl) rfl rfl rfl fun v1 => (s_if_eq (tgt := 22) d_X11_cast_4 rfl ?_ ?_))
  · exact s_sub (subc m0_ (subc m1_ (subc m2_ sub0))) (hj_X11_cast_0_22 m l0 l1 l2)
  refine s_iload_n d_X11_cast_7 m2_ (s_iconst d_X11_cast_8 n_1 (s_icmp_lt (tgt := 22) d_X11_cast_9 rfl ?_ ?_))
  · exact s_sub (subc m0_ (subc m1_ (subc m2_ sub0))) (hj_X11_cast_0_22 m l0 l1 l2)
  refine s_iload_n d_X11_cast_12 m2_ (s_bipush d_X11_cast_13 n_40 rfl (s_icmp_gt (tgt := 22) d_X11_cast_15 rfl ?_ ?_))
  · exact s_sub (subc m0_ (subc m1_ (subc m2_ sub0))) (hj_X11_cast_0_22 m l0 l1 l2)
  exact s_iconst d_X11_cast_18 n_1 (s_goto (tgt := 23) d_X11_cast_19 rfl (s_sub (subc m0_ (subc m1_ (subc m2_ sub0))) (hj_X11_cast_0_23 m l0 l1 l2 1)))
theorem d_L_cast_0 : dk me_L_cast 0 (.aload_n 3) 1 1 := And.intro (by decide +kernel) rfl
theorem d_L_cast_1 : dk me_L_cast 1 (.iconst 0) 1 2 := And.intro (by decide +kernel) rfl
theorem d_L_cast_2 : dk me_L_cast 2 (.aload_n 0) 1 3 := And.intro (by decide +kernel) rfl
theorem d_L_cast_3 : dk me_L_cast 3 (.iload_n 1) 1 4 := And.intro (by decide +kernel) rfl
theorem d_L_cast_4 : dk me_L_cast 4 (.iload_n 2) 1 5 := And.intro (by decide +kernel) rfl
theorem d_L_cast_5 : dk me_L_cast 5 (.invokevirtual 21) 3 8 := And.intro (by decide +kernel) rfl
theorem d_L_cast_8 : dk me_L_cast 8 (.i2l) 1 9 := And.intro (by decide +kernel) rfl
theorem d_L_cast_9 : dk me_L_cast 9 (.lastore) 1 10 := And.intro (by decide +kernel) rfl
theorem d_L_cast_10 : dk me_L_cast 10 (.goto 11) 3 13 := And.intro (by decide +kernel) rfl
theorem d_L_cast_13 : dk me_L_cast 13 (.astore 4) 2 15 := And.intro (by decide +kernel) rfl
theorem d_L_cast_15 : dk me_L_cast 15 (.iconst 1) 1 16 := And.intro (by decide +kernel) rfl
theorem d_L_cast_16 : dk me_L_cast 16 (.ireturn) 1 17 := And.intro (by decide +kernel) rfl
theorem d_L_cast_17 : dk me_L_cast 17 (.astore 4) 2 19 := And.intro (by decide +kernel) rfl
theorem d_L_cast_19 : dk me_L_cast 19 (.iconst 2) 1 20 := And.intro (by decide +kernel) rfl
theorem d_L_cast_20 : dk me_L_cast 20 (.ireturn) 1 21 := And.intro (by decide +kernel) rfl
theorem d_L_cast_21 : dk me_L_cast 21 (.iconst 0) 1 22 := And.intro (by decide +kernel) rfl
theorem d_L_cast_22 : dk me_L_cast 22 (.ireturn) 1 23 := And.intro (by decide +kernel) rfl
theorem ms_L_cast {fx : FX} {m : MM} {l0 : Nat} {l1 : Int} {l2 : Int} {l3 : Nat} : MS fx me_L_cast [aR (some (11, l0)), aI l1, aI l2, aR (some (131, l3))] m (f_L_cast m l0 l1 l2 l3) := by
  refine ms_ofH rfl mf_L_cast (b8 rfl) ?_
  refine s_top ?_
  show Sim fx me_L_cast 0 [(0, aR (some (11, l0))), (1, aI l1), (2, aI l2), (3, aR (some (131, l3)))] [] m _
  unfold f_L_cast
  refine s_aload_n d_L_cast_0 m3_ (s_iconst d_L_cast_1 n_0 (s_aload_n d_L_cast_2 m0_ (s_iload_n d_L_cast_3 m1_ (s_iload_n d_L_cast_4 m2_ (s_cIC (r_V d_L_cast_5 k_X11_cast w_424 rfl rfl) ms_X11_cast (b8 rfl) rfl rfl ?_ ?_ ?_ fun v2 m1 => ?_)))))
  · exact fun _ => Or.inl rfl
  · refine fun mx => Or.inr ⟨13, ⟨rfl, by decide, 1, wx_13_1, Or.inl ⟨rfl, rfl⟩⟩, fun qx => ?_⟩
    exact s_astoreV (L' := [(4, aV (.ref qx)), (0, aR (some (11, l0))), (1, aI l1), (2, aI l2), (3, aR (some (131, l3)))]) d_L_cast_13 (b8 rfl) rfl (s_iconst d_L_cast_15 n_1 (s_iret d_L_cast_16 rfl rfl))
  · refine fun mx => Or.inr ⟨17, ⟨rfl, by decide, 1, wx_13_1, Or.inr ⟨by decide, ⟨rfl, by decide, 2, wx_15_2, Or.inl ⟨rfl, rfl⟩⟩⟩⟩, fun qx => ?_⟩
    exact s_astoreV (L' := [(4, aV (.ref qx)), (0, aR (some (11, l0))), (1, aI l1), (2, aI l2), (3, aR (some (131, l3)))]) d_L_cast_17 (b8 rfl) rfl (s_iconst d_L_cast_19 n_2 (s_iret d_L_cast_20 rfl rfl))
  exact s_i2l d_L_cast_8 (s_stL d_L_cast_9 ka_131 rfl fun m3 => (s_goto (tgt := 21) d_L_cast_10 rfl (s_iconst d_L_cast_21 n_0 (s_iret d_L_cast_22 rfl rfl))))
theorem d_X4_isSet_0 : dk me_X4_isSet 0 (.aload_n 0) 1 1 := And.intro (by decide +kernel) rfl
theorem d_X4_isSet_1 : dk me_X4_isSet 1 (.getfield 25) 3 4 := And.intro (by decide +kernel) rfl
theorem d_X4_isSet_4 : dk me_X4_isSet 4 (.iconst (-1)) 1 5 := And.intro (by decide +kernel) rfl
theorem d_X4_isSet_5 : dk me_X4_isSet 5 (.if_icmp .eq 7) 3 8 := And.intro (by decide +kernel) rfl
theorem d_X4_isSet_8 : dk me_X4_isSet 8 (.iconst 1) 1 9 := And.intro (by decide +kernel) rfl
theorem d_X4_isSet_9 : dk me_X4_isSet 9 (.goto 4) 3 12 := And.intro (by decide +kernel) rfl
theorem d_X4_isSet_12 : dk me_X4_isSet 12 (.iconst 0) 1 13 := And.intro (by decide +kernel) rfl
theorem d_X4_isSet_13 : dk me_X4_isSet 13 (.ireturn) 1 14 := And.intro (by decide +kernel) rfl
theorem ms_X4_isSet {fx : FX} {m : MM} {l0 : Nat} : MS fx me_X4_isSet [aR (some (4, l0))] m ((f_X4_isSet m l0).bind fun v => some (.inl (some (aI v)), m)) := by
  refine ms_of rfl mf_X4_isSet (b8 rfl) ?_
  show Sim fx me_X4_isSet 0 [(0, aR (some (4, l0)))] [] m _
  unfold f_X4_isSet
  refine s_aload_n d_X4_isSet_0 m0_ (s_getN cf d_X4_isSet_1 fl_X4_25 (s_iconst d_X4_isSet_4 n_m1 (s_icmp_eq (tgt := 12) d_X4_isSet_5 rfl ?_ ?_)))
  · exact s_iconst d_X4_isSet_12 n_0 (s_zretl d_X4_isSet_13 rfl (by decide) rfl)
  exact s_iconst d_X4_isSet_8 n_1 (s_goto (tgt := 13) d_X4_isSet_9 rfl (s_zretl d_X4_isSet_13 rfl (by decide) rfl))
theorem d_X0_firstWordOfPart_0 : dk me_X0_firstWordOfPart 0 (.aload_n 0) 1 1 := And.intro (by decide +kernel) rfl
theorem d_X0_firstWordOfPart_1 : dk me_X0_firstWordOfPart 1 (.getfield 114) 3 4 := And.intro (by decide +kernel) rfl
theorem d_X0_firstWordOfPart_4 : dk me_X0_firstWordOfPart 4 (.ifCond .eq 10) 3 7 := And.intro (by decide +kernel) rfl
theorem d_X0_firstWordOfPart_7 : dk me_X0_firstWordOfPart 7 (.aload_n 0) 1 8 := And.intro (by decide +kernel) rfl
theorem d_X0_firstWordOfPart_8 : dk me_X0_firstWordOfPart 8 (.getfield 62) 3 11 := And.intro (by decide +kernel) rfl
theorem d_X0_firstWordOfPart_11 : dk me_X0_firstWordOfPart 11 (.iload_n 1) 1 12 := And.intro (by decide +kernel) rfl
theorem d_X0_firstWordOfPart_12 : dk me_X0_firstWordOfPart 12 (.iaload) 1 13 := And.intro (by decide +kernel) rfl
theorem d_X0_firstWordOfPart_13 : dk me_X0_firstWordOfPart 13 (.ireturn) 1 14 := And.intro (by decide +kernel) rfl
theorem d_X0_firstWordOfPart_14 : dk me_X0_firstWordOfPart 14 (.iload_n 1) 1 15 := And.intro (by decide +kernel) rfl
theorem d_X0_firstWordOfPart_15 : dk me_X0_firstWordOfPart 15 (.ifCond .ne 5) 3 18 := And.intro (by decide +kernel) rfl
theorem d_X0_firstWordOfPart_18 : dk me_X0_firstWordOfPart 18 (.iconst 0) 1 19 := And.intro (by decide +kernel) rfl
theorem d_X0_firstWordOfPart_19 : dk me_X0_firstWordOfPart 19 (.ireturn) 1 20 := And.intro (by decide +kernel) rfl
theorem d_X0_firstWordOfPart_20 : dk me_X0_firstWordOfPart 20 (.aload_n 0) 1 21 := And.intro (by decide +kernel) rfl
theorem d_X0_firstWordOfPart_21 : dk me_X0_firstWordOfPart 21 (.getfield 33) 3 24 := And.intro (by decide +kernel) rfl
theorem d_X0_firstWordOfPart_24 : dk me_X0_firstWordOfPart 24 (.iload_n 1) 1 25 := And.intro (by decide +kernel) rfl
theorem d_X0_firstWordOfPart_25 : dk me_X0_firstWordOfPart 25 (.iconst 1) 1 26 := And.intro (by decide +kernel) rfl
theorem d_X0_firstWordOfPart_26 : dk me_X0_firstWordOfPart 26 (.isub) 1 27 := And.intro (by decide +kernel) rfl
theorem d_X0_firstWordOfPart_27 : dk me_X0_firstWordOfPart 27 (.aaload) 1 28 := And.intro (by decide +kernel) rfl
theorem d_X0_firstWordOfPart_28 : dk me_X0_firstWordOfPart 28 (.invokevirtual 85) 3 31 := And.intro (by decide +kernel) rfl
theorem d_X0_firstWordOfPart_31 : dk me_X0_firstWordOfPart 31 (.ifCond .eq 17) 3 34 := And.intro (by decide +kernel) rfl
theorem d_X0_firstWordOfPart_34 : dk me_X0_firstWordOfPart 34 (.aload_n 0) 1 35 := And.intro (by decide +kernel) rfl
theorem d_X0_firstWordOfPart_35 : dk me_X0_firstWordOfPart 35 (.getfield 33) 3 38 := And.intro (by decide +kernel) rfl
theorem d_X0_firstWordOfPart_38 : dk me_X0_firstWordOfPart 38 (.iload_n 1) 1 39 := And.intro (by decide +kernel) rfl
theorem d_X0_firstWordOfPart_39 : dk me_X0_firstWordOfPart 39 (.iconst 1) 1 40 := And.intro (by decide +kernel) rfl
theorem d_X0_firstWordOfPart_40 : dk me_X0_firstWordOfPart 40 (.isub) 1 41 := And.intro (by decide +kernel) rfl
theorem d_X0_firstWordOfPart_41 : dk me_X0_firstWordOfPart 41 (.aaload) 1 42 := And.intro (by decide +kernel) rfl
theorem d_X0_firstWordOfPart_42 : dk me_X0_firstWordOfPart 42 (.getfield 118) 3 45 := And.intro (by decide +kernel) rfl
theorem d_X0_firstWordOfPart_45 : dk me_X0_firstWordOfPart 45 (.goto 4) 3 48 := And.intro (by decide +kernel) rfl
theorem d_X0_firstWordOfPart_48 : dk me_X0_firstWordOfPart 48 (.iconst (-1)) 1 49 := And.intro (by decide +kernel) rfl
theorem d_X0_firstWordOfPart_49 : dk me_X0_firstWordOfPart 49 (.ireturn) 1 50 := And.intro (by decide +kernel) rfl
theorem ms_X0_firstWordOfPart {fx : FX} {m : MM} {l0 : Nat} {l1 : Int} : MS fx me_X0_firstWordOfPart [aR (some (0, l0)), aI l1] m ((f_X0_firstWordOfPart m l0 l1).bind fun v => some (.inl (some (aI v)), m)) := by
  refine ms_of rfl mf_X0_firstWordOfPart (b8 rfl) ?_
  show Sim fx me_X0_firstWordOfPart 0 [(0, aR (some (0, l0))), (1, aI l1)] [] m _
  unfold f_X0_firstWordOfPart
  refine s_aload_n d_X0_firstWordOfPart_0 m0_ (s_getB cf d_X0_firstWordOfPart_1 fl_X0_114 (s_if_eq (tgt := 14) d_X0_firstWordOfPart_4 rfl ?_ ?_))
  · refine s_iload_n d_X0_firstWordOfPart_14 m1_ (s_if_ne (tgt := 20) d_X0_firstWordOfPart_15 rfl ?_ ?_)
    · refine s_aload_n d_X0_firstWordOfPart_20 m0_ (s_getR cf d_X0_firstWordOfPart_21 fl_X0_33 (s_nk fun i1 => (s_iload_n d_X0_firstWordOfPart_24 m1_ (s_iconst d_X0_firstWordOfPart_25 n_1 (s_isub d_X0_firstWordOfPart_26 rfl rfl ?_)))))
      refine s_ldR d_X0_firstWordOfPart_27 ka_13 ta_13 rfl rfl fun r2 => (s_nk fun i3 => (s_pI (r_V d_X0_firstWordOfPart_28 k_X4_isSet w_825 rfl rfl) ms_X4_isSet (b8 rfl) rfl rfl rfl fun v4 => (s_if_eq (tgt := 48) d_X0_firstWordOfPart_31 rfl ?_ ?_)))
      · exact s_iconst d_X0_firstWordOfPart_48 n_m1 (s_iret d_X0_firstWordOfPart_49 rfl rfl)
      refine s_aload_n d_X0_firstWordOfPart_34 m0_ (s_getR cf d_X0_firstWordOfPart_35 fl_X0_33 (s_nk fun i5 => (s_iload_n d_X0_firstWordOfPart_38 m1_ (s_iconst d_X0_firstWordOfPart_39 n_1 (s_isub d_X0_firstWordOfPart_40 rfl rfl ?_)))))
      exact s_ldR d_X0_firstWordOfPart_41 ka_13 ta_13 rfl rfl fun r6 => (s_nk fun i7 => (s_getN cf d_X0_firstWordOfPart_42 fl_X0_118 (s_goto (tgt := 49) d_X0_firstWordOfPart_45 rfl (s_iret d_X0_firstWordOfPart_49 rfl rfl))))
    exact s_iconst d_X0_firstWordOfPart_18 n_0 (s_iret d_X0_firstWordOfPart_19 rfl rfl)
  exact s_aload_n d_X0_firstWordOfPart_7 m0_ (s_getR cf d_X0_firstWordOfPart_8 fl_X0_62 (s_nk fun i8 => (s_iload_n d_X0_firstWordOfPart_11 m1_ (s_ldN d_X0_firstWordOfPart_12 ka_16 rfl fun v9 => (s_iret d_X0_firstWordOfPart_13 rfl rfl)))))
theorem d_X0_hasSetPage_0 : dk me_X0_hasSetPage 0 (.aload_n 0) 1 1 := And.intro (by decide +kernel) rfl
theorem d_X0_hasSetPage_1 : dk me_X0_hasSetPage 1 (.getfield 33) 3 4 := And.intro (by decide +kernel) rfl
theorem d_X0_hasSetPage_4 : dk me_X0_hasSetPage 4 (.astore_n 1) 1 5 := And.intro (by decide +kernel) rfl
theorem d_X0_hasSetPage_5 : dk me_X0_hasSetPage 5 (.aload_n 1) 1 6 := And.intro (by decide +kernel) rfl
theorem d_X0_hasSetPage_6 : dk me_X0_hasSetPage 6 (.arraylength) 1 7 := And.intro (by decide +kernel) rfl
theorem d_X0_hasSetPage_7 : dk me_X0_hasSetPage 7 (.istore_n 2) 1 8 := And.intro (by decide +kernel) rfl
theorem d_X0_hasSetPage_8 : dk me_X0_hasSetPage 8 (.iconst 0) 1 9 := And.intro (by decide +kernel) rfl
theorem d_X0_hasSetPage_9 : dk me_X0_hasSetPage 9 (.istore_n 3) 1 10 := And.intro (by decide +kernel) rfl
theorem d_X0_hasSetPage_10 : dk me_X0_hasSetPage 10 (.iload_n 3) 1 11 := And.intro (by decide +kernel) rfl
theorem d_X0_hasSetPage_11 : dk me_X0_hasSetPage 11 (.iload_n 2) 1 12 := And.intro (by decide +kernel) rfl
theorem d_X0_hasSetPage_12 : dk me_X0_hasSetPage 12 (.if_icmp .ge 24) 3 15 := And.intro (by decide +kernel) rfl
theorem d_X0_hasSetPage_15 : dk me_X0_hasSetPage 15 (.aload_n 1) 1 16 := And.intro (by decide +kernel) rfl
theorem d_X0_hasSetPage_16 : dk me_X0_hasSetPage 16 (.iload_n 3) 1 17 := And.intro (by decide +kernel) rfl
theorem d_X0_hasSetPage_17 : dk me_X0_hasSetPage 17 (.aaload) 1 18 := And.intro (by decide +kernel) rfl
theorem d_X0_hasSetPage_18 : dk me_X0_hasSetPage 18 (.astore 4) 2 20 := And.intro (by decide +kernel) rfl
theorem d_X0_hasSetPage_20 : dk me_X0_hasSetPage 20 (.aload 4) 2 22 := And.intro (by decide +kernel) rfl
theorem d_X0_hasSetPage_22 : dk me_X0_hasSetPage 22 (.invokevirtual 85) 3 25 := And.intro (by decide +kernel) rfl
theorem d_X0_hasSetPage_25 : dk me_X0_hasSetPage 25 (.ifCond .eq 5) 3 28 := And.intro (by decide +kernel) rfl
theorem d_X0_hasSetPage_28 : dk me_X0_hasSetPage 28 (.iconst 1) 1 29 := And.intro (by decide +kernel) rfl
theorem d_X0_hasSetPage_29 : dk me_X0_hasSetPage 29 (.ireturn) 1 30 := And.intro (by decide +kernel) rfl
theorem d_X0_hasSetPage_30 : dk me_X0_hasSetPage 30 (.iinc 3 1) 3 33 := And.intro (by decide +kernel) rfl
theorem d_X0_hasSetPage_33 : dk me_X0_hasSetPage 33 (.goto (-23)) 3 36 := And.intro (by decide +kernel) rfl
theorem d_X0_hasSetPage_36 : dk me_X0_hasSetPage 36 (.iconst 0) 1 37 := And.intro (by decide +kernel) rfl
theorem d_X0_hasSetPage_37 : dk me_X0_hasSetPage 37 (.ireturn) 1 38 := And.intro (by decide +kernel) rfl
theorem ms_X0_hasSetPage {fx : FX} {m : MM} {l0 : Nat} : MS fx me_X0_hasSetPage [aR (some (0, l0))] m ((f_X0_hasSetPage m l0).bind fun v => some (.inl (some (aI v)), m)) := by
  refine ms_of rfl mf_X0_hasSetPage (b8 rfl) ?_
  show Sim fx me_X0_hasSetPage 0 [(0, aR (some (0, l0)))] [] m _
  unfold f_X0_hasSetPage
  have hj_X0_hasSetPage_0_36 : Sim fx me_X0_hasSetPage 36 [] [] m ((j_X0_hasSetPage_0_36 m).bind (fun v => some (.inl (some (aI v)), m))) := by
    unfold j_X0_hasSetPage_0_36
    exact s_iconst d_X0_hasSetPage_36 n_0 (s_zretl d_X0_hasSetPage_37 rfl (by decide) rfl)
  refine s_aload_n d_X0_hasSetPage_0 m0_ (s_getR cf d_X0_hasSetPage_1 fl_X0_33 (s_nk fun i1 => (s_astore_n (L' := [(1, aR (some (13, i1))), (0, aR (some (0, l0)))]) d_X0_hasSetPage_4 (b8 rfl) rfl (s_aload_n d_X0_hasSetPage_5 m0_ (s_len d_X0_hasSetPage_6 ka_13 ta_13 ?_)))))
  refine s_istore_n (L' := [(2, aI (lenI m 13 i1)), (1, aR (some (13, i1))), (0, aR (some (0, l0)))]) d_X0_hasSetPage_7 (b8 rfl) rfl (s_iconst d_X0_hasSetPage_8 n_0 (s_istore_n (L' := [(3, aI 0), (2, aI (lenI m 13 i1)), (1, aR (some (13, i1))), (0, aR (some (0, l0)))]) d_X0_hasSetPage_9 (b8 rfl) rfl (s_sub (subc m0_ (subc m2_ (subc m1_ sub0))) (s_lp2 (fun s => [(3, aI s), (1, aR (some (13, i1))), (2, aI (lenI m 13 i1))]) (fun s => m) 0 fun k10 hx10 s ih0 => ?_))))
  obtain ⟨l3_10, rfl⟩ : ∃ q, q = s := ⟨s, rfl⟩
  have ih10 := ih0
  clear ih0
  try dsimp only
  unfold b_X0_hasSetPage_10
  refine s_iload_n d_X0_hasSetPage_10 m0_ (s_iload_n d_X0_hasSetPage_11 m2_ (s_icmp_ge (tgt := 36) d_X0_hasSetPage_12 rfl ?_ ?_))
  · exact s_exit (hx10 _) (s_sub (sub0) (hj_X0_hasSetPage_0_36 ))
  refine s_aload_n d_X0_hasSetPage_15 m1_ (s_iload_n d_X0_hasSetPage_16 m0_ (s_ldR d_X0_hasSetPage_17 ka_13 ta_13 rfl rfl fun r2 => (s_nk fun i3 => (s_astore (L' := [(4, aR (some (4, i3))), (3, aI l3_10), (1, aR (some (13, i1))), (2, aI (lenI m 13 i1))]) d_X0_hasSetPage_18 (b8 rfl) rfl (s_aload d_X0_hasSetPage_20 m0_ ?_)))))
  refine s_pI (r_V d_X0_hasSetPage_22 k_X4_isSet w_825 rfl rfl) ms_X4_isSet (b8 rfl) rfl rfl rfl fun v4 => (s_if_eq (tgt := 30) d_X0_hasSetPage_25 rfl ?_ ?_)
  · exact s_iinc (L' := [(3, aI (l3_10 + 1)), (4, aR (some (4, i3))), (1, aR (some (13, i1))), (2, aI (lenI m 13 i1))]) d_X0_hasSetPage_30 m1_ (b8 rfl) rfl (s_goto (tgt := 10) d_X0_hasSetPage_33 rfl (s_sub (subc m0_ (subc m2_ (subc m3_ sub0))) (s_back (ih10 (l3_10 + 1)))))
  exact s_iconst d_X0_hasSetPage_28 n_1 (s_zretl d_X0_hasSetPage_29 rfl (by decide) ((hx10 _).trans rfl))
theorem d_X11_letterAt_0 : dk me_X11_letterAt 0 (.lload_n 0) 1 1 := And.intro (by decide +kernel) rfl
theorem d_X11_letterAt_1 : dk me_X11_letterAt 1 (.bipush 8) 2 3 := And.intro (by decide +kernel) rfl
theorem d_X11_letterAt_3 : dk me_X11_letterAt 3 (.iload_n 2) 1 4 := And.intro (by decide +kernel) rfl
theorem d_X11_letterAt_4 : dk me_X11_letterAt 4 (.imul) 1 5 := And.intro (by decide +kernel) rfl
theorem d_X11_letterAt_5 : dk me_X11_letterAt 5 (.lushr) 1 6 := And.intro (by decide +kernel) rfl
theorem d_X11_letterAt_6 : dk me_X11_letterAt 6 (.ldc2_w 491) 3 9 := And.intro (by decide +kernel) rfl
theorem d_X11_letterAt_9 : dk me_X11_letterAt 9 (.land) 1 10 := And.intro (by decide +kernel) rfl
theorem d_X11_letterAt_10 : dk me_X11_letterAt 10 (.l2i) 1 11 := And.intro (by decide +kernel) rfl
theorem d_X11_letterAt_11 : dk me_X11_letterAt 11 (.ireturn) 1 12 := And.intro (by decide +kernel) rfl
theorem ms_X11_letterAt {fx : FX} {m : MM} {l0 : Int64} {l2 : Int} : MS fx me_X11_letterAt [aL l0, aI l2] m ((f_X11_letterAt m l0 l2).bind fun v => some (.inl (some (aI v)), m)) := by
  refine ms_of rfl mf_X11_letterAt (b8 rfl) ?_
  show Sim fx me_X11_letterAt 0 [(0, aL l0), (2, aI l2)] [] m _
  unfold f_X11_letterAt
  refine s_lload_n d_X11_letterAt_0 m0_ (s_bipush d_X11_letterAt_1 n_8 rfl (s_iload_n d_X11_letterAt_3 m1_ (s_imul d_X11_letterAt_4 rfl rfl (s_ck (s_lushr d_X11_letterAt_5 ?_)))))
  exact s_ldc2 d_X11_letterAt_6 w_358 (s_land d_X11_letterAt_9 (s_l2i d_X11_letterAt_10 (s_iret d_X11_letterAt_11 rfl rfl)))
theorem d_X11_letters_0 : dk me_X11_letters 0 (.iconst 0) 1 1 := And.intro (by decide +kernel) rfl
theorem d_X11_letters_1 : dk me_X11_letters 1 (.istore_n 2) 1 2 := And.intro (by decide +kernel) rfl
theorem d_X11_letters_2 : dk me_X11_letters 2 (.iconst 0) 1 3 := And.intro (by decide +kernel) rfl
theorem d_X11_letters_3 : dk me_X11_letters 3 (.istore_n 3) 1 4 := And.intro (by decide +kernel) rfl
theorem d_X11_letters_4 : dk me_X11_letters 4 (.iload_n 3) 1 5 := And.intro (by decide +kernel) rfl
theorem d_X11_letters_5 : dk me_X11_letters 5 (.bipush 8) 2 7 := And.intro (by decide +kernel) rfl
theorem d_X11_letters_7 : dk me_X11_letters 7 (.if_icmp .ge 20) 3 10 := And.intro (by decide +kernel) rfl
theorem d_X11_letters_10 : dk me_X11_letters 10 (.lload_n 0) 1 11 := And.intro (by decide +kernel) rfl
theorem d_X11_letters_11 : dk me_X11_letters 11 (.iload_n 3) 1 12 := And.intro (by decide +kernel) rfl
theorem d_X11_letters_12 : dk me_X11_letters 12 (.invokestatic 57) 3 15 := And.intro (by decide +kernel) rfl
theorem d_X11_letters_15 : dk me_X11_letters 15 (.ifCond .eq 6) 3 18 := And.intro (by decide +kernel) rfl
theorem d_X11_letters_18 : dk me_X11_letters 18 (.iinc 2 1) 3 21 := And.intro (by decide +kernel) rfl
theorem d_X11_letters_21 : dk me_X11_letters 21 (.iinc 3 1) 3 24 := And.intro (by decide +kernel) rfl
theorem d_X11_letters_24 : dk me_X11_letters 24 (.goto (-20)) 3 27 := And.intro (by decide +kernel) rfl
theorem d_X11_letters_27 : dk me_X11_letters 27 (.iload_n 2) 1 28 := And.intro (by decide +kernel) rfl
theorem d_X11_letters_28 : dk me_X11_letters 28 (.ireturn) 1 29 := And.intro (by decide +kernel) rfl
theorem ms_X11_letters {fx : FX} {m : MM} {l0 : Int64} : MS fx me_X11_letters [aL l0] m ((f_X11_letters m l0).bind fun v => some (.inl (some (aI v)), m)) := by
  refine ms_of rfl mf_X11_letters (b8 rfl) ?_
  show Sim fx me_X11_letters 0 [(0, aL l0)] [] m _
  unfold f_X11_letters
  have hj_X11_letters_0_27 : ∀ (l2_27 : Int), Sim fx me_X11_letters 27 [(2, aI l2_27)] [] m ((j_X11_letters_0_27 m l2_27).bind (fun v => some (.inl (some (aI v)), m))) := by
    intro l2_27
    unfold j_X11_letters_0_27
    exact s_iload_n d_X11_letters_27 m0_ (s_iret d_X11_letters_28 rfl rfl)
  refine s_iconst d_X11_letters_0 n_0 (s_istore_n (L' := [(2, aI 0), (0, aL l0)]) d_X11_letters_1 (b8 rfl) rfl (s_iconst d_X11_letters_2 n_0 (s_istore_n (L' := [(3, aI 0), (2, aI 0), (0, aL l0)]) d_X11_letters_3 (b8 rfl) rfl (s_sub (subc m1_ (subc m0_ (subc m2_ sub0))) (s_lp2 (fun s => [(2, aI (s.1)), (3, aI (s.2)), (0, aL l0)]) (fun s => m) (0, 0) fun k4 hx4 s ih0 => ?_)))))
  obtain ⟨l2_4, l3_4⟩ := s
  have ih4 := ih0
  clear ih0
  try dsimp only
  unfold b_X11_letters_4
  refine s_iload_n d_X11_letters_4 m1_ (s_bipush d_X11_letters_5 n_8 rfl (s_icmp_ge (tgt := 27) d_X11_letters_7 rfl ?_ ?_))
  · exact s_exit (hx4 _) (s_sub (subc m0_ sub0) (hj_X11_letters_0_27 l2_4))
  refine s_lload_n d_X11_letters_10 m2_ (s_iload_n d_X11_letters_11 m1_ (s_pI (r_S d_X11_letters_12 k_X11_letterAt w_355 rfl rfl) ms_X11_letterAt (b8 rfl) rfl rfl rfl fun v1 => (s_if_eq (tgt := 21) d_X11_letters_15 rfl ?_ ?_)))
  · exact s_iinc (L' := [(3, aI (l3_4 + 1)), (2, aI l2_4), (0, aL l0)]) d_X11_letters_21 m1_ (b8 rfl) rfl (s_goto (tgt := 4) d_X11_letters_24 rfl (s_sub (subc m1_ (subc m0_ (subc m2_ sub0))) (s_back (ih4 (l2_4, (l3_4 + 1))))))
  exact s_iinc (L' := [(2, aI (l2_4 + 1)), (3, aI l3_4), (0, aL l0)]) d_X11_letters_18 m0_ (b8 rfl) rfl (s_iinc (L' := [(3, aI (l3_4 + 1)), (2, aI (l2_4 + 1)), (0, aL l0)]) d_X11_letters_21 m1_ (b8 rfl) rfl (s_goto (tgt := 4) d_X11_letters_24 rfl (s_sub (subc m1_ (subc m0_ (subc m2_ sub0))) (s_back (ih4 ((l2_4 + 1), (l3_4 + 1)))))))
theorem d_X0_partByUnits_0 : dk me_X0_partByUnits 0 (.aload_n 0) 1 1 := And.intro (by decide +kernel) rfl
theorem d_X0_partByUnits_1 : dk me_X0_partByUnits 1 (.getfield 22) 3 4 := And.intro (by decide +kernel) rfl
theorem d_X0_partByUnits_4 : dk me_X0_partByUnits 4 (.aload_n 0) 1 5 := And.intro (by decide +kernel) rfl
theorem d_X0_partByUnits_5 : dk me_X0_partByUnits 5 (.getfield 25) 3 8 := And.intro (by decide +kernel) rfl
theorem d_X0_partByUnits_8 : dk me_X0_partByUnits 8 (.imul) 1 9 := And.intro (by decide +kernel) rfl
theorem d_X0_partByUnits_9 : dk me_X0_partByUnits 9 (.iload_n 1) 1 10 := And.intro (by decide +kernel) rfl
theorem d_X0_partByUnits_10 : dk me_X0_partByUnits 10 (.imul) 1 11 := And.intro (by decide +kernel) rfl
theorem d_X0_partByUnits_11 : dk me_X0_partByUnits 11 (.bipush 100) 2 13 := And.intro (by decide +kernel) rfl
theorem d_X0_partByUnits_13 : dk me_X0_partByUnits 13 (.idiv) 1 14 := And.intro (by decide +kernel) rfl
theorem d_X0_partByUnits_14 : dk me_X0_partByUnits 14 (.iconst 1) 1 15 := And.intro (by decide +kernel) rfl
theorem d_X0_partByUnits_15 : dk me_X0_partByUnits 15 (.invokestatic 98) 3 18 := And.intro (by decide +kernel) rfl
theorem d_X0_partByUnits_18 : dk me_X0_partByUnits 18 (.istore_n 2) 1 19 := And.intro (by decide +kernel) rfl
theorem d_X0_partByUnits_19 : dk me_X0_partByUnits 19 (.iconst 0) 1 20 := And.intro (by decide +kernel) rfl
theorem d_X0_partByUnits_20 : dk me_X0_partByUnits 20 (.istore_n 3) 1 21 := And.intro (by decide +kernel) rfl
theorem d_X0_partByUnits_21 : dk me_X0_partByUnits 21 (.iconst 0) 1 22 := And.intro (by decide +kernel) rfl
theorem d_X0_partByUnits_22 : dk me_X0_partByUnits 22 (.istore 4) 2 24 := And.intro (by decide +kernel) rfl
theorem d_X0_partByUnits_24 : dk me_X0_partByUnits 24 (.iconst 0) 1 25 := And.intro (by decide +kernel) rfl
theorem d_X0_partByUnits_25 : dk me_X0_partByUnits 25 (.istore 5) 2 27 := And.intro (by decide +kernel) rfl
theorem d_X0_partByUnits_27 : dk me_X0_partByUnits 27 (.iload 5) 2 29 := And.intro (by decide +kernel) rfl
theorem d_X0_partByUnits_29 : dk me_X0_partByUnits 29 (.aload_n 0) 1 30 := And.intro (by decide +kernel) rfl
theorem d_X0_partByUnits_30 : dk me_X0_partByUnits 30 (.getfield 33) 3 33 := And.intro (by decide +kernel) rfl
theorem d_X0_partByUnits_33 : dk me_X0_partByUnits 33 (.arraylength) 1 34 := And.intro (by decide +kernel) rfl
theorem d_X0_partByUnits_34 : dk me_X0_partByUnits 34 (.if_icmp .ge 62) 3 37 := And.intro (by decide +kernel) rfl
theorem d_X0_partByUnits_37 : dk me_X0_partByUnits 37 (.iload 4) 2 39 := And.intro (by decide +kernel) rfl
theorem d_X0_partByUnits_39 : dk me_X0_partByUnits 39 (.aload_n 0) 1 40 := And.intro (by decide +kernel) rfl
theorem d_X0_partByUnits_40 : dk me_X0_partByUnits 40 (.getfield 12) 3 43 := And.intro (by decide +kernel) rfl
theorem d_X0_partByUnits_43 : dk me_X0_partByUnits 43 (.getfield 103) 3 46 := And.intro (by decide +kernel) rfl
theorem d_X0_partByUnits_46 : dk me_X0_partByUnits 46 (.if_icmp .ge 35) 3 49 := And.intro (by decide +kernel) rfl
theorem d_X0_partByUnits_49 : dk me_X0_partByUnits 49 (.iload_n 3) 1 50 := And.intro (by decide +kernel) rfl
theorem d_X0_partByUnits_50 : dk me_X0_partByUnits 50 (.iload 5) 2 52 := And.intro (by decide +kernel) rfl
theorem d_X0_partByUnits_52 : dk me_X0_partByUnits 52 (.iload_n 2) 1 53 := And.intro (by decide +kernel) rfl
theorem d_X0_partByUnits_53 : dk me_X0_partByUnits 53 (.imul) 1 54 := And.intro (by decide +kernel) rfl
theorem d_X0_partByUnits_54 : dk me_X0_partByUnits 54 (.if_icmp .ge 27) 3 57 := And.intro (by decide +kernel) rfl
theorem d_X0_partByUnits_57 : dk me_X0_partByUnits 57 (.iload_n 3) 1 58 := And.intro (by decide +kernel) rfl
theorem d_X0_partByUnits_58 : dk me_X0_partByUnits 58 (.aload_n 0) 1 59 := And.intro (by decide +kernel) rfl
theorem d_X0_partByUnits_59 : dk me_X0_partByUnits 59 (.getfield 12) 3 62 := And.intro (by decide +kernel) rfl
theorem d_X0_partByUnits_62 : dk me_X0_partByUnits 62 (.getfield 106) 3 65 := And.intro (by decide +kernel) rfl
theorem d_X0_partByUnits_65 : dk me_X0_partByUnits 65 (.iload 4) 2 67 := And.intro (by decide +kernel) rfl
theorem d_X0_partByUnits_67 : dk me_X0_partByUnits 67 (.laload) 1 68 := And.intro (by decide +kernel) rfl
theorem d_X0_partByUnits_68 : dk me_X0_partByUnits 68 (.invokestatic 110) 3 71 := And.intro (by decide +kernel) rfl
theorem d_X0_partByUnits_71 : dk me_X0_partByUnits 71 (.iconst 1) 1 72 := And.intro (by decide +kernel) rfl
theorem d_X0_partByUnits_72 : dk me_X0_partByUnits 72 (.iadd) 1 73 := And.intro (by decide +kernel) rfl
theorem d_X0_partByUnits_73 : dk me_X0_partByUnits 73 (.iadd) 1 74 := And.intro (by decide +kernel) rfl
theorem d_X0_partByUnits_74 : dk me_X0_partByUnits 74 (.istore_n 3) 1 75 := And.intro (by decide +kernel) rfl
theorem d_X0_partByUnits_75 : dk me_X0_partByUnits 75 (.iinc 4 1) 3 78 := And.intro (by decide +kernel) rfl
theorem d_X0_partByUnits_78 : dk me_X0_partByUnits 78 (.goto (-41)) 3 81 := And.intro (by decide +kernel) rfl
theorem d_X0_partByUnits_81 : dk me_X0_partByUnits 81 (.aload_n 0) 1 82 := And.intro (by decide +kernel) rfl
theorem d_X0_partByUnits_82 : dk me_X0_partByUnits 82 (.getfield 62) 3 85 := And.intro (by decide +kernel) rfl
theorem d_X0_partByUnits_85 : dk me_X0_partByUnits 85 (.iload 5) 2 87 := And.intro (by decide +kernel) rfl
theorem d_X0_partByUnits_87 : dk me_X0_partByUnits 87 (.iload 4) 2 89 := And.intro (by decide +kernel) rfl
theorem d_X0_partByUnits_89 : dk me_X0_partByUnits 89 (.iastore) 1 90 := And.intro (by decide +kernel) rfl
theorem d_X0_partByUnits_90 : dk me_X0_partByUnits 90 (.iinc 5 1) 3 93 := And.intro (by decide +kernel) rfl
theorem d_X0_partByUnits_93 : dk me_X0_partByUnits 93 (.goto (-66)) 3 96 := And.intro (by decide +kernel) rfl
theorem d_X0_partByUnits_96 : dk me_X0_partByUnits 96 (.aload_n 0) 1 97 := And.intro (by decide +kernel) rfl
theorem d_X0_partByUnits_97 : dk me_X0_partByUnits 97 (.iconst 1) 1 98 := And.intro (by decide +kernel) rfl
theorem d_X0_partByUnits_98 : dk me_X0_partByUnits 98 (.putfield 114) 3 101 := And.intro (by decide +kernel) rfl
theorem d_X0_partByUnits_101 : dk me_X0_partByUnits 101 (.return_) 1 102 := And.intro (by decide +kernel) rfl
theorem ms_X0_partByUnits {fx : FX} {m : MM} {l0 : Nat} {l1 : Int} : MS fx me_X0_partByUnits [aR (some (0, l0)), aI l1] m (f_X0_partByUnits m l0 l1) := by
  refine ms_of rfl mf_X0_partByUnits (b8 rfl) ?_
  refine s_top ?_
  show Sim fx me_X0_partByUnits 0 [(0, aR (some (0, l0))), (1, aI l1)] [] m _
  unfold f_X0_partByUnits
  have hj_X0_partByUnits_0_96 : ∀ (m_96 : MM) (l0_96 : Nat), Sim fx me_X0_partByUnits 96 [(0, aR (some (0, l0_96)))] [] m_96 ((j_X0_partByUnits_0_96 m_96 l0_96).bind (fun z => some z)) := by
    intro m_96 l0_96
    unfold j_X0_partByUnits_0_96
    exact s_aload_n d_X0_partByUnits_96 m0_ (s_iconst d_X0_partByUnits_97 n_1 (s_putBl cf d_X0_partByUnits_98 fl_X0_114 (fun h => by cases h) (by decide) fun m10 => (s_vret d_X0_partByUnits_101 rfl rfl)))
  refine s_aload_n d_X0_partByUnits_0 m0_ (s_getN cf d_X0_partByUnits_1 fl_X0_22 (s_aload_n d_X0_partByUnits_4 m0_ (s_getN cf d_X0_partByUnits_5 fl_X0_25 (s_imul d_X0_partByUnits_8 rfl rfl (s_iload_n d_X0_partByUnits_9 m1_ ?_)))))
  refine s_imul d_X0_partByUnits_10 rfl rfl (s_bipush d_X0_partByUnits_11 n_100 rfl (s_ck1 (s_idiv d_X0_partByUnits_13 (s_iconst d_X0_partByUnits_14 n_1 (s_max d_X0_partByUnits_15 w_869 wm_max1 wm_3 wm_max2 (b8 rfl) (b8 rfl) ?_)))))
  refine s_let fun v1 => (s_istore_n (L' := [(2, aI v1), (0, aR (some (0, l0))), (1, aI l1)]) d_X0_partByUnits_18 (b8 rfl) rfl (s_iconst d_X0_partByUnits_19 n_0 (s_istore_n (L' := [(3, aI 0), (2, aI v1), (0, aR (some (0, l0))), (1, aI l1)]) d_X0_partByUnits_20 (b8 rfl) rfl (s_iconst d_X0_partByUnits_21 n_0 (s_istore (L' := [(4, aI 0), (3, aI 0), (2, aI v1), (0, aR (some (0, l0))), (1, aI l1)]) d_X0_partByUnits_22 (b8 rfl) rfl ?_)))))
  refine s_iconst d_X0_partByUnits_24 n_0 (s_istore (L' := [(5, aI 0), (4, aI 0), (3, aI 0), (2, aI v1), (0, aR (some (0, l0))), (1, aI l1)]) d_X0_partByUnits_25 (b8 rfl) rfl (s_sub (subc m2_ (subc m1_ (subc m0_ (subc m4_ (subc m3_ sub0))))) (s_lp2 (fun s => [(3, aI (s.1)), (4, aI (s.2.1)), (5, aI (s.2.2.1)), (0, aR (some (0, l0))), (2, aI v1)]) (fun s => s.2.2.2) (0, 0, 0, m) fun k27 hx27 s ih0 => ?_)))
  obtain ⟨l3_27, l4_27, l5_27, mm_27⟩ := s
  have ih27 := ih0
  clear ih0
  try dsimp only
  unfold b_X0_partByUnits_27
  have hj_X0_partByUnits_27_81 : ∀ (m_81 : MM) (l3_81 : Int) (l4_81 : Int) (l5_81 : Int), Sim fx me_X0_partByUnits 81 [(0, aR (some (0, l0))), (2, aI v1), (3, aI l3_81), (4, aI l4_81), (5, aI l5_81)] [] m_81 ((j_X0_partByUnits_27_81 m_81 l0 v1 l3_81 l4_81 l5_81).bind k27) := by
    intro m_81 l3_81 l4_81 l5_81
    unfold j_X0_partByUnits_27_81
    refine s_aload_n d_X0_partByUnits_81 m0_ (s_getR cf d_X0_partByUnits_82 fl_X0_62 (s_nk fun i8 => (s_iload d_X0_partByUnits_85 m4_ (s_iload d_X0_partByUnits_87 m3_ (s_stN d_X0_partByUnits_89 ka_16 rfl fun m9 => ?_)))))
    exact s_iinc (L' := [(5, aI (l5_81 + 1)), (0, aR (some (0, l0))), (2, aI v1), (3, aI l3_81), (4, aI l4_81)]) d_X0_partByUnits_90 m4_ (b8 rfl) rfl (s_goto (tgt := 27) d_X0_partByUnits_93 rfl (s_sub (subc m3_ (subc m4_ (subc m0_ (subc m1_ (subc m2_ sub0))))) (s_back (ih27 (l3_81, l4_81, (l5_81 + 1), m9)))))
  refine s_iload d_X0_partByUnits_27 m2_ (s_aload_n d_X0_partByUnits_29 m3_ (s_getR cf d_X0_partByUnits_30 fl_X0_33 (s_nk fun i2 => (s_len d_X0_partByUnits_33 ka_13 ta_13 (s_icmp_ge (tgt := 96) d_X0_partByUnits_34 rfl ?_ ?_)))))
  · exact s_exit (hx27 _) (s_sub (subc m3_ sub0) (hj_X0_partByUnits_0_96 mm_27 l0))
  refine s_sub (subc m0_ (subc m1_ (subc m3_ (subc m4_ (subc m2_ sub0))))) (s_lp2 (fun s => [(3, aI (s.1)), (4, aI (s.2)), (0, aR (some (0, l0))), (2, aI v1), (5, aI l5_27)]) (fun s => mm_27) (l3_27, l4_27) fun k37 hx37 s ih0 => ?_)
  obtain ⟨l3_37, l4_37⟩ := s
  have ih37 := ih0
  clear ih0
  try dsimp only
  unfold b_X0_partByUnits_37
  refine s_iload d_X0_partByUnits_37 m1_ (s_aload_n d_X0_partByUnits_39 m2_ (s_getR cf d_X0_partByUnits_40 fl_X0_12 (s_nk fun i3 => (s_getN cf d_X0_partByUnits_43 fl_X0_103 (s_icmp_ge (tgt := 81) d_X0_partByUnits_46 rfl ?_ ?_)))))
  · exact s_exit (hx37 _) (s_sub (subc m2_ (subc m3_ (subc m0_ (subc m1_ (subc m4_ sub0))))) (hj_X0_partByUnits_27_81 mm_27 l3_37 l4_37 l5_27))
  refine s_iload_n d_X0_partByUnits_49 m0_ (s_iload d_X0_partByUnits_50 m4_ (s_iload_n d_X0_partByUnits_52 m3_ (s_imul d_X0_partByUnits_53 rfl rfl (s_ck (s_icmp_ge (tgt := 81) d_X0_partByUnits_54 rfl ?_ ?_)))))
  · exact s_exit (hx37 _) (s_sub (subc m2_ (subc m3_ (subc m0_ (subc m1_ (subc m4_ sub0))))) (hj_X0_partByUnits_27_81 mm_27 l3_37 l4_37 l5_27))
  refine s_iload_n d_X0_partByUnits_57 m0_ (s_aload_n d_X0_partByUnits_58 m2_ (s_getR cf d_X0_partByUnits_59 fl_X0_12 (s_nk fun i4 => (s_getR cf d_X0_partByUnits_62 fl_X0_106 (s_nk fun i5 => ?_)))))
  refine s_iload d_X0_partByUnits_65 m1_ (s_ldL d_X0_partByUnits_67 ka_45 rfl fun v6 => (s_pI (r_SN d_X0_partByUnits_68 k_X11_letters ne_5 rfl rfl) ms_X11_letters (b8 rfl) rfl rfl rfl fun v7 => (s_iconst d_X0_partByUnits_71 n_1 (s_iadd d_X0_partByUnits_72 rfl rfl (s_iadd d_X0_partByUnits_73 rfl rfl ?_)))))
  exact s_ck (s_istore_n (L' := [(3, aI (l3_37 + (v7 + 1))), (4, aI l4_37), (0, aR (some (0, l0))), (2, aI v1), (5, aI l5_27)]) d_X0_partByUnits_74 (b8 rfl) rfl (s_iinc (L' := [(4, aI (l4_37 + 1)), (3, aI (l3_37 + (v7 + 1))), (0, aR (some (0, l0))), (2, aI v1), (5, aI l5_27)]) d_X0_partByUnits_75 m1_ (b8 rfl) rfl (s_goto (tgt := 37) d_X0_partByUnits_78 rfl (s_sub (subc m1_ (subc m0_ (subc m2_ (subc m3_ (subc m4_ sub0))))) (s_back (ih37 ((l3_37 + (v7 + 1)), (l4_37 + 1))))))))
theorem d_X11_castOff_0 : dk me_X11_castOff 0 (.aload_n 0) 1 1 := And.intro (by decide +kernel) rfl
theorem d_X11_castOff_1 : dk me_X11_castOff 1 (.iload_n 1) 1 2 := And.intro (by decide +kernel) rfl
theorem d_X11_castOff_2 : dk me_X11_castOff 2 (.invokevirtual 143) 3 5 := And.intro (by decide +kernel) rfl
theorem d_X11_castOff_5 : dk me_X11_castOff 5 (.astore_n 3) 1 6 := And.intro (by decide +kernel) rfl
theorem d_X11_castOff_6 : dk me_X11_castOff 6 (.iload_n 2) 1 7 := And.intro (by decide +kernel) rfl
theorem d_X11_castOff_7 : dk me_X11_castOff 7 (.bipush 50) 2 9 := And.intro (by decide +kernel) rfl
theorem d_X11_castOff_9 : dk me_X11_castOff 9 (.if_icmp .lt 14) 3 12 := And.intro (by decide +kernel) rfl
theorem d_X11_castOff_12 : dk me_X11_castOff 12 (.iload_n 2) 1 13 := And.intro (by decide +kernel) rfl
theorem d_X11_castOff_13 : dk me_X11_castOff 13 (.sipush 150) 3 16 := And.intro (by decide +kernel) rfl
theorem d_X11_castOff_16 : dk me_X11_castOff 16 (.if_icmp .gt 7) 3 19 := And.intro (by decide +kernel) rfl
theorem d_X11_castOff_19 : dk me_X11_castOff 19 (.iconst 1) 1 20 := And.intro (by decide +kernel) rfl
theorem d_X11_castOff_20 : dk me_X11_castOff 20 (.goto 4) 3 23 := And.intro (by decide +kernel) rfl
theorem d_X11_castOff_23 : dk me_X11_castOff 23 (.iconst 0) 1 24 := And.intro (by decide +kernel) rfl
theorem d_X11_castOff_24 : dk me_X11_castOff 24 (.invokestatic 53) 3 27 := And.intro (by decide +kernel) rfl
theorem d_X11_castOff_27 : dk me_X11_castOff 27 (.aload_n 3) 1 28 := And.intro (by decide +kernel) rfl
theorem d_X11_castOff_28 : dk me_X11_castOff 28 (.getfield 153) 3 31 := And.intro (by decide +kernel) rfl
theorem d_X11_castOff_31 : dk me_X11_castOff 31 (.getfield 157) 3 34 := And.intro (by decide +kernel) rfl
theorem d_X11_castOff_34 : dk me_X11_castOff 34 (.ifCond .le 21) 3 37 := And.intro (by decide +kernel) rfl
theorem d_X11_castOff_37 : dk me_X11_castOff 37 (.aload_n 3) 1 38 := And.intro (by decide +kernel) rfl
theorem d_X11_castOff_38 : dk me_X11_castOff 38 (.getfield 160) 3 41 := And.intro (by decide +kernel) rfl
theorem d_X11_castOff_41 : dk me_X11_castOff 41 (.ifCond .ne 14) 3 44 := And.intro (by decide +kernel) rfl
theorem d_X11_castOff_44 : dk me_X11_castOff 44 (.aload_n 3) 1 45 := And.intro (by decide +kernel) rfl
theorem d_X11_castOff_45 : dk me_X11_castOff 45 (.invokevirtual 164) 3 48 := And.intro (by decide +kernel) rfl
theorem d_X11_castOff_48 : dk me_X11_castOff 48 (.ifCond .ne 7) 3 51 := And.intro (by decide +kernel) rfl
theorem d_X11_castOff_51 : dk me_X11_castOff 51 (.iconst 1) 1 52 := And.intro (by decide +kernel) rfl
theorem d_X11_castOff_52 : dk me_X11_castOff 52 (.goto 4) 3 55 := And.intro (by decide +kernel) rfl
theorem d_X11_castOff_55 : dk me_X11_castOff 55 (.iconst 0) 1 56 := And.intro (by decide +kernel) rfl
theorem d_X11_castOff_56 : dk me_X11_castOff 56 (.invokestatic 69) 3 59 := And.intro (by decide +kernel) rfl
theorem d_X11_castOff_59 : dk me_X11_castOff 59 (.aload_n 3) 1 60 := And.intro (by decide +kernel) rfl
theorem d_X11_castOff_60 : dk me_X11_castOff 60 (.iload_n 2) 1 61 := And.intro (by decide +kernel) rfl
theorem d_X11_castOff_61 : dk me_X11_castOff 61 (.invokevirtual 185) 3 64 := And.intro (by decide +kernel) rfl
theorem d_X11_castOff_64 : dk me_X11_castOff 64 (.aload_n 3) 1 65 := And.intro (by decide +kernel) rfl
theorem d_X11_castOff_65 : dk me_X11_castOff 65 (.aload_n 3) 1 66 := And.intro (by decide +kernel) rfl
theorem d_X11_castOff_66 : dk me_X11_castOff 66 (.getfield 177) 3 69 := And.intro (by decide +kernel) rfl
theorem d_X11_castOff_69 : dk me_X11_castOff 69 (.arraylength) 1 70 := And.intro (by decide +kernel) rfl
theorem d_X11_castOff_70 : dk me_X11_castOff 70 (.iconst 1) 1 71 := And.intro (by decide +kernel) rfl
theorem d_X11_castOff_71 : dk me_X11_castOff 71 (.isub) 1 72 := And.intro (by decide +kernel) rfl
theorem d_X11_castOff_72 : dk me_X11_castOff 72 (.invokevirtual 188) 3 75 := And.intro (by decide +kernel) rfl
theorem d_X11_castOff_75 : dk me_X11_castOff 75 (.ireturn) 1 76 := And.intro (by decide +kernel) rfl
theorem ms_X11_castOff {fx : FX} {m : MM} {l0 : Nat} {l1 : Int} {l2 : Int} : MS fx me_X11_castOff [aR (some (11, l0)), aI l1, aI l2] m (f_X11_castOff m l0 l1 l2) := by
  refine ms_of rfl mf_X11_castOff (b8 rfl) ?_
  refine s_top ?_
  show Sim fx me_X11_castOff 0 [(0, aR (some (11, l0))), (1, aI l1), (2, aI l2)] [] m _
  unfold f_X11_castOff
  have hj_X11_castOff_0_56 : ∀ (m_56 : MM) (l2_56 : Int) (l3_56 : Nat) (s0_56 : Int), Sim fx me_X11_castOff 56 [(2, aI l2_56), (3, aR (some (0, l3_56)))] [aI s0_56] m_56 ((j_X11_castOff_0_56 m_56 l2_56 l3_56 s0_56).bind (fun z => some z)) := by
    intro m_56 l2_56 l3_56 s0_56
    unfold j_X11_castOff_0_56
    refine s_cV (r_S d_X11_castOff_56 k_X11_requireState w_363 rfl rfl) ms_X11_requireState (b8 rfl) rfl rfl rfl (fun h => by cases h) (fun _ _ => Or.inr rfl) fun m8 => (s_aload_n d_X11_castOff_59 m1_ (s_iload_n d_X11_castOff_60 m0_ (s_cV (r_V d_X11_castOff_61 k_X0_partByUnits w_865 rfl rfl) ms_X0_partByUnits (b8 rfl) rfl rfl rfl (fun _ _ _ => rfl) (fun _ _ => Or.inl rfl) fun m10 => (s_aload_n d_X11_castOff_64 m1_ (s_aload_n d_X11_castOff_65 m1_ ?_)))))
    refine s_getR cf d_X11_castOff_66 fl_X11_177 (s_nk fun i12 => (s_len d_X11_castOff_69 ka_13 ta_13 (s_iconst d_X11_castOff_70 n_1 (s_isub d_X11_castOff_71 rfl rfl (s_ck ?_)))))
    exact s_pI (r_V d_X11_castOff_72 k_X0_firstWordOfPart w_873 rfl rfl) ms_X0_firstWordOfPart (b8 rfl) rfl rfl rfl fun v13 => (s_iret d_X11_castOff_75 rfl rfl)
  have hj_X11_castOff_0_55 : ∀ (m_55 : MM) (l2_55 : Int) (l3_55 : Nat), Sim fx me_X11_castOff 55 [(2, aI l2_55), (3, aR (some (0, l3_55)))] [] m_55 ((j_X11_castOff_0_55 m_55 l2_55 l3_55).bind (fun z => some z)) := by
    intro m_55 l2_55 l3_55
    unfold j_X11_castOff_0_55
    exact s_iconst d_X11_castOff_55 n_0 (s_sub (subc m0_ (subc m1_ sub0)) (hj_X11_castOff_0_56 m_55 l2_55 l3_55 0))
  have hj_X11_castOff_0_24 : ∀ (m_24 : MM) (l2_24 : Int) (l3_24 : Nat) (s0_24 : Int), Sim fx me_X11_castOff 24 [(2, aI l2_24), (3, aR (some (0, l3_24)))] [aI s0_24] m_24 ((j_X11_castOff_0_24 m_24 l2_24 l3_24 s0_24).bind (fun z => some z)) := by
    intro m_24 l2_24 l3_24 s0_24
    unfold j_X11_castOff_0_24
    refine s_cV (r_S d_X11_castOff_24 k_X11_requireArgument w_284 rfl rfl) ms_X11_requireArgument (b8 rfl) rfl rfl rfl (fun h => by cases h) (fun _ _ => Or.inr rfl) fun m4 => (s_aload_n d_X11_castOff_27 m1_ (s_getR cf d_X11_castOff_28 fl_X11_153 (s_nk fun i6 => (s_getN cf d_X11_castOff_31 fl_X11_157 (s_if_le (tgt := 55) d_X11_castOff_34 rfl ?_ ?_)))))
    · exact s_sub (subc m0_ (subc m1_ sub0)) (hj_X11_castOff_0_55 m4 l2_24 l3_24)
    refine s_aload_n d_X11_castOff_37 m1_ (s_getB cf d_X11_castOff_38 fl_X11_160 (s_if_ne (tgt := 55) d_X11_castOff_41 rfl ?_ ?_))
    · exact s_sub (subc m0_ (subc m1_ sub0)) (hj_X11_castOff_0_55 m4 l2_24 l3_24)
    refine s_aload_n d_X11_castOff_44 m1_ (s_pI (r_V d_X11_castOff_45 k_X0_hasSetPage w_821 rfl rfl) ms_X0_hasSetPage (b8 rfl) rfl rfl rfl fun v7 => (s_if_ne (tgt := 55) d_X11_castOff_48 rfl ?_ ?_))
    · exact s_sub (subc m0_ (subc m1_ sub0)) (hj_X11_castOff_0_55 m4 l2_24 l3_24)
    exact s_iconst d_X11_castOff_51 n_1 (s_goto (tgt := 56) d_X11_castOff_52 rfl (s_sub (subc m0_ (subc m1_ sub0)) (hj_X11_castOff_0_56 m4 l2_24 l3_24 1)))
  have hj_X11_castOff_0_23 : ∀ (m_23 : MM) (l2_23 : Int) (l3_23 : Nat), Sim fx me_X11_castOff 23 [(2, aI l2_23), (3, aR (some (0, l3_23)))] [] m_23 ((j_X11_castOff_0_23 m_23 l2_23 l3_23).bind (fun z => some z)) := by
    intro m_23 l2_23 l3_23
    unfold j_X11_castOff_0_23
    exact s_iconst d_X11_castOff_23 n_0 (s_sub (subc m0_ (subc m1_ sub0)) (hj_X11_castOff_0_24 m_23 l2_23 l3_23 0))
  refine s_aload_n d_X11_castOff_0 m0_ (s_iload_n d_X11_castOff_1 m1_ (s_cR (r_V d_X11_castOff_2 k_X11_bookAt w_814 rfl rfl) ms_X11_bookAt (b8 rfl) rfl rfl rfl (fun h => by cases h) (fun _ _ => Or.inr rfl) fun r2 m1 => (s_nk fun i3 => (s_astore_n (L' := [(3, aR (some (0, i3))), (0, aR (some (11, l0))), (1, aI l1), (2, aI l2)]) d_X11_castOff_5 (b8 rfl) rfl (s_iload_n d_X11_castOff_6 m3_ ?_)))))
  refine s_bipush d_X11_castOff_7 n_50 rfl (s_icmp_lt (tgt := 23) d_X11_castOff_9 rfl ?_ ?_)
  · exact s_sub (subc m3_ (subc m0_ sub0)) (hj_X11_castOff_0_23 m1 l2 i3)
  refine s_iload_n d_X11_castOff_12 m3_ (s_sipush d_X11_castOff_13 n_150 rfl (s_icmp_gt (tgt := 23) d_X11_castOff_16 rfl ?_ ?_))
  · exact s_sub (subc m3_ (subc m0_ sub0)) (hj_X11_castOff_0_23 m1 l2 i3)
  exact s_iconst d_X11_castOff_19 n_1 (s_goto (tgt := 24) d_X11_castOff_20 rfl (s_sub (subc m3_ (subc m0_ sub0)) (hj_X11_castOff_0_24 m1 l2 i3 1)))
theorem d_L_castOff_0 : dk me_L_castOff 0 (.aload_n 3) 1 1 := And.intro (by decide +kernel) rfl
theorem d_L_castOff_1 : dk me_L_castOff 1 (.iconst 0) 1 2 := And.intro (by decide +kernel) rfl
theorem d_L_castOff_2 : dk me_L_castOff 2 (.aload_n 0) 1 3 := And.intro (by decide +kernel) rfl
theorem d_L_castOff_3 : dk me_L_castOff 3 (.iload_n 1) 1 4 := And.intro (by decide +kernel) rfl
theorem d_L_castOff_4 : dk me_L_castOff 4 (.iload_n 2) 1 5 := And.intro (by decide +kernel) rfl
theorem d_L_castOff_5 : dk me_L_castOff 5 (.invokevirtual 51) 3 8 := And.intro (by decide +kernel) rfl
theorem d_L_castOff_8 : dk me_L_castOff 8 (.i2l) 1 9 := And.intro (by decide +kernel) rfl
theorem d_L_castOff_9 : dk me_L_castOff 9 (.lastore) 1 10 := And.intro (by decide +kernel) rfl
theorem d_L_castOff_10 : dk me_L_castOff 10 (.goto 15) 3 13 := And.intro (by decide +kernel) rfl
theorem d_L_castOff_13 : dk me_L_castOff 13 (.astore 4) 2 15 := And.intro (by decide +kernel) rfl
theorem d_L_castOff_15 : dk me_L_castOff 15 (.iconst 1) 1 16 := And.intro (by decide +kernel) rfl
theorem d_L_castOff_16 : dk me_L_castOff 16 (.ireturn) 1 17 := And.intro (by decide +kernel) rfl
theorem d_L_castOff_17 : dk me_L_castOff 17 (.astore 4) 2 19 := And.intro (by decide +kernel) rfl
theorem d_L_castOff_19 : dk me_L_castOff 19 (.iconst 2) 1 20 := And.intro (by decide +kernel) rfl
theorem d_L_castOff_20 : dk me_L_castOff 20 (.ireturn) 1 21 := And.intro (by decide +kernel) rfl
theorem d_L_castOff_21 : dk me_L_castOff 21 (.astore 4) 2 23 := And.intro (by decide +kernel) rfl
theorem d_L_castOff_23 : dk me_L_castOff 23 (.iconst 3) 1 24 := And.intro (by decide +kernel) rfl
theorem d_L_castOff_24 : dk me_L_castOff 24 (.ireturn) 1 25 := And.intro (by decide +kernel) rfl
theorem d_L_castOff_25 : dk me_L_castOff 25 (.iconst 0) 1 26 := And.intro (by decide +kernel) rfl
theorem d_L_castOff_26 : dk me_L_castOff 26 (.ireturn) 1 27 := And.intro (by decide +kernel) rfl
theorem ms_L_castOff {fx : FX} {m : MM} {l0 : Nat} {l1 : Int} {l2 : Int} {l3 : Nat} : MS fx me_L_castOff [aR (some (11, l0)), aI l1, aI l2, aR (some (131, l3))] m (f_L_castOff m l0 l1 l2 l3) := by
  refine ms_ofH rfl mf_L_castOff (b8 rfl) ?_
  refine s_top ?_
  show Sim fx me_L_castOff 0 [(0, aR (some (11, l0))), (1, aI l1), (2, aI l2), (3, aR (some (131, l3)))] [] m _
  unfold f_L_castOff
  refine s_aload_n d_L_castOff_0 m3_ (s_iconst d_L_castOff_1 n_0 (s_aload_n d_L_castOff_2 m0_ (s_iload_n d_L_castOff_3 m1_ (s_iload_n d_L_castOff_4 m2_ (s_cIC (r_V d_L_castOff_5 k_X11_castOff w_861 rfl rfl) ms_X11_castOff (b8 rfl) rfl rfl ?_ ?_ ?_ fun v2 m1 => ?_)))))
  · refine fun mx => Or.inr ⟨13, ⟨rfl, by decide, 0, wx_29_0, Or.inl ⟨rfl, rfl⟩⟩, fun qx => ?_⟩
    exact s_astoreV (L' := [(4, aV (.ref qx)), (0, aR (some (11, l0))), (1, aI l1), (2, aI l2), (3, aR (some (131, l3)))]) d_L_castOff_13 (b8 rfl) rfl (s_iconst d_L_castOff_15 n_1 (s_iret d_L_castOff_16 rfl rfl))
  · refine fun mx => Or.inr ⟨17, ⟨rfl, by decide, 0, wx_29_0, Or.inr ⟨by decide, ⟨rfl, by decide, 1, wx_13_1, Or.inl ⟨rfl, rfl⟩⟩⟩⟩, fun qx => ?_⟩
    exact s_astoreV (L' := [(4, aV (.ref qx)), (0, aR (some (11, l0))), (1, aI l1), (2, aI l2), (3, aR (some (131, l3)))]) d_L_castOff_17 (b8 rfl) rfl (s_iconst d_L_castOff_19 n_2 (s_iret d_L_castOff_20 rfl rfl))
  · refine fun mx => Or.inr ⟨21, ⟨rfl, by decide, 0, wx_29_0, Or.inr ⟨by decide, ⟨rfl, by decide, 1, wx_13_1, Or.inr ⟨by decide, ⟨rfl, by decide, 2, wx_15_2, Or.inl ⟨rfl, rfl⟩⟩⟩⟩⟩⟩, fun qx => ?_⟩
    exact s_astoreV (L' := [(4, aV (.ref qx)), (0, aR (some (11, l0))), (1, aI l1), (2, aI l2), (3, aR (some (131, l3)))]) d_L_castOff_21 (b8 rfl) rfl (s_iconst d_L_castOff_23 n_3 (s_iret d_L_castOff_24 rfl rfl))
  exact s_i2l d_L_castOff_8 (s_stL d_L_castOff_9 ka_131 rfl fun m3 => (s_goto (tgt := 25) d_L_castOff_10 rfl (s_iconst d_L_castOff_25 n_0 (s_iret d_L_castOff_26 rfl rfl))))
theorem d_X0_hasPage_0 : dk me_X0_hasPage 0 (.iload_n 1) 1 1 := And.intro (by decide +kernel) rfl
theorem d_X0_hasPage_1 : dk me_X0_hasPage 1 (.ifCond .lt 16) 3 4 := And.intro (by decide +kernel) rfl
theorem d_X0_hasPage_4 : dk me_X0_hasPage 4 (.iload_n 1) 1 5 := And.intro (by decide +kernel) rfl
theorem d_X0_hasPage_5 : dk me_X0_hasPage 5 (.aload_n 0) 1 6 := And.intro (by decide +kernel) rfl
theorem d_X0_hasPage_6 : dk me_X0_hasPage 6 (.getfield 33) 3 9 := And.intro (by decide +kernel) rfl
theorem d_X0_hasPage_9 : dk me_X0_hasPage 9 (.arraylength) 1 10 := And.intro (by decide +kernel) rfl
theorem d_X0_hasPage_10 : dk me_X0_hasPage 10 (.if_icmp .ge 7) 3 13 := And.intro (by decide +kernel) rfl
theorem d_X0_hasPage_13 : dk me_X0_hasPage 13 (.iconst 1) 1 14 := And.intro (by decide +kernel) rfl
theorem d_X0_hasPage_14 : dk me_X0_hasPage 14 (.goto 4) 3 17 := And.intro (by decide +kernel) rfl
theorem d_X0_hasPage_17 : dk me_X0_hasPage 17 (.iconst 0) 1 18 := And.intro (by decide +kernel) rfl
theorem d_X0_hasPage_18 : dk me_X0_hasPage 18 (.ireturn) 1 19 := And.intro (by decide +kernel) rfl
theorem ms_X0_hasPage {fx : FX} {m : MM} {l0 : Nat} {l1 : Int} : MS fx me_X0_hasPage [aR (some (0, l0)), aI l1] m ((f_X0_hasPage m l0 l1).bind fun v => some (.inl (some (aI v)), m)) := by
  refine ms_of rfl mf_X0_hasPage (b8 rfl) ?_
  show Sim fx me_X0_hasPage 0 [(0, aR (some (0, l0))), (1, aI l1)] [] m _
  unfold f_X0_hasPage
  refine s_iload_n d_X0_hasPage_0 m1_ (s_if_lt (tgt := 17) d_X0_hasPage_1 rfl ?_ ?_)
  · exact s_iconst d_X0_hasPage_17 n_0 (s_zretl d_X0_hasPage_18 rfl (by decide) rfl)
  refine s_iload_n d_X0_hasPage_4 m1_ (s_aload_n d_X0_hasPage_5 m0_ (s_getR cf d_X0_hasPage_6 fl_X0_33 (s_nk fun i1 => (s_len d_X0_hasPage_9 ka_13 ta_13 (s_icmp_ge (tgt := 17) d_X0_hasPage_10 rfl ?_ ?_)))))
  · exact s_iconst d_X0_hasPage_17 n_0 (s_zretl d_X0_hasPage_18 rfl (by decide) rfl)
  exact s_iconst d_X0_hasPage_13 n_1 (s_goto (tgt := 18) d_X0_hasPage_14 rfl (s_zretl d_X0_hasPage_18 rfl (by decide) rfl))
theorem d_X4_signOf_0 : dk me_X4_signOf 0 (.iload_n 0) 1 1 := And.intro (by decide +kernel) rfl
theorem d_X4_signOf_1 : dk me_X4_signOf 1 (.iconst (-1)) 1 2 := And.intro (by decide +kernel) rfl
theorem d_X4_signOf_2 : dk me_X4_signOf 2 (.if_icmp .ne 6) 3 5 := And.intro (by decide +kernel) rfl
theorem d_X4_signOf_5 : dk me_X4_signOf 5 (.bipush 46) 2 7 := And.intro (by decide +kernel) rfl
theorem d_X4_signOf_7 : dk me_X4_signOf 7 (.ireturn) 1 8 := And.intro (by decide +kernel) rfl
theorem d_X4_signOf_8 : dk me_X4_signOf 8 (.iload_n 0) 1 9 := And.intro (by decide +kernel) rfl
theorem d_X4_signOf_9 : dk me_X4_signOf 9 (.bipush 26) 2 11 := And.intro (by decide +kernel) rfl
theorem d_X4_signOf_11 : dk me_X4_signOf 11 (.if_icmp .ge 8) 3 14 := And.intro (by decide +kernel) rfl
theorem d_X4_signOf_14 : dk me_X4_signOf 14 (.bipush 97) 2 16 := And.intro (by decide +kernel) rfl
theorem d_X4_signOf_16 : dk me_X4_signOf 16 (.iload_n 0) 1 17 := And.intro (by decide +kernel) rfl
theorem d_X4_signOf_17 : dk me_X4_signOf 17 (.iadd) 1 18 := And.intro (by decide +kernel) rfl
theorem d_X4_signOf_18 : dk me_X4_signOf 18 (.ireturn) 1 19 := And.intro (by decide +kernel) rfl
theorem d_X4_signOf_19 : dk me_X4_signOf 19 (.iload_n 1) 1 20 := And.intro (by decide +kernel) rfl
theorem d_X4_signOf_20 : dk me_X4_signOf 20 (.ifCond .ne 8) 3 23 := And.intro (by decide +kernel) rfl
theorem d_X4_signOf_23 : dk me_X4_signOf 23 (.bipush 102) 2 25 := And.intro (by decide +kernel) rfl
theorem d_X4_signOf_25 : dk me_X4_signOf 25 (.goto 16) 3 28 := And.intro (by decide +kernel) rfl
theorem d_X4_signOf_28 : dk me_X4_signOf 28 (.iload_n 0) 1 29 := And.intro (by decide +kernel) rfl
theorem d_X4_signOf_29 : dk me_X4_signOf 29 (.bipush 26) 2 31 := And.intro (by decide +kernel) rfl
theorem d_X4_signOf_31 : dk me_X4_signOf 31 (.if_icmp .ne 8) 3 34 := And.intro (by decide +kernel) rfl
theorem d_X4_signOf_34 : dk me_X4_signOf 34 (.bipush 105) 2 36 := And.intro (by decide +kernel) rfl
theorem d_X4_signOf_36 : dk me_X4_signOf 36 (.goto 5) 3 39 := And.intro (by decide +kernel) rfl
theorem d_X4_signOf_39 : dk me_X4_signOf 39 (.bipush 108) 2 41 := And.intro (by decide +kernel) rfl
theorem d_X4_signOf_41 : dk me_X4_signOf 41 (.ireturn) 1 42 := And.intro (by decide +kernel) rfl
theorem ms_X4_signOf {fx : FX} {m : MM} {l0 : Int} {l1 : Int} : MS fx me_X4_signOf [aI l0, aI l1] m ((f_X4_signOf m l0 l1).bind fun v => some (.inl (some (aI v)), m)) := by
  refine ms_of rfl mf_X4_signOf (b8 rfl) ?_
  show Sim fx me_X4_signOf 0 [(0, aI l0), (1, aI l1)] [] m _
  unfold f_X4_signOf
  refine s_iload_n d_X4_signOf_0 m0_ (s_iconst d_X4_signOf_1 n_m1 (s_icmp_ne (tgt := 8) d_X4_signOf_2 rfl ?_ ?_))
  · refine s_iload_n d_X4_signOf_8 m0_ (s_bipush d_X4_signOf_9 n_26 rfl (s_icmp_ge (tgt := 19) d_X4_signOf_11 rfl ?_ ?_))
    · refine s_iload_n d_X4_signOf_19 m1_ (s_if_ne (tgt := 28) d_X4_signOf_20 rfl ?_ ?_)
      · refine s_iload_n d_X4_signOf_28 m0_ (s_bipush d_X4_signOf_29 n_26 rfl (s_icmp_ne (tgt := 39) d_X4_signOf_31 rfl ?_ ?_))
        · exact s_bipush d_X4_signOf_39 n_108 rfl (s_iret d_X4_signOf_41 rfl rfl)
        exact s_bipush d_X4_signOf_34 n_105 rfl (s_goto (tgt := 41) d_X4_signOf_36 rfl (s_iret d_X4_signOf_41 rfl rfl))
      exact s_bipush d_X4_signOf_23 n_102 rfl (s_goto (tgt := 41) d_X4_signOf_25 rfl (s_iret d_X4_signOf_41 rfl rfl))
    exact s_bipush d_X4_signOf_14 n_97 rfl (s_iload_n d_X4_signOf_16 m0_ (s_iadd d_X4_signOf_17 rfl rfl (s_ck (s_iret d_X4_signOf_18 rfl rfl))))
  exact s_bipush d_X4_signOf_5 n_46 rfl (s_iret d_X4_signOf_7 rfl rfl)
theorem d_X4_wordBehindLine_0 : dk me_X4_wordBehindLine 0 (.iload_n 1) 1 1 := And.intro (by decide +kernel) rfl
theorem d_X4_wordBehindLine_1 : dk me_X4_wordBehindLine 1 (.iconst 1) 1 2 := And.intro (by decide +kernel) rfl
theorem d_X4_wordBehindLine_2 : dk me_X4_wordBehindLine 2 (.iadd) 1 3 := And.intro (by decide +kernel) rfl
theorem d_X4_wordBehindLine_3 : dk me_X4_wordBehindLine 3 (.aload_n 0) 1 4 := And.intro (by decide +kernel) rfl
theorem d_X4_wordBehindLine_4 : dk me_X4_wordBehindLine 4 (.getfield 70) 3 7 := And.intro (by decide +kernel) rfl
theorem d_X4_wordBehindLine_7 : dk me_X4_wordBehindLine 7 (.if_icmp .ge 14) 3 10 := And.intro (by decide +kernel) rfl
theorem d_X4_wordBehindLine_10 : dk me_X4_wordBehindLine 10 (.aload_n 0) 1 11 := And.intro (by decide +kernel) rfl
theorem d_X4_wordBehindLine_11 : dk me_X4_wordBehindLine 11 (.getfield 32) 3 14 := And.intro (by decide +kernel) rfl
theorem d_X4_wordBehindLine_14 : dk me_X4_wordBehindLine 14 (.iload_n 1) 1 15 := And.intro (by decide +kernel) rfl
theorem d_X4_wordBehindLine_15 : dk me_X4_wordBehindLine 15 (.iconst 1) 1 16 := And.intro (by decide +kernel) rfl
theorem d_X4_wordBehindLine_16 : dk me_X4_wordBehindLine 16 (.iadd) 1 17 := And.intro (by decide +kernel) rfl
theorem d_X4_wordBehindLine_17 : dk me_X4_wordBehindLine 17 (.iaload) 1 18 := And.intro (by decide +kernel) rfl
theorem d_X4_wordBehindLine_18 : dk me_X4_wordBehindLine 18 (.goto 7) 3 21 := And.intro (by decide +kernel) rfl
theorem d_X4_wordBehindLine_21 : dk me_X4_wordBehindLine 21 (.aload_n 0) 1 22 := And.intro (by decide +kernel) rfl
theorem d_X4_wordBehindLine_22 : dk me_X4_wordBehindLine 22 (.getfield 54) 3 25 := And.intro (by decide +kernel) rfl
theorem d_X4_wordBehindLine_25 : dk me_X4_wordBehindLine 25 (.ireturn) 1 26 := And.intro (by decide +kernel) rfl
theorem ms_X4_wordBehindLine {fx : FX} {m : MM} {l0 : Nat} {l1 : Int} : MS fx me_X4_wordBehindLine [aR (some (4, l0)), aI l1] m ((f_X4_wordBehindLine m l0 l1).bind fun v => some (.inl (some (aI v)), m)) := by
  refine ms_of rfl mf_X4_wordBehindLine (b8 rfl) ?_
  show Sim fx me_X4_wordBehindLine 0 [(0, aR (some (4, l0))), (1, aI l1)] [] m _
  unfold f_X4_wordBehindLine
  refine s_iload_n d_X4_wordBehindLine_0 m1_ (s_iconst d_X4_wordBehindLine_1 n_1 (s_iadd d_X4_wordBehindLine_2 rfl rfl (s_aload_n d_X4_wordBehindLine_3 m0_ (s_getN cf d_X4_wordBehindLine_4 fl_X4_70 (s_ck1 ?_)))))
  refine s_icmp_ge (tgt := 21) d_X4_wordBehindLine_7 rfl ?_ ?_
  · exact s_aload_n d_X4_wordBehindLine_21 m0_ (s_getN cf d_X4_wordBehindLine_22 fl_X4_54 (s_iret d_X4_wordBehindLine_25 rfl rfl))
  refine s_aload_n d_X4_wordBehindLine_10 m0_ (s_getR cf d_X4_wordBehindLine_11 fl_X4_32 (s_nk fun i1 => (s_iload_n d_X4_wordBehindLine_14 m1_ (s_iconst d_X4_wordBehindLine_15 n_1 (s_iadd d_X4_wordBehindLine_16 rfl rfl ?_)))))
  exact s_ldN d_X4_wordBehindLine_17 ka_31 rfl fun v2 => (s_goto (tgt := 25) d_X4_wordBehindLine_18 rfl (s_iret d_X4_wordBehindLine_25 rfl rfl))
theorem d_X5_printed_0 : dk me_X5_printed 0 (.iload_n 2) 1 1 := And.intro (by decide +kernel) rfl
theorem d_X5_printed_1 : dk me_X5_printed 1 (.ifCond .lt 23) 3 4 := And.intro (by decide +kernel) rfl
theorem d_X5_printed_4 : dk me_X5_printed 4 (.iload_n 2) 1 5 := And.intro (by decide +kernel) rfl
theorem d_X5_printed_5 : dk me_X5_printed 5 (.aload_n 0) 1 6 := And.intro (by decide +kernel) rfl
theorem d_X5_printed_6 : dk me_X5_printed 6 (.getfield 24) 3 9 := And.intro (by decide +kernel) rfl
theorem d_X5_printed_9 : dk me_X5_printed 9 (.arraylength) 1 10 := And.intro (by decide +kernel) rfl
theorem d_X5_printed_10 : dk me_X5_printed 10 (.if_icmp .ge 14) 3 13 := And.intro (by decide +kernel) rfl
theorem d_X5_printed_13 : dk me_X5_printed 13 (.aload_n 0) 1 14 := And.intro (by decide +kernel) rfl
theorem d_X5_printed_14 : dk me_X5_printed 14 (.getfield 24) 3 17 := And.intro (by decide +kernel) rfl
theorem d_X5_printed_17 : dk me_X5_printed 17 (.iload_n 2) 1 18 := And.intro (by decide +kernel) rfl
theorem d_X5_printed_18 : dk me_X5_printed 18 (.aaload) 1 19 := And.intro (by decide +kernel) rfl
theorem d_X5_printed_19 : dk me_X5_printed 19 (.iload_n 1) 1 20 := And.intro (by decide +kernel) rfl
theorem d_X5_printed_20 : dk me_X5_printed 20 (.iaload) 1 21 := And.intro (by decide +kernel) rfl
theorem d_X5_printed_21 : dk me_X5_printed 21 (.goto 9) 3 24 := And.intro (by decide +kernel) rfl
theorem d_X5_printed_24 : dk me_X5_printed 24 (.aload_n 0) 1 25 := And.intro (by decide +kernel) rfl
theorem d_X5_printed_25 : dk me_X5_printed 25 (.getfield 9) 3 28 := And.intro (by decide +kernel) rfl
theorem d_X5_printed_28 : dk me_X5_printed 28 (.iload_n 1) 1 29 := And.intro (by decide +kernel) rfl
theorem d_X5_printed_29 : dk me_X5_printed 29 (.iaload) 1 30 := And.intro (by decide +kernel) rfl
theorem d_X5_printed_30 : dk me_X5_printed 30 (.ireturn) 1 31 := And.intro (by decide +kernel) rfl
theorem ms_X5_printed {fx : FX} {m : MM} {l0 : Nat} {l1 : Int} {l2 : Int} : MS fx me_X5_printed [aR (some (5, l0)), aI l1, aI l2] m ((f_X5_printed m l0 l1 l2).bind fun v => some (.inl (some (aI v)), m)) := by
  refine ms_of rfl mf_X5_printed (b8 rfl) ?_
  show Sim fx me_X5_printed 0 [(0, aR (some (5, l0))), (1, aI l1), (2, aI l2)] [] m _
  unfold f_X5_printed
  have hj_X5_printed_0_24 : ∀ (l0_24 : Nat) (l1_24 : Int), Sim fx me_X5_printed 24 [(0, aR (some (5, l0_24))), (1, aI l1_24)] [] m ((j_X5_printed_0_24 m l0_24 l1_24).bind (fun v => some (.inl (some (aI v)), m))) := by
    intro l0_24 l1_24
    unfold j_X5_printed_0_24
    exact s_aload_n d_X5_printed_24 m0_ (s_getR cf d_X5_printed_25 fl_X5_9 (s_nk fun i6 => (s_iload_n d_X5_printed_28 m1_ (s_ldN d_X5_printed_29 ka_34 rfl fun v7 => (s_iret d_X5_printed_30 rfl rfl)))))
  refine s_iload_n d_X5_printed_0 m2_ (s_if_lt (tgt := 24) d_X5_printed_1 rfl ?_ ?_)
  · exact s_sub (subc m0_ (subc m1_ sub0)) (hj_X5_printed_0_24 l0 l1)
  refine s_iload_n d_X5_printed_4 m2_ (s_aload_n d_X5_printed_5 m0_ (s_getR cf d_X5_printed_6 fl_X5_24 (s_nk fun i1 => (s_len d_X5_printed_9 ka_37 ta_37 (s_icmp_ge (tgt := 24) d_X5_printed_10 rfl ?_ ?_)))))
  · exact s_sub (subc m0_ (subc m1_ sub0)) (hj_X5_printed_0_24 l0 l1)
  refine s_aload_n d_X5_printed_13 m0_ (s_getR cf d_X5_printed_14 fl_X5_24 (s_nk fun i2 => (s_iload_n d_X5_printed_17 m2_ (s_ldR d_X5_printed_18 ka_37 ta_37 rfl rfl fun r3 => (s_nk fun i4 => ?_)))))
  exact s_iload_n d_X5_printed_19 m1_ (s_ldN d_X5_printed_20 ka_38 rfl fun v5 => (s_goto (tgt := 30) d_X5_printed_21 rfl (s_iret d_X5_printed_30 rfl rfl)))
theorem d_X4_printedSign_0 : dk me_X4_printedSign 0 (.iload_n 1) 1 1 := And.intro (by decide +kernel) rfl
theorem d_X4_printedSign_1 : dk me_X4_printedSign 1 (.aload_n 0) 1 2 := And.intro (by decide +kernel) rfl
theorem d_X4_printedSign_2 : dk me_X4_printedSign 2 (.getfield 70) 3 5 := And.intro (by decide +kernel) rfl
theorem d_X4_printedSign_5 : dk me_X4_printedSign 5 (.if_icmp .lt 5) 3 8 := And.intro (by decide +kernel) rfl
theorem d_X4_printedSign_8 : dk me_X4_printedSign 8 (.iconst (-1)) 1 9 := And.intro (by decide +kernel) rfl
theorem d_X4_printedSign_9 : dk me_X4_printedSign 9 (.ireturn) 1 10 := And.intro (by decide +kernel) rfl
theorem d_X4_printedSign_10 : dk me_X4_printedSign 10 (.iload_n 2) 1 11 := And.intro (by decide +kernel) rfl
theorem d_X4_printedSign_11 : dk me_X4_printedSign 11 (.istore 4) 2 13 := And.intro (by decide +kernel) rfl
theorem d_X4_printedSign_13 : dk me_X4_printedSign 13 (.aload_n 0) 1 14 := And.intro (by decide +kernel) rfl
theorem d_X4_printedSign_14 : dk me_X4_printedSign 14 (.iload_n 1) 1 15 := And.intro (by decide +kernel) rfl
theorem d_X4_printedSign_15 : dk me_X4_printedSign 15 (.invokevirtual 73) 3 18 := And.intro (by decide +kernel) rfl
theorem d_X4_printedSign_18 : dk me_X4_printedSign 18 (.istore 5) 2 20 := And.intro (by decide +kernel) rfl
theorem d_X4_printedSign_20 : dk me_X4_printedSign 20 (.aload_n 0) 1 21 := And.intro (by decide +kernel) rfl
theorem d_X4_printedSign_21 : dk me_X4_printedSign 21 (.getfield 32) 3 24 := And.intro (by decide +kernel) rfl
theorem d_X4_printedSign_24 : dk me_X4_printedSign 24 (.iload_n 1) 1 25 := And.intro (by decide +kernel) rfl
theorem d_X4_printedSign_25 : dk me_X4_printedSign 25 (.iaload) 1 26 := And.intro (by decide +kernel) rfl
theorem d_X4_printedSign_26 : dk me_X4_printedSign 26 (.istore 6) 2 28 := And.intro (by decide +kernel) rfl
theorem d_X4_printedSign_28 : dk me_X4_printedSign 28 (.iload 6) 2 30 := And.intro (by decide +kernel) rfl
theorem d_X4_printedSign_30 : dk me_X4_printedSign 30 (.iload 5) 2 32 := And.intro (by decide +kernel) rfl
theorem d_X4_printedSign_32 : dk me_X4_printedSign 32 (.if_icmp .ge 125) 3 35 := And.intro (by decide +kernel) rfl
theorem d_X4_printedSign_35 : dk me_X4_printedSign 35 (.aload_n 0) 1 36 := And.intro (by decide +kernel) rfl
theorem d_X4_printedSign_36 : dk me_X4_printedSign 36 (.getfield 22) 3 39 := And.intro (by decide +kernel) rfl
theorem d_X4_printedSign_39 : dk me_X4_printedSign 39 (.iload 6) 2 41 := And.intro (by decide +kernel) rfl
theorem d_X4_printedSign_41 : dk me_X4_printedSign 41 (.iaload) 1 42 := And.intro (by decide +kernel) rfl
theorem d_X4_printedSign_42 : dk me_X4_printedSign 42 (.istore 7) 2 44 := And.intro (by decide +kernel) rfl
theorem d_X4_printedSign_44 : dk me_X4_printedSign 44 (.iload 7) 2 46 := And.intro (by decide +kernel) rfl
theorem d_X4_printedSign_46 : dk me_X4_printedSign 46 (.aload_n 0) 1 47 := And.intro (by decide +kernel) rfl
theorem d_X4_printedSign_47 : dk me_X4_printedSign 47 (.getfield 22) 3 50 := And.intro (by decide +kernel) rfl
theorem d_X4_printedSign_50 : dk me_X4_printedSign 50 (.iload 6) 2 52 := And.intro (by decide +kernel) rfl
theorem d_X4_printedSign_52 : dk me_X4_printedSign 52 (.iconst 1) 1 53 := And.intro (by decide +kernel) rfl
theorem d_X4_printedSign_53 : dk me_X4_printedSign 53 (.iadd) 1 54 := And.intro (by decide +kernel) rfl
theorem d_X4_printedSign_54 : dk me_X4_printedSign 54 (.iaload) 1 55 := And.intro (by decide +kernel) rfl
theorem d_X4_printedSign_55 : dk me_X4_printedSign 55 (.if_icmp .ge 57) 3 58 := And.intro (by decide +kernel) rfl
theorem d_X4_printedSign_58 : dk me_X4_printedSign 58 (.aload_n 0) 1 59 := And.intro (by decide +kernel) rfl
theorem d_X4_printedSign_59 : dk me_X4_printedSign 59 (.getfield 46) 3 62 := And.intro (by decide +kernel) rfl
theorem d_X4_printedSign_62 : dk me_X4_printedSign 62 (.iload 7) 2 64 := And.intro (by decide +kernel) rfl
theorem d_X4_printedSign_64 : dk me_X4_printedSign 64 (.iload_n 3) 1 65 := And.intro (by decide +kernel) rfl
theorem d_X4_printedSign_65 : dk me_X4_printedSign 65 (.invokevirtual 171) 3 68 := And.intro (by decide +kernel) rfl
theorem d_X4_printedSign_68 : dk me_X4_printedSign 68 (.istore 8) 2 70 := And.intro (by decide +kernel) rfl
theorem d_X4_printedSign_70 : dk me_X4_printedSign 70 (.iload 8) 2 72 := And.intro (by decide +kernel) rfl
theorem d_X4_printedSign_72 : dk me_X4_printedSign 72 (.bipush 26) 2 74 := And.intro (by decide +kernel) rfl
theorem d_X4_printedSign_74 : dk me_X4_printedSign 74 (.if_icmp .lt 7) 3 77 := And.intro (by decide +kernel) rfl
theorem d_X4_printedSign_77 : dk me_X4_printedSign 77 (.iconst 2) 1 78 := And.intro (by decide +kernel) rfl
theorem d_X4_printedSign_78 : dk me_X4_printedSign 78 (.goto 4) 3 81 := And.intro (by decide +kernel) rfl
theorem d_X4_printedSign_81 : dk me_X4_printedSign 81 (.iconst 1) 1 82 := And.intro (by decide +kernel) rfl
theorem d_X4_printedSign_82 : dk me_X4_printedSign 82 (.istore 9) 2 84 := And.intro (by decide +kernel) rfl
theorem d_X4_printedSign_84 : dk me_X4_printedSign 84 (.iload 4) 2 86 := And.intro (by decide +kernel) rfl
theorem d_X4_printedSign_86 : dk me_X4_printedSign 86 (.iload 9) 2 88 := And.intro (by decide +kernel) rfl
theorem d_X4_printedSign_88 : dk me_X4_printedSign 88 (.if_icmp .ge 11) 3 91 := And.intro (by decide +kernel) rfl
theorem d_X4_printedSign_91 : dk me_X4_printedSign 91 (.iload 8) 2 93 := And.intro (by decide +kernel) rfl
theorem d_X4_printedSign_93 : dk me_X4_printedSign 93 (.iload 4) 2 95 := And.intro (by decide +kernel) rfl
theorem d_X4_printedSign_95 : dk me_X4_printedSign 95 (.invokestatic 174) 3 98 := And.intro (by decide +kernel) rfl
theorem d_X4_printedSign_98 : dk me_X4_printedSign 98 (.ireturn) 1 99 := And.intro (by decide +kernel) rfl
theorem d_X4_printedSign_99 : dk me_X4_printedSign 99 (.iload 4) 2 101 := And.intro (by decide +kernel) rfl
theorem d_X4_printedSign_101 : dk me_X4_printedSign 101 (.iload 9) 2 103 := And.intro (by decide +kernel) rfl
theorem d_X4_printedSign_103 : dk me_X4_printedSign 103 (.isub) 1 104 := And.intro (by decide +kernel) rfl
theorem d_X4_printedSign_104 : dk me_X4_printedSign 104 (.istore 4) 2 106 := And.intro (by decide +kernel) rfl
theorem d_X4_printedSign_106 : dk me_X4_printedSign 106 (.iinc 7 1) 3 109 := And.intro (by decide +kernel) rfl
theorem d_X4_printedSign_109 : dk me_X4_printedSign 109 (.goto (-65)) 3 112 := And.intro (by decide +kernel) rfl
theorem d_X4_printedSign_112 : dk me_X4_printedSign 112 (.iload 6) 2 114 := And.intro (by decide +kernel) rfl
theorem d_X4_printedSign_114 : dk me_X4_printedSign 114 (.iconst 1) 1 115 := And.intro (by decide +kernel) rfl
theorem d_X4_printedSign_115 : dk me_X4_printedSign 115 (.iadd) 1 116 := And.intro (by decide +kernel) rfl
theorem d_X4_printedSign_116 : dk me_X4_printedSign 116 (.iload 5) 2 118 := And.intro (by decide +kernel) rfl
theorem d_X4_printedSign_118 : dk me_X4_printedSign 118 (.if_icmp .ge 13) 3 121 := And.intro (by decide +kernel) rfl
theorem d_X4_printedSign_121 : dk me_X4_printedSign 121 (.aload_n 0) 1 122 := And.intro (by decide +kernel) rfl
theorem d_X4_printedSign_122 : dk me_X4_printedSign 122 (.getfield 19) 3 125 := And.intro (by decide +kernel) rfl
theorem d_X4_printedSign_125 : dk me_X4_printedSign 125 (.iload 6) 2 127 := And.intro (by decide +kernel) rfl
theorem d_X4_printedSign_127 : dk me_X4_printedSign 127 (.iaload) 1 128 := And.intro (by decide +kernel) rfl
theorem d_X4_printedSign_128 : dk me_X4_printedSign 128 (.goto 4) 3 131 := And.intro (by decide +kernel) rfl
theorem d_X4_printedSign_131 : dk me_X4_printedSign 131 (.iconst 0) 1 132 := And.intro (by decide +kernel) rfl
theorem d_X4_printedSign_132 : dk me_X4_printedSign 132 (.istore 7) 2 134 := And.intro (by decide +kernel) rfl
theorem d_X4_printedSign_134 : dk me_X4_printedSign 134 (.iload 4) 2 136 := And.intro (by decide +kernel) rfl
theorem d_X4_printedSign_136 : dk me_X4_printedSign 136 (.iload 7) 2 138 := And.intro (by decide +kernel) rfl
theorem d_X4_printedSign_138 : dk me_X4_printedSign 138 (.if_icmp .ge 6) 3 141 := And.intro (by decide +kernel) rfl
theorem d_X4_printedSign_141 : dk me_X4_printedSign 141 (.bipush 32) 2 143 := And.intro (by decide +kernel) rfl
theorem d_X4_printedSign_143 : dk me_X4_printedSign 143 (.ireturn) 1 144 := And.intro (by decide +kernel) rfl
theorem d_X4_printedSign_144 : dk me_X4_printedSign 144 (.iload 4) 2 146 := And.intro (by decide +kernel) rfl
theorem d_X4_printedSign_146 : dk me_X4_printedSign 146 (.iload 7) 2 148 := And.intro (by decide +kernel) rfl
theorem d_X4_printedSign_148 : dk me_X4_printedSign 148 (.isub) 1 149 := And.intro (by decide +kernel) rfl
theorem d_X4_printedSign_149 : dk me_X4_printedSign 149 (.istore 4) 2 151 := And.intro (by decide +kernel) rfl
theorem d_X4_printedSign_151 : dk me_X4_printedSign 151 (.iinc 6 1) 3 154 := And.intro (by decide +kernel) rfl
theorem d_X4_printedSign_154 : dk me_X4_printedSign 154 (.goto (-126)) 3 157 := And.intro (by decide +kernel) rfl
theorem d_X4_printedSign_157 : dk me_X4_printedSign 157 (.iconst (-1)) 1 158 := And.intro (by decide +kernel) rfl
theorem d_X4_printedSign_158 : dk me_X4_printedSign 158 (.ireturn) 1 159 := And.intro (by decide +kernel) rfl
theorem ms_X4_printedSign {fx : FX} {m : MM} {l0 : Nat} {l1 : Int} {l2 : Int} {l3 : Int} : MS fx me_X4_printedSign [aR (some (4, l0)), aI l1, aI l2, aI l3] m ((f_X4_printedSign m l0 l1 l2 l3).bind fun v => some (.inl (some (aI v)), m)) := by
  refine ms_of rfl mf_X4_printedSign (b8 rfl) ?_
  show Sim fx me_X4_printedSign 0 [(0, aR (some (4, l0))), (1, aI l1), (2, aI l2), (3, aI l3)] [] m _
  unfold f_X4_printedSign
  have hj_X4_printedSign_0_157 : Sim fx me_X4_printedSign 157 [] [] m ((j_X4_printedSign_0_157 m).bind (fun v => some (.inl (some (aI v)), m))) := by
    unfold j_X4_printedSign_0_157
    exact s_iconst d_X4_printedSign_157 n_m1 (s_iret d_X4_printedSign_158 rfl rfl)
  refine s_iload_n d_X4_printedSign_0 m1_ (s_aload_n d_X4_printedSign_1 m0_ (s_getN cf d_X4_printedSign_2 fl_X4_70 (s_icmp_lt (tgt := 10) d_X4_printedSign_5 rfl ?_ ?_)))
  · refine s_iload_n d_X4_printedSign_10 m2_ (s_istore (L' := [(4, aI l2), (0, aR (some (4, l0))), (1, aI l1), (2, aI l2), (3, aI l3)]) d_X4_printedSign_11 (b8 rfl) rfl (s_aload_n d_X4_printedSign_13 m1_ (s_iload_n d_X4_printedSign_14 m2_ (s_pI (r_V d_X4_printedSign_15 k_X4_wordBehindLine w_944 rfl rfl) ms_X4_wordBehindLine (b8 rfl) rfl rfl rfl fun v1 => (s_istore (L' := [(5, aI v1), (4, aI l2), (0, aR (some (4, l0))), (1, aI l1), (2, aI l2), (3, aI l3)]) d_X4_printedSign_18 (b8 rfl) rfl ?_)))))
    refine s_aload_n d_X4_printedSign_20 m2_ (s_getR cf d_X4_printedSign_21 fl_X4_32 (s_nk fun i2 => (s_iload_n d_X4_printedSign_24 m3_ (s_ldN d_X4_printedSign_25 ka_31 rfl fun v3 => (s_istore (L' := [(6, aI v3), (5, aI v1), (4, aI l2), (0, aR (some (4, l0))), (1, aI l1), (2, aI l2), (3, aI l3)]) d_X4_printedSign_26 (b8 rfl) rfl ?_)))))
    refine s_sub (subc m2_ (subc m0_ (subc m3_ (subc m6_ (subc m1_ sub0))))) (s_lp2 (fun s => [(4, aI (s.1)), (6, aI (s.2)), (0, aR (some (4, l0))), (3, aI l3), (5, aI v1)]) (fun s => m) (l2, v3) fun k28 hx28 s ih0 => ?_)
    obtain ⟨l4_28, l6_28⟩ := s
    have ih28 := ih0
    clear ih0
    try dsimp only
    unfold b_X4_printedSign_28
    have hj_X4_printedSign_28_132 : ∀ (l4_132 : Int) (l6_132 : Int) (s0_132 : Int), Sim fx me_X4_printedSign 132 [(0, aR (some (4, l0))), (3, aI l3), (4, aI l4_132), (5, aI v1), (6, aI l6_132)] [aI s0_132] m ((j_X4_printedSign_28_132 m l0 l3 l4_132 v1 l6_132 s0_132).bind k28) := by
      intro l4_132 l6_132 s0_132
      unfold j_X4_printedSign_28_132
      refine s_istore (L' := [(7, aI s0_132), (0, aR (some (4, l0))), (3, aI l3), (4, aI l4_132), (5, aI v1), (6, aI l6_132)]) d_X4_printedSign_132 (b8 rfl) rfl (s_iload d_X4_printedSign_134 m3_ (s_iload d_X4_printedSign_136 m0_ (s_icmp_ge (tgt := 144) d_X4_printedSign_138 rfl ?_ ?_)))
      · refine s_iload d_X4_printedSign_144 m3_ (s_iload d_X4_printedSign_146 m0_ (s_isub d_X4_printedSign_148 rfl rfl (s_ck (s_istore (L' := [(4, aI (l4_132 - s0_132)), (7, aI s0_132), (0, aR (some (4, l0))), (3, aI l3), (5, aI v1), (6, aI l6_132)]) d_X4_printedSign_149 (b8 rfl) rfl (s_iinc (L' := [(6, aI (l6_132 + 1)), (4, aI (l4_132 - s0_132)), (7, aI s0_132), (0, aR (some (4, l0))), (3, aI l3), (5, aI v1)]) d_X4_printedSign_151 m5_ (b8 rfl) rfl ?_)))))
        exact s_goto (tgt := 28) d_X4_printedSign_154 rfl (s_sub (subc m1_ (subc m0_ (subc m3_ (subc m4_ (subc m5_ sub0))))) (s_back (ih28 ((l4_132 - s0_132), (l6_132 + 1)))))
      exact s_bipush d_X4_printedSign_141 n_32 rfl (s_iret d_X4_printedSign_143 rfl ((hx28 _).trans rfl))
    have hj_X4_printedSign_28_112 : ∀ (l4_112 : Int) (l6_112 : Int), Sim fx me_X4_printedSign 112 [(0, aR (some (4, l0))), (3, aI l3), (4, aI l4_112), (5, aI v1), (6, aI l6_112)] [] m ((j_X4_printedSign_28_112 m l0 l3 l4_112 v1 l6_112).bind k28) := by
      intro l4_112 l6_112
      unfold j_X4_printedSign_28_112
      refine s_iload d_X4_printedSign_112 m4_ (s_iconst d_X4_printedSign_114 n_1 (s_iadd d_X4_printedSign_115 rfl rfl (s_iload d_X4_printedSign_116 m3_ (s_ck1 (s_icmp_ge (tgt := 131) d_X4_printedSign_118 rfl ?_ ?_)))))
      · exact s_iconst d_X4_printedSign_131 n_0 (s_sub (subc m0_ (subc m1_ (subc m2_ (subc m3_ (subc m4_ sub0))))) (hj_X4_printedSign_28_132 l4_112 l6_112 0))
      refine s_aload_n d_X4_printedSign_121 m0_ (s_getR cf d_X4_printedSign_122 fl_X4_19 (s_nk fun i11 => (s_iload d_X4_printedSign_125 m4_ (s_ldN d_X4_printedSign_127 ka_29 rfl fun v12 => (s_goto (tgt := 132) d_X4_printedSign_128 rfl ?_)))))
      exact s_sub (subc m0_ (subc m1_ (subc m2_ (subc m3_ (subc m4_ sub0))))) (hj_X4_printedSign_28_132 l4_112 l6_112 v12)
    refine s_iload d_X4_printedSign_28 m1_ (s_iload d_X4_printedSign_30 m4_ (s_icmp_ge (tgt := 157) d_X4_printedSign_32 rfl ?_ ?_))
    · exact s_exit (hx28 _) (s_sub (sub0) (hj_X4_printedSign_0_157 ))
    refine s_aload_n d_X4_printedSign_35 m2_ (s_getR cf d_X4_printedSign_36 fl_X4_22 (s_nk fun i4 => (s_iload d_X4_printedSign_39 m1_ (s_ldN d_X4_printedSign_41 ka_30 rfl fun v5 => (s_istore (L' := [(7, aI v5), (4, aI l4_28), (6, aI l6_28), (0, aR (some (4, l0))), (3, aI l3), (5, aI v1)]) d_X4_printedSign_42 (b8 rfl) rfl ?_)))))
    refine s_sub (subc m1_ (subc m0_ (subc m3_ (subc m4_ (subc m5_ (subc m2_ sub0)))))) (s_lp2 (fun s => [(4, aI (s.1)), (7, aI (s.2)), (0, aR (some (4, l0))), (3, aI l3), (5, aI v1), (6, aI l6_28)]) (fun s => m) (l4_28, v5) fun k44 hx44 s ih0 => ?_)
    obtain ⟨l4_44, l7_44⟩ := s
    have ih44 := ih0
    clear ih0
    try dsimp only
    unfold b_X4_printedSign_44
    have hj_X4_printedSign_44_82 : ∀ (l4_82 : Int) (l7_82 : Int) (l8_82 : Int) (s0_82 : Int), Sim fx me_X4_printedSign 82 [(0, aR (some (4, l0))), (3, aI l3), (4, aI l4_82), (5, aI v1), (6, aI l6_28), (7, aI l7_82), (8, aI l8_82)] [aI s0_82] m ((j_X4_printedSign_44_82 m l0 l3 l4_82 v1 l6_28 l7_82 l8_82 s0_82).bind k44) := by
      intro l4_82 l7_82 l8_82 s0_82
      unfold j_X4_printedSign_44_82
      refine s_istore (L' := [(9, aI s0_82), (0, aR (some (4, l0))), (3, aI l3), (4, aI l4_82), (5, aI v1), (6, aI l6_28), (7, aI l7_82), (8, aI l8_82)]) d_X4_printedSign_82 (b8 rfl) rfl (s_iload d_X4_printedSign_84 m3_ (s_iload d_X4_printedSign_86 m0_ (s_icmp_ge (tgt := 99) d_X4_printedSign_88 rfl ?_ ?_)))
      · refine s_iload d_X4_printedSign_99 m3_ (s_iload d_X4_printedSign_101 m0_ (s_isub d_X4_printedSign_103 rfl rfl (s_ck (s_istore (L' := [(4, aI (l4_82 - s0_82)), (9, aI s0_82), (0, aR (some (4, l0))), (3, aI l3), (5, aI v1), (6, aI l6_28), (7, aI l7_82), (8, aI l8_82)]) d_X4_printedSign_104 (b8 rfl) rfl (s_iinc (L' := [(7, aI (l7_82 + 1)), (4, aI (l4_82 - s0_82)), (9, aI s0_82), (0, aR (some (4, l0))), (3, aI l3), (5, aI v1), (6, aI l6_28), (8, aI l8_82)]) d_X4_printedSign_106 m6_ (b8 rfl) rfl ?_)))))
        exact s_goto (tgt := 44) d_X4_printedSign_109 rfl (s_sub (subc m1_ (subc m0_ (subc m3_ (subc m4_ (subc m5_ (subc m6_ sub0)))))) (s_back (ih44 ((l4_82 - s0_82), (l7_82 + 1)))))
      exact s_iload d_X4_printedSign_91 m7_ (s_iload d_X4_printedSign_93 m3_ (s_pI (r_S d_X4_printedSign_95 k_X4_signOf w_1247 rfl rfl) ms_X4_signOf (b8 rfl) rfl rfl rfl fun v10 => (s_iret d_X4_printedSign_98 rfl ((hx44 _).trans ((hx28 _).trans rfl)))))
    refine s_iload d_X4_printedSign_44 m1_ (s_aload_n d_X4_printedSign_46 m2_ (s_getR cf d_X4_printedSign_47 fl_X4_22 (s_nk fun i6 => (s_iload d_X4_printedSign_50 m5_ (s_iconst d_X4_printedSign_52 n_1 ?_)))))
    refine s_iadd d_X4_printedSign_53 rfl rfl (s_ldN d_X4_printedSign_54 ka_30 rfl fun v7 => (s_icmp_ge (tgt := 112) d_X4_printedSign_55 rfl ?_ ?_))
    · exact s_exit (hx44 _) (s_sub (subc m2_ (subc m3_ (subc m0_ (subc m4_ (subc m5_ sub0))))) (hj_X4_printedSign_28_112 l4_44 l6_28))
    refine s_aload_n d_X4_printedSign_58 m2_ (s_getR cf d_X4_printedSign_59 fl_X4_46 (s_nk fun i8 => (s_iload d_X4_printedSign_62 m1_ (s_iload_n d_X4_printedSign_64 m3_ (s_pI (r_V d_X4_printedSign_65 k_X5_printed w_1243 rfl rfl) ms_X5_printed (b8 rfl) rfl rfl rfl fun v9 => ?_)))))
    refine s_istore (L' := [(8, aI v9), (4, aI l4_44), (7, aI l7_44), (0, aR (some (4, l0))), (3, aI l3), (5, aI v1), (6, aI l6_28)]) d_X4_printedSign_68 (b8 rfl) rfl (s_iload d_X4_printedSign_70 m0_ (s_bipush d_X4_printedSign_72 n_26 rfl (s_icmp_lt (tgt := 81) d_X4_printedSign_74 rfl ?_ ?_)))
    · exact s_iconst d_X4_printedSign_81 n_1 (s_sub (subc m3_ (subc m4_ (subc m1_ (subc m5_ (subc m6_ (subc m2_ (subc m0_ sub0))))))) (hj_X4_printedSign_44_82 l4_44 l7_44 v9 1))
    exact s_iconst d_X4_printedSign_77 n_2 (s_goto (tgt := 82) d_X4_printedSign_78 rfl (s_sub (subc m3_ (subc m4_ (subc m1_ (subc m5_ (subc m6_ (subc m2_ (subc m0_ sub0))))))) (hj_X4_printedSign_44_82 l4_44 l7_44 v9 2)))
  exact s_iconst d_X4_printedSign_8 n_m1 (s_iret d_X4_printedSign_9 rfl rfl)
theorem d_X11_character_0 : dk me_X11_character 0 (.aload_n 0) 1 1 := And.intro (by decide +kernel) rfl
theorem d_X11_character_1 : dk me_X11_character 1 (.iload_n 1) 1 2 := And.intro (by decide +kernel) rfl
theorem d_X11_character_2 : dk me_X11_character 2 (.invokevirtual 143) 3 5 := And.intro (by decide +kernel) rfl
theorem d_X11_character_5 : dk me_X11_character 5 (.astore 6) 2 7 := And.intro (by decide +kernel) rfl
theorem d_X11_character_7 : dk me_X11_character 7 (.aload 6) 2 9 := And.intro (by decide +kernel) rfl
theorem d_X11_character_9 : dk me_X11_character 9 (.iload_n 2) 1 10 := And.intro (by decide +kernel) rfl
theorem d_X11_character_10 : dk me_X11_character 10 (.invokevirtual 369) 3 13 := And.intro (by decide +kernel) rfl
theorem d_X11_character_13 : dk me_X11_character 13 (.ifCond .eq 16) 3 16 := And.intro (by decide +kernel) rfl
theorem d_X11_character_16 : dk me_X11_character 16 (.aload 6) 2 18 := And.intro (by decide +kernel) rfl
theorem d_X11_character_18 : dk me_X11_character 18 (.iload_n 3) 1 19 := And.intro (by decide +kernel) rfl
theorem d_X11_character_19 : dk me_X11_character 19 (.invokevirtual 379) 3 22 := And.intro (by decide +kernel) rfl
theorem d_X11_character_22 : dk me_X11_character 22 (.ifCond .eq 7) 3 25 := And.intro (by decide +kernel) rfl
theorem d_X11_character_25 : dk me_X11_character 25 (.iconst 1) 1 26 := And.intro (by decide +kernel) rfl
theorem d_X11_character_26 : dk me_X11_character 26 (.goto 4) 3 29 := And.intro (by decide +kernel) rfl
theorem d_X11_character_29 : dk me_X11_character 29 (.iconst 0) 1 30 := And.intro (by decide +kernel) rfl
theorem d_X11_character_30 : dk me_X11_character 30 (.invokestatic 115) 3 33 := And.intro (by decide +kernel) rfl
theorem d_X11_character_33 : dk me_X11_character 33 (.iload 4) 2 35 := And.intro (by decide +kernel) rfl
theorem d_X11_character_35 : dk me_X11_character 35 (.ifCond .lt 12) 3 38 := And.intro (by decide +kernel) rfl
theorem d_X11_character_38 : dk me_X11_character 38 (.iload 5) 2 40 := And.intro (by decide +kernel) rfl
theorem d_X11_character_40 : dk me_X11_character 40 (.ifCond .lt 7) 3 43 := And.intro (by decide +kernel) rfl
theorem d_X11_character_43 : dk me_X11_character 43 (.iconst 1) 1 44 := And.intro (by decide +kernel) rfl
theorem d_X11_character_44 : dk me_X11_character 44 (.goto 4) 3 47 := And.intro (by decide +kernel) rfl
theorem d_X11_character_47 : dk me_X11_character 47 (.iconst 0) 1 48 := And.intro (by decide +kernel) rfl
theorem d_X11_character_48 : dk me_X11_character 48 (.invokestatic 115) 3 51 := And.intro (by decide +kernel) rfl
theorem d_X11_character_51 : dk me_X11_character 51 (.aload 6) 2 53 := And.intro (by decide +kernel) rfl
theorem d_X11_character_53 : dk me_X11_character 53 (.getfield 357) 3 56 := And.intro (by decide +kernel) rfl
theorem d_X11_character_56 : dk me_X11_character 56 (.invokestatic 69) 3 59 := And.intro (by decide +kernel) rfl
theorem d_X11_character_59 : dk me_X11_character 59 (.aload 6) 2 61 := And.intro (by decide +kernel) rfl
theorem d_X11_character_61 : dk me_X11_character 61 (.getfield 177) 3 64 := And.intro (by decide +kernel) rfl
theorem d_X11_character_64 : dk me_X11_character 64 (.iload_n 3) 1 65 := And.intro (by decide +kernel) rfl
theorem d_X11_character_65 : dk me_X11_character 65 (.aaload) 1 66 := And.intro (by decide +kernel) rfl
theorem d_X11_character_66 : dk me_X11_character 66 (.iload 4) 2 68 := And.intro (by decide +kernel) rfl
theorem d_X11_character_68 : dk me_X11_character 68 (.iload 5) 2 70 := And.intro (by decide +kernel) rfl
theorem d_X11_character_70 : dk me_X11_character 70 (.aload 6) 2 72 := And.intro (by decide +kernel) rfl
theorem d_X11_character_72 : dk me_X11_character 72 (.iload_n 2) 1 73 := And.intro (by decide +kernel) rfl
theorem d_X11_character_73 : dk me_X11_character 73 (.iload_n 3) 1 74 := And.intro (by decide +kernel) rfl
theorem d_X11_character_74 : dk me_X11_character 74 (.invokevirtual 382) 3 77 := And.intro (by decide +kernel) rfl
theorem d_X11_character_77 : dk me_X11_character 77 (.invokevirtual 391) 3 80 := And.intro (by decide +kernel) rfl
theorem d_X11_character_80 : dk me_X11_character 80 (.ireturn) 1 81 := And.intro (by decide +kernel) rfl
theorem ms_X11_character {fx : FX} {m : MM} {l0 : Nat} {l1 : Int} {l2 : Int} {l3 : Int} {l4 : Int} {l5 : Int} : MS fx me_X11_character [aR (some (11, l0)), aI l1, aI l2, aI l3, aI l4, aI l5] m (f_X11_character m l0 l1 l2 l3 l4 l5) := by
  refine ms_of rfl mf_X11_character (b8 rfl) ?_
  refine s_top ?_
  show Sim fx me_X11_character 0 [(0, aR (some (11, l0))), (1, aI l1), (2, aI l2), (3, aI l3), (4, aI l4), (5, aI l5)] [] m _
  unfold f_X11_character
  have hj_X11_character_0_48 : ∀ (m_48 : MM) (l2_48 : Int) (l3_48 : Int) (l4_48 : Int) (l5_48 : Int) (l6_48 : Nat) (s0_48 : Int), Sim fx me_X11_character 48 [(2, aI l2_48), (3, aI l3_48), (4, aI l4_48), (5, aI l5_48), (6, aR (some (0, l6_48)))] [aI s0_48] m_48 ((j_X11_character_0_48 m_48 l2_48 l3_48 l4_48 l5_48 l6_48 s0_48).bind (fun z => some z)) := by
    intro m_48 l2_48 l3_48 l4_48 l5_48 l6_48 s0_48
    unfold j_X11_character_0_48
    refine s_cV (r_S d_X11_character_48 k_X11_requireIndex w_451 rfl rfl) ms_X11_requireIndex (b8 rfl) rfl rfl rfl (fun h => by cases h) (fun _ _ => Or.inr rfl) fun m8 => (s_aload d_X11_character_51 m4_ (s_getB cf d_X11_character_53 fl_X11_357 (s_cV (r_S d_X11_character_56 k_X11_requireState w_363 rfl rfl) ms_X11_requireState (b8 rfl) rfl rfl rfl (fun h => by cases h) (fun _ _ => Or.inr rfl) fun m10 => (s_aload d_X11_character_59 m4_ (s_getR cf d_X11_character_61 fl_X11_177 ?_)))))
    refine s_nk fun i12 => (s_iload_n d_X11_character_64 m1_ (s_ldR d_X11_character_65 ka_13 ta_13 rfl rfl fun r13 => (s_nk fun i14 => (s_iload d_X11_character_66 m2_ (s_iload d_X11_character_68 m3_ ?_)))))
    exact s_aload d_X11_character_70 m4_ (s_iload_n d_X11_character_72 m0_ (s_iload_n d_X11_character_73 m1_ (s_pI (r_V d_X11_character_74 k_X0_stateIn w_1209 rfl rfl) ms_X0_stateIn (b8 rfl) rfl rfl rfl fun v15 => (s_pI (r_V d_X11_character_77 k_X4_printedSign w_1239 rfl rfl) ms_X4_printedSign (b8 rfl) rfl rfl rfl fun v16 => (s_iret d_X11_character_80 rfl rfl)))))
  have hj_X11_character_0_47 : ∀ (m_47 : MM) (l2_47 : Int) (l3_47 : Int) (l4_47 : Int) (l5_47 : Int) (l6_47 : Nat), Sim fx me_X11_character 47 [(2, aI l2_47), (3, aI l3_47), (4, aI l4_47), (5, aI l5_47), (6, aR (some (0, l6_47)))] [] m_47 ((j_X11_character_0_47 m_47 l2_47 l3_47 l4_47 l5_47 l6_47).bind (fun z => some z)) := by
    intro m_47 l2_47 l3_47 l4_47 l5_47 l6_47
    unfold j_X11_character_0_47
    exact s_iconst d_X11_character_47 n_0 (s_sub (subc m0_ (subc m1_ (subc m2_ (subc m3_ (subc m4_ sub0))))) (hj_X11_character_0_48 m_47 l2_47 l3_47 l4_47 l5_47 l6_47 0))
  have hj_X11_character_0_30 : ∀ (m_30 : MM) (l2_30 : Int) (l3_30 : Int) (l4_30 : Int) (l5_30 : Int) (l6_30 : Nat) (s0_30 : Int), Sim fx me_X11_character 30 [(2, aI l2_30), (3, aI l3_30), (4, aI l4_30), (5, aI l5_30), (6, aR (some (0, l6_30)))] [aI s0_30] m_30 ((j_X11_character_0_30 m_30 l2_30 l3_30 l4_30 l5_30 l6_30 s0_30).bind (fun z => some z)) := by
    intro m_30 l2_30 l3_30 l4_30 l5_30 l6_30 s0_30
    unfold j_X11_character_0_30
    refine s_cV (r_S d_X11_character_30 k_X11_requireIndex w_451 rfl rfl) ms_X11_requireIndex (b8 rfl) rfl rfl rfl (fun h => by cases h) (fun _ _ => Or.inr rfl) fun m6 => (s_iload d_X11_character_33 m2_ (s_if_lt (tgt := 47) d_X11_character_35 rfl ?_ ?_))
    · exact s_sub (subc m0_ (subc m1_ (subc m2_ (subc m3_ (subc m4_ sub0))))) (hj_X11_character_0_47 m6 l2_30 l3_30 l4_30 l5_30 l6_30)
    refine s_iload d_X11_character_38 m3_ (s_if_lt (tgt := 47) d_X11_character_40 rfl ?_ ?_)
    · exact s_sub (subc m0_ (subc m1_ (subc m2_ (subc m3_ (subc m4_ sub0))))) (hj_X11_character_0_47 m6 l2_30 l3_30 l4_30 l5_30 l6_30)
    exact s_iconst d_X11_character_43 n_1 (s_goto (tgt := 48) d_X11_character_44 rfl (s_sub (subc m0_ (subc m1_ (subc m2_ (subc m3_ (subc m4_ sub0))))) (hj_X11_character_0_48 m6 l2_30 l3_30 l4_30 l5_30 l6_30 1)))
  have hj_X11_character_0_29 : ∀ (m_29 : MM) (l2_29 : Int) (l3_29 : Int) (l4_29 : Int) (l5_29 : Int) (l6_29 : Nat), Sim fx me_X11_character 29 [(2, aI l2_29), (3, aI l3_29), (4, aI l4_29), (5, aI l5_29), (6, aR (some (0, l6_29)))] [] m_29 ((j_X11_character_0_29 m_29 l2_29 l3_29 l4_29 l5_29 l6_29).bind (fun z => some z)) := by
    intro m_29 l2_29 l3_29 l4_29 l5_29 l6_29
    unfold j_X11_character_0_29
    exact s_iconst d_X11_character_29 n_0 (s_sub (subc m0_ (subc m1_ (subc m2_ (subc m3_ (subc m4_ sub0))))) (hj_X11_character_0_30 m_29 l2_29 l3_29 l4_29 l5_29 l6_29 0))
  refine s_aload_n d_X11_character_0 m0_ (s_iload_n d_X11_character_1 m1_ (s_cR (r_V d_X11_character_2 k_X11_bookAt w_814 rfl rfl) ms_X11_bookAt (b8 rfl) rfl rfl rfl (fun h => by cases h) (fun _ _ => Or.inr rfl) fun r2 m1 => (s_nk fun i3 => (s_astore (L' := [(6, aR (some (0, i3))), (0, aR (some (11, l0))), (1, aI l1), (2, aI l2), (3, aI l3), (4, aI l4), (5, aI l5)]) d_X11_character_5 (b8 rfl) rfl (s_aload d_X11_character_7 m0_ ?_)))))
  refine s_iload_n d_X11_character_9 m3_ (s_pI (r_V d_X11_character_10 k_X0_hasCopy w_1187 rfl rfl) ms_X0_hasCopy (b8 rfl) rfl rfl rfl fun v4 => (s_if_eq (tgt := 29) d_X11_character_13 rfl ?_ ?_))
  · exact s_sub (subc m3_ (subc m4_ (subc m5_ (subc m6_ (subc m0_ sub0))))) (hj_X11_character_0_29 m1 l2 l3 l4 l5 i3)
  refine s_aload d_X11_character_16 m0_ (s_iload_n d_X11_character_18 m4_ (s_pI (r_V d_X11_character_19 k_X0_hasPage w_887 rfl rfl) ms_X0_hasPage (b8 rfl) rfl rfl rfl fun v5 => (s_if_eq (tgt := 29) d_X11_character_22 rfl ?_ ?_)))
  · exact s_sub (subc m3_ (subc m4_ (subc m5_ (subc m6_ (subc m0_ sub0))))) (hj_X11_character_0_29 m1 l2 l3 l4 l5 i3)
  exact s_iconst d_X11_character_25 n_1 (s_goto (tgt := 30) d_X11_character_26 rfl (s_sub (subc m3_ (subc m4_ (subc m5_ (subc m6_ (subc m0_ sub0))))) (hj_X11_character_0_30 m1 l2 l3 l4 l5 i3 1)))
theorem d_L_character_0 : dk me_L_character 0 (.aload 6) 2 2 := And.intro (by decide +kernel) rfl
theorem d_L_character_2 : dk me_L_character 2 (.iconst 0) 1 3 := And.intro (by decide +kernel) rfl
theorem d_L_character_3 : dk me_L_character 3 (.aload_n 0) 1 4 := And.intro (by decide +kernel) rfl
theorem d_L_character_4 : dk me_L_character 4 (.iload_n 1) 1 5 := And.intro (by decide +kernel) rfl
theorem d_L_character_5 : dk me_L_character 5 (.iload_n 2) 1 6 := And.intro (by decide +kernel) rfl
theorem d_L_character_6 : dk me_L_character 6 (.iload_n 3) 1 7 := And.intro (by decide +kernel) rfl
theorem d_L_character_7 : dk me_L_character 7 (.iload 4) 2 9 := And.intro (by decide +kernel) rfl
theorem d_L_character_9 : dk me_L_character 9 (.iload 5) 2 11 := And.intro (by decide +kernel) rfl
theorem d_L_character_11 : dk me_L_character 11 (.invokevirtual 111) 3 14 := And.intro (by decide +kernel) rfl
theorem d_L_character_14 : dk me_L_character 14 (.i2l) 1 15 := And.intro (by decide +kernel) rfl
theorem d_L_character_15 : dk me_L_character 15 (.lastore) 1 16 := And.intro (by decide +kernel) rfl
theorem d_L_character_16 : dk me_L_character 16 (.goto 11) 3 19 := And.intro (by decide +kernel) rfl
theorem d_L_character_19 : dk me_L_character 19 (.astore 7) 2 21 := And.intro (by decide +kernel) rfl
theorem d_L_character_21 : dk me_L_character 21 (.iconst 1) 1 22 := And.intro (by decide +kernel) rfl
theorem d_L_character_22 : dk me_L_character 22 (.ireturn) 1 23 := And.intro (by decide +kernel) rfl
theorem d_L_character_23 : dk me_L_character 23 (.astore 7) 2 25 := And.intro (by decide +kernel) rfl
theorem d_L_character_25 : dk me_L_character 25 (.iconst 2) 1 26 := And.intro (by decide +kernel) rfl
theorem d_L_character_26 : dk me_L_character 26 (.ireturn) 1 27 := And.intro (by decide +kernel) rfl
theorem d_L_character_27 : dk me_L_character 27 (.iconst 0) 1 28 := And.intro (by decide +kernel) rfl
theorem d_L_character_28 : dk me_L_character 28 (.ireturn) 1 29 := And.intro (by decide +kernel) rfl
theorem ms_L_character {fx : FX} {m : MM} {l0 : Nat} {l1 : Int} {l2 : Int} {l3 : Int} {l4 : Int} {l5 : Int} {l6 : Nat} : MS fx me_L_character [aR (some (11, l0)), aI l1, aI l2, aI l3, aI l4, aI l5, aR (some (131, l6))] m (f_L_character m l0 l1 l2 l3 l4 l5 l6) := by
  refine ms_ofH rfl mf_L_character (b8 rfl) ?_
  refine s_top ?_
  show Sim fx me_L_character 0 [(0, aR (some (11, l0))), (1, aI l1), (2, aI l2), (3, aI l3), (4, aI l4), (5, aI l5), (6, aR (some (131, l6)))] [] m _
  unfold f_L_character
  refine s_aload d_L_character_0 m6_ (s_iconst d_L_character_2 n_0 (s_aload_n d_L_character_3 m0_ (s_iload_n d_L_character_4 m1_ (s_iload_n d_L_character_5 m2_ (s_iload_n d_L_character_6 m3_ ?_)))))
  refine s_iload d_L_character_7 m4_ (s_iload d_L_character_9 m5_ (s_cIC (r_V d_L_character_11 k_X11_character w_1235 rfl rfl) ms_X11_character (b8 rfl) rfl rfl ?_ ?_ ?_ fun v2 m1 => ?_))
  · refine fun mx => Or.inr ⟨19, ⟨rfl, by decide, 0, wx_29_0, Or.inl ⟨rfl, rfl⟩⟩, fun qx => ?_⟩
    exact s_astoreV (L' := [(7, aV (.ref qx)), (0, aR (some (11, l0))), (1, aI l1), (2, aI l2), (3, aI l3), (4, aI l4), (5, aI l5), (6, aR (some (131, l6)))]) d_L_character_19 (b8 rfl) rfl (s_iconst d_L_character_21 n_1 (s_iret d_L_character_22 rfl rfl))
  · exact fun _ => Or.inl rfl
  · refine fun mx => Or.inr ⟨23, ⟨rfl, by decide, 0, wx_29_0, Or.inr ⟨by decide, ⟨rfl, by decide, 2, wx_15_2, Or.inl ⟨rfl, rfl⟩⟩⟩⟩, fun qx => ?_⟩
    exact s_astoreV (L' := [(7, aV (.ref qx)), (0, aR (some (11, l0))), (1, aI l1), (2, aI l2), (3, aI l3), (4, aI l4), (5, aI l5), (6, aR (some (131, l6)))]) d_L_character_23 (b8 rfl) rfl (s_iconst d_L_character_25 n_2 (s_iret d_L_character_26 rfl rfl))
  exact s_i2l d_L_character_14 (s_stL d_L_character_15 ka_131 rfl fun m3 => (s_goto (tgt := 27) d_L_character_16 rfl (s_iconst d_L_character_27 n_0 (s_iret d_L_character_28 rfl rfl))))
theorem d_X11_isLetter_0 : dk me_X11_isLetter 0 (.iload_n 0) 1 1 := And.intro (by decide +kernel) rfl
theorem d_X11_isLetter_1 : dk me_X11_isLetter 1 (.bipush 97) 2 3 := And.intro (by decide +kernel) rfl
theorem d_X11_isLetter_3 : dk me_X11_isLetter 3 (.if_icmp .lt 13) 3 6 := And.intro (by decide +kernel) rfl
theorem d_X11_isLetter_6 : dk me_X11_isLetter 6 (.iload_n 0) 1 7 := And.intro (by decide +kernel) rfl
theorem d_X11_isLetter_7 : dk me_X11_isLetter 7 (.bipush 122) 2 9 := And.intro (by decide +kernel) rfl
theorem d_X11_isLetter_9 : dk me_X11_isLetter 9 (.if_icmp .gt 7) 3 12 := And.intro (by decide +kernel) rfl
theorem d_X11_isLetter_12 : dk me_X11_isLetter 12 (.iconst 1) 1 13 := And.intro (by decide +kernel) rfl
theorem d_X11_isLetter_13 : dk me_X11_isLetter 13 (.goto 4) 3 16 := And.intro (by decide +kernel) rfl
theorem d_X11_isLetter_16 : dk me_X11_isLetter 16 (.iconst 0) 1 17 := And.intro (by decide +kernel) rfl
theorem d_X11_isLetter_17 : dk me_X11_isLetter 17 (.ireturn) 1 18 := And.intro (by decide +kernel) rfl
theorem ms_X11_isLetter {fx : FX} {m : MM} {l0 : Int} : MS fx me_X11_isLetter [aI l0] m ((f_X11_isLetter m l0).bind fun v => some (.inl (some (aI v)), m)) := by
  refine ms_of rfl mf_X11_isLetter (b8 rfl) ?_
  show Sim fx me_X11_isLetter 0 [(0, aI l0)] [] m _
  unfold f_X11_isLetter
  refine s_iload_n d_X11_isLetter_0 m0_ (s_bipush d_X11_isLetter_1 n_97 rfl (s_icmp_lt (tgt := 16) d_X11_isLetter_3 rfl ?_ ?_))
  · exact s_iconst d_X11_isLetter_16 n_0 (s_zretl d_X11_isLetter_17 rfl (by decide) rfl)
  refine s_iload_n d_X11_isLetter_6 m0_ (s_bipush d_X11_isLetter_7 n_122 rfl (s_icmp_gt (tgt := 16) d_X11_isLetter_9 rfl ?_ ?_))
  · exact s_iconst d_X11_isLetter_16 n_0 (s_zretl d_X11_isLetter_17 rfl (by decide) rfl)
  exact s_iconst d_X11_isLetter_12 n_1 (s_goto (tgt := 17) d_X11_isLetter_13 rfl (s_zretl d_X11_isLetter_17 rfl (by decide) rfl))
theorem d_X10_faultPlace_0 : dk me_X10_faultPlace 0 (.iconst 0) 1 1 := And.intro (by decide +kernel) rfl
theorem d_X10_faultPlace_1 : dk me_X10_faultPlace 1 (.istore_n 1) 1 2 := And.intro (by decide +kernel) rfl
theorem d_X10_faultPlace_2 : dk me_X10_faultPlace 2 (.iconst 0) 1 3 := And.intro (by decide +kernel) rfl
theorem d_X10_faultPlace_3 : dk me_X10_faultPlace 3 (.istore_n 2) 1 4 := And.intro (by decide +kernel) rfl
theorem d_X10_faultPlace_4 : dk me_X10_faultPlace 4 (.iload_n 2) 1 5 := And.intro (by decide +kernel) rfl
theorem d_X10_faultPlace_5 : dk me_X10_faultPlace 5 (.aload_n 0) 1 6 := And.intro (by decide +kernel) rfl
theorem d_X10_faultPlace_6 : dk me_X10_faultPlace 6 (.getfield 29) 3 9 := And.intro (by decide +kernel) rfl
theorem d_X10_faultPlace_9 : dk me_X10_faultPlace 9 (.if_icmp .ge 50) 3 12 := And.intro (by decide +kernel) rfl
theorem d_X10_faultPlace_12 : dk me_X10_faultPlace 12 (.aload_n 0) 1 13 := And.intro (by decide +kernel) rfl
theorem d_X10_faultPlace_13 : dk me_X10_faultPlace 13 (.getfield 9) 3 16 := And.intro (by decide +kernel) rfl
theorem d_X10_faultPlace_16 : dk me_X10_faultPlace 16 (.iload_n 2) 1 17 := And.intro (by decide +kernel) rfl
theorem d_X10_faultPlace_17 : dk me_X10_faultPlace 17 (.iaload) 1 18 := And.intro (by decide +kernel) rfl
theorem d_X10_faultPlace_18 : dk me_X10_faultPlace 18 (.invokestatic 33) 3 21 := And.intro (by decide +kernel) rfl
theorem d_X10_faultPlace_21 : dk me_X10_faultPlace 21 (.istore_n 3) 1 22 := And.intro (by decide +kernel) rfl
theorem d_X10_faultPlace_22 : dk me_X10_faultPlace 22 (.iload_n 3) 1 23 := And.intro (by decide +kernel) rfl
theorem d_X10_faultPlace_23 : dk me_X10_faultPlace 23 (.ifCond .eq 12) 3 26 := And.intro (by decide +kernel) rfl
theorem d_X10_faultPlace_26 : dk me_X10_faultPlace 26 (.iload_n 1) 1 27 := And.intro (by decide +kernel) rfl
theorem d_X10_faultPlace_27 : dk me_X10_faultPlace 27 (.bipush 8) 2 29 := And.intro (by decide +kernel) rfl
theorem d_X10_faultPlace_29 : dk me_X10_faultPlace 29 (.if_icmp .ne 12) 3 32 := And.intro (by decide +kernel) rfl
theorem d_X10_faultPlace_32 : dk me_X10_faultPlace 32 (.goto 7) 3 35 := And.intro (by decide +kernel) rfl
theorem d_X10_faultPlace_35 : dk me_X10_faultPlace 35 (.iload_n 1) 1 36 := And.intro (by decide +kernel) rfl
theorem d_X10_faultPlace_36 : dk me_X10_faultPlace 36 (.ifCond .ne 5) 3 39 := And.intro (by decide +kernel) rfl
theorem d_X10_faultPlace_39 : dk me_X10_faultPlace 39 (.iload_n 2) 1 40 := And.intro (by decide +kernel) rfl
theorem d_X10_faultPlace_40 : dk me_X10_faultPlace 40 (.ireturn) 1 41 := And.intro (by decide +kernel) rfl
theorem d_X10_faultPlace_41 : dk me_X10_faultPlace 41 (.iload_n 3) 1 42 := And.intro (by decide +kernel) rfl
theorem d_X10_faultPlace_42 : dk me_X10_faultPlace 42 (.ifCond .eq 9) 3 45 := And.intro (by decide +kernel) rfl
theorem d_X10_faultPlace_45 : dk me_X10_faultPlace 45 (.iload_n 1) 1 46 := And.intro (by decide +kernel) rfl
theorem d_X10_faultPlace_46 : dk me_X10_faultPlace 46 (.iconst 1) 1 47 := And.intro (by decide +kernel) rfl
theorem d_X10_faultPlace_47 : dk me_X10_faultPlace 47 (.iadd) 1 48 := And.intro (by decide +kernel) rfl
theorem d_X10_faultPlace_48 : dk me_X10_faultPlace 48 (.goto 4) 3 51 := And.intro (by decide +kernel) rfl
theorem d_X10_faultPlace_51 : dk me_X10_faultPlace 51 (.iconst 0) 1 52 := And.intro (by decide +kernel) rfl
theorem d_X10_faultPlace_52 : dk me_X10_faultPlace 52 (.istore_n 1) 1 53 := And.intro (by decide +kernel) rfl
theorem d_X10_faultPlace_53 : dk me_X10_faultPlace 53 (.iinc 2 1) 3 56 := And.intro (by decide +kernel) rfl
theorem d_X10_faultPlace_56 : dk me_X10_faultPlace 56 (.goto (-52)) 3 59 := And.intro (by decide +kernel) rfl
theorem d_X10_faultPlace_59 : dk me_X10_faultPlace 59 (.iload_n 1) 1 60 := And.intro (by decide +kernel) rfl
theorem d_X10_faultPlace_60 : dk me_X10_faultPlace 60 (.ifCond .ne 10) 3 63 := And.intro (by decide +kernel) rfl
theorem d_X10_faultPlace_63 : dk me_X10_faultPlace 63 (.aload_n 0) 1 64 := And.intro (by decide +kernel) rfl
theorem d_X10_faultPlace_64 : dk me_X10_faultPlace 64 (.getfield 29) 3 67 := And.intro (by decide +kernel) rfl
theorem d_X10_faultPlace_67 : dk me_X10_faultPlace 67 (.goto 4) 3 70 := And.intro (by decide +kernel) rfl
theorem d_X10_faultPlace_70 : dk me_X10_faultPlace 70 (.iconst (-1)) 1 71 := And.intro (by decide +kernel) rfl
theorem d_X10_faultPlace_71 : dk me_X10_faultPlace 71 (.ireturn) 1 72 := And.intro (by decide +kernel) rfl
theorem ms_X10_faultPlace {fx : FX} {m : MM} {l0 : Nat} : MS fx me_X10_faultPlace [aR (some (10, l0))] m ((f_X10_faultPlace m l0).bind fun v => some (.inl (some (aI v)), m)) := by
  refine ms_of rfl mf_X10_faultPlace (b8 rfl) ?_
  show Sim fx me_X10_faultPlace 0 [(0, aR (some (10, l0)))] [] m _
  unfold f_X10_faultPlace
  have hj_X10_faultPlace_0_59 : ∀ (l0_59 : Nat) (l1_59 : Int), Sim fx me_X10_faultPlace 59 [(0, aR (some (10, l0_59))), (1, aI l1_59)] [] m ((j_X10_faultPlace_0_59 m l0_59 l1_59).bind (fun v => some (.inl (some (aI v)), m))) := by
    intro l0_59 l1_59
    unfold j_X10_faultPlace_0_59
    refine s_iload_n d_X10_faultPlace_59 m1_ (s_if_ne (tgt := 70) d_X10_faultPlace_60 rfl ?_ ?_)
    · exact s_iconst d_X10_faultPlace_70 n_m1 (s_iret d_X10_faultPlace_71 rfl rfl)
    exact s_aload_n d_X10_faultPlace_63 m0_ (s_getN cf d_X10_faultPlace_64 fl_X10_29 (s_goto (tgt := 71) d_X10_faultPlace_67 rfl (s_iret d_X10_faultPlace_71 rfl rfl)))
  refine s_iconst d_X10_faultPlace_0 n_0 (s_istore_n (L' := [(1, aI 0), (0, aR (some (10, l0)))]) d_X10_faultPlace_1 (b8 rfl) rfl (s_iconst d_X10_faultPlace_2 n_0 (s_istore_n (L' := [(2, aI 0), (1, aI 0), (0, aR (some (10, l0)))]) d_X10_faultPlace_3 (b8 rfl) rfl (s_sub (subc m1_ (subc m0_ (subc m2_ sub0))) (s_lp2 (fun s => [(1, aI (s.1)), (2, aI (s.2)), (0, aR (some (10, l0)))]) (fun s => m) (0, 0) fun k4 hx4 s ih0 => ?_)))))
  obtain ⟨l1_4, l2_4⟩ := s
  have ih4 := ih0
  clear ih0
  try dsimp only
  unfold b_X10_faultPlace_4
  have hj_X10_faultPlace_4_41 : ∀ (l1_41 : Int) (l2_41 : Int) (l3_41 : Int), Sim fx me_X10_faultPlace 41 [(0, aR (some (10, l0))), (1, aI l1_41), (2, aI l2_41), (3, aI l3_41)] [] m ((j_X10_faultPlace_4_41 m l0 l1_41 l2_41 l3_41).bind k4) := by
    intro l1_41 l2_41 l3_41
    unfold j_X10_faultPlace_4_41
    refine s_iload_n d_X10_faultPlace_41 m3_ (s_if_eq (tgt := 51) d_X10_faultPlace_42 rfl ?_ ?_)
    · exact s_iconst d_X10_faultPlace_51 n_0 (s_istore_n (L' := [(1, aI 0), (0, aR (some (10, l0))), (2, aI l2_41), (3, aI l3_41)]) d_X10_faultPlace_52 (b8 rfl) rfl (s_iinc (L' := [(2, aI (l2_41 + 1)), (1, aI 0), (0, aR (some (10, l0))), (3, aI l3_41)]) d_X10_faultPlace_53 m2_ (b8 rfl) rfl (s_goto (tgt := 4) d_X10_faultPlace_56 rfl (s_sub (subc m1_ (subc m0_ (subc m2_ sub0))) (s_back (ih4 (0, (l2_41 + 1))))))))
    refine s_iload_n d_X10_faultPlace_45 m1_ (s_iconst d_X10_faultPlace_46 n_1 (s_iadd d_X10_faultPlace_47 rfl rfl (s_goto (tgt := 52) d_X10_faultPlace_48 rfl (s_ck (s_istore_n (L' := [(1, aI (l1_41 + 1)), (0, aR (some (10, l0))), (2, aI l2_41), (3, aI l3_41)]) d_X10_faultPlace_52 (b8 rfl) rfl ?_)))))
    exact s_iinc (L' := [(2, aI (l2_41 + 1)), (1, aI (l1_41 + 1)), (0, aR (some (10, l0))), (3, aI l3_41)]) d_X10_faultPlace_53 m2_ (b8 rfl) rfl (s_goto (tgt := 4) d_X10_faultPlace_56 rfl (s_sub (subc m1_ (subc m0_ (subc m2_ sub0))) (s_back (ih4 ((l1_41 + 1), (l2_41 + 1))))))
  refine s_iload_n d_X10_faultPlace_4 m1_ (s_aload_n d_X10_faultPlace_5 m2_ (s_getN cf d_X10_faultPlace_6 fl_X10_29 (s_icmp_ge (tgt := 59) d_X10_faultPlace_9 rfl ?_ ?_)))
  · exact s_exit (hx4 _) (s_sub (subc m2_ (subc m0_ sub0)) (hj_X10_faultPlace_0_59 l0 l1_4))
  refine s_aload_n d_X10_faultPlace_12 m2_ (s_getR cf d_X10_faultPlace_13 fl_X10_9 (s_nk fun i1 => (s_iload_n d_X10_faultPlace_16 m1_ (s_ldN d_X10_faultPlace_17 ka_50 rfl fun v2 => (s_pI (r_SN d_X10_faultPlace_18 k_X11_isLetter ne_3 rfl rfl) ms_X11_isLetter (b8 rfl) rfl rfl rfl fun v3 => ?_)))))
  refine s_istore_n (L' := [(3, aI v3), (1, aI l1_4), (2, aI l2_4), (0, aR (some (10, l0)))]) d_X10_faultPlace_21 (b8 rfl) rfl (s_iload_n d_X10_faultPlace_22 m0_ (s_if_eq (tgt := 35) d_X10_faultPlace_23 rfl ?_ ?_))
  · refine s_iload_n d_X10_faultPlace_35 m1_ (s_if_ne (tgt := 41) d_X10_faultPlace_36 rfl ?_ ?_)
    · exact s_sub (subc m3_ (subc m1_ (subc m2_ (subc m0_ sub0)))) (hj_X10_faultPlace_4_41 l1_4 l2_4 v3)
    exact s_iload_n d_X10_faultPlace_39 m2_ (s_iret d_X10_faultPlace_40 rfl ((hx4 _).trans rfl))
  refine s_iload_n d_X10_faultPlace_26 m1_ (s_bipush d_X10_faultPlace_27 n_8 rfl (s_icmp_ne (tgt := 41) d_X10_faultPlace_29 rfl ?_ ?_))
  · exact s_sub (subc m3_ (subc m1_ (subc m2_ (subc m0_ sub0)))) (hj_X10_faultPlace_4_41 l1_4 l2_4 v3)
  exact s_goto (tgt := 39) d_X10_faultPlace_32 rfl (s_iload_n d_X10_faultPlace_39 m2_ (s_iret d_X10_faultPlace_40 rfl ((hx4 _).trans rfl)))
theorem d_X10_isText_0 : dk me_X10_isText 0 (.aload_n 0) 1 1 := And.intro (by decide +kernel) rfl
theorem d_X10_isText_1 : dk me_X10_isText 1 (.invokevirtual 37) 3 4 := And.intro (by decide +kernel) rfl
theorem d_X10_isText_4 : dk me_X10_isText 4 (.iconst (-1)) 1 5 := And.intro (by decide +kernel) rfl
theorem d_X10_isText_5 : dk me_X10_isText 5 (.if_icmp .ne 7) 3 8 := And.intro (by decide +kernel) rfl
theorem d_X10_isText_8 : dk me_X10_isText 8 (.iconst 1) 1 9 := And.intro (by decide +kernel) rfl
theorem d_X10_isText_9 : dk me_X10_isText 9 (.goto 4) 3 12 := And.intro (by decide +kernel) rfl
theorem d_X10_isText_12 : dk me_X10_isText 12 (.iconst 0) 1 13 := And.intro (by decide +kernel) rfl
theorem d_X10_isText_13 : dk me_X10_isText 13 (.ireturn) 1 14 := And.intro (by decide +kernel) rfl
theorem ms_X10_isText {fx : FX} {m : MM} {l0 : Nat} : MS fx me_X10_isText [aR (some (10, l0))] m ((f_X10_isText m l0).bind fun v => some (.inl (some (aI v)), m)) := by
  refine ms_of rfl mf_X10_isText (b8 rfl) ?_
  show Sim fx me_X10_isText 0 [(0, aR (some (10, l0)))] [] m _
  unfold f_X10_isText
  refine s_aload_n d_X10_isText_0 m0_ (s_pI (r_V d_X10_isText_1 k_X10_faultPlace w_401 rfl rfl) ms_X10_faultPlace (b8 rfl) rfl rfl rfl fun v1 => (s_iconst d_X10_isText_4 n_m1 (s_icmp_ne (tgt := 12) d_X10_isText_5 rfl ?_ ?_)))
  · exact s_iconst d_X10_isText_12 n_0 (s_zretl d_X10_isText_13 rfl (by decide) rfl)
  exact s_iconst d_X10_isText_8 n_1 (s_goto (tgt := 13) d_X10_isText_9 rfl (s_zretl d_X10_isText_13 rfl (by decide) rfl))
theorem d_X10_splitText_0 : dk me_X10_splitText 0 (.iconst 0) 1 1 := And.intro (by decide +kernel) rfl
theorem d_X10_splitText_1 : dk me_X10_splitText 1 (.istore_n 1) 1 2 := And.intro (by decide +kernel) rfl
theorem d_X10_splitText_2 : dk me_X10_splitText 2 (.lconst 0) 1 3 := And.intro (by decide +kernel) rfl
theorem d_X10_splitText_3 : dk me_X10_splitText 3 (.lstore_n 2) 1 4 := And.intro (by decide +kernel) rfl
theorem d_X10_splitText_4 : dk me_X10_splitText 4 (.iconst 0) 1 5 := And.intro (by decide +kernel) rfl
theorem d_X10_splitText_5 : dk me_X10_splitText 5 (.istore 4) 2 7 := And.intro (by decide +kernel) rfl
theorem d_X10_splitText_7 : dk me_X10_splitText 7 (.iconst 0) 1 8 := And.intro (by decide +kernel) rfl
theorem d_X10_splitText_8 : dk me_X10_splitText 8 (.istore 5) 2 10 := And.intro (by decide +kernel) rfl
theorem d_X10_splitText_10 : dk me_X10_splitText 10 (.iload 5) 2 12 := And.intro (by decide +kernel) rfl
theorem d_X10_splitText_12 : dk me_X10_splitText 12 (.aload_n 0) 1 13 := And.intro (by decide +kernel) rfl
theorem d_X10_splitText_13 : dk me_X10_splitText 13 (.getfield 29) 3 16 := And.intro (by decide +kernel) rfl
theorem d_X10_splitText_16 : dk me_X10_splitText 16 (.if_icmp .gt 110) 3 19 := And.intro (by decide +kernel) rfl
theorem d_X10_splitText_19 : dk me_X10_splitText 19 (.iload 5) 2 21 := And.intro (by decide +kernel) rfl
theorem d_X10_splitText_21 : dk me_X10_splitText 21 (.aload_n 0) 1 22 := And.intro (by decide +kernel) rfl
theorem d_X10_splitText_22 : dk me_X10_splitText 22 (.getfield 29) 3 25 := And.intro (by decide +kernel) rfl
theorem d_X10_splitText_25 : dk me_X10_splitText 25 (.if_icmp .ge 39) 3 28 := And.intro (by decide +kernel) rfl
theorem d_X10_splitText_28 : dk me_X10_splitText 28 (.aload_n 0) 1 29 := And.intro (by decide +kernel) rfl
theorem d_X10_splitText_29 : dk me_X10_splitText 29 (.getfield 9) 3 32 := And.intro (by decide +kernel) rfl
theorem d_X10_splitText_32 : dk me_X10_splitText 32 (.iload 5) 2 34 := And.intro (by decide +kernel) rfl
theorem d_X10_splitText_34 : dk me_X10_splitText 34 (.iaload) 1 35 := And.intro (by decide +kernel) rfl
theorem d_X10_splitText_35 : dk me_X10_splitText 35 (.invokestatic 33) 3 38 := And.intro (by decide +kernel) rfl
theorem d_X10_splitText_38 : dk me_X10_splitText 38 (.ifCond .eq 26) 3 41 := And.intro (by decide +kernel) rfl
theorem d_X10_splitText_41 : dk me_X10_splitText 41 (.lload_n 2) 1 42 := And.intro (by decide +kernel) rfl
theorem d_X10_splitText_42 : dk me_X10_splitText 42 (.aload_n 0) 1 43 := And.intro (by decide +kernel) rfl
theorem d_X10_splitText_43 : dk me_X10_splitText 43 (.getfield 9) 3 46 := And.intro (by decide +kernel) rfl
theorem d_X10_splitText_46 : dk me_X10_splitText 46 (.iload 5) 2 48 := And.intro (by decide +kernel) rfl
theorem d_X10_splitText_48 : dk me_X10_splitText 48 (.iaload) 1 49 := And.intro (by decide +kernel) rfl
theorem d_X10_splitText_49 : dk me_X10_splitText 49 (.i2l) 1 50 := And.intro (by decide +kernel) rfl
theorem d_X10_splitText_50 : dk me_X10_splitText 50 (.bipush 8) 2 52 := And.intro (by decide +kernel) rfl
theorem d_X10_splitText_52 : dk me_X10_splitText 52 (.iload 4) 2 54 := And.intro (by decide +kernel) rfl
theorem d_X10_splitText_54 : dk me_X10_splitText 54 (.imul) 1 55 := And.intro (by decide +kernel) rfl
theorem d_X10_splitText_55 : dk me_X10_splitText 55 (.lshl) 1 56 := And.intro (by decide +kernel) rfl
theorem d_X10_splitText_56 : dk me_X10_splitText 56 (.lor) 1 57 := And.intro (by decide +kernel) rfl
theorem d_X10_splitText_57 : dk me_X10_splitText 57 (.lstore_n 2) 1 58 := And.intro (by decide +kernel) rfl
theorem d_X10_splitText_58 : dk me_X10_splitText 58 (.iinc 4 1) 3 61 := And.intro (by decide +kernel) rfl
theorem d_X10_splitText_61 : dk me_X10_splitText 61 (.goto 59) 3 64 := And.intro (by decide +kernel) rfl
theorem d_X10_splitText_64 : dk me_X10_splitText 64 (.iload_n 1) 1 65 := And.intro (by decide +kernel) rfl
theorem d_X10_splitText_65 : dk me_X10_splitText 65 (.aload_n 0) 1 66 := And.intro (by decide +kernel) rfl
theorem d_X10_splitText_66 : dk me_X10_splitText 66 (.getfield 15) 3 69 := And.intro (by decide +kernel) rfl
theorem d_X10_splitText_69 : dk me_X10_splitText 69 (.arraylength) 1 70 := And.intro (by decide +kernel) rfl
theorem d_X10_splitText_70 : dk me_X10_splitText 70 (.if_icmp .ge 50) 3 73 := And.intro (by decide +kernel) rfl
theorem d_X10_splitText_73 : dk me_X10_splitText 73 (.aload_n 0) 1 74 := And.intro (by decide +kernel) rfl
theorem d_X10_splitText_74 : dk me_X10_splitText 74 (.getfield 15) 3 77 := And.intro (by decide +kernel) rfl
theorem d_X10_splitText_77 : dk me_X10_splitText 77 (.iload_n 1) 1 78 := And.intro (by decide +kernel) rfl
theorem d_X10_splitText_78 : dk me_X10_splitText 78 (.lload_n 2) 1 79 := And.intro (by decide +kernel) rfl
theorem d_X10_splitText_79 : dk me_X10_splitText 79 (.lastore) 1 80 := And.intro (by decide +kernel) rfl
theorem d_X10_splitText_80 : dk me_X10_splitText 80 (.aload_n 0) 1 81 := And.intro (by decide +kernel) rfl
theorem d_X10_splitText_81 : dk me_X10_splitText 81 (.getfield 19) 3 84 := And.intro (by decide +kernel) rfl
theorem d_X10_splitText_84 : dk me_X10_splitText 84 (.iload_n 1) 1 85 := And.intro (by decide +kernel) rfl
theorem d_X10_splitText_85 : dk me_X10_splitText 85 (.iload 5) 2 87 := And.intro (by decide +kernel) rfl
theorem d_X10_splitText_87 : dk me_X10_splitText 87 (.aload_n 0) 1 88 := And.intro (by decide +kernel) rfl
theorem d_X10_splitText_88 : dk me_X10_splitText 88 (.getfield 29) 3 91 := And.intro (by decide +kernel) rfl
theorem d_X10_splitText_91 : dk me_X10_splitText 91 (.if_icmp .eq 15) 3 94 := And.intro (by decide +kernel) rfl
theorem d_X10_splitText_94 : dk me_X10_splitText 94 (.aload_n 0) 1 95 := And.intro (by decide +kernel) rfl
theorem d_X10_splitText_95 : dk me_X10_splitText 95 (.getfield 9) 3 98 := And.intro (by decide +kernel) rfl
theorem d_X10_splitText_98 : dk me_X10_splitText 98 (.iload 5) 2 100 := And.intro (by decide +kernel) rfl
theorem d_X10_splitText_100 : dk me_X10_splitText 100 (.iaload) 1 101 := And.intro (by decide +kernel) rfl
theorem d_X10_splitText_101 : dk me_X10_splitText 101 (.bipush 47) 2 103 := And.intro (by decide +kernel) rfl
theorem d_X10_splitText_103 : dk me_X10_splitText 103 (.if_icmp .ne 7) 3 106 := And.intro (by decide +kernel) rfl
theorem d_X10_splitText_106 : dk me_X10_splitText 106 (.iconst 1) 1 107 := And.intro (by decide +kernel) rfl
theorem d_X10_splitText_107 : dk me_X10_splitText 107 (.goto 4) 3 110 := And.intro (by decide +kernel) rfl
theorem d_X10_splitText_110 : dk me_X10_splitText 110 (.iconst 0) 1 111 := And.intro (by decide +kernel) rfl
theorem d_X10_splitText_111 : dk me_X10_splitText 111 (.bastore) 1 112 := And.intro (by decide +kernel) rfl
theorem d_X10_splitText_112 : dk me_X10_splitText 112 (.iinc 1 1) 3 115 := And.intro (by decide +kernel) rfl
theorem d_X10_splitText_115 : dk me_X10_splitText 115 (.lconst 0) 1 116 := And.intro (by decide +kernel) rfl
theorem d_X10_splitText_116 : dk me_X10_splitText 116 (.lstore_n 2) 1 117 := And.intro (by decide +kernel) rfl
theorem d_X10_splitText_117 : dk me_X10_splitText 117 (.iconst 0) 1 118 := And.intro (by decide +kernel) rfl
theorem d_X10_splitText_118 : dk me_X10_splitText 118 (.istore 4) 2 120 := And.intro (by decide +kernel) rfl
theorem d_X10_splitText_120 : dk me_X10_splitText 120 (.iinc 5 1) 3 123 := And.intro (by decide +kernel) rfl
theorem d_X10_splitText_123 : dk me_X10_splitText 123 (.goto (-113)) 3 126 := And.intro (by decide +kernel) rfl
theorem d_X10_splitText_126 : dk me_X10_splitText 126 (.iload_n 1) 1 127 := And.intro (by decide +kernel) rfl
theorem d_X10_splitText_127 : dk me_X10_splitText 127 (.ireturn) 1 128 := And.intro (by decide +kernel) rfl
theorem ms_X10_splitText {fx : FX} {m : MM} {l0 : Nat} : MS fx me_X10_splitText [aR (some (10, l0))] m (f_X10_splitText m l0) := by
  refine ms_of rfl mf_X10_splitText (b8 rfl) ?_
  refine s_top ?_
  show Sim fx me_X10_splitText 0 [(0, aR (some (10, l0)))] [] m _
  unfold f_X10_splitText
  have hj_X10_splitText_0_126 : ∀ (m_126 : MM) (l1_126 : Int), Sim fx me_X10_splitText 126 [(1, aI l1_126)] [] m_126 ((j_X10_splitText_0_126 m_126 l1_126).bind (fun z => some z)) := by
    intro m_126 l1_126
    unfold j_X10_splitText_0_126
    exact s_iload_n d_X10_splitText_126 m0_ (s_iret d_X10_splitText_127 rfl rfl)
  refine s_iconst d_X10_splitText_0 n_0 (s_istore_n (L' := [(1, aI 0), (0, aR (some (10, l0)))]) d_X10_splitText_1 (b8 rfl) rfl (s_lconst d_X10_splitText_2 rfl (s_lstore_n (L' := [(2, aL 0), (1, aI 0), (0, aR (some (10, l0)))]) d_X10_splitText_3 (b8 rfl) rfl (s_iconst d_X10_splitText_4 n_0 (s_istore (L' := [(4, aI 0), (2, aL 0), (1, aI 0), (0, aR (some (10, l0)))]) d_X10_splitText_5 (b8 rfl) rfl ?_)))))
  refine s_iconst d_X10_splitText_7 n_0 (s_istore (L' := [(5, aI 0), (4, aI 0), (2, aL 0), (1, aI 0), (0, aR (some (10, l0)))]) d_X10_splitText_8 (b8 rfl) rfl (s_sub (subc m3_ (subc m2_ (subc m1_ (subc m0_ (subc m4_ sub0))))) (s_lp2 (fun s => [(1, aI (s.1)), (2, aL (s.2.1)), (4, aI (s.2.2.1)), (5, aI (s.2.2.2.1)), (0, aR (some (10, l0)))]) (fun s => s.2.2.2.2) (0, 0, 0, 0, m) fun k10 hx10 s ih0 => ?_)))
  obtain ⟨l1_10, l2_10, l4_10, l5_10, mm_10⟩ := s
  have ih10 := ih0
  clear ih0
  try dsimp only
  unfold b_X10_splitText_10
  have hj_X10_splitText_10_111 : ∀ (m_111 : MM) (l1_111 : Int) (l5_111 : Int) (s0_111 : Nat) (s1_111 : Int) (s2_111 : Int), Sim fx me_X10_splitText 111 [(0, aR (some (10, l0))), (1, aI l1_111), (5, aI l5_111)] [aI s2_111, aI s1_111, aR (some (52, s0_111))] m_111 ((j_X10_splitText_10_111 m_111 l0 l1_111 l5_111 s0_111 s1_111 s2_111).bind k10) := by
    intro m_111 l1_111 l5_111 s0_111 s1_111 s2_111
    unfold j_X10_splitText_10_111
    refine s_stB d_X10_splitText_111 ka_52 rfl fun m13 => (s_iinc (L' := [(1, aI (l1_111 + 1)), (0, aR (some (10, l0))), (5, aI l5_111)]) d_X10_splitText_112 m1_ (b8 rfl) rfl (s_lconst d_X10_splitText_115 rfl (s_lstore_n (L' := [(2, aL 0), (1, aI (l1_111 + 1)), (0, aR (some (10, l0))), (5, aI l5_111)]) d_X10_splitText_116 (b8 rfl) rfl (s_iconst d_X10_splitText_117 n_0 (s_istore (L' := [(4, aI 0), (2, aL 0), (1, aI (l1_111 + 1)), (0, aR (some (10, l0))), (5, aI l5_111)]) d_X10_splitText_118 (b8 rfl) rfl ?_)))))
    exact s_iinc (L' := [(5, aI (l5_111 + 1)), (4, aI 0), (2, aL 0), (1, aI (l1_111 + 1)), (0, aR (some (10, l0)))]) d_X10_splitText_120 m4_ (b8 rfl) rfl (s_goto (tgt := 10) d_X10_splitText_123 rfl (s_sub (subc m3_ (subc m2_ (subc m1_ (subc m0_ (subc m4_ sub0))))) (s_back (ih10 ((l1_111 + 1), 0, 0, (l5_111 + 1), m13)))))
  have hj_X10_splitText_10_106 : ∀ (m_106 : MM) (l1_106 : Int) (l5_106 : Int) (s0_106 : Nat) (s1_106 : Int), Sim fx me_X10_splitText 106 [(0, aR (some (10, l0))), (1, aI l1_106), (5, aI l5_106)] [aI s1_106, aR (some (52, s0_106))] m_106 ((j_X10_splitText_10_106 m_106 l0 l1_106 l5_106 s0_106 s1_106).bind k10) := by
    intro m_106 l1_106 l5_106 s0_106 s1_106
    unfold j_X10_splitText_10_106
    exact s_iconst d_X10_splitText_106 n_1 (s_goto (tgt := 111) d_X10_splitText_107 rfl (s_sub (subc m0_ (subc m1_ (subc m2_ sub0))) (hj_X10_splitText_10_111 m_106 l1_106 l5_106 s0_106 s1_106 1)))
  have hj_X10_splitText_10_64 : ∀ (m_64 : MM) (l1_64 : Int) (l2_64 : Int64) (l4_64 : Int) (l5_64 : Int), Sim fx me_X10_splitText 64 [(0, aR (some (10, l0))), (1, aI l1_64), (2, aL l2_64), (4, aI l4_64), (5, aI l5_64)] [] m_64 ((j_X10_splitText_10_64 m_64 l0 l1_64 l2_64 l4_64 l5_64).bind k10) := by
    intro m_64 l1_64 l2_64 l4_64 l5_64
    unfold j_X10_splitText_10_64
    refine s_iload_n d_X10_splitText_64 m1_ (s_aload_n d_X10_splitText_65 m0_ (s_getR cf d_X10_splitText_66 fl_X10_15 (s_nk fun i7 => (s_len d_X10_splitText_69 ka_51 ta_51 (s_icmp_ge (tgt := 120) d_X10_splitText_70 rfl ?_ ?_)))))
    · exact s_iinc (L' := [(5, aI (l5_64 + 1)), (0, aR (some (10, l0))), (1, aI l1_64), (2, aL l2_64), (4, aI l4_64)]) d_X10_splitText_120 m4_ (b8 rfl) rfl (s_goto (tgt := 10) d_X10_splitText_123 rfl (s_sub (subc m2_ (subc m3_ (subc m4_ (subc m0_ (subc m1_ sub0))))) (s_back (ih10 (l1_64, l2_64, l4_64, (l5_64 + 1), m_64)))))
    refine s_aload_n d_X10_splitText_73 m0_ (s_getR cf d_X10_splitText_74 fl_X10_15 (s_nk fun i8 => (s_iload_n d_X10_splitText_77 m1_ (s_lload_n d_X10_splitText_78 m2_ (s_stL d_X10_splitText_79 ka_51 rfl fun m9 => ?_)))))
    refine s_aload_n d_X10_splitText_80 m0_ (s_getR cf d_X10_splitText_81 fl_X10_19 (s_nk fun i10 => (s_iload_n d_X10_splitText_84 m1_ (s_iload d_X10_splitText_85 m4_ (s_aload_n d_X10_splitText_87 m0_ ?_)))))
    refine s_getN cf d_X10_splitText_88 fl_X10_29 (s_icmp_eq (tgt := 106) d_X10_splitText_91 rfl ?_ ?_)
    · exact s_sub (subc m0_ (subc m1_ (subc m4_ sub0))) (hj_X10_splitText_10_106 m9 l1_64 l5_64 i10 l1_64)
    refine s_aload_n d_X10_splitText_94 m0_ (s_getR cf d_X10_splitText_95 fl_X10_9 (s_nk fun i11 => (s_iload d_X10_splitText_98 m4_ (s_ldN d_X10_splitText_100 ka_50 rfl fun v12 => (s_bipush d_X10_splitText_101 n_47 rfl ?_)))))
    refine s_icmp_ne (tgt := 110) d_X10_splitText_103 rfl ?_ ?_
    · exact s_iconst d_X10_splitText_110 n_0 (s_sub (subc m0_ (subc m1_ (subc m4_ sub0))) (hj_X10_splitText_10_111 m9 l1_64 l5_64 i10 l1_64 0))
    exact s_sub (subc m0_ (subc m1_ (subc m4_ sub0))) (hj_X10_splitText_10_106 m9 l1_64 l5_64 i10 l1_64)
  refine s_iload d_X10_splitText_10 m3_ (s_aload_n d_X10_splitText_12 m4_ (s_getN cf d_X10_splitText_13 fl_X10_29 (s_icmp_gt (tgt := 126) d_X10_splitText_16 rfl ?_ ?_)))
  · exact s_exit (hx10 _) (s_sub (subc m0_ sub0) (hj_X10_splitText_0_126 mm_10 l1_10))
  refine s_iload d_X10_splitText_19 m3_ (s_aload_n d_X10_splitText_21 m4_ (s_getN cf d_X10_splitText_22 fl_X10_29 (s_icmp_ge (tgt := 64) d_X10_splitText_25 rfl ?_ ?_)))
  · exact s_sub (subc m4_ (subc m0_ (subc m1_ (subc m2_ (subc m3_ sub0))))) (hj_X10_splitText_10_64 mm_10 l1_10 l2_10 l4_10 l5_10)
  refine s_aload_n d_X10_splitText_28 m4_ (s_getR cf d_X10_splitText_29 fl_X10_9 (s_nk fun i1 => (s_iload d_X10_splitText_32 m3_ (s_ldN d_X10_splitText_34 ka_50 rfl fun v2 => (s_pI (r_SN d_X10_splitText_35 k_X11_isLetter ne_3 rfl rfl) ms_X11_isLetter (b8 rfl) rfl rfl rfl fun v3 => ?_)))))
  refine s_if_eq (tgt := 64) d_X10_splitText_38 rfl ?_ ?_
  · exact s_sub (subc m4_ (subc m0_ (subc m1_ (subc m2_ (subc m3_ sub0))))) (hj_X10_splitText_10_64 mm_10 l1_10 l2_10 l4_10 l5_10)
  refine s_lload_n d_X10_splitText_41 m1_ (s_aload_n d_X10_splitText_42 m4_ (s_getR cf d_X10_splitText_43 fl_X10_9 (s_nk fun i4 => (s_iload d_X10_splitText_46 m3_ (s_ldN d_X10_splitText_48 ka_50 rfl fun v5 => ?_)))))
  refine s_i2l d_X10_splitText_49 (s_bipush d_X10_splitText_50 n_8 rfl (s_iload d_X10_splitText_52 m2_ (s_imul d_X10_splitText_54 rfl rfl (s_ck (s_lshl d_X10_splitText_55 ?_)))))
  refine s_lor d_X10_splitText_56 (s_letL fun v6 => (s_lstore_n (L' := [(2, aL v6), (1, aI l1_10), (4, aI l4_10), (5, aI l5_10), (0, aR (some (10, l0)))]) d_X10_splitText_57 (b8 rfl) rfl (s_iinc (L' := [(4, aI (l4_10 + 1)), (2, aL v6), (1, aI l1_10), (5, aI l5_10), (0, aR (some (10, l0)))]) d_X10_splitText_58 m2_ (b8 rfl) rfl (s_goto (tgt := 120) d_X10_splitText_61 rfl (s_iinc (L' := [(5, aI (l5_10 + 1)), (4, aI (l4_10 + 1)), (2, aL v6), (1, aI l1_10), (0, aR (some (10, l0)))]) d_X10_splitText_120 m3_ (b8 rfl) rfl ?_)))))
  exact s_goto (tgt := 10) d_X10_splitText_123 rfl (s_sub (subc m3_ (subc m2_ (subc m1_ (subc m0_ (subc m4_ sub0))))) (s_back (ih10 (l1_10, v6, (l4_10 + 1), (l5_10 + 1), mm_10))))
