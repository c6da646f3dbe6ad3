set_option maxRecDepth 8000
theorem d_X12_hasPart_0 : dk me_X12_hasPart 0 (.aload_n 0) 1 1 := And.intro (by decide +kernel) rfl
theorem d_X12_hasPart_1 : dk me_X12_hasPart 1 (.getfield 68) 3 4 := And.intro (by decide +kernel) rfl
theorem d_X12_hasPart_4 : dk me_X12_hasPart 4 (.iload_n 1) 1 5 := And.intro (by decide +kernel) rfl
theorem d_X12_hasPart_5 : dk me_X12_hasPart 5 (.iaload) 1 6 := And.intro (by decide +kernel) rfl
theorem d_X12_hasPart_6 : dk me_X12_hasPart 6 (.ifCond .gt 23) 3 9 := And.intro (by decide +kernel) rfl
theorem d_X12_hasPart_9 : dk me_X12_hasPart 9 (.iload_n 2) 1 10 := And.intro (by decide +kernel) rfl
theorem d_X12_hasPart_10 : dk me_X12_hasPart 10 (.ifCond .eq 19) 3 13 := And.intro (by decide +kernel) rfl
theorem d_X12_hasPart_13 : dk me_X12_hasPart 13 (.aload_n 0) 1 14 := And.intro (by decide +kernel) rfl
theorem d_X12_hasPart_14 : dk me_X12_hasPart 14 (.getfield 84) 3 17 := And.intro (by decide +kernel) rfl
theorem d_X12_hasPart_17 : dk me_X12_hasPart 17 (.bipush 16) 2 19 := And.intro (by decide +kernel) rfl
theorem d_X12_hasPart_19 : dk me_X12_hasPart 19 (.iload_n 1) 1 20 := And.intro (by decide +kernel) rfl
theorem d_X12_hasPart_20 : dk me_X12_hasPart 20 (.imul) 1 21 := And.intro (by decide +kernel) rfl
theorem d_X12_hasPart_21 : dk me_X12_hasPart 21 (.iload_n 2) 1 22 := And.intro (by decide +kernel) rfl
theorem d_X12_hasPart_22 : dk me_X12_hasPart 22 (.iadd) 1 23 := And.intro (by decide +kernel) rfl
theorem d_X12_hasPart_23 : dk me_X12_hasPart 23 (.iconst 1) 1 24 := And.intro (by decide +kernel) rfl
theorem d_X12_hasPart_24 : dk me_X12_hasPart 24 (.isub) 1 25 := And.intro (by decide +kernel) rfl
theorem d_X12_hasPart_25 : dk me_X12_hasPart 25 (.baload) 1 26 := And.intro (by decide +kernel) rfl
theorem d_X12_hasPart_26 : dk me_X12_hasPart 26 (.ifCond .eq 7) 3 29 := And.intro (by decide +kernel) rfl
theorem d_X12_hasPart_29 : dk me_X12_hasPart 29 (.iconst 1) 1 30 := And.intro (by decide +kernel) rfl
theorem d_X12_hasPart_30 : dk me_X12_hasPart 30 (.goto 4) 3 33 := And.intro (by decide +kernel) rfl
theorem d_X12_hasPart_33 : dk me_X12_hasPart 33 (.iconst 0) 1 34 := And.intro (by decide +kernel) rfl
theorem d_X12_hasPart_34 : dk me_X12_hasPart 34 (.ireturn) 1 35 := And.intro (by decide +kernel) rfl
theorem ms_X12_hasPart {fx : FX} {m : MM} {l0 : Nat} {l1 : Int} {l2 : Int} : MS fx me_X12_hasPart [aR (some (12, l0)), aI l1, aI l2] m ((f_X12_hasPart m l0 l1 l2).bind fun v => some (.inl (some (aI v)), m)) := by
  refine ms_of rfl mf_X12_hasPart (b8 rfl) ?_
  show Sim fx me_X12_hasPart 0 [(0, aR (some (12, l0))), (1, aI l1), (2, aI l2)] [] m _
  unfold f_X12_hasPart
  refine s_aload_n d_X12_hasPart_0 m0_ (s_getR cf d_X12_hasPart_1 fl_X12_68 (s_nk fun i1 => (s_iload_n d_X12_hasPart_4 m1_ (s_ldN d_X12_hasPart_5 ka_78 rfl fun v2 => (s_if_gt (tgt := 29) d_X12_hasPart_6 rfl ?_ ?_)))))
  · exact s_iconst d_X12_hasPart_29 n_1 (s_goto (tgt := 34) d_X12_hasPart_30 rfl (s_zretl d_X12_hasPart_34 rfl (by decide) rfl))
  refine s_iload_n d_X12_hasPart_9 m2_ (s_if_eq (tgt := 29) d_X12_hasPart_10 rfl ?_ ?_)
  · exact s_iconst d_X12_hasPart_29 n_1 (s_goto (tgt := 34) d_X12_hasPart_30 rfl (s_zretl d_X12_hasPart_34 rfl (by decide) rfl))
  refine s_aload_n d_X12_hasPart_13 m0_ (s_getR cf d_X12_hasPart_14 fl_X12_84 (s_nk fun i3 => (s_bipush d_X12_hasPart_17 n_16 rfl (s_iload_n d_X12_hasPart_19 m1_ (s_imul d_X12_hasPart_20 rfl rfl ?_)))))
  refine s_iload_n d_X12_hasPart_21 m2_ (s_iadd d_X12_hasPart_22 rfl rfl (s_iconst d_X12_hasPart_23 n_1 (s_isub d_X12_hasPart_24 rfl rfl (s_ldB d_X12_hasPart_25 ka_83 rfl fun v4 => (s_if_eq (tgt := 33) d_X12_hasPart_26 rfl ?_ ?_)))))
  · exact s_iconst d_X12_hasPart_33 n_0 (s_zretl d_X12_hasPart_34 rfl (by decide) rfl)
  exact s_iconst d_X12_hasPart_29 n_1 (s_goto (tgt := 34) d_X12_hasPart_30 rfl (s_zretl d_X12_hasPart_34 rfl (by decide) rfl))
theorem d_X12_formOf_0 : dk me_X12_formOf 0 (.aload_n 0) 1 1 := And.intro (by decide +kernel) rfl
theorem d_X12_formOf_1 : dk me_X12_formOf 1 (.getfield 78) 3 4 := And.intro (by decide +kernel) rfl
theorem d_X12_formOf_4 : dk me_X12_formOf 4 (.bipush 60) 2 6 := And.intro (by decide +kernel) rfl
theorem d_X12_formOf_6 : dk me_X12_formOf 6 (.iload_n 1) 1 7 := And.intro (by decide +kernel) rfl
theorem d_X12_formOf_7 : dk me_X12_formOf 7 (.imul) 1 8 := And.intro (by decide +kernel) rfl
theorem d_X12_formOf_8 : dk me_X12_formOf 8 (.iload_n 2) 1 9 := And.intro (by decide +kernel) rfl
theorem d_X12_formOf_9 : dk me_X12_formOf 9 (.iadd) 1 10 := And.intro (by decide +kernel) rfl
theorem d_X12_formOf_10 : dk me_X12_formOf 10 (.laload) 1 11 := And.intro (by decide +kernel) rfl
theorem d_X12_formOf_11 : dk me_X12_formOf 11 (.lstore 5) 2 13 := And.intro (by decide +kernel) rfl
theorem d_X12_formOf_13 : dk me_X12_formOf 13 (.aload_n 0) 1 14 := And.intro (by decide +kernel) rfl
theorem d_X12_formOf_14 : dk me_X12_formOf 14 (.lload 5) 2 16 := And.intro (by decide +kernel) rfl
theorem d_X12_formOf_16 : dk me_X12_formOf 16 (.invokevirtual 284) 3 19 := And.intro (by decide +kernel) rfl
theorem d_X12_formOf_19 : dk me_X12_formOf 19 (.istore 7) 2 21 := And.intro (by decide +kernel) rfl
theorem d_X12_formOf_21 : dk me_X12_formOf 21 (.iload 7) 2 23 := And.intro (by decide +kernel) rfl
theorem d_X12_formOf_23 : dk me_X12_formOf 23 (.iconst (-1)) 1 24 := And.intro (by decide +kernel) rfl
theorem d_X12_formOf_24 : dk me_X12_formOf 24 (.if_icmp .ne 6) 3 27 := And.intro (by decide +kernel) rfl
theorem d_X12_formOf_27 : dk me_X12_formOf 27 (.lload 5) 2 29 := And.intro (by decide +kernel) rfl
theorem d_X12_formOf_29 : dk me_X12_formOf 29 (.lreturn) 1 30 := And.intro (by decide +kernel) rfl
theorem d_X12_formOf_30 : dk me_X12_formOf 30 (.iload 4) 2 32 := And.intro (by decide +kernel) rfl
theorem d_X12_formOf_32 : dk me_X12_formOf 32 (.ifCond .ne 28) 3 35 := And.intro (by decide +kernel) rfl
theorem d_X12_formOf_35 : dk me_X12_formOf 35 (.aload_n 0) 1 36 := And.intro (by decide +kernel) rfl
theorem d_X12_formOf_36 : dk me_X12_formOf 36 (.getfield 35) 3 39 := And.intro (by decide +kernel) rfl
theorem d_X12_formOf_39 : dk me_X12_formOf 39 (.iload_n 3) 1 40 := And.intro (by decide +kernel) rfl
theorem d_X12_formOf_40 : dk me_X12_formOf 40 (.iaload) 1 41 := And.intro (by decide +kernel) rfl
theorem d_X12_formOf_41 : dk me_X12_formOf 41 (.iload 7) 2 43 := And.intro (by decide +kernel) rfl
theorem d_X12_formOf_43 : dk me_X12_formOf 43 (.ishr) 1 44 := And.intro (by decide +kernel) rfl
theorem d_X12_formOf_44 : dk me_X12_formOf 44 (.iconst 1) 1 45 := And.intro (by decide +kernel) rfl
theorem d_X12_formOf_45 : dk me_X12_formOf 45 (.iand) 1 46 := And.intro (by decide +kernel) rfl
theorem d_X12_formOf_46 : dk me_X12_formOf 46 (.iconst 1) 1 47 := And.intro (by decide +kernel) rfl
theorem d_X12_formOf_47 : dk me_X12_formOf 47 (.if_icmp .ne 13) 3 50 := And.intro (by decide +kernel) rfl
theorem d_X12_formOf_50 : dk me_X12_formOf 50 (.aload_n 0) 1 51 := And.intro (by decide +kernel) rfl
theorem d_X12_formOf_51 : dk me_X12_formOf 51 (.getfield 17) 3 54 := And.intro (by decide +kernel) rfl
theorem d_X12_formOf_54 : dk me_X12_formOf 54 (.iload 7) 2 56 := And.intro (by decide +kernel) rfl
theorem d_X12_formOf_56 : dk me_X12_formOf 56 (.laload) 1 57 := And.intro (by decide +kernel) rfl
theorem d_X12_formOf_57 : dk me_X12_formOf 57 (.goto 10) 3 60 := And.intro (by decide +kernel) rfl
theorem d_X12_formOf_60 : dk me_X12_formOf 60 (.aload_n 0) 1 61 := And.intro (by decide +kernel) rfl
theorem d_X12_formOf_61 : dk me_X12_formOf 61 (.getfield 13) 3 64 := And.intro (by decide +kernel) rfl
theorem d_X12_formOf_64 : dk me_X12_formOf 64 (.iload 7) 2 66 := And.intro (by decide +kernel) rfl
theorem d_X12_formOf_66 : dk me_X12_formOf 66 (.laload) 1 67 := And.intro (by decide +kernel) rfl
theorem d_X12_formOf_67 : dk me_X12_formOf 67 (.lreturn) 1 68 := And.intro (by decide +kernel) rfl
theorem ms_X12_formOf {fx : FX} {m : MM} {l0 : Nat} {l1 : Int} {l2 : Int} {l3 : Int} {l4 : Int} : MS fx me_X12_formOf [aR (some (12, l0)), aI l1, aI l2, aI l3, aI l4] m ((f_X12_formOf m l0 l1 l2 l3 l4).bind fun v => some (.inl (some (aL v)), m)) := by
  refine ms_of rfl mf_X12_formOf (b8 rfl) ?_
  show Sim fx me_X12_formOf 0 [(0, aR (some (12, l0))), (1, aI l1), (2, aI l2), (3, aI l3), (4, aI l4)] [] m _
  unfold f_X12_formOf
  have hj_X12_formOf_0_60 : ∀ (l0_60 : Nat) (l7_60 : Int), Sim fx me_X12_formOf 60 [(0, aR (some (12, l0_60))), (7, aI l7_60)] [] m ((j_X12_formOf_0_60 m l0_60 l7_60).bind (fun v => some (.inl (some (aL v)), m))) := by
    intro l0_60 l7_60
    unfold j_X12_formOf_0_60
    exact s_aload_n d_X12_formOf_60 m0_ (s_getR cf d_X12_formOf_61 fl_X12_13 (s_nk fun i8 => (s_iload d_X12_formOf_64 m1_ (s_ldL d_X12_formOf_66 ka_60 rfl fun v9 => (s_lret d_X12_formOf_67 rfl rfl)))))
  refine s_aload_n d_X12_formOf_0 m0_ (s_getR cf d_X12_formOf_1 fl_X12_78 (s_nk fun i1 => (s_bipush d_X12_formOf_4 n_60 rfl (s_iload_n d_X12_formOf_6 m1_ (s_imul d_X12_formOf_7 rfl rfl ?_)))))
  refine s_iload_n d_X12_formOf_8 m2_ (s_iadd d_X12_formOf_9 rfl rfl (s_ldL d_X12_formOf_10 ka_81 rfl fun v2 => (s_lstore (L' := [(5, aL v2), (0, aR (some (12, l0))), (1, aI l1), (2, aI l2), (3, aI l3), (4, aI l4)]) d_X12_formOf_11 (b8 rfl) rfl (s_aload_n d_X12_formOf_13 m1_ (s_lload d_X12_formOf_14 m0_ ?_)))))
  refine s_pI (r_V d_X12_formOf_16 k_X12_spellingOf w_1711 rfl rfl) ms_X12_spellingOf (b8 rfl) rfl rfl rfl fun v3 => (s_istore (L' := [(7, aI v3), (5, aL v2), (0, aR (some (12, l0))), (1, aI l1), (2, aI l2), (3, aI l3), (4, aI l4)]) d_X12_formOf_19 (b8 rfl) rfl (s_iload d_X12_formOf_21 m0_ (s_iconst d_X12_formOf_23 n_m1 (s_icmp_ne (tgt := 30) d_X12_formOf_24 rfl ?_ ?_))))
  · refine s_iload d_X12_formOf_30 m6_ (s_if_ne (tgt := 60) d_X12_formOf_32 rfl ?_ ?_)
    · exact s_sub (subc m2_ (subc m0_ sub0)) (hj_X12_formOf_0_60 l0 v3)
    refine s_aload_n d_X12_formOf_35 m2_ (s_getR cf d_X12_formOf_36 fl_X12_35 (s_nk fun i4 => (s_iload_n d_X12_formOf_39 m5_ (s_ldN d_X12_formOf_40 ka_67 rfl fun v5 => (s_iload d_X12_formOf_41 m0_ ?_)))))
    refine s_ishr d_X12_formOf_43 (s_iconst d_X12_formOf_44 n_1 (s_iand d_X12_formOf_45 (s_iconst d_X12_formOf_46 n_1 (s_icmp_ne (tgt := 60) d_X12_formOf_47 rfl ?_ ?_))))
    · exact s_sub (subc m2_ (subc m0_ sub0)) (hj_X12_formOf_0_60 l0 v3)
    refine s_aload_n d_X12_formOf_50 m2_ (s_getR cf d_X12_formOf_51 fl_X12_17 (s_nk fun i6 => (s_iload d_X12_formOf_54 m0_ (s_ldL d_X12_formOf_56 ka_61 rfl fun v7 => (s_goto (tgt := 67) d_X12_formOf_57 rfl ?_)))))
    exact s_lret d_X12_formOf_67 rfl rfl
  exact s_lload d_X12_formOf_27 m1_ (s_lret d_X12_formOf_29 rfl rfl)
theorem d_X12_sameBehind_0 : dk me_X12_sameBehind 0 (.iload_n 2) 1 1 := And.intro (by decide +kernel) rfl
theorem d_X12_sameBehind_1 : dk me_X12_sameBehind 1 (.iconst 1) 1 2 := And.intro (by decide +kernel) rfl
theorem d_X12_sameBehind_2 : dk me_X12_sameBehind 2 (.iadd) 1 3 := And.intro (by decide +kernel) rfl
theorem d_X12_sameBehind_3 : dk me_X12_sameBehind 3 (.istore 4) 2 5 := And.intro (by decide +kernel) rfl
theorem d_X12_sameBehind_5 : dk me_X12_sameBehind 5 (.iload 4) 2 7 := And.intro (by decide +kernel) rfl
theorem d_X12_sameBehind_7 : dk me_X12_sameBehind 7 (.iload_n 2) 1 8 := And.intro (by decide +kernel) rfl
theorem d_X12_sameBehind_8 : dk me_X12_sameBehind 8 (.iconst 4) 1 9 := And.intro (by decide +kernel) rfl
theorem d_X12_sameBehind_9 : dk me_X12_sameBehind 9 (.iadd) 1 10 := And.intro (by decide +kernel) rfl
theorem d_X12_sameBehind_10 : dk me_X12_sameBehind 10 (.if_icmp .gt 45) 3 13 := And.intro (by decide +kernel) rfl
theorem d_X12_sameBehind_13 : dk me_X12_sameBehind 13 (.iload 4) 2 15 := And.intro (by decide +kernel) rfl
theorem d_X12_sameBehind_15 : dk me_X12_sameBehind 15 (.iload_n 3) 1 16 := And.intro (by decide +kernel) rfl
theorem d_X12_sameBehind_16 : dk me_X12_sameBehind 16 (.if_icmp .ge 39) 3 19 := And.intro (by decide +kernel) rfl
theorem d_X12_sameBehind_19 : dk me_X12_sameBehind 19 (.aload_n 0) 1 20 := And.intro (by decide +kernel) rfl
theorem d_X12_sameBehind_20 : dk me_X12_sameBehind 20 (.getfield 78) 3 23 := And.intro (by decide +kernel) rfl
theorem d_X12_sameBehind_23 : dk me_X12_sameBehind 23 (.bipush 60) 2 25 := And.intro (by decide +kernel) rfl
theorem d_X12_sameBehind_25 : dk me_X12_sameBehind 25 (.iload_n 1) 1 26 := And.intro (by decide +kernel) rfl
theorem d_X12_sameBehind_26 : dk me_X12_sameBehind 26 (.imul) 1 27 := And.intro (by decide +kernel) rfl
theorem d_X12_sameBehind_27 : dk me_X12_sameBehind 27 (.iload 4) 2 29 := And.intro (by decide +kernel) rfl
theorem d_X12_sameBehind_29 : dk me_X12_sameBehind 29 (.iadd) 1 30 := And.intro (by decide +kernel) rfl
theorem d_X12_sameBehind_30 : dk me_X12_sameBehind 30 (.laload) 1 31 := And.intro (by decide +kernel) rfl
theorem d_X12_sameBehind_31 : dk me_X12_sameBehind 31 (.aload_n 0) 1 32 := And.intro (by decide +kernel) rfl
theorem d_X12_sameBehind_32 : dk me_X12_sameBehind 32 (.getfield 78) 3 35 := And.intro (by decide +kernel) rfl
theorem d_X12_sameBehind_35 : dk me_X12_sameBehind 35 (.bipush 60) 2 37 := And.intro (by decide +kernel) rfl
theorem d_X12_sameBehind_37 : dk me_X12_sameBehind 37 (.iload_n 1) 1 38 := And.intro (by decide +kernel) rfl
theorem d_X12_sameBehind_38 : dk me_X12_sameBehind 38 (.imul) 1 39 := And.intro (by decide +kernel) rfl
theorem d_X12_sameBehind_39 : dk me_X12_sameBehind 39 (.iload_n 2) 1 40 := And.intro (by decide +kernel) rfl
theorem d_X12_sameBehind_40 : dk me_X12_sameBehind 40 (.iadd) 1 41 := And.intro (by decide +kernel) rfl
theorem d_X12_sameBehind_41 : dk me_X12_sameBehind 41 (.laload) 1 42 := And.intro (by decide +kernel) rfl
theorem d_X12_sameBehind_42 : dk me_X12_sameBehind 42 (.lcmp) 1 43 := And.intro (by decide +kernel) rfl
theorem d_X12_sameBehind_43 : dk me_X12_sameBehind 43 (.ifCond .ne 6) 3 46 := And.intro (by decide +kernel) rfl
theorem d_X12_sameBehind_46 : dk me_X12_sameBehind 46 (.iload 4) 2 48 := And.intro (by decide +kernel) rfl
theorem d_X12_sameBehind_48 : dk me_X12_sameBehind 48 (.ireturn) 1 49 := And.intro (by decide +kernel) rfl
theorem d_X12_sameBehind_49 : dk me_X12_sameBehind 49 (.iinc 4 1) 3 52 := And.intro (by decide +kernel) rfl
theorem d_X12_sameBehind_52 : dk me_X12_sameBehind 52 (.goto (-47)) 3 55 := And.intro (by decide +kernel) rfl
theorem d_X12_sameBehind_55 : dk me_X12_sameBehind 55 (.iconst (-1)) 1 56 := And.intro (by decide +kernel) rfl
theorem d_X12_sameBehind_56 : dk me_X12_sameBehind 56 (.ireturn) 1 57 := And.intro (by decide +kernel) rfl
theorem ms_X12_sameBehind {fx : FX} {m : MM} {l0 : Nat} {l1 : Int} {l2 : Int} {l3 : Int} : MS fx me_X12_sameBehind [aR (some (12, l0)), aI l1, aI l2, aI l3] m ((f_X12_sameBehind m l0 l1 l2 l3).bind fun v => some (.inl (some (aI v)), m)) := by
  refine ms_of rfl mf_X12_sameBehind (b8 rfl) ?_
  show Sim fx me_X12_sameBehind 0 [(0, aR (some (12, l0))), (1, aI l1), (2, aI l2), (3, aI l3)] [] m _
  unfold f_X12_sameBehind
  have hj_X12_sameBehind_0_55 : Sim fx me_X12_sameBehind 55 [] [] m ((j_X12_sameBehind_0_55 m).bind (fun v => some (.inl (some (aI v)), m))) := by
    unfold j_X12_sameBehind_0_55
    exact s_iconst d_X12_sameBehind_55 n_m1 (s_iret d_X12_sameBehind_56 rfl rfl)
  refine s_iload_n d_X12_sameBehind_0 m2_ (s_iconst d_X12_sameBehind_1 n_1 (s_iadd d_X12_sameBehind_2 rfl rfl (s_ck (s_istore (L' := [(4, aI (l2 + 1)), (0, aR (some (12, l0))), (1, aI l1), (2, aI l2), (3, aI l3)]) d_X12_sameBehind_3 (b8 rfl) rfl (s_sub (subc m0_ (subc m1_ (subc m2_ (subc m3_ (subc m4_ sub0))))) (s_lp2 (fun s => [(4, aI s), (0, aR (some (12, l0))), (1, aI l1), (2, aI l2), (3, aI l3)]) (fun s => m) (l2 + 1) fun k5 hx5 s ih0 => ?_))))))
  obtain ⟨l4_5, rfl⟩ : ∃ q, q = s := ⟨s, rfl⟩
  have ih5 := ih0
  clear ih0
  try dsimp only
  unfold b_X12_sameBehind_5
  refine s_iload d_X12_sameBehind_5 m0_ (s_iload_n d_X12_sameBehind_7 m3_ (s_iconst d_X12_sameBehind_8 n_4 (s_iadd d_X12_sameBehind_9 rfl rfl (s_ck (s_icmp_gt (tgt := 55) d_X12_sameBehind_10 rfl ?_ ?_)))))
  · exact s_exit (hx5 _) (s_sub (sub0) (hj_X12_sameBehind_0_55 ))
  refine s_iload d_X12_sameBehind_13 m0_ (s_iload_n d_X12_sameBehind_15 m4_ (s_icmp_ge (tgt := 55) d_X12_sameBehind_16 rfl ?_ ?_))
  · exact s_exit (hx5 _) (s_sub (sub0) (hj_X12_sameBehind_0_55 ))
  refine s_aload_n d_X12_sameBehind_19 m1_ (s_getR cf d_X12_sameBehind_20 fl_X12_78 (s_nk fun i1 => (s_bipush d_X12_sameBehind_23 n_60 rfl (s_iload_n d_X12_sameBehind_25 m2_ (s_imul d_X12_sameBehind_26 rfl rfl ?_)))))
  refine s_iload d_X12_sameBehind_27 m0_ (s_iadd d_X12_sameBehind_29 rfl rfl (s_ldL d_X12_sameBehind_30 ka_81 rfl fun v2 => (s_aload_n d_X12_sameBehind_31 m1_ (s_getR cf d_X12_sameBehind_32 fl_X12_78 (s_nk fun i3 => ?_)))))
  refine s_bipush d_X12_sameBehind_35 n_60 rfl (s_iload_n d_X12_sameBehind_37 m2_ (s_imul d_X12_sameBehind_38 rfl rfl (s_iload_n d_X12_sameBehind_39 m3_ (s_iadd d_X12_sameBehind_40 rfl rfl (s_ldL d_X12_sameBehind_41 ka_81 rfl fun v4 => ?_)))))
  refine s_lcmp d_X12_sameBehind_42 (s_if_ne (tgt := 49) d_X12_sameBehind_43 rfl ?_ ?_)
  · exact s_iinc (L' := [(4, aI (l4_5 + 1)), (0, aR (some (12, l0))), (1, aI l1), (2, aI l2), (3, aI l3)]) d_X12_sameBehind_49 m0_ (b8 rfl) rfl (s_goto (tgt := 5) d_X12_sameBehind_52 rfl (s_sub (subc m0_ (subc m1_ (subc m2_ (subc m3_ (subc m4_ sub0))))) (s_back (ih5 (l4_5 + 1)))))
  exact s_iload d_X12_sameBehind_46 m0_ (s_iret d_X12_sameBehind_48 rfl ((hx5 _).trans rfl))
theorem d_X12_laysLines_0 : dk me_X12_laysLines 0 (.iload 4) 2 2 := And.intro (by decide +kernel) rfl
theorem d_X12_laysLines_2 : dk me_X12_laysLines 2 (.istore 7) 2 4 := And.intro (by decide +kernel) rfl
theorem d_X12_laysLines_4 : dk me_X12_laysLines 4 (.aload_n 0) 1 5 := And.intro (by decide +kernel) rfl
theorem d_X12_laysLines_5 : dk me_X12_laysLines 5 (.getfield 102) 3 8 := And.intro (by decide +kernel) rfl
theorem d_X12_laysLines_8 : dk me_X12_laysLines 8 (.iload_n 2) 1 9 := And.intro (by decide +kernel) rfl
theorem d_X12_laysLines_9 : dk me_X12_laysLines 9 (.iconst 0) 1 10 := And.intro (by decide +kernel) rfl
theorem d_X12_laysLines_10 : dk me_X12_laysLines 10 (.iastore) 1 11 := And.intro (by decide +kernel) rfl
theorem d_X12_laysLines_11 : dk me_X12_laysLines 11 (.aload_n 0) 1 12 := And.intro (by decide +kernel) rfl
theorem d_X12_laysLines_12 : dk me_X12_laysLines 12 (.getfield 99) 3 15 := And.intro (by decide +kernel) rfl
theorem d_X12_laysLines_15 : dk me_X12_laysLines 15 (.iload_n 2) 1 16 := And.intro (by decide +kernel) rfl
theorem d_X12_laysLines_16 : dk me_X12_laysLines 16 (.iconst 0) 1 17 := And.intro (by decide +kernel) rfl
theorem d_X12_laysLines_17 : dk me_X12_laysLines 17 (.iastore) 1 18 := And.intro (by decide +kernel) rfl
theorem d_X12_laysLines_18 : dk me_X12_laysLines 18 (.aload_n 0) 1 19 := And.intro (by decide +kernel) rfl
theorem d_X12_laysLines_19 : dk me_X12_laysLines 19 (.getfield 99) 3 22 := And.intro (by decide +kernel) rfl
theorem d_X12_laysLines_22 : dk me_X12_laysLines 22 (.iload_n 2) 1 23 := And.intro (by decide +kernel) rfl
theorem d_X12_laysLines_23 : dk me_X12_laysLines 23 (.iaload) 1 24 := And.intro (by decide +kernel) rfl
theorem d_X12_laysLines_24 : dk me_X12_laysLines 24 (.aload_n 0) 1 25 := And.intro (by decide +kernel) rfl
theorem d_X12_laysLines_25 : dk me_X12_laysLines 25 (.getfield 62) 3 28 := And.intro (by decide +kernel) rfl
theorem d_X12_laysLines_28 : dk me_X12_laysLines 28 (.iload_n 1) 1 29 := And.intro (by decide +kernel) rfl
theorem d_X12_laysLines_29 : dk me_X12_laysLines 29 (.iaload) 1 30 := And.intro (by decide +kernel) rfl
theorem d_X12_laysLines_30 : dk me_X12_laysLines 30 (.if_icmp .ge 365) 3 33 := And.intro (by decide +kernel) rfl
theorem d_X12_laysLines_33 : dk me_X12_laysLines 33 (.iload 7) 2 35 := And.intro (by decide +kernel) rfl
theorem d_X12_laysLines_35 : dk me_X12_laysLines 35 (.iload 5) 2 37 := And.intro (by decide +kernel) rfl
theorem d_X12_laysLines_37 : dk me_X12_laysLines 37 (.if_icmp .ge 358) 3 40 := And.intro (by decide +kernel) rfl
theorem d_X12_laysLines_40 : dk me_X12_laysLines 40 (.bipush 6) 2 42 := And.intro (by decide +kernel) rfl
theorem d_X12_laysLines_42 : dk me_X12_laysLines 42 (.iload_n 2) 1 43 := And.intro (by decide +kernel) rfl
theorem d_X12_laysLines_43 : dk me_X12_laysLines 43 (.imul) 1 44 := And.intro (by decide +kernel) rfl
theorem d_X12_laysLines_44 : dk me_X12_laysLines 44 (.aload_n 0) 1 45 := And.intro (by decide +kernel) rfl
theorem d_X12_laysLines_45 : dk me_X12_laysLines 45 (.getfield 99) 3 48 := And.intro (by decide +kernel) rfl
theorem d_X12_laysLines_48 : dk me_X12_laysLines 48 (.iload_n 2) 1 49 := And.intro (by decide +kernel) rfl
theorem d_X12_laysLines_49 : dk me_X12_laysLines 49 (.iaload) 1 50 := And.intro (by decide +kernel) rfl
theorem d_X12_laysLines_50 : dk me_X12_laysLines 50 (.iadd) 1 51 := And.intro (by decide +kernel) rfl
theorem d_X12_laysLines_51 : dk me_X12_laysLines 51 (.istore 8) 2 53 := And.intro (by decide +kernel) rfl
theorem d_X12_laysLines_53 : dk me_X12_laysLines 53 (.aload_n 0) 1 54 := And.intro (by decide +kernel) rfl
theorem d_X12_laysLines_54 : dk me_X12_laysLines 54 (.getfield 108) 3 57 := And.intro (by decide +kernel) rfl
theorem d_X12_laysLines_57 : dk me_X12_laysLines 57 (.iload 8) 2 59 := And.intro (by decide +kernel) rfl
theorem d_X12_laysLines_59 : dk me_X12_laysLines 59 (.aload_n 0) 1 60 := And.intro (by decide +kernel) rfl
theorem d_X12_laysLines_60 : dk me_X12_laysLines 60 (.getfield 102) 3 63 := And.intro (by decide +kernel) rfl
theorem d_X12_laysLines_63 : dk me_X12_laysLines 63 (.iload_n 2) 1 64 := And.intro (by decide +kernel) rfl
theorem d_X12_laysLines_64 : dk me_X12_laysLines 64 (.iaload) 1 65 := And.intro (by decide +kernel) rfl
theorem d_X12_laysLines_65 : dk me_X12_laysLines 65 (.iastore) 1 66 := And.intro (by decide +kernel) rfl
theorem d_X12_laysLines_66 : dk me_X12_laysLines 66 (.aload_n 0) 1 67 := And.intro (by decide +kernel) rfl
theorem d_X12_laysLines_67 : dk me_X12_laysLines 67 (.getfield 111) 3 70 := And.intro (by decide +kernel) rfl
theorem d_X12_laysLines_70 : dk me_X12_laysLines 70 (.iload 8) 2 72 := And.intro (by decide +kernel) rfl
theorem d_X12_laysLines_72 : dk me_X12_laysLines 72 (.iconst 0) 1 73 := And.intro (by decide +kernel) rfl
theorem d_X12_laysLines_73 : dk me_X12_laysLines 73 (.iastore) 1 74 := And.intro (by decide +kernel) rfl
theorem d_X12_laysLines_74 : dk me_X12_laysLines 74 (.aload_n 0) 1 75 := And.intro (by decide +kernel) rfl
theorem d_X12_laysLines_75 : dk me_X12_laysLines 75 (.getfield 117) 3 78 := And.intro (by decide +kernel) rfl
theorem d_X12_laysLines_78 : dk me_X12_laysLines 78 (.iload 8) 2 80 := And.intro (by decide +kernel) rfl
theorem d_X12_laysLines_80 : dk me_X12_laysLines 80 (.iconst 0) 1 81 := And.intro (by decide +kernel) rfl
theorem d_X12_laysLines_81 : dk me_X12_laysLines 81 (.iastore) 1 82 := And.intro (by decide +kernel) rfl
theorem d_X12_laysLines_82 : dk me_X12_laysLines 82 (.iconst 0) 1 83 := And.intro (by decide +kernel) rfl
theorem d_X12_laysLines_83 : dk me_X12_laysLines 83 (.istore 9) 2 85 := And.intro (by decide +kernel) rfl
theorem d_X12_laysLines_85 : dk me_X12_laysLines 85 (.iconst 0) 1 86 := And.intro (by decide +kernel) rfl
theorem d_X12_laysLines_86 : dk me_X12_laysLines 86 (.istore 10) 2 88 := And.intro (by decide +kernel) rfl
theorem d_X12_laysLines_88 : dk me_X12_laysLines 88 (.iload 10) 2 90 := And.intro (by decide +kernel) rfl
theorem d_X12_laysLines_90 : dk me_X12_laysLines 90 (.ifCond .ne 276) 3 93 := And.intro (by decide +kernel) rfl
theorem d_X12_laysLines_93 : dk me_X12_laysLines 93 (.aload_n 0) 1 94 := And.intro (by decide +kernel) rfl
theorem d_X12_laysLines_94 : dk me_X12_laysLines 94 (.getfield 111) 3 97 := And.intro (by decide +kernel) rfl
theorem d_X12_laysLines_97 : dk me_X12_laysLines 97 (.iload 8) 2 99 := And.intro (by decide +kernel) rfl
theorem d_X12_laysLines_99 : dk me_X12_laysLines 99 (.iaload) 1 100 := And.intro (by decide +kernel) rfl
theorem d_X12_laysLines_100 : dk me_X12_laysLines 100 (.ifCond .le 7) 3 103 := And.intro (by decide +kernel) rfl
theorem d_X12_laysLines_103 : dk me_X12_laysLines 103 (.iconst 1) 1 104 := And.intro (by decide +kernel) rfl
theorem d_X12_laysLines_104 : dk me_X12_laysLines 104 (.goto 4) 3 107 := And.intro (by decide +kernel) rfl
theorem d_X12_laysLines_107 : dk me_X12_laysLines 107 (.iconst 0) 1 108 := And.intro (by decide +kernel) rfl
theorem d_X12_laysLines_108 : dk me_X12_laysLines 108 (.istore 11) 2 110 := And.intro (by decide +kernel) rfl
theorem d_X12_laysLines_110 : dk me_X12_laysLines 110 (.aload_n 0) 1 111 := And.intro (by decide +kernel) rfl
theorem d_X12_laysLines_111 : dk me_X12_laysLines 111 (.iload_n 1) 1 112 := And.intro (by decide +kernel) rfl
theorem d_X12_laysLines_112 : dk me_X12_laysLines 112 (.iload 7) 2 114 := And.intro (by decide +kernel) rfl
theorem d_X12_laysLines_114 : dk me_X12_laysLines 114 (.iload_n 3) 1 115 := And.intro (by decide +kernel) rfl
theorem d_X12_laysLines_115 : dk me_X12_laysLines 115 (.iload 6) 2 117 := And.intro (by decide +kernel) rfl
theorem d_X12_laysLines_117 : dk me_X12_laysLines 117 (.invokevirtual 308) 3 120 := And.intro (by decide +kernel) rfl
theorem d_X12_laysLines_120 : dk me_X12_laysLines 120 (.lstore 12) 2 122 := And.intro (by decide +kernel) rfl
theorem d_X12_laysLines_122 : dk me_X12_laysLines 122 (.iload 9) 2 124 := And.intro (by decide +kernel) rfl
theorem d_X12_laysLines_124 : dk me_X12_laysLines 124 (.iload 11) 2 126 := And.intro (by decide +kernel) rfl
theorem d_X12_laysLines_126 : dk me_X12_laysLines 126 (.iadd) 1 127 := And.intro (by decide +kernel) rfl
theorem d_X12_laysLines_127 : dk me_X12_laysLines 127 (.lload 12) 2 129 := And.intro (by decide +kernel) rfl
theorem d_X12_laysLines_129 : dk me_X12_laysLines 129 (.invokestatic 280) 3 132 := And.intro (by decide +kernel) rfl
theorem d_X12_laysLines_132 : dk me_X12_laysLines 132 (.iadd) 1 133 := And.intro (by decide +kernel) rfl
theorem d_X12_laysLines_133 : dk me_X12_laysLines 133 (.aload_n 0) 1 134 := And.intro (by decide +kernel) rfl
theorem d_X12_laysLines_134 : dk me_X12_laysLines 134 (.getfield 59) 3 137 := And.intro (by decide +kernel) rfl
theorem d_X12_laysLines_137 : dk me_X12_laysLines 137 (.iload_n 1) 1 138 := And.intro (by decide +kernel) rfl
theorem d_X12_laysLines_138 : dk me_X12_laysLines 138 (.iaload) 1 139 := And.intro (by decide +kernel) rfl
theorem d_X12_laysLines_139 : dk me_X12_laysLines 139 (.if_icmp .le 14) 3 142 := And.intro (by decide +kernel) rfl
theorem d_X12_laysLines_142 : dk me_X12_laysLines 142 (.aload_n 0) 1 143 := And.intro (by decide +kernel) rfl
theorem d_X12_laysLines_143 : dk me_X12_laysLines 143 (.iload_n 1) 1 144 := And.intro (by decide +kernel) rfl
theorem d_X12_laysLines_144 : dk me_X12_laysLines 144 (.iload 7) 2 146 := And.intro (by decide +kernel) rfl
theorem d_X12_laysLines_146 : dk me_X12_laysLines 146 (.iload_n 3) 1 147 := And.intro (by decide +kernel) rfl
theorem d_X12_laysLines_147 : dk me_X12_laysLines 147 (.iconst 1) 1 148 := And.intro (by decide +kernel) rfl
theorem d_X12_laysLines_148 : dk me_X12_laysLines 148 (.invokevirtual 308) 3 151 := And.intro (by decide +kernel) rfl
theorem d_X12_laysLines_151 : dk me_X12_laysLines 151 (.lstore 12) 2 153 := And.intro (by decide +kernel) rfl
theorem d_X12_laysLines_153 : dk me_X12_laysLines 153 (.iload 9) 2 155 := And.intro (by decide +kernel) rfl
theorem d_X12_laysLines_155 : dk me_X12_laysLines 155 (.iload 11) 2 157 := And.intro (by decide +kernel) rfl
theorem d_X12_laysLines_157 : dk me_X12_laysLines 157 (.iadd) 1 158 := And.intro (by decide +kernel) rfl
theorem d_X12_laysLines_158 : dk me_X12_laysLines 158 (.lload 12) 2 160 := And.intro (by decide +kernel) rfl
theorem d_X12_laysLines_160 : dk me_X12_laysLines 160 (.invokestatic 280) 3 163 := And.intro (by decide +kernel) rfl
theorem d_X12_laysLines_163 : dk me_X12_laysLines 163 (.iadd) 1 164 := And.intro (by decide +kernel) rfl
theorem d_X12_laysLines_164 : dk me_X12_laysLines 164 (.aload_n 0) 1 165 := And.intro (by decide +kernel) rfl
theorem d_X12_laysLines_165 : dk me_X12_laysLines 165 (.getfield 59) 3 168 := And.intro (by decide +kernel) rfl
theorem d_X12_laysLines_168 : dk me_X12_laysLines 168 (.iload_n 1) 1 169 := And.intro (by decide +kernel) rfl
theorem d_X12_laysLines_169 : dk me_X12_laysLines 169 (.iaload) 1 170 := And.intro (by decide +kernel) rfl
theorem d_X12_laysLines_170 : dk me_X12_laysLines 170 (.if_icmp .le 17) 3 173 := And.intro (by decide +kernel) rfl
theorem d_X12_laysLines_173 : dk me_X12_laysLines 173 (.aload_n 0) 1 174 := And.intro (by decide +kernel) rfl
theorem d_X12_laysLines_174 : dk me_X12_laysLines 174 (.getfield 117) 3 177 := And.intro (by decide +kernel) rfl
theorem d_X12_laysLines_177 : dk me_X12_laysLines 177 (.iload 8) 2 179 := And.intro (by decide +kernel) rfl
theorem d_X12_laysLines_179 : dk me_X12_laysLines 179 (.iconst 1) 1 180 := And.intro (by decide +kernel) rfl
theorem d_X12_laysLines_180 : dk me_X12_laysLines 180 (.iastore) 1 181 := And.intro (by decide +kernel) rfl
theorem d_X12_laysLines_181 : dk me_X12_laysLines 181 (.iconst 1) 1 182 := And.intro (by decide +kernel) rfl
theorem d_X12_laysLines_182 : dk me_X12_laysLines 182 (.istore 10) 2 184 := And.intro (by decide +kernel) rfl
theorem d_X12_laysLines_184 : dk me_X12_laysLines 184 (.goto 179) 3 187 := And.intro (by decide +kernel) rfl
theorem d_X12_laysLines_187 : dk me_X12_laysLines 187 (.bipush 60) 2 189 := And.intro (by decide +kernel) rfl
theorem d_X12_laysLines_189 : dk me_X12_laysLines 189 (.iload_n 2) 1 190 := And.intro (by decide +kernel) rfl
theorem d_X12_laysLines_190 : dk me_X12_laysLines 190 (.imul) 1 191 := And.intro (by decide +kernel) rfl
theorem d_X12_laysLines_191 : dk me_X12_laysLines 191 (.aload_n 0) 1 192 := And.intro (by decide +kernel) rfl
theorem d_X12_laysLines_192 : dk me_X12_laysLines 192 (.getfield 102) 3 195 := And.intro (by decide +kernel) rfl
theorem d_X12_laysLines_195 : dk me_X12_laysLines 195 (.iload_n 2) 1 196 := And.intro (by decide +kernel) rfl
theorem d_X12_laysLines_196 : dk me_X12_laysLines 196 (.iaload) 1 197 := And.intro (by decide +kernel) rfl
theorem d_X12_laysLines_197 : dk me_X12_laysLines 197 (.iadd) 1 198 := And.intro (by decide +kernel) rfl
theorem d_X12_laysLines_198 : dk me_X12_laysLines 198 (.istore 14) 2 200 := And.intro (by decide +kernel) rfl
theorem d_X12_laysLines_200 : dk me_X12_laysLines 200 (.aload_n 0) 1 201 := And.intro (by decide +kernel) rfl
theorem d_X12_laysLines_201 : dk me_X12_laysLines 201 (.getfield 120) 3 204 := And.intro (by decide +kernel) rfl
theorem d_X12_laysLines_204 : dk me_X12_laysLines 204 (.iload 14) 2 206 := And.intro (by decide +kernel) rfl
theorem d_X12_laysLines_206 : dk me_X12_laysLines 206 (.iload 7) 2 208 := And.intro (by decide +kernel) rfl
theorem d_X12_laysLines_208 : dk me_X12_laysLines 208 (.iastore) 1 209 := And.intro (by decide +kernel) rfl
theorem d_X12_laysLines_209 : dk me_X12_laysLines 209 (.aload_n 0) 1 210 := And.intro (by decide +kernel) rfl
theorem d_X12_laysLines_210 : dk me_X12_laysLines 210 (.getfield 123) 3 213 := And.intro (by decide +kernel) rfl
theorem d_X12_laysLines_213 : dk me_X12_laysLines 213 (.iload 14) 2 215 := And.intro (by decide +kernel) rfl
theorem d_X12_laysLines_215 : dk me_X12_laysLines 215 (.lload 12) 2 217 := And.intro (by decide +kernel) rfl
theorem d_X12_laysLines_217 : dk me_X12_laysLines 217 (.lastore) 1 218 := And.intro (by decide +kernel) rfl
theorem d_X12_laysLines_218 : dk me_X12_laysLines 218 (.aload_n 0) 1 219 := And.intro (by decide +kernel) rfl
theorem d_X12_laysLines_219 : dk me_X12_laysLines 219 (.getfield 126) 3 222 := And.intro (by decide +kernel) rfl
theorem d_X12_laysLines_222 : dk me_X12_laysLines 222 (.iload 14) 2 224 := And.intro (by decide +kernel) rfl
theorem d_X12_laysLines_224 : dk me_X12_laysLines 224 (.iload 11) 2 226 := And.intro (by decide +kernel) rfl
theorem d_X12_laysLines_226 : dk me_X12_laysLines 226 (.iastore) 1 227 := And.intro (by decide +kernel) rfl
theorem d_X12_laysLines_227 : dk me_X12_laysLines 227 (.iload 9) 2 229 := And.intro (by decide +kernel) rfl
theorem d_X12_laysLines_229 : dk me_X12_laysLines 229 (.iload 11) 2 231 := And.intro (by decide +kernel) rfl
theorem d_X12_laysLines_231 : dk me_X12_laysLines 231 (.lload 12) 2 233 := And.intro (by decide +kernel) rfl
theorem d_X12_laysLines_233 : dk me_X12_laysLines 233 (.invokestatic 280) 3 236 := And.intro (by decide +kernel) rfl
theorem d_X12_laysLines_236 : dk me_X12_laysLines 236 (.iadd) 1 237 := And.intro (by decide +kernel) rfl
theorem d_X12_laysLines_237 : dk me_X12_laysLines 237 (.iadd) 1 238 := And.intro (by decide +kernel) rfl
theorem d_X12_laysLines_238 : dk me_X12_laysLines 238 (.istore 9) 2 240 := And.intro (by decide +kernel) rfl
theorem d_X12_laysLines_240 : dk me_X12_laysLines 240 (.aload_n 0) 1 241 := And.intro (by decide +kernel) rfl
theorem d_X12_laysLines_241 : dk me_X12_laysLines 241 (.getfield 102) 3 244 := And.intro (by decide +kernel) rfl
theorem d_X12_laysLines_244 : dk me_X12_laysLines 244 (.iload_n 2) 1 245 := And.intro (by decide +kernel) rfl
theorem d_X12_laysLines_245 : dk me_X12_laysLines 245 (.dup2) 1 246 := And.intro (by decide +kernel) rfl
theorem d_X12_laysLines_246 : dk me_X12_laysLines 246 (.iaload) 1 247 := And.intro (by decide +kernel) rfl
theorem d_X12_laysLines_247 : dk me_X12_laysLines 247 (.iconst 1) 1 248 := And.intro (by decide +kernel) rfl
theorem d_X12_laysLines_248 : dk me_X12_laysLines 248 (.iadd) 1 249 := And.intro (by decide +kernel) rfl
theorem d_X12_laysLines_249 : dk me_X12_laysLines 249 (.iastore) 1 250 := And.intro (by decide +kernel) rfl
theorem d_X12_laysLines_250 : dk me_X12_laysLines 250 (.aload_n 0) 1 251 := And.intro (by decide +kernel) rfl
theorem d_X12_laysLines_251 : dk me_X12_laysLines 251 (.getfield 111) 3 254 := And.intro (by decide +kernel) rfl
theorem d_X12_laysLines_254 : dk me_X12_laysLines 254 (.iload 8) 2 256 := And.intro (by decide +kernel) rfl
theorem d_X12_laysLines_256 : dk me_X12_laysLines 256 (.dup2) 1 257 := And.intro (by decide +kernel) rfl
theorem d_X12_laysLines_257 : dk me_X12_laysLines 257 (.iaload) 1 258 := And.intro (by decide +kernel) rfl
theorem d_X12_laysLines_258 : dk me_X12_laysLines 258 (.iconst 1) 1 259 := And.intro (by decide +kernel) rfl
theorem d_X12_laysLines_259 : dk me_X12_laysLines 259 (.iadd) 1 260 := And.intro (by decide +kernel) rfl
theorem d_X12_laysLines_260 : dk me_X12_laysLines 260 (.iastore) 1 261 := And.intro (by decide +kernel) rfl
theorem d_X12_laysLines_261 : dk me_X12_laysLines 261 (.iload 7) 2 263 := And.intro (by decide +kernel) rfl
theorem d_X12_laysLines_263 : dk me_X12_laysLines 263 (.iconst 1) 1 264 := And.intro (by decide +kernel) rfl
theorem d_X12_laysLines_264 : dk me_X12_laysLines 264 (.iadd) 1 265 := And.intro (by decide +kernel) rfl
theorem d_X12_laysLines_265 : dk me_X12_laysLines 265 (.istore 15) 2 267 := And.intro (by decide +kernel) rfl
theorem d_X12_laysLines_267 : dk me_X12_laysLines 267 (.aload_n 0) 1 268 := And.intro (by decide +kernel) rfl
theorem d_X12_laysLines_268 : dk me_X12_laysLines 268 (.iload_n 1) 1 269 := And.intro (by decide +kernel) rfl
theorem d_X12_laysLines_269 : dk me_X12_laysLines 269 (.iload 7) 2 271 := And.intro (by decide +kernel) rfl
theorem d_X12_laysLines_271 : dk me_X12_laysLines 271 (.iload 5) 2 273 := And.intro (by decide +kernel) rfl
theorem d_X12_laysLines_273 : dk me_X12_laysLines 273 (.invokevirtual 312) 3 276 := And.intro (by decide +kernel) rfl
theorem d_X12_laysLines_276 : dk me_X12_laysLines 276 (.istore 16) 2 278 := And.intro (by decide +kernel) rfl
theorem d_X12_laysLines_278 : dk me_X12_laysLines 278 (.iload 16) 2 280 := And.intro (by decide +kernel) rfl
theorem d_X12_laysLines_280 : dk me_X12_laysLines 280 (.iconst (-1)) 1 281 := And.intro (by decide +kernel) rfl
theorem d_X12_laysLines_281 : dk me_X12_laysLines 281 (.if_icmp .eq 49) 3 284 := And.intro (by decide +kernel) rfl
theorem d_X12_laysLines_284 : dk me_X12_laysLines 284 (.aload_n 0) 1 285 := And.intro (by decide +kernel) rfl
theorem d_X12_laysLines_285 : dk me_X12_laysLines 285 (.getfield 44) 3 288 := And.intro (by decide +kernel) rfl
theorem d_X12_laysLines_288 : dk me_X12_laysLines 288 (.iload_n 3) 1 289 := And.intro (by decide +kernel) rfl
theorem d_X12_laysLines_289 : dk me_X12_laysLines 289 (.dup2) 1 290 := And.intro (by decide +kernel) rfl
theorem d_X12_laysLines_290 : dk me_X12_laysLines 290 (.iaload) 1 291 := And.intro (by decide +kernel) rfl
theorem d_X12_laysLines_291 : dk me_X12_laysLines 291 (.iconst 1) 1 292 := And.intro (by decide +kernel) rfl
theorem d_X12_laysLines_292 : dk me_X12_laysLines 292 (.iadd) 1 293 := And.intro (by decide +kernel) rfl
theorem d_X12_laysLines_293 : dk me_X12_laysLines 293 (.iastore) 1 294 := And.intro (by decide +kernel) rfl
theorem d_X12_laysLines_294 : dk me_X12_laysLines 294 (.aload_n 0) 1 295 := And.intro (by decide +kernel) rfl
theorem d_X12_laysLines_295 : dk me_X12_laysLines 295 (.getfield 41) 3 298 := And.intro (by decide +kernel) rfl
theorem d_X12_laysLines_298 : dk me_X12_laysLines 298 (.iload_n 3) 1 299 := And.intro (by decide +kernel) rfl
theorem d_X12_laysLines_299 : dk me_X12_laysLines 299 (.iaload) 1 300 := And.intro (by decide +kernel) rfl
theorem d_X12_laysLines_300 : dk me_X12_laysLines 300 (.ifCond .le 26) 3 303 := And.intro (by decide +kernel) rfl
theorem d_X12_laysLines_303 : dk me_X12_laysLines 303 (.aload_n 0) 1 304 := And.intro (by decide +kernel) rfl
theorem d_X12_laysLines_304 : dk me_X12_laysLines 304 (.getfield 44) 3 307 := And.intro (by decide +kernel) rfl
theorem d_X12_laysLines_307 : dk me_X12_laysLines 307 (.iload_n 3) 1 308 := And.intro (by decide +kernel) rfl
theorem d_X12_laysLines_308 : dk me_X12_laysLines 308 (.iaload) 1 309 := And.intro (by decide +kernel) rfl
theorem d_X12_laysLines_309 : dk me_X12_laysLines 309 (.aload_n 0) 1 310 := And.intro (by decide +kernel) rfl
theorem d_X12_laysLines_310 : dk me_X12_laysLines 310 (.getfield 41) 3 313 := And.intro (by decide +kernel) rfl
theorem d_X12_laysLines_313 : dk me_X12_laysLines 313 (.iload_n 3) 1 314 := And.intro (by decide +kernel) rfl
theorem d_X12_laysLines_314 : dk me_X12_laysLines 314 (.iaload) 1 315 := And.intro (by decide +kernel) rfl
theorem d_X12_laysLines_315 : dk me_X12_laysLines 315 (.irem) 1 316 := And.intro (by decide +kernel) rfl
theorem d_X12_laysLines_316 : dk me_X12_laysLines 316 (.ifCond .ne 10) 3 319 := And.intro (by decide +kernel) rfl
theorem d_X12_laysLines_319 : dk me_X12_laysLines 319 (.iload 16) 2 321 := And.intro (by decide +kernel) rfl
theorem d_X12_laysLines_321 : dk me_X12_laysLines 321 (.iconst 1) 1 322 := And.intro (by decide +kernel) rfl
theorem d_X12_laysLines_322 : dk me_X12_laysLines 322 (.iadd) 1 323 := And.intro (by decide +kernel) rfl
theorem d_X12_laysLines_323 : dk me_X12_laysLines 323 (.goto 5) 3 326 := And.intro (by decide +kernel) rfl
theorem d_X12_laysLines_326 : dk me_X12_laysLines 326 (.iload 15) 2 328 := And.intro (by decide +kernel) rfl
theorem d_X12_laysLines_328 : dk me_X12_laysLines 328 (.istore 15) 2 330 := And.intro (by decide +kernel) rfl
theorem d_X12_laysLines_330 : dk me_X12_laysLines 330 (.aload_n 0) 1 331 := And.intro (by decide +kernel) rfl
theorem d_X12_laysLines_331 : dk me_X12_laysLines 331 (.getfield 81) 3 334 := And.intro (by decide +kernel) rfl
theorem d_X12_laysLines_334 : dk me_X12_laysLines 334 (.bipush 60) 2 336 := And.intro (by decide +kernel) rfl
theorem d_X12_laysLines_336 : dk me_X12_laysLines 336 (.iload_n 1) 1 337 := And.intro (by decide +kernel) rfl
theorem d_X12_laysLines_337 : dk me_X12_laysLines 337 (.imul) 1 338 := And.intro (by decide +kernel) rfl
theorem d_X12_laysLines_338 : dk me_X12_laysLines 338 (.iload 7) 2 340 := And.intro (by decide +kernel) rfl
theorem d_X12_laysLines_340 : dk me_X12_laysLines 340 (.iadd) 1 341 := And.intro (by decide +kernel) rfl
theorem d_X12_laysLines_341 : dk me_X12_laysLines 341 (.baload) 1 342 := And.intro (by decide +kernel) rfl
theorem d_X12_laysLines_342 : dk me_X12_laysLines 342 (.ifCond .ne 10) 3 345 := And.intro (by decide +kernel) rfl
theorem d_X12_laysLines_345 : dk me_X12_laysLines 345 (.iload 15) 2 347 := And.intro (by decide +kernel) rfl
theorem d_X12_laysLines_347 : dk me_X12_laysLines 347 (.iload 5) 2 349 := And.intro (by decide +kernel) rfl
theorem d_X12_laysLines_349 : dk me_X12_laysLines 349 (.if_icmp .lt 7) 3 352 := And.intro (by decide +kernel) rfl
theorem d_X12_laysLines_352 : dk me_X12_laysLines 352 (.iconst 1) 1 353 := And.intro (by decide +kernel) rfl
theorem d_X12_laysLines_353 : dk me_X12_laysLines 353 (.goto 4) 3 356 := And.intro (by decide +kernel) rfl
theorem d_X12_laysLines_356 : dk me_X12_laysLines 356 (.iconst 0) 1 357 := And.intro (by decide +kernel) rfl
theorem d_X12_laysLines_357 : dk me_X12_laysLines 357 (.istore 10) 2 359 := And.intro (by decide +kernel) rfl
theorem d_X12_laysLines_359 : dk me_X12_laysLines 359 (.iload 15) 2 361 := And.intro (by decide +kernel) rfl
theorem d_X12_laysLines_361 : dk me_X12_laysLines 361 (.istore 7) 2 363 := And.intro (by decide +kernel) rfl
theorem d_X12_laysLines_363 : dk me_X12_laysLines 363 (.goto (-275)) 3 366 := And.intro (by decide +kernel) rfl
theorem d_X12_laysLines_366 : dk me_X12_laysLines 366 (.aload_n 0) 1 367 := And.intro (by decide +kernel) rfl
theorem d_X12_laysLines_367 : dk me_X12_laysLines 367 (.getfield 114) 3 370 := And.intro (by decide +kernel) rfl
theorem d_X12_laysLines_370 : dk me_X12_laysLines 370 (.iload 8) 2 372 := And.intro (by decide +kernel) rfl
theorem d_X12_laysLines_372 : dk me_X12_laysLines 372 (.aload_n 0) 1 373 := And.intro (by decide +kernel) rfl
theorem d_X12_laysLines_373 : dk me_X12_laysLines 373 (.getfield 59) 3 376 := And.intro (by decide +kernel) rfl
theorem d_X12_laysLines_376 : dk me_X12_laysLines 376 (.iload_n 1) 1 377 := And.intro (by decide +kernel) rfl
theorem d_X12_laysLines_377 : dk me_X12_laysLines 377 (.iaload) 1 378 := And.intro (by decide +kernel) rfl
theorem d_X12_laysLines_378 : dk me_X12_laysLines 378 (.iload 9) 2 380 := And.intro (by decide +kernel) rfl
theorem d_X12_laysLines_380 : dk me_X12_laysLines 380 (.isub) 1 381 := And.intro (by decide +kernel) rfl
theorem d_X12_laysLines_381 : dk me_X12_laysLines 381 (.iastore) 1 382 := And.intro (by decide +kernel) rfl
theorem d_X12_laysLines_382 : dk me_X12_laysLines 382 (.aload_n 0) 1 383 := And.intro (by decide +kernel) rfl
theorem d_X12_laysLines_383 : dk me_X12_laysLines 383 (.getfield 99) 3 386 := And.intro (by decide +kernel) rfl
theorem d_X12_laysLines_386 : dk me_X12_laysLines 386 (.iload_n 2) 1 387 := And.intro (by decide +kernel) rfl
theorem d_X12_laysLines_387 : dk me_X12_laysLines 387 (.dup2) 1 388 := And.intro (by decide +kernel) rfl
theorem d_X12_laysLines_388 : dk me_X12_laysLines 388 (.iaload) 1 389 := And.intro (by decide +kernel) rfl
theorem d_X12_laysLines_389 : dk me_X12_laysLines 389 (.iconst 1) 1 390 := And.intro (by decide +kernel) rfl
theorem d_X12_laysLines_390 : dk me_X12_laysLines 390 (.iadd) 1 391 := And.intro (by decide +kernel) rfl
theorem d_X12_laysLines_391 : dk me_X12_laysLines 391 (.iastore) 1 392 := And.intro (by decide +kernel) rfl
theorem d_X12_laysLines_392 : dk me_X12_laysLines 392 (.goto (-374)) 3 395 := And.intro (by decide +kernel) rfl
theorem d_X12_laysLines_395 : dk me_X12_laysLines 395 (.iload 7) 2 397 := And.intro (by decide +kernel) rfl
theorem d_X12_laysLines_397 : dk me_X12_laysLines 397 (.ireturn) 1 398 := And.intro (by decide +kernel) rfl
theorem ms_X12_laysLines {fx : FX} {m : MM} {l0 : Nat} {l1 : Int} {l2 : Int} {l3 : Int} {l4 : Int} {l5 : Int} {l6 : Int} : MS fx me_X12_laysLines [aR (some (12, l0)), aI l1, aI l2, aI l3, aI l4, aI l5, aI l6] m (f_X12_laysLines m l0 l1 l2 l3 l4 l5 l6) := by
  refine ms_of rfl mf_X12_laysLines (b8 rfl) ?_
  refine s_top ?_
  show Sim fx me_X12_laysLines 0 [(0, aR (some (12, l0))), (1, aI l1), (2, aI l2), (3, aI l3), (4, aI l4), (5, aI l5), (6, aI l6)] [] m _
  unfold f_X12_laysLines
  have hj_X12_laysLines_0_395 : ∀ (m_395 : MM) (l7_395 : Int), Sim fx me_X12_laysLines 395 [(7, aI l7_395)] [] m_395 ((j_X12_laysLines_0_395 m_395 l7_395).bind (fun z => some z)) := by
    intro m_395 l7_395
    unfold j_X12_laysLines_0_395
    exact s_iload d_X12_laysLines_395 m0_ (s_iret d_X12_laysLines_397 rfl rfl)
  refine s_iload d_X12_laysLines_0 m4_ (s_istore (L' := [(7, aI l4), (0, aR (some (12, l0))), (1, aI l1), (2, aI l2), (3, aI l3), (4, aI l4), (5, aI l5), (6, aI l6)]) d_X12_laysLines_2 (b8 rfl) rfl (s_aload_n d_X12_laysLines_4 m1_ (s_getR cf d_X12_laysLines_5 fl_X12_102 (s_nk fun i1 => (s_iload_n d_X12_laysLines_8 m3_ ?_)))))
  refine s_iconst d_X12_laysLines_9 n_0 (s_stN d_X12_laysLines_10 ka_89 rfl fun m2 => (s_aload_n d_X12_laysLines_11 m1_ (s_getR cf d_X12_laysLines_12 fl_X12_99 (s_nk fun i3 => (s_iload_n d_X12_laysLines_15 m3_ ?_)))))
  refine s_iconst d_X12_laysLines_16 n_0 (s_stN d_X12_laysLines_17 ka_88 rfl fun m4 => (s_sub (subc m0_ (subc m1_ (subc m2_ (subc m3_ (subc m4_ (subc m6_ (subc m7_ sub0))))))) (s_lp2 (fun s => [(7, aI (s.1)), (0, aR (some (12, l0))), (1, aI l1), (2, aI l2), (3, aI l3), (5, aI l5), (6, aI l6)]) (fun s => s.2) (l4, m4) fun k18 hx18 s ih0 => ?_)))
  obtain ⟨l7_18, mm_18⟩ := s
  have ih18 := ih0
  clear ih0
  try dsimp only
  unfold b_X12_laysLines_18
  have hj_X12_laysLines_18_366 : ∀ (m_366 : MM) (l7_366 : Int) (l8_366 : Int) (l9_366 : Int), Sim fx me_X12_laysLines 366 [(0, aR (some (12, l0))), (1, aI l1), (2, aI l2), (3, aI l3), (5, aI l5), (6, aI l6), (7, aI l7_366), (8, aI l8_366), (9, aI l9_366)] [] m_366 ((j_X12_laysLines_18_366 m_366 l0 l1 l2 l3 l5 l6 l7_366 l8_366 l9_366).bind k18) := by
    intro m_366 l7_366 l8_366 l9_366
    unfold j_X12_laysLines_18_366
    refine s_aload_n d_X12_laysLines_366 m0_ (s_getR cf d_X12_laysLines_367 fl_X12_114 (s_nk fun i58 => (s_iload d_X12_laysLines_370 m7_ (s_aload_n d_X12_laysLines_372 m0_ (s_getR cf d_X12_laysLines_373 fl_X12_59 ?_)))))
    refine s_nk fun i59 => (s_iload_n d_X12_laysLines_376 m1_ (s_ldN d_X12_laysLines_377 ka_75 rfl fun v60 => (s_iload d_X12_laysLines_378 m8_ (s_isub d_X12_laysLines_380 rfl rfl (s_ck ?_)))))
    refine s_stN d_X12_laysLines_381 ka_93 rfl fun m61 => (s_aload_n d_X12_laysLines_382 m0_ (s_getR cf d_X12_laysLines_383 fl_X12_99 (s_nk fun i62 => (s_iload_n d_X12_laysLines_386 m2_ (s_dup2 d_X12_laysLines_387 rfl rfl ?_)))))
    refine s_ldN d_X12_laysLines_388 ka_88 rfl fun v63 => (s_iconst d_X12_laysLines_389 n_1 (s_iadd d_X12_laysLines_390 rfl rfl (s_ck (s_stN d_X12_laysLines_391 ka_88 rfl fun m64 => (s_goto (tgt := 18) d_X12_laysLines_392 rfl ?_)))))
    exact s_sub (subc m6_ (subc m0_ (subc m1_ (subc m2_ (subc m3_ (subc m4_ (subc m5_ sub0))))))) (s_back (ih18 (l7_366, m64)))
  refine s_aload_n d_X12_laysLines_18 m1_ (s_getR cf d_X12_laysLines_19 fl_X12_99 (s_nk fun i5 => (s_iload_n d_X12_laysLines_22 m3_ (s_ldN d_X12_laysLines_23 ka_88 rfl fun v6 => (s_aload_n d_X12_laysLines_24 m1_ ?_)))))
  refine s_getR cf d_X12_laysLines_25 fl_X12_62 (s_nk fun i7 => (s_iload_n d_X12_laysLines_28 m2_ (s_ldN d_X12_laysLines_29 ka_76 rfl fun v8 => (s_icmp_ge (tgt := 395) d_X12_laysLines_30 rfl ?_ ?_))))
  · exact s_exit (hx18 _) (s_sub (subc m0_ sub0) (hj_X12_laysLines_0_395 mm_18 l7_18))
  refine s_iload d_X12_laysLines_33 m0_ (s_iload d_X12_laysLines_35 m5_ (s_icmp_ge (tgt := 395) d_X12_laysLines_37 rfl ?_ ?_))
  · exact s_exit (hx18 _) (s_sub (subc m0_ sub0) (hj_X12_laysLines_0_395 mm_18 l7_18))
  refine s_bipush d_X12_laysLines_40 n_6 rfl (s_iload_n d_X12_laysLines_42 m3_ (s_imul d_X12_laysLines_43 rfl rfl (s_aload_n d_X12_laysLines_44 m1_ (s_getR cf d_X12_laysLines_45 fl_X12_99 (s_nk fun i9 => ?_)))))
  refine s_iload_n d_X12_laysLines_48 m3_ (s_ldN d_X12_laysLines_49 ka_88 rfl fun v10 => (s_iadd d_X12_laysLines_50 rfl rfl (s_ck (s_istore (L' := [(8, aI ((6 * l2) + v10)), (7, aI l7_18), (0, aR (some (12, l0))), (1, aI l1), (2, aI l2), (3, aI l3), (5, aI l5), (6, aI l6)]) d_X12_laysLines_51 (b8 rfl) rfl (s_aload_n d_X12_laysLines_53 m2_ ?_)))))
  refine s_getR cf d_X12_laysLines_54 fl_X12_108 (s_nk fun i11 => (s_iload d_X12_laysLines_57 m0_ (s_aload_n d_X12_laysLines_59 m2_ (s_getR cf d_X12_laysLines_60 fl_X12_102 (s_nk fun i12 => ?_)))))
  refine s_iload_n d_X12_laysLines_63 m4_ (s_ldN d_X12_laysLines_64 ka_89 rfl fun v13 => (s_stN d_X12_laysLines_65 ka_91 rfl fun m14 => (s_aload_n d_X12_laysLines_66 m2_ (s_getR cf d_X12_laysLines_67 fl_X12_111 (s_nk fun i15 => ?_)))))
  refine s_iload d_X12_laysLines_70 m0_ (s_iconst d_X12_laysLines_72 n_0 (s_stN d_X12_laysLines_73 ka_92 rfl fun m16 => (s_aload_n d_X12_laysLines_74 m2_ (s_getR cf d_X12_laysLines_75 fl_X12_117 (s_nk fun i17 => ?_)))))
  refine s_iload d_X12_laysLines_78 m0_ (s_iconst d_X12_laysLines_80 n_0 (s_stN d_X12_laysLines_81 ka_94 rfl fun m18 => (s_iconst d_X12_laysLines_82 n_0 (s_istore (L' := [(9, aI 0), (8, aI ((6 * l2) + v10)), (7, aI l7_18), (0, aR (some (12, l0))), (1, aI l1), (2, aI l2), (3, aI l3), (5, aI l5), (6, aI l6)]) d_X12_laysLines_83 (b8 rfl) rfl (s_iconst d_X12_laysLines_85 n_0 ?_)))))
  refine s_istore (L' := [(10, aI 0), (9, aI 0), (8, aI ((6 * l2) + v10)), (7, aI l7_18), (0, aR (some (12, l0))), (1, aI l1), (2, aI l2), (3, aI l3), (5, aI l5), (6, aI l6)]) d_X12_laysLines_86 (b8 rfl) rfl (s_sub (subc m3_ (subc m1_ (subc m0_ (subc m4_ (subc m5_ (subc m6_ (subc m7_ (subc m8_ (subc m9_ (subc m2_ sub0)))))))))) (s_lp2 (fun s => [(7, aI (s.1)), (9, aI (s.2.1)), (10, aI (s.2.2.1)), (0, aR (some (12, l0))), (1, aI l1), (2, aI l2), (3, aI l3), (5, aI l5), (6, aI l6), (8, aI ((6 * l2) + v10))]) (fun s => s.2.2.2) (l7_18, 0, 0, m18) fun k88 hx88 s ih0 => ?_))
  obtain ⟨l7_88, l9_88, l10_88, mm_88⟩ := s
  have ih88 := ih0
  clear ih0
  try dsimp only
  unfold b_X12_laysLines_88
  have hj_X12_laysLines_88_330 : ∀ (m_330 : MM) (l7_330 : Int) (l9_330 : Int) (l15_330 : Int), Sim fx me_X12_laysLines 330 [(0, aR (some (12, l0))), (1, aI l1), (2, aI l2), (3, aI l3), (5, aI l5), (6, aI l6), (7, aI l7_330), (8, aI ((6 * l2) + v10)), (9, aI l9_330), (15, aI l15_330)] [] m_330 ((j_X12_laysLines_88_330 m_330 l0 l1 l2 l3 l5 l6 l7_330 ((6 * l2) + v10) l9_330 l15_330).bind k88) := by
    intro m_330 l7_330 l9_330 l15_330
    unfold j_X12_laysLines_88_330
    refine s_aload_n d_X12_laysLines_330 m0_ (s_getR cf d_X12_laysLines_331 fl_X12_81 (s_nk fun i56 => (s_bipush d_X12_laysLines_334 n_60 rfl (s_iload_n d_X12_laysLines_336 m1_ (s_imul d_X12_laysLines_337 rfl rfl ?_)))))
    refine s_iload d_X12_laysLines_338 m6_ (s_iadd d_X12_laysLines_340 rfl rfl (s_ldB d_X12_laysLines_341 ka_82 rfl fun v57 => (s_if_ne (tgt := 352) d_X12_laysLines_342 rfl ?_ ?_)))
    · refine s_iconst d_X12_laysLines_352 n_1 (s_goto (tgt := 357) d_X12_laysLines_353 rfl (s_istore (L' := [(10, aI 1), (0, aR (some (12, l0))), (1, aI l1), (2, aI l2), (3, aI l3), (5, aI l5), (6, aI l6), (7, aI l7_330), (8, aI ((6 * l2) + v10)), (9, aI l9_330), (15, aI l15_330)]) d_X12_laysLines_357 (b8 rfl) rfl (s_iload d_X12_laysLines_359 m10_ (s_istore (L' := [(7, aI l15_330), (10, aI 1), (0, aR (some (12, l0))), (1, aI l1), (2, aI l2), (3, aI l3), (5, aI l5), (6, aI l6), (8, aI ((6 * l2) + v10)), (9, aI l9_330), (15, aI l15_330)]) d_X12_laysLines_361 (b8 rfl) rfl (s_goto (tgt := 88) d_X12_laysLines_363 rfl ?_)))))
      exact s_sub (subc m0_ (subc m9_ (subc m1_ (subc m2_ (subc m3_ (subc m4_ (subc m5_ (subc m6_ (subc m7_ (subc m8_ sub0)))))))))) (s_back (ih88 (l15_330, l9_330, 1, m_330)))
    refine s_iload d_X12_laysLines_345 m9_ (s_iload d_X12_laysLines_347 m4_ (s_icmp_lt (tgt := 356) d_X12_laysLines_349 rfl ?_ ?_))
    · exact s_iconst d_X12_laysLines_356 n_0 (s_istore (L' := [(10, aI 0), (0, aR (some (12, l0))), (1, aI l1), (2, aI l2), (3, aI l3), (5, aI l5), (6, aI l6), (7, aI l7_330), (8, aI ((6 * l2) + v10)), (9, aI l9_330), (15, aI l15_330)]) d_X12_laysLines_357 (b8 rfl) rfl (s_iload d_X12_laysLines_359 m10_ (s_istore (L' := [(7, aI l15_330), (10, aI 0), (0, aR (some (12, l0))), (1, aI l1), (2, aI l2), (3, aI l3), (5, aI l5), (6, aI l6), (8, aI ((6 * l2) + v10)), (9, aI l9_330), (15, aI l15_330)]) d_X12_laysLines_361 (b8 rfl) rfl (s_goto (tgt := 88) d_X12_laysLines_363 rfl (s_sub (subc m0_ (subc m9_ (subc m1_ (subc m2_ (subc m3_ (subc m4_ (subc m5_ (subc m6_ (subc m7_ (subc m8_ sub0)))))))))) (s_back (ih88 (l15_330, l9_330, 0, m_330))))))))
    refine s_iconst d_X12_laysLines_352 n_1 (s_goto (tgt := 357) d_X12_laysLines_353 rfl (s_istore (L' := [(10, aI 1), (0, aR (some (12, l0))), (1, aI l1), (2, aI l2), (3, aI l3), (5, aI l5), (6, aI l6), (7, aI l7_330), (8, aI ((6 * l2) + v10)), (9, aI l9_330), (15, aI l15_330)]) d_X12_laysLines_357 (b8 rfl) rfl (s_iload d_X12_laysLines_359 m10_ (s_istore (L' := [(7, aI l15_330), (10, aI 1), (0, aR (some (12, l0))), (1, aI l1), (2, aI l2), (3, aI l3), (5, aI l5), (6, aI l6), (8, aI ((6 * l2) + v10)), (9, aI l9_330), (15, aI l15_330)]) d_X12_laysLines_361 (b8 rfl) rfl (s_goto (tgt := 88) d_X12_laysLines_363 rfl ?_)))))
    exact s_sub (subc m0_ (subc m9_ (subc m1_ (subc m2_ (subc m3_ (subc m4_ (subc m5_ (subc m6_ (subc m7_ (subc m8_ sub0)))))))))) (s_back (ih88 (l15_330, l9_330, 1, m_330)))
  have hj_X12_laysLines_88_328 : ∀ (m_328 : MM) (l7_328 : Int) (l9_328 : Int) (s0_328 : Int), Sim fx me_X12_laysLines 328 [(0, aR (some (12, l0))), (1, aI l1), (2, aI l2), (3, aI l3), (5, aI l5), (6, aI l6), (7, aI l7_328), (8, aI ((6 * l2) + v10)), (9, aI l9_328)] [aI s0_328] m_328 ((j_X12_laysLines_88_328 m_328 l0 l1 l2 l3 l5 l6 l7_328 ((6 * l2) + v10) l9_328 s0_328).bind k88) := by
    intro m_328 l7_328 l9_328 s0_328
    unfold j_X12_laysLines_88_328
    exact s_istore (L' := [(15, aI s0_328), (0, aR (some (12, l0))), (1, aI l1), (2, aI l2), (3, aI l3), (5, aI l5), (6, aI l6), (7, aI l7_328), (8, aI ((6 * l2) + v10)), (9, aI l9_328)]) d_X12_laysLines_328 (b8 rfl) rfl (s_sub (subc m1_ (subc m2_ (subc m3_ (subc m4_ (subc m5_ (subc m6_ (subc m7_ (subc m8_ (subc m9_ (subc m0_ sub0)))))))))) (hj_X12_laysLines_88_330 m_328 l7_328 l9_328 s0_328))
  have hj_X12_laysLines_88_326 : ∀ (m_326 : MM) (l7_326 : Int) (l9_326 : Int) (l15_326 : Int), Sim fx me_X12_laysLines 326 [(0, aR (some (12, l0))), (1, aI l1), (2, aI l2), (3, aI l3), (5, aI l5), (6, aI l6), (7, aI l7_326), (8, aI ((6 * l2) + v10)), (9, aI l9_326), (15, aI l15_326)] [] m_326 ((j_X12_laysLines_88_326 m_326 l0 l1 l2 l3 l5 l6 l7_326 ((6 * l2) + v10) l9_326 l15_326).bind k88) := by
    intro m_326 l7_326 l9_326 l15_326
    unfold j_X12_laysLines_88_326
    exact s_iload d_X12_laysLines_326 m9_ (s_sub (subc m0_ (subc m1_ (subc m2_ (subc m3_ (subc m4_ (subc m5_ (subc m6_ (subc m7_ (subc m8_ sub0))))))))) (hj_X12_laysLines_88_328 m_326 l7_326 l9_326 l15_326))
  have hj_X12_laysLines_88_153 : ∀ (m_153 : MM) (l7_153 : Int) (l9_153 : Int) (l11_153 : Int) (l12_153 : Int64), Sim fx me_X12_laysLines 153 [(0, aR (some (12, l0))), (1, aI l1), (2, aI l2), (3, aI l3), (5, aI l5), (6, aI l6), (7, aI l7_153), (8, aI ((6 * l2) + v10)), (9, aI l9_153), (11, aI l11_153), (12, aL l12_153)] [] m_153 ((j_X12_laysLines_88_153 m_153 l0 l1 l2 l3 l5 l6 l7_153 ((6 * l2) + v10) l9_153 l11_153 l12_153).bind k88) := by
    intro m_153 l7_153 l9_153 l11_153 l12_153
    unfold j_X12_laysLines_88_153
    refine s_iload d_X12_laysLines_153 m8_ (s_iload d_X12_laysLines_155 m9_ (s_iadd d_X12_laysLines_157 rfl rfl (s_lload d_X12_laysLines_158 m10_ (s_pI (r_S d_X12_laysLines_160 k_X12_letters w_1708 rfl rfl) ms_X12_letters (b8 rfl) rfl rfl rfl fun v26 => (s_iadd d_X12_laysLines_163 rfl rfl ?_)))))
    refine s_aload_n d_X12_laysLines_164 m0_ (s_getR cf d_X12_laysLines_165 fl_X12_59 (s_nk fun i27 => (s_iload_n d_X12_laysLines_168 m1_ (s_ldN d_X12_laysLines_169 ka_75 rfl fun v28 => (s_ck1 ?_)))))
    refine s_icmp_le (tgt := 187) d_X12_laysLines_170 rfl ?_ ?_
    · refine s_bipush d_X12_laysLines_187 n_60 rfl (s_iload_n d_X12_laysLines_189 m2_ (s_imul d_X12_laysLines_190 rfl rfl (s_aload_n d_X12_laysLines_191 m0_ (s_getR cf d_X12_laysLines_192 fl_X12_102 (s_nk fun i29 => ?_)))))
      refine s_iload_n d_X12_laysLines_195 m2_ (s_ldN d_X12_laysLines_196 ka_89 rfl fun v30 => (s_iadd d_X12_laysLines_197 rfl rfl (s_ck (s_istore (L' := [(14, aI ((60 * l2) + v30)), (0, aR (some (12, l0))), (1, aI l1), (2, aI l2), (3, aI l3), (5, aI l5), (6, aI l6), (7, aI l7_153), (8, aI ((6 * l2) + v10)), (9, aI l9_153), (11, aI l11_153), (12, aL l12_153)]) d_X12_laysLines_198 (b8 rfl) rfl (s_aload_n d_X12_laysLines_200 m1_ ?_)))))
      refine s_getR cf d_X12_laysLines_201 fl_X12_120 (s_nk fun i31 => (s_iload d_X12_laysLines_204 m0_ (s_iload d_X12_laysLines_206 m7_ (s_stN d_X12_laysLines_208 ka_95 rfl fun m32 => (s_aload_n d_X12_laysLines_209 m1_ ?_)))))
      refine s_getR cf d_X12_laysLines_210 fl_X12_123 (s_nk fun i33 => (s_iload d_X12_laysLines_213 m0_ (s_lload d_X12_laysLines_215 m11_ (s_stL d_X12_laysLines_217 ka_96 rfl fun m34 => (s_aload_n d_X12_laysLines_218 m1_ ?_)))))
      refine s_getR cf d_X12_laysLines_219 fl_X12_126 (s_nk fun i35 => (s_iload d_X12_laysLines_222 m0_ (s_iload d_X12_laysLines_224 m10_ (s_stN d_X12_laysLines_226 ka_97 rfl fun m36 => (s_iload d_X12_laysLines_227 m9_ ?_)))))
      refine s_iload d_X12_laysLines_229 m10_ (s_lload d_X12_laysLines_231 m11_ (s_pI (r_S d_X12_laysLines_233 k_X12_letters w_1708 rfl rfl) ms_X12_letters (b8 rfl) rfl rfl rfl fun v37 => (s_iadd d_X12_laysLines_236 rfl rfl (s_iadd d_X12_laysLines_237 rfl rfl (s_ck ?_)))))
      refine s_istore (L' := [(9, aI (l9_153 + (l11_153 + v37))), (14, aI ((60 * l2) + v30)), (0, aR (some (12, l0))), (1, aI l1), (2, aI l2), (3, aI l3), (5, aI l5), (6, aI l6), (7, aI l7_153), (8, aI ((6 * l2) + v10)), (11, aI l11_153), (12, aL l12_153)]) d_X12_laysLines_238 (b8 rfl) rfl (s_aload_n d_X12_laysLines_240 m2_ (s_getR cf d_X12_laysLines_241 fl_X12_102 (s_nk fun i38 => (s_iload_n d_X12_laysLines_244 m4_ (s_dup2 d_X12_laysLines_245 rfl rfl ?_)))))
      refine s_ldN d_X12_laysLines_246 ka_89 rfl fun v39 => (s_iconst d_X12_laysLines_247 n_1 (s_iadd d_X12_laysLines_248 rfl rfl (s_ck (s_stN d_X12_laysLines_249 ka_89 rfl fun m40 => (s_aload_n d_X12_laysLines_250 m2_ ?_)))))
      refine s_getR cf d_X12_laysLines_251 fl_X12_111 (s_nk fun i41 => (s_iload d_X12_laysLines_254 m9_ (s_dup2 d_X12_laysLines_256 rfl rfl (s_ldN d_X12_laysLines_257 ka_92 rfl fun v42 => (s_iconst d_X12_laysLines_258 n_1 ?_)))))
      refine s_iadd d_X12_laysLines_259 rfl rfl (s_ck (s_stN d_X12_laysLines_260 ka_92 rfl fun m43 => (s_iload d_X12_laysLines_261 m8_ (s_iconst d_X12_laysLines_263 n_1 (s_iadd d_X12_laysLines_264 rfl rfl ?_)))))
      refine s_ck (s_istore (L' := [(15, aI (l7_153 + 1)), (9, aI (l9_153 + (l11_153 + v37))), (14, aI ((60 * l2) + v30)), (0, aR (some (12, l0))), (1, aI l1), (2, aI l2), (3, aI l3), (5, aI l5), (6, aI l6), (7, aI l7_153), (8, aI ((6 * l2) + v10)), (11, aI l11_153), (12, aL l12_153)]) d_X12_laysLines_265 (b8 rfl) rfl (s_aload_n d_X12_laysLines_267 m3_ (s_iload_n d_X12_laysLines_268 m4_ (s_iload d_X12_laysLines_269 m9_ (s_iload d_X12_laysLines_271 m7_ ?_)))))
      refine s_pI (r_V d_X12_laysLines_273 k_X12_sameBehind w_1807 rfl rfl) ms_X12_sameBehind (b8 rfl) rfl rfl rfl fun v44 => (s_istore (L' := [(16, aI v44), (15, aI (l7_153 + 1)), (9, aI (l9_153 + (l11_153 + v37))), (14, aI ((60 * l2) + v30)), (0, aR (some (12, l0))), (1, aI l1), (2, aI l2), (3, aI l3), (5, aI l5), (6, aI l6), (7, aI l7_153), (8, aI ((6 * l2) + v10)), (11, aI l11_153), (12, aL l12_153)]) d_X12_laysLines_276 (b8 rfl) rfl (s_iload d_X12_laysLines_278 m0_ (s_iconst d_X12_laysLines_280 n_m1 (s_icmp_eq (tgt := 330) d_X12_laysLines_281 rfl ?_ ?_))))
      · exact s_sub (subc m4_ (subc m5_ (subc m6_ (subc m7_ (subc m8_ (subc m9_ (subc m10_ (subc m11_ (subc m2_ (subc m1_ sub0)))))))))) (hj_X12_laysLines_88_330 m43 l7_153 (l9_153 + (l11_153 + v37)) (l7_153 + 1))
      refine s_aload_n d_X12_laysLines_284 m4_ (s_getR cf d_X12_laysLines_285 fl_X12_44 (s_nk fun i45 => (s_iload_n d_X12_laysLines_288 m7_ (s_dup2 d_X12_laysLines_289 rfl rfl (s_ldN d_X12_laysLines_290 ka_70 rfl fun v46 => ?_)))))
      refine s_iconst d_X12_laysLines_291 n_1 (s_iadd d_X12_laysLines_292 rfl rfl (s_ck (s_stN d_X12_laysLines_293 ka_70 rfl fun m47 => (s_aload_n d_X12_laysLines_294 m4_ (s_getR cf d_X12_laysLines_295 fl_X12_41 ?_)))))
      refine s_nk fun i48 => (s_iload_n d_X12_laysLines_298 m7_ (s_ldN d_X12_laysLines_299 ka_69 rfl fun v49 => (s_if_le (tgt := 326) d_X12_laysLines_300 rfl ?_ ?_)))
      · exact s_sub (subc m4_ (subc m5_ (subc m6_ (subc m7_ (subc m8_ (subc m9_ (subc m10_ (subc m11_ (subc m2_ (subc m1_ sub0)))))))))) (hj_X12_laysLines_88_326 m47 l7_153 (l9_153 + (l11_153 + v37)) (l7_153 + 1))
      refine s_aload_n d_X12_laysLines_303 m4_ (s_getR cf d_X12_laysLines_304 fl_X12_44 (s_nk fun i50 => (s_iload_n d_X12_laysLines_307 m7_ (s_ldN d_X12_laysLines_308 ka_70 rfl fun v51 => (s_aload_n d_X12_laysLines_309 m4_ ?_)))))
      refine s_getR cf d_X12_laysLines_310 fl_X12_41 (s_nk fun i52 => (s_iload_n d_X12_laysLines_313 m7_ (s_ldN d_X12_laysLines_314 ka_69 rfl fun v53 => (s_irem d_X12_laysLines_315 (s_if_ne (tgt := 326) d_X12_laysLines_316 rfl ?_ ?_)))))
      · exact s_sub (subc m4_ (subc m5_ (subc m6_ (subc m7_ (subc m8_ (subc m9_ (subc m10_ (subc m11_ (subc m2_ (subc m1_ sub0)))))))))) (hj_X12_laysLines_88_326 m47 l7_153 (l9_153 + (l11_153 + v37)) (l7_153 + 1))
      exact s_iload d_X12_laysLines_319 m0_ (s_iconst d_X12_laysLines_321 n_1 (s_iadd d_X12_laysLines_322 rfl rfl (s_goto (tgt := 328) d_X12_laysLines_323 rfl (s_ck (s_sub (subc m4_ (subc m5_ (subc m6_ (subc m7_ (subc m8_ (subc m9_ (subc m10_ (subc m11_ (subc m2_ sub0))))))))) (hj_X12_laysLines_88_328 m47 l7_153 (l9_153 + (l11_153 + v37)) (v44 + 1)))))))
    refine s_aload_n d_X12_laysLines_173 m0_ (s_getR cf d_X12_laysLines_174 fl_X12_117 (s_nk fun i54 => (s_iload d_X12_laysLines_177 m7_ (s_iconst d_X12_laysLines_179 n_1 (s_stN d_X12_laysLines_180 ka_94 rfl fun m55 => ?_)))))
    exact s_iconst d_X12_laysLines_181 n_1 (s_istore (L' := [(10, aI 1), (0, aR (some (12, l0))), (1, aI l1), (2, aI l2), (3, aI l3), (5, aI l5), (6, aI l6), (7, aI l7_153), (8, aI ((6 * l2) + v10)), (9, aI l9_153), (11, aI l11_153), (12, aL l12_153)]) d_X12_laysLines_182 (b8 rfl) rfl (s_goto (tgt := 363) d_X12_laysLines_184 rfl (s_goto (tgt := 88) d_X12_laysLines_363 rfl (s_sub (subc m7_ (subc m9_ (subc m0_ (subc m1_ (subc m2_ (subc m3_ (subc m4_ (subc m5_ (subc m6_ (subc m8_ sub0)))))))))) (s_back (ih88 (l7_153, l9_153, 1, m55)))))))
  have hj_X12_laysLines_88_108 : ∀ (m_108 : MM) (l7_108 : Int) (l9_108 : Int) (s0_108 : Int), Sim fx me_X12_laysLines 108 [(0, aR (some (12, l0))), (1, aI l1), (2, aI l2), (3, aI l3), (5, aI l5), (6, aI l6), (7, aI l7_108), (8, aI ((6 * l2) + v10)), (9, aI l9_108)] [aI s0_108] m_108 ((j_X12_laysLines_88_108 m_108 l0 l1 l2 l3 l5 l6 l7_108 ((6 * l2) + v10) l9_108 s0_108).bind k88) := by
    intro m_108 l7_108 l9_108 s0_108
    unfold j_X12_laysLines_88_108
    refine s_istore (L' := [(11, aI s0_108), (0, aR (some (12, l0))), (1, aI l1), (2, aI l2), (3, aI l3), (5, aI l5), (6, aI l6), (7, aI l7_108), (8, aI ((6 * l2) + v10)), (9, aI l9_108)]) d_X12_laysLines_108 (b8 rfl) rfl (s_aload_n d_X12_laysLines_110 m1_ (s_iload_n d_X12_laysLines_111 m2_ (s_iload d_X12_laysLines_112 m7_ (s_iload_n d_X12_laysLines_114 m4_ (s_iload d_X12_laysLines_115 m6_ ?_)))))
    refine s_pL (r_V d_X12_laysLines_117 k_X12_formOf w_1803 rfl rfl) ms_X12_formOf (b8 rfl) rfl rfl rfl fun v21 => (s_lstore (L' := [(12, aL v21), (11, aI s0_108), (0, aR (some (12, l0))), (1, aI l1), (2, aI l2), (3, aI l3), (5, aI l5), (6, aI l6), (7, aI l7_108), (8, aI ((6 * l2) + v10)), (9, aI l9_108)]) d_X12_laysLines_120 (b8 rfl) rfl (s_iload d_X12_laysLines_122 m10_ (s_iload d_X12_laysLines_124 m1_ (s_iadd d_X12_laysLines_126 rfl rfl (s_lload d_X12_laysLines_127 m0_ ?_)))))
    refine s_pI (r_S d_X12_laysLines_129 k_X12_letters w_1708 rfl rfl) ms_X12_letters (b8 rfl) rfl rfl rfl fun v22 => (s_iadd d_X12_laysLines_132 rfl rfl (s_aload_n d_X12_laysLines_133 m2_ (s_getR cf d_X12_laysLines_134 fl_X12_59 (s_nk fun i23 => (s_iload_n d_X12_laysLines_137 m3_ ?_)))))
    refine s_ldN d_X12_laysLines_138 ka_75 rfl fun v24 => (s_ck1 (s_icmp_le (tgt := 153) d_X12_laysLines_139 rfl ?_ ?_))
    · exact s_sub (subc m2_ (subc m3_ (subc m4_ (subc m5_ (subc m6_ (subc m7_ (subc m8_ (subc m9_ (subc m10_ (subc m1_ (subc m0_ sub0))))))))))) (hj_X12_laysLines_88_153 m_108 l7_108 l9_108 s0_108 v21)
    refine s_aload_n d_X12_laysLines_142 m2_ (s_iload_n d_X12_laysLines_143 m3_ (s_iload d_X12_laysLines_144 m8_ (s_iload_n d_X12_laysLines_146 m5_ (s_iconst d_X12_laysLines_147 n_1 (s_pL (r_V d_X12_laysLines_148 k_X12_formOf w_1803 rfl rfl) ms_X12_formOf (b8 rfl) rfl rfl rfl fun v25 => ?_)))))
    exact s_lstore (L' := [(12, aL v25), (11, aI s0_108), (0, aR (some (12, l0))), (1, aI l1), (2, aI l2), (3, aI l3), (5, aI l5), (6, aI l6), (7, aI l7_108), (8, aI ((6 * l2) + v10)), (9, aI l9_108)]) d_X12_laysLines_151 (b8 rfl) rfl (s_sub (subc m2_ (subc m3_ (subc m4_ (subc m5_ (subc m6_ (subc m7_ (subc m8_ (subc m9_ (subc m10_ (subc m1_ (subc m0_ sub0))))))))))) (hj_X12_laysLines_88_153 m_108 l7_108 l9_108 s0_108 v25))
  refine s_iload d_X12_laysLines_88 m2_ (s_if_ne (tgt := 366) d_X12_laysLines_90 rfl ?_ ?_)
  · exact s_exit (hx88 _) (s_sub (subc m3_ (subc m4_ (subc m5_ (subc m6_ (subc m7_ (subc m8_ (subc m0_ (subc m9_ (subc m1_ sub0))))))))) (hj_X12_laysLines_18_366 mm_88 l7_88 ((6 * l2) + v10) l9_88))
  refine s_aload_n d_X12_laysLines_93 m3_ (s_getR cf d_X12_laysLines_94 fl_X12_111 (s_nk fun i19 => (s_iload d_X12_laysLines_97 m9_ (s_ldN d_X12_laysLines_99 ka_92 rfl fun v20 => (s_if_le (tgt := 107) d_X12_laysLines_100 rfl ?_ ?_)))))
  · exact s_iconst d_X12_laysLines_107 n_0 (s_sub (subc m3_ (subc m4_ (subc m5_ (subc m6_ (subc m7_ (subc m8_ (subc m0_ (subc m9_ (subc m1_ sub0))))))))) (hj_X12_laysLines_88_108 mm_88 l7_88 l9_88 0))
  exact s_iconst d_X12_laysLines_103 n_1 (s_goto (tgt := 108) d_X12_laysLines_104 rfl (s_sub (subc m3_ (subc m4_ (subc m5_ (subc m6_ (subc m7_ (subc m8_ (subc m0_ (subc m9_ (subc m1_ sub0))))))))) (hj_X12_laysLines_88_108 mm_88 l7_88 l9_88 1)))
theorem d_X12_partFrom_0 : dk me_X12_partFrom 0 (.aload_n 0) 1 1 := And.intro (by decide +kernel) rfl
theorem d_X12_partFrom_1 : dk me_X12_partFrom 1 (.getfield 68) 3 4 := And.intro (by decide +kernel) rfl
theorem d_X12_partFrom_4 : dk me_X12_partFrom 4 (.iload_n 1) 1 5 := And.intro (by decide +kernel) rfl
theorem d_X12_partFrom_5 : dk me_X12_partFrom 5 (.iaload) 1 6 := And.intro (by decide +kernel) rfl
theorem d_X12_partFrom_6 : dk me_X12_partFrom 6 (.ifCond .le 12) 3 9 := And.intro (by decide +kernel) rfl
theorem d_X12_partFrom_9 : dk me_X12_partFrom 9 (.aload_n 0) 1 10 := And.intro (by decide +kernel) rfl
theorem d_X12_partFrom_10 : dk me_X12_partFrom 10 (.iload_n 1) 1 11 := And.intro (by decide +kernel) rfl
theorem d_X12_partFrom_11 : dk me_X12_partFrom 11 (.iload_n 2) 1 12 := And.intro (by decide +kernel) rfl
theorem d_X12_partFrom_12 : dk me_X12_partFrom 12 (.invokevirtual 304) 3 15 := And.intro (by decide +kernel) rfl
theorem d_X12_partFrom_15 : dk me_X12_partFrom 15 (.goto 24) 3 18 := And.intro (by decide +kernel) rfl
theorem d_X12_partFrom_18 : dk me_X12_partFrom 18 (.iload_n 2) 1 19 := And.intro (by decide +kernel) rfl
theorem d_X12_partFrom_19 : dk me_X12_partFrom 19 (.ifCond .ne 7) 3 22 := And.intro (by decide +kernel) rfl
theorem d_X12_partFrom_22 : dk me_X12_partFrom 22 (.iconst 0) 1 23 := And.intro (by decide +kernel) rfl
theorem d_X12_partFrom_23 : dk me_X12_partFrom 23 (.goto 16) 3 26 := And.intro (by decide +kernel) rfl
theorem d_X12_partFrom_26 : dk me_X12_partFrom 26 (.aload_n 0) 1 27 := And.intro (by decide +kernel) rfl
theorem d_X12_partFrom_27 : dk me_X12_partFrom 27 (.getfield 90) 3 30 := And.intro (by decide +kernel) rfl
theorem d_X12_partFrom_30 : dk me_X12_partFrom 30 (.bipush 16) 2 32 := And.intro (by decide +kernel) rfl
theorem d_X12_partFrom_32 : dk me_X12_partFrom 32 (.iload_n 1) 1 33 := And.intro (by decide +kernel) rfl
theorem d_X12_partFrom_33 : dk me_X12_partFrom 33 (.imul) 1 34 := And.intro (by decide +kernel) rfl
theorem d_X12_partFrom_34 : dk me_X12_partFrom 34 (.iload_n 2) 1 35 := And.intro (by decide +kernel) rfl
theorem d_X12_partFrom_35 : dk me_X12_partFrom 35 (.iadd) 1 36 := And.intro (by decide +kernel) rfl
theorem d_X12_partFrom_36 : dk me_X12_partFrom 36 (.iconst 1) 1 37 := And.intro (by decide +kernel) rfl
theorem d_X12_partFrom_37 : dk me_X12_partFrom 37 (.isub) 1 38 := And.intro (by decide +kernel) rfl
theorem d_X12_partFrom_38 : dk me_X12_partFrom 38 (.iaload) 1 39 := And.intro (by decide +kernel) rfl
theorem d_X12_partFrom_39 : dk me_X12_partFrom 39 (.ireturn) 1 40 := And.intro (by decide +kernel) rfl
theorem ms_X12_partFrom {fx : FX} {m : MM} {l0 : Nat} {l1 : Int} {l2 : Int} : MS fx me_X12_partFrom [aR (some (12, l0)), aI l1, aI l2] m ((f_X12_partFrom m l0 l1 l2).bind fun v => some (.inl (some (aI v)), m)) := by
  refine ms_of rfl mf_X12_partFrom (b8 rfl) ?_
  show Sim fx me_X12_partFrom 0 [(0, aR (some (12, l0))), (1, aI l1), (2, aI l2)] [] m _
  unfold f_X12_partFrom
  refine s_aload_n d_X12_partFrom_0 m0_ (s_getR cf d_X12_partFrom_1 fl_X12_68 (s_nk fun i1 => (s_iload_n d_X12_partFrom_4 m1_ (s_ldN d_X12_partFrom_5 ka_78 rfl fun v2 => (s_if_le (tgt := 18) d_X12_partFrom_6 rfl ?_ ?_)))))
  · refine s_iload_n d_X12_partFrom_18 m2_ (s_if_ne (tgt := 26) d_X12_partFrom_19 rfl ?_ ?_)
    · refine s_aload_n d_X12_partFrom_26 m0_ (s_getR cf d_X12_partFrom_27 fl_X12_90 (s_nk fun i3 => (s_bipush d_X12_partFrom_30 n_16 rfl (s_iload_n d_X12_partFrom_32 m1_ (s_imul d_X12_partFrom_33 rfl rfl ?_)))))
      exact s_iload_n d_X12_partFrom_34 m2_ (s_iadd d_X12_partFrom_35 rfl rfl (s_iconst d_X12_partFrom_36 n_1 (s_isub d_X12_partFrom_37 rfl rfl (s_ldN d_X12_partFrom_38 ka_85 rfl fun v4 => (s_iret d_X12_partFrom_39 rfl rfl)))))
    exact s_iconst d_X12_partFrom_22 n_0 (s_goto (tgt := 39) d_X12_partFrom_23 rfl (s_iret d_X12_partFrom_39 rfl rfl))
  exact s_aload_n d_X12_partFrom_9 m0_ (s_iload_n d_X12_partFrom_10 m1_ (s_iload_n d_X12_partFrom_11 m2_ (s_pI (r_V d_X12_partFrom_12 k_X12_castFrom w_1771 rfl rfl) ms_X12_castFrom (b8 rfl) rfl rfl rfl fun v5 => (s_goto (tgt := 39) d_X12_partFrom_15 rfl (s_iret d_X12_partFrom_39 rfl rfl)))))
theorem d_X12_partTo_0 : dk me_X12_partTo 0 (.aload_n 0) 1 1 := And.intro (by decide +kernel) rfl
theorem d_X12_partTo_1 : dk me_X12_partTo 1 (.getfield 68) 3 4 := And.intro (by decide +kernel) rfl
theorem d_X12_partTo_4 : dk me_X12_partTo 4 (.iload_n 1) 1 5 := And.intro (by decide +kernel) rfl
theorem d_X12_partTo_5 : dk me_X12_partTo 5 (.iaload) 1 6 := And.intro (by decide +kernel) rfl
theorem d_X12_partTo_6 : dk me_X12_partTo 6 (.ifCond .le 25) 3 9 := And.intro (by decide +kernel) rfl
theorem d_X12_partTo_9 : dk me_X12_partTo 9 (.iload_n 2) 1 10 := And.intro (by decide +kernel) rfl
theorem d_X12_partTo_10 : dk me_X12_partTo 10 (.aload_n 0) 1 11 := And.intro (by decide +kernel) rfl
theorem d_X12_partTo_11 : dk me_X12_partTo 11 (.iload_n 1) 1 12 := And.intro (by decide +kernel) rfl
theorem d_X12_partTo_12 : dk me_X12_partTo 12 (.invokevirtual 243) 3 15 := And.intro (by decide +kernel) rfl
theorem d_X12_partTo_15 : dk me_X12_partTo 15 (.iconst 1) 1 16 := And.intro (by decide +kernel) rfl
theorem d_X12_partTo_16 : dk me_X12_partTo 16 (.isub) 1 17 := And.intro (by decide +kernel) rfl
theorem d_X12_partTo_17 : dk me_X12_partTo 17 (.if_icmp .ge 14) 3 20 := And.intro (by decide +kernel) rfl
theorem d_X12_partTo_20 : dk me_X12_partTo 20 (.aload_n 0) 1 21 := And.intro (by decide +kernel) rfl
theorem d_X12_partTo_21 : dk me_X12_partTo 21 (.iload_n 1) 1 22 := And.intro (by decide +kernel) rfl
theorem d_X12_partTo_22 : dk me_X12_partTo 22 (.iload_n 2) 1 23 := And.intro (by decide +kernel) rfl
theorem d_X12_partTo_23 : dk me_X12_partTo 23 (.iconst 1) 1 24 := And.intro (by decide +kernel) rfl
theorem d_X12_partTo_24 : dk me_X12_partTo 24 (.iadd) 1 25 := And.intro (by decide +kernel) rfl
theorem d_X12_partTo_25 : dk me_X12_partTo 25 (.invokevirtual 304) 3 28 := And.intro (by decide +kernel) rfl
theorem d_X12_partTo_28 : dk me_X12_partTo 28 (.goto 9) 3 31 := And.intro (by decide +kernel) rfl
theorem d_X12_partTo_31 : dk me_X12_partTo 31 (.aload_n 0) 1 32 := And.intro (by decide +kernel) rfl
theorem d_X12_partTo_32 : dk me_X12_partTo 32 (.getfield 75) 3 35 := And.intro (by decide +kernel) rfl
theorem d_X12_partTo_35 : dk me_X12_partTo 35 (.iload_n 1) 1 36 := And.intro (by decide +kernel) rfl
theorem d_X12_partTo_36 : dk me_X12_partTo 36 (.iaload) 1 37 := And.intro (by decide +kernel) rfl
theorem d_X12_partTo_37 : dk me_X12_partTo 37 (.ireturn) 1 38 := And.intro (by decide +kernel) rfl
theorem ms_X12_partTo {fx : FX} {m : MM} {l0 : Nat} {l1 : Int} {l2 : Int} : MS fx me_X12_partTo [aR (some (12, l0)), aI l1, aI l2] m ((f_X12_partTo m l0 l1 l2).bind fun v => some (.inl (some (aI v)), m)) := by
  refine ms_of rfl mf_X12_partTo (b8 rfl) ?_
  show Sim fx me_X12_partTo 0 [(0, aR (some (12, l0))), (1, aI l1), (2, aI l2)] [] m _
  unfold f_X12_partTo
  have hj_X12_partTo_0_31 : ∀ (l0_31 : Nat) (l1_31 : Int), Sim fx me_X12_partTo 31 [(0, aR (some (12, l0_31))), (1, aI l1_31)] [] m ((j_X12_partTo_0_31 m l0_31 l1_31).bind (fun v => some (.inl (some (aI v)), m))) := by
    intro l0_31 l1_31
    unfold j_X12_partTo_0_31
    exact s_aload_n d_X12_partTo_31 m0_ (s_getR cf d_X12_partTo_32 fl_X12_75 (s_nk fun i5 => (s_iload_n d_X12_partTo_35 m1_ (s_ldN d_X12_partTo_36 ka_80 rfl fun v6 => (s_iret d_X12_partTo_37 rfl rfl)))))
  refine s_aload_n d_X12_partTo_0 m0_ (s_getR cf d_X12_partTo_1 fl_X12_68 (s_nk fun i1 => (s_iload_n d_X12_partTo_4 m1_ (s_ldN d_X12_partTo_5 ka_78 rfl fun v2 => (s_if_le (tgt := 31) d_X12_partTo_6 rfl ?_ ?_)))))
  · exact s_sub (subc m0_ (subc m1_ sub0)) (hj_X12_partTo_0_31 l0 l1)
  refine s_iload_n d_X12_partTo_9 m2_ (s_aload_n d_X12_partTo_10 m0_ (s_iload_n d_X12_partTo_11 m1_ (s_pI (r_V d_X12_partTo_12 k_X12_pagesOf w_1755 rfl rfl) ms_X12_pagesOf (b8 rfl) rfl rfl rfl fun v3 => (s_iconst d_X12_partTo_15 n_1 (s_isub d_X12_partTo_16 rfl rfl ?_)))))
  refine s_ck (s_icmp_ge (tgt := 31) d_X12_partTo_17 rfl ?_ ?_)
  · exact s_sub (subc m0_ (subc m1_ sub0)) (hj_X12_partTo_0_31 l0 l1)
  refine s_aload_n d_X12_partTo_20 m0_ (s_iload_n d_X12_partTo_21 m1_ (s_iload_n d_X12_partTo_22 m2_ (s_iconst d_X12_partTo_23 n_1 (s_iadd d_X12_partTo_24 rfl rfl (s_ck ?_)))))
  exact s_pI (r_V d_X12_partTo_25 k_X12_castFrom w_1771 rfl rfl) ms_X12_castFrom (b8 rfl) rfl rfl rfl fun v4 => (s_goto (tgt := 37) d_X12_partTo_28 rfl (s_iret d_X12_partTo_37 rfl rfl))
theorem d_X12_set_0 : dk me_X12_set 0 (.aload_n 0) 1 1 := And.intro (by decide +kernel) rfl
theorem d_X12_set_1 : dk me_X12_set 1 (.iload_n 1) 1 2 := And.intro (by decide +kernel) rfl
theorem d_X12_set_2 : dk me_X12_set 2 (.iload_n 2) 1 3 := And.intro (by decide +kernel) rfl
theorem d_X12_set_3 : dk me_X12_set 3 (.invokevirtual 333) 3 6 := And.intro (by decide +kernel) rfl
theorem d_X12_set_6 : dk me_X12_set 6 (.ifCond .eq 15) 3 9 := And.intro (by decide +kernel) rfl
theorem d_X12_set_9 : dk me_X12_set 9 (.aload_n 0) 1 10 := And.intro (by decide +kernel) rfl
theorem d_X12_set_10 : dk me_X12_set 10 (.iload_n 3) 1 11 := And.intro (by decide +kernel) rfl
theorem d_X12_set_11 : dk me_X12_set 11 (.invokevirtual 337) 3 14 := And.intro (by decide +kernel) rfl
theorem d_X12_set_14 : dk me_X12_set 14 (.ifCond .eq 7) 3 17 := And.intro (by decide +kernel) rfl
theorem d_X12_set_17 : dk me_X12_set 17 (.iconst 1) 1 18 := And.intro (by decide +kernel) rfl
theorem d_X12_set_18 : dk me_X12_set 18 (.goto 4) 3 21 := And.intro (by decide +kernel) rfl
theorem d_X12_set_21 : dk me_X12_set 21 (.iconst 0) 1 22 := And.intro (by decide +kernel) rfl
theorem d_X12_set_22 : dk me_X12_set 22 (.istore 4) 2 24 := And.intro (by decide +kernel) rfl
theorem d_X12_set_24 : dk me_X12_set 24 (.iload 4) 2 26 := And.intro (by decide +kernel) rfl
theorem d_X12_set_26 : dk me_X12_set 26 (.ifCond .eq 12) 3 29 := And.intro (by decide +kernel) rfl
theorem d_X12_set_29 : dk me_X12_set 29 (.bipush 16) 2 31 := And.intro (by decide +kernel) rfl
theorem d_X12_set_31 : dk me_X12_set 31 (.iload_n 1) 1 32 := And.intro (by decide +kernel) rfl
theorem d_X12_set_32 : dk me_X12_set 32 (.imul) 1 33 := And.intro (by decide +kernel) rfl
theorem d_X12_set_33 : dk me_X12_set 33 (.iload_n 2) 1 34 := And.intro (by decide +kernel) rfl
theorem d_X12_set_34 : dk me_X12_set 34 (.iadd) 1 35 := And.intro (by decide +kernel) rfl
theorem d_X12_set_35 : dk me_X12_set 35 (.goto 4) 3 38 := And.intro (by decide +kernel) rfl
theorem d_X12_set_38 : dk me_X12_set 38 (.iconst 0) 1 39 := And.intro (by decide +kernel) rfl
theorem d_X12_set_39 : dk me_X12_set 39 (.istore 5) 2 41 := And.intro (by decide +kernel) rfl
theorem d_X12_set_41 : dk me_X12_set 41 (.aload_n 0) 1 42 := And.intro (by decide +kernel) rfl
theorem d_X12_set_42 : dk me_X12_set 42 (.iload 4) 2 44 := And.intro (by decide +kernel) rfl
theorem d_X12_set_44 : dk me_X12_set 44 (.ifCond .ne 7) 3 47 := And.intro (by decide +kernel) rfl
theorem d_X12_set_47 : dk me_X12_set 47 (.iconst 1) 1 48 := And.intro (by decide +kernel) rfl
theorem d_X12_set_48 : dk me_X12_set 48 (.goto 36) 3 51 := And.intro (by decide +kernel) rfl
theorem d_X12_set_51 : dk me_X12_set 51 (.aload_n 0) 1 52 := And.intro (by decide +kernel) rfl
theorem d_X12_set_52 : dk me_X12_set 52 (.getfield 75) 3 55 := And.intro (by decide +kernel) rfl
theorem d_X12_set_55 : dk me_X12_set 55 (.iload_n 1) 1 56 := And.intro (by decide +kernel) rfl
theorem d_X12_set_56 : dk me_X12_set 56 (.iaload) 1 57 := And.intro (by decide +kernel) rfl
theorem d_X12_set_57 : dk me_X12_set 57 (.ifCond .eq 22) 3 60 := And.intro (by decide +kernel) rfl
theorem d_X12_set_60 : dk me_X12_set 60 (.aload_n 0) 1 61 := And.intro (by decide +kernel) rfl
theorem d_X12_set_61 : dk me_X12_set 61 (.getfield 84) 3 64 := And.intro (by decide +kernel) rfl
theorem d_X12_set_64 : dk me_X12_set 64 (.iload 5) 2 66 := And.intro (by decide +kernel) rfl
theorem d_X12_set_66 : dk me_X12_set 66 (.baload) 1 67 := And.intro (by decide +kernel) rfl
theorem d_X12_set_67 : dk me_X12_set 67 (.ifCond .ne 12) 3 70 := And.intro (by decide +kernel) rfl
theorem d_X12_set_70 : dk me_X12_set 70 (.aload_n 0) 1 71 := And.intro (by decide +kernel) rfl
theorem d_X12_set_71 : dk me_X12_set 71 (.iload_n 1) 1 72 := And.intro (by decide +kernel) rfl
theorem d_X12_set_72 : dk me_X12_set 72 (.iload_n 2) 1 73 := And.intro (by decide +kernel) rfl
theorem d_X12_set_73 : dk me_X12_set 73 (.invokevirtual 340) 3 76 := And.intro (by decide +kernel) rfl
theorem d_X12_set_76 : dk me_X12_set 76 (.ifCond .ne 7) 3 79 := And.intro (by decide +kernel) rfl
theorem d_X12_set_79 : dk me_X12_set 79 (.iconst 2) 1 80 := And.intro (by decide +kernel) rfl
theorem d_X12_set_80 : dk me_X12_set 80 (.goto 4) 3 83 := And.intro (by decide +kernel) rfl
theorem d_X12_set_83 : dk me_X12_set 83 (.iconst 0) 1 84 := And.intro (by decide +kernel) rfl
theorem d_X12_set_84 : dk me_X12_set 84 (.invokevirtual 260) 3 87 := And.intro (by decide +kernel) rfl
theorem d_X12_set_87 : dk me_X12_set 87 (.ifCond .ne 5) 3 90 := And.intro (by decide +kernel) rfl
theorem d_X12_set_90 : dk me_X12_set 90 (.iconst 0) 1 91 := And.intro (by decide +kernel) rfl
theorem d_X12_set_91 : dk me_X12_set 91 (.ireturn) 1 92 := And.intro (by decide +kernel) rfl
theorem d_X12_set_92 : dk me_X12_set 92 (.aload_n 0) 1 93 := And.intro (by decide +kernel) rfl
theorem d_X12_set_93 : dk me_X12_set 93 (.iload_n 1) 1 94 := And.intro (by decide +kernel) rfl
theorem d_X12_set_94 : dk me_X12_set 94 (.iload_n 2) 1 95 := And.intro (by decide +kernel) rfl
theorem d_X12_set_95 : dk me_X12_set 95 (.invokevirtual 343) 3 98 := And.intro (by decide +kernel) rfl
theorem d_X12_set_98 : dk me_X12_set 98 (.istore 6) 2 100 := And.intro (by decide +kernel) rfl
theorem d_X12_set_100 : dk me_X12_set 100 (.aload_n 0) 1 101 := And.intro (by decide +kernel) rfl
theorem d_X12_set_101 : dk me_X12_set 101 (.iload_n 1) 1 102 := And.intro (by decide +kernel) rfl
theorem d_X12_set_102 : dk me_X12_set 102 (.iload_n 2) 1 103 := And.intro (by decide +kernel) rfl
theorem d_X12_set_103 : dk me_X12_set 103 (.invokevirtual 346) 3 106 := And.intro (by decide +kernel) rfl
theorem d_X12_set_106 : dk me_X12_set 106 (.istore 7) 2 108 := And.intro (by decide +kernel) rfl
theorem d_X12_set_108 : dk me_X12_set 108 (.aload_n 0) 1 109 := And.intro (by decide +kernel) rfl
theorem d_X12_set_109 : dk me_X12_set 109 (.getfield 44) 3 112 := And.intro (by decide +kernel) rfl
theorem d_X12_set_112 : dk me_X12_set 112 (.iload_n 3) 1 113 := And.intro (by decide +kernel) rfl
theorem d_X12_set_113 : dk me_X12_set 113 (.iaload) 1 114 := And.intro (by decide +kernel) rfl
theorem d_X12_set_114 : dk me_X12_set 114 (.istore 8) 2 116 := And.intro (by decide +kernel) rfl
theorem d_X12_set_116 : dk me_X12_set 116 (.aload_n 0) 1 117 := And.intro (by decide +kernel) rfl
theorem d_X12_set_117 : dk me_X12_set 117 (.iload_n 1) 1 118 := And.intro (by decide +kernel) rfl
theorem d_X12_set_118 : dk me_X12_set 118 (.iload 5) 2 120 := And.intro (by decide +kernel) rfl
theorem d_X12_set_120 : dk me_X12_set 120 (.iload_n 3) 1 121 := And.intro (by decide +kernel) rfl
theorem d_X12_set_121 : dk me_X12_set 121 (.iload 6) 2 123 := And.intro (by decide +kernel) rfl
theorem d_X12_set_123 : dk me_X12_set 123 (.iload 7) 2 125 := And.intro (by decide +kernel) rfl
theorem d_X12_set_125 : dk me_X12_set 125 (.iconst 0) 1 126 := And.intro (by decide +kernel) rfl
theorem d_X12_set_126 : dk me_X12_set 126 (.invokevirtual 349) 3 129 := And.intro (by decide +kernel) rfl
theorem d_X12_set_129 : dk me_X12_set 129 (.istore 9) 2 131 := And.intro (by decide +kernel) rfl
theorem d_X12_set_131 : dk me_X12_set 131 (.aload_n 0) 1 132 := And.intro (by decide +kernel) rfl
theorem d_X12_set_132 : dk me_X12_set 132 (.getfield 68) 3 135 := And.intro (by decide +kernel) rfl
theorem d_X12_set_135 : dk me_X12_set 135 (.iload_n 1) 1 136 := And.intro (by decide +kernel) rfl
theorem d_X12_set_136 : dk me_X12_set 136 (.iaload) 1 137 := And.intro (by decide +kernel) rfl
theorem d_X12_set_137 : dk me_X12_set 137 (.ifCond .le 14) 3 140 := And.intro (by decide +kernel) rfl
theorem d_X12_set_140 : dk me_X12_set 140 (.iload 9) 2 142 := And.intro (by decide +kernel) rfl
theorem d_X12_set_142 : dk me_X12_set 142 (.iload 7) 2 144 := And.intro (by decide +kernel) rfl
theorem d_X12_set_144 : dk me_X12_set 144 (.if_icmp .ge 7) 3 147 := And.intro (by decide +kernel) rfl
theorem d_X12_set_147 : dk me_X12_set 147 (.iconst 1) 1 148 := And.intro (by decide +kernel) rfl
theorem d_X12_set_148 : dk me_X12_set 148 (.goto 4) 3 151 := And.intro (by decide +kernel) rfl
theorem d_X12_set_151 : dk me_X12_set 151 (.iconst 0) 1 152 := And.intro (by decide +kernel) rfl
theorem d_X12_set_152 : dk me_X12_set 152 (.istore 10) 2 154 := And.intro (by decide +kernel) rfl
theorem d_X12_set_154 : dk me_X12_set 154 (.iload 10) 2 156 := And.intro (by decide +kernel) rfl
theorem d_X12_set_156 : dk me_X12_set 156 (.ifCond .eq 26) 3 159 := And.intro (by decide +kernel) rfl
theorem d_X12_set_159 : dk me_X12_set 159 (.aload_n 0) 1 160 := And.intro (by decide +kernel) rfl
theorem d_X12_set_160 : dk me_X12_set 160 (.getfield 44) 3 163 := And.intro (by decide +kernel) rfl
theorem d_X12_set_163 : dk me_X12_set 163 (.iload_n 3) 1 164 := And.intro (by decide +kernel) rfl
theorem d_X12_set_164 : dk me_X12_set 164 (.iload 8) 2 166 := And.intro (by decide +kernel) rfl
theorem d_X12_set_166 : dk me_X12_set 166 (.iastore) 1 167 := And.intro (by decide +kernel) rfl
theorem d_X12_set_167 : dk me_X12_set 167 (.aload_n 0) 1 168 := And.intro (by decide +kernel) rfl
theorem d_X12_set_168 : dk me_X12_set 168 (.iload_n 1) 1 169 := And.intro (by decide +kernel) rfl
theorem d_X12_set_169 : dk me_X12_set 169 (.iload 5) 2 171 := And.intro (by decide +kernel) rfl
theorem d_X12_set_171 : dk me_X12_set 171 (.iload_n 3) 1 172 := And.intro (by decide +kernel) rfl
theorem d_X12_set_172 : dk me_X12_set 172 (.iload 6) 2 174 := And.intro (by decide +kernel) rfl
theorem d_X12_set_174 : dk me_X12_set 174 (.iload 7) 2 176 := And.intro (by decide +kernel) rfl
theorem d_X12_set_176 : dk me_X12_set 176 (.iconst 1) 1 177 := And.intro (by decide +kernel) rfl
theorem d_X12_set_177 : dk me_X12_set 177 (.invokevirtual 349) 3 180 := And.intro (by decide +kernel) rfl
theorem d_X12_set_180 : dk me_X12_set 180 (.istore 9) 2 182 := And.intro (by decide +kernel) rfl
theorem d_X12_set_182 : dk me_X12_set 182 (.aload_n 0) 1 183 := And.intro (by decide +kernel) rfl
theorem d_X12_set_183 : dk me_X12_set 183 (.getfield 84) 3 186 := And.intro (by decide +kernel) rfl
theorem d_X12_set_186 : dk me_X12_set 186 (.iload 5) 2 188 := And.intro (by decide +kernel) rfl
theorem d_X12_set_188 : dk me_X12_set 188 (.iconst 1) 1 189 := And.intro (by decide +kernel) rfl
theorem d_X12_set_189 : dk me_X12_set 189 (.bastore) 1 190 := And.intro (by decide +kernel) rfl
theorem d_X12_set_190 : dk me_X12_set 190 (.aload_n 0) 1 191 := And.intro (by decide +kernel) rfl
theorem d_X12_set_191 : dk me_X12_set 191 (.getfield 87) 3 194 := And.intro (by decide +kernel) rfl
theorem d_X12_set_194 : dk me_X12_set 194 (.iload 5) 2 196 := And.intro (by decide +kernel) rfl
theorem d_X12_set_196 : dk me_X12_set 196 (.iload_n 3) 1 197 := And.intro (by decide +kernel) rfl
theorem d_X12_set_197 : dk me_X12_set 197 (.iastore) 1 198 := And.intro (by decide +kernel) rfl
theorem d_X12_set_198 : dk me_X12_set 198 (.aload_n 0) 1 199 := And.intro (by decide +kernel) rfl
theorem d_X12_set_199 : dk me_X12_set 199 (.getfield 90) 3 202 := And.intro (by decide +kernel) rfl
theorem d_X12_set_202 : dk me_X12_set 202 (.iload 5) 2 204 := And.intro (by decide +kernel) rfl
theorem d_X12_set_204 : dk me_X12_set 204 (.iload 9) 2 206 := And.intro (by decide +kernel) rfl
theorem d_X12_set_206 : dk me_X12_set 206 (.iastore) 1 207 := And.intro (by decide +kernel) rfl
theorem d_X12_set_207 : dk me_X12_set 207 (.aload_n 0) 1 208 := And.intro (by decide +kernel) rfl
theorem d_X12_set_208 : dk me_X12_set 208 (.getfield 93) 3 211 := And.intro (by decide +kernel) rfl
theorem d_X12_set_211 : dk me_X12_set 211 (.iload 5) 2 213 := And.intro (by decide +kernel) rfl
theorem d_X12_set_213 : dk me_X12_set 213 (.iload 10) 2 215 := And.intro (by decide +kernel) rfl
theorem d_X12_set_215 : dk me_X12_set 215 (.ifCond .eq 7) 3 218 := And.intro (by decide +kernel) rfl
theorem d_X12_set_218 : dk me_X12_set 218 (.iconst 1) 1 219 := And.intro (by decide +kernel) rfl
theorem d_X12_set_219 : dk me_X12_set 219 (.goto 4) 3 222 := And.intro (by decide +kernel) rfl
theorem d_X12_set_222 : dk me_X12_set 222 (.iconst 0) 1 223 := And.intro (by decide +kernel) rfl
theorem d_X12_set_223 : dk me_X12_set 223 (.iastore) 1 224 := And.intro (by decide +kernel) rfl
theorem d_X12_set_224 : dk me_X12_set 224 (.aload_n 0) 1 225 := And.intro (by decide +kernel) rfl
theorem d_X12_set_225 : dk me_X12_set 225 (.getfield 96) 3 228 := And.intro (by decide +kernel) rfl
theorem d_X12_set_228 : dk me_X12_set 228 (.iload 5) 2 230 := And.intro (by decide +kernel) rfl
theorem d_X12_set_230 : dk me_X12_set 230 (.iload 10) 2 232 := And.intro (by decide +kernel) rfl
theorem d_X12_set_232 : dk me_X12_set 232 (.ifCond .eq 11) 3 235 := And.intro (by decide +kernel) rfl
theorem d_X12_set_235 : dk me_X12_set 235 (.iload 7) 2 237 := And.intro (by decide +kernel) rfl
theorem d_X12_set_237 : dk me_X12_set 237 (.iload 9) 2 239 := And.intro (by decide +kernel) rfl
theorem d_X12_set_239 : dk me_X12_set 239 (.isub) 1 240 := And.intro (by decide +kernel) rfl
theorem d_X12_set_240 : dk me_X12_set 240 (.goto 4) 3 243 := And.intro (by decide +kernel) rfl
theorem d_X12_set_243 : dk me_X12_set 243 (.iconst 0) 1 244 := And.intro (by decide +kernel) rfl
theorem d_X12_set_244 : dk me_X12_set 244 (.iastore) 1 245 := And.intro (by decide +kernel) rfl
theorem d_X12_set_245 : dk me_X12_set 245 (.iconst 0) 1 246 := And.intro (by decide +kernel) rfl
theorem d_X12_set_246 : dk me_X12_set 246 (.istore 11) 2 248 := And.intro (by decide +kernel) rfl
theorem d_X12_set_248 : dk me_X12_set 248 (.iload 11) 2 250 := And.intro (by decide +kernel) rfl
theorem d_X12_set_250 : dk me_X12_set 250 (.aload_n 0) 1 251 := And.intro (by decide +kernel) rfl
theorem d_X12_set_251 : dk me_X12_set 251 (.getfield 99) 3 254 := And.intro (by decide +kernel) rfl
theorem d_X12_set_254 : dk me_X12_set 254 (.iload 5) 2 256 := And.intro (by decide +kernel) rfl
theorem d_X12_set_256 : dk me_X12_set 256 (.iaload) 1 257 := And.intro (by decide +kernel) rfl
theorem d_X12_set_257 : dk me_X12_set 257 (.if_icmp .ge 42) 3 260 := And.intro (by decide +kernel) rfl
theorem d_X12_set_260 : dk me_X12_set 260 (.aload_n 0) 1 261 := And.intro (by decide +kernel) rfl
theorem d_X12_set_261 : dk me_X12_set 261 (.getfield 117) 3 264 := And.intro (by decide +kernel) rfl
theorem d_X12_set_264 : dk me_X12_set 264 (.bipush 6) 2 266 := And.intro (by decide +kernel) rfl
theorem d_X12_set_266 : dk me_X12_set 266 (.iload 5) 2 268 := And.intro (by decide +kernel) rfl
theorem d_X12_set_268 : dk me_X12_set 268 (.imul) 1 269 := And.intro (by decide +kernel) rfl
theorem d_X12_set_269 : dk me_X12_set 269 (.iload 11) 2 271 := And.intro (by decide +kernel) rfl
theorem d_X12_set_271 : dk me_X12_set 271 (.iadd) 1 272 := And.intro (by decide +kernel) rfl
theorem d_X12_set_272 : dk me_X12_set 272 (.iaload) 1 273 := And.intro (by decide +kernel) rfl
theorem d_X12_set_273 : dk me_X12_set 273 (.iconst 1) 1 274 := And.intro (by decide +kernel) rfl
theorem d_X12_set_274 : dk me_X12_set 274 (.if_icmp .ne 19) 3 277 := And.intro (by decide +kernel) rfl
theorem d_X12_set_277 : dk me_X12_set 277 (.aload_n 0) 1 278 := And.intro (by decide +kernel) rfl
theorem d_X12_set_278 : dk me_X12_set 278 (.iload 5) 2 280 := And.intro (by decide +kernel) rfl
theorem d_X12_set_280 : dk me_X12_set 280 (.bipush 6) 2 282 := And.intro (by decide +kernel) rfl
theorem d_X12_set_282 : dk me_X12_set 282 (.iload 5) 2 284 := And.intro (by decide +kernel) rfl
theorem d_X12_set_284 : dk me_X12_set 284 (.imul) 1 285 := And.intro (by decide +kernel) rfl
theorem d_X12_set_285 : dk me_X12_set 285 (.iload 11) 2 287 := And.intro (by decide +kernel) rfl
theorem d_X12_set_287 : dk me_X12_set 287 (.iadd) 1 288 := And.intro (by decide +kernel) rfl
theorem d_X12_set_288 : dk me_X12_set 288 (.iload 10) 2 290 := And.intro (by decide +kernel) rfl
theorem d_X12_set_290 : dk me_X12_set 290 (.invokevirtual 353) 3 293 := And.intro (by decide +kernel) rfl
theorem d_X12_set_293 : dk me_X12_set 293 (.iinc 11 1) 3 296 := And.intro (by decide +kernel) rfl
theorem d_X12_set_296 : dk me_X12_set 296 (.goto (-48)) 3 299 := And.intro (by decide +kernel) rfl
theorem d_X12_set_299 : dk me_X12_set 299 (.aload_n 0) 1 300 := And.intro (by decide +kernel) rfl
theorem d_X12_set_300 : dk me_X12_set 300 (.iload_n 1) 1 301 := And.intro (by decide +kernel) rfl
theorem d_X12_set_301 : dk me_X12_set 301 (.iload_n 2) 1 302 := And.intro (by decide +kernel) rfl
theorem d_X12_set_302 : dk me_X12_set 302 (.iload_n 3) 1 303 := And.intro (by decide +kernel) rfl
theorem d_X12_set_303 : dk me_X12_set 303 (.invokevirtual 357) 3 306 := And.intro (by decide +kernel) rfl
theorem d_X12_set_306 : dk me_X12_set 306 (.ireturn) 1 307 := And.intro (by decide +kernel) rfl
theorem ms_X12_set {fx : FX} {m : MM} {l0 : Nat} {l1 : Int} {l2 : Int} {l3 : Int} : MS fx me_X12_set [aR (some (12, l0)), aI l1, aI l2, aI l3] m (f_X12_set m l0 l1 l2 l3) := by
  refine ms_of rfl mf_X12_set (b8 rfl) ?_
  refine s_top ?_
  show Sim fx me_X12_set 0 [(0, aR (some (12, l0))), (1, aI l1), (2, aI l2), (3, aI l3)] [] m _
  unfold f_X12_set
  have hj_X12_set_0_299 : ∀ (m_299 : MM) (l0_299 : Nat) (l1_299 : Int) (l2_299 : Int) (l3_299 : Int), Sim fx me_X12_set 299 [(0, aR (some (12, l0_299))), (1, aI l1_299), (2, aI l2_299), (3, aI l3_299)] [] m_299 ((j_X12_set_0_299 m_299 l0_299 l1_299 l2_299 l3_299).bind (fun z => some z)) := by
    intro m_299 l0_299 l1_299 l2_299 l3_299
    unfold j_X12_set_0_299
    exact s_aload_n d_X12_set_299 m0_ (s_iload_n d_X12_set_300 m1_ (s_iload_n d_X12_set_301 m2_ (s_iload_n d_X12_set_302 m3_ (s_cI (r_V d_X12_set_303 k_X12_fillsPlaces w_1815 rfl rfl) ms_X12_fillsPlaces (b8 rfl) rfl rfl rfl (fun _ _ _ => rfl) (fun _ _ => Or.inl rfl) fun v39 m38 => (s_iret d_X12_set_306 rfl rfl)))))
  have hj_X12_set_0_244 : ∀ (m_244 : MM) (l0_244 : Nat) (l1_244 : Int) (l2_244 : Int) (l3_244 : Int) (l5_244 : Int) (l10_244 : Int) (s0_244 : Nat) (s1_244 : Int) (s2_244 : Int), Sim fx me_X12_set 244 [(0, aR (some (12, l0_244))), (1, aI l1_244), (2, aI l2_244), (3, aI l3_244), (5, aI l5_244), (10, aI l10_244)] [aI s2_244, aI s1_244, aR (some (87, s0_244))] m_244 ((j_X12_set_0_244 m_244 l0_244 l1_244 l2_244 l3_244 l5_244 l10_244 s0_244 s1_244 s2_244).bind (fun z => some z)) := by
    intro m_244 l0_244 l1_244 l2_244 l3_244 l5_244 l10_244 s0_244 s1_244 s2_244
    unfold j_X12_set_0_244
    refine s_stN d_X12_set_244 ka_87 rfl fun m31 => (s_iconst d_X12_set_245 n_0 (s_istore (L' := [(11, aI 0), (0, aR (some (12, l0_244))), (1, aI l1_244), (2, aI l2_244), (3, aI l3_244), (5, aI l5_244), (10, aI l10_244)]) d_X12_set_246 (b8 rfl) rfl (s_sub (subc m0_ (subc m1_ (subc m2_ (subc m3_ (subc m4_ (subc m5_ (subc m6_ sub0))))))) (s_lp2 (fun s => [(11, aI (s.1)), (0, aR (some (12, l0_244))), (1, aI l1_244), (2, aI l2_244), (3, aI l3_244), (5, aI l5_244), (10, aI l10_244)]) (fun s => s.2) (0, m31) fun k248 hx248 s ih0 => ?_))))
    obtain ⟨l11_248, mm_248⟩ := s
    have ih248 := ih0
    clear ih0
    try dsimp only
    unfold b_X12_set_248
    refine s_iload d_X12_set_248 m0_ (s_aload_n d_X12_set_250 m1_ (s_getR cf d_X12_set_251 fl_X12_99 (s_nk fun i32 => (s_iload d_X12_set_254 m5_ (s_ldN d_X12_set_256 ka_88 rfl fun v33 => ?_)))))
    refine s_icmp_ge (tgt := 299) d_X12_set_257 rfl ?_ ?_
    · exact s_exit (hx248 _) (s_sub (subc m1_ (subc m2_ (subc m3_ (subc m4_ sub0)))) (hj_X12_set_0_299 mm_248 l0_244 l1_244 l2_244 l3_244))
    refine s_aload_n d_X12_set_260 m1_ (s_getR cf d_X12_set_261 fl_X12_117 (s_nk fun i34 => (s_bipush d_X12_set_264 n_6 rfl (s_iload d_X12_set_266 m5_ (s_imul d_X12_set_268 rfl rfl ?_)))))
    refine s_iload d_X12_set_269 m0_ (s_iadd d_X12_set_271 rfl rfl (s_ldN d_X12_set_272 ka_94 rfl fun v35 => (s_iconst d_X12_set_273 n_1 (s_icmp_ne (tgt := 293) d_X12_set_274 rfl ?_ ?_))))
    · exact s_iinc (L' := [(11, aI (l11_248 + 1)), (0, aR (some (12, l0_244))), (1, aI l1_244), (2, aI l2_244), (3, aI l3_244), (5, aI l5_244), (10, aI l10_244)]) d_X12_set_293 m0_ (b8 rfl) rfl (s_goto (tgt := 248) d_X12_set_296 rfl (s_sub (subc m0_ (subc m1_ (subc m2_ (subc m3_ (subc m4_ (subc m5_ (subc m6_ sub0))))))) (s_back (ih248 ((l11_248 + 1), mm_248)))))
    refine s_aload_n d_X12_set_277 m1_ (s_iload d_X12_set_278 m5_ (s_bipush d_X12_set_280 n_6 rfl (s_iload d_X12_set_282 m5_ (s_imul d_X12_set_284 rfl rfl (s_iload d_X12_set_285 m0_ ?_)))))
    refine s_iadd d_X12_set_287 rfl rfl (s_iload d_X12_set_288 m6_ (s_ck1 (s_cV (r_V d_X12_set_290 k_X12_fillsOut w_1811 rfl rfl) ms_X12_fillsOut (b8 rfl) rfl rfl rfl (fun _ _ _ => rfl) (fun _ _ => Or.inl rfl) fun m36 => (s_iinc (L' := [(11, aI (l11_248 + 1)), (0, aR (some (12, l0_244))), (1, aI l1_244), (2, aI l2_244), (3, aI l3_244), (5, aI l5_244), (10, aI l10_244)]) d_X12_set_293 m0_ (b8 rfl) rfl (s_goto (tgt := 248) d_X12_set_296 rfl ?_)))))
    exact s_sub (subc m0_ (subc m1_ (subc m2_ (subc m3_ (subc m4_ (subc m5_ (subc m6_ sub0))))))) (s_back (ih248 ((l11_248 + 1), m36)))
  have hj_X12_set_0_223 : ∀ (m_223 : MM) (l0_223 : Nat) (l1_223 : Int) (l2_223 : Int) (l3_223 : Int) (l5_223 : Int) (l7_223 : Int) (l9_223 : Int) (l10_223 : Int) (s0_223 : Nat) (s1_223 : Int) (s2_223 : Int), Sim fx me_X12_set 223 [(0, aR (some (12, l0_223))), (1, aI l1_223), (2, aI l2_223), (3, aI l3_223), (5, aI l5_223), (7, aI l7_223), (9, aI l9_223), (10, aI l10_223)] [aI s2_223, aI s1_223, aR (some (86, s0_223))] m_223 ((j_X12_set_0_223 m_223 l0_223 l1_223 l2_223 l3_223 l5_223 l7_223 l9_223 l10_223 s0_223 s1_223 s2_223).bind (fun z => some z)) := by
    intro m_223 l0_223 l1_223 l2_223 l3_223 l5_223 l7_223 l9_223 l10_223 s0_223 s1_223 s2_223
    unfold j_X12_set_0_223
    refine s_stN d_X12_set_223 ka_86 rfl fun m29 => (s_aload_n d_X12_set_224 m0_ (s_getR cf d_X12_set_225 fl_X12_96 (s_nk fun i30 => (s_iload d_X12_set_228 m4_ (s_iload d_X12_set_230 m7_ ?_)))))
    refine s_if_eq (tgt := 243) d_X12_set_232 rfl ?_ ?_
    · exact s_iconst d_X12_set_243 n_0 (s_sub (subc m0_ (subc m1_ (subc m2_ (subc m3_ (subc m4_ (subc m7_ sub0)))))) (hj_X12_set_0_244 m29 l0_223 l1_223 l2_223 l3_223 l5_223 l10_223 i30 l5_223 0))
    exact s_iload d_X12_set_235 m5_ (s_iload d_X12_set_237 m6_ (s_isub d_X12_set_239 rfl rfl (s_goto (tgt := 244) d_X12_set_240 rfl (s_ck (s_sub (subc m0_ (subc m1_ (subc m2_ (subc m3_ (subc m4_ (subc m7_ sub0)))))) (hj_X12_set_0_244 m29 l0_223 l1_223 l2_223 l3_223 l5_223 l10_223 i30 l5_223 (l7_223 - l9_223)))))))
  have hj_X12_set_0_182 : ∀ (m_182 : MM) (l0_182 : Nat) (l1_182 : Int) (l2_182 : Int) (l3_182 : Int) (l5_182 : Int) (l7_182 : Int) (l9_182 : Int) (l10_182 : Int), Sim fx me_X12_set 182 [(0, aR (some (12, l0_182))), (1, aI l1_182), (2, aI l2_182), (3, aI l3_182), (5, aI l5_182), (7, aI l7_182), (9, aI l9_182), (10, aI l10_182)] [] m_182 ((j_X12_set_0_182 m_182 l0_182 l1_182 l2_182 l3_182 l5_182 l7_182 l9_182 l10_182).bind (fun z => some z)) := by
    intro m_182 l0_182 l1_182 l2_182 l3_182 l5_182 l7_182 l9_182 l10_182
    unfold j_X12_set_0_182
    refine s_aload_n d_X12_set_182 m0_ (s_getR cf d_X12_set_183 fl_X12_84 (s_nk fun i22 => (s_iload d_X12_set_186 m4_ (s_iconst d_X12_set_188 n_1 (s_stBl d_X12_set_189 ka_83 rfl (by decide) fun m23 => ?_)))))
    refine s_aload_n d_X12_set_190 m0_ (s_getR cf d_X12_set_191 fl_X12_87 (s_nk fun i24 => (s_iload d_X12_set_194 m4_ (s_iload_n d_X12_set_196 m3_ (s_stN d_X12_set_197 ka_84 rfl fun m25 => ?_)))))
    refine s_aload_n d_X12_set_198 m0_ (s_getR cf d_X12_set_199 fl_X12_90 (s_nk fun i26 => (s_iload d_X12_set_202 m4_ (s_iload d_X12_set_204 m6_ (s_stN d_X12_set_206 ka_85 rfl fun m27 => ?_)))))
    refine s_aload_n d_X12_set_207 m0_ (s_getR cf d_X12_set_208 fl_X12_93 (s_nk fun i28 => (s_iload d_X12_set_211 m4_ (s_iload d_X12_set_213 m7_ (s_if_eq (tgt := 222) d_X12_set_215 rfl ?_ ?_)))))
    · exact s_iconst d_X12_set_222 n_0 (s_sub (subc m0_ (subc m1_ (subc m2_ (subc m3_ (subc m4_ (subc m5_ (subc m6_ (subc m7_ sub0)))))))) (hj_X12_set_0_223 m27 l0_182 l1_182 l2_182 l3_182 l5_182 l7_182 l9_182 l10_182 i28 l5_182 0))
    exact s_iconst d_X12_set_218 n_1 (s_goto (tgt := 223) d_X12_set_219 rfl (s_sub (subc m0_ (subc m1_ (subc m2_ (subc m3_ (subc m4_ (subc m5_ (subc m6_ (subc m7_ sub0)))))))) (hj_X12_set_0_223 m27 l0_182 l1_182 l2_182 l3_182 l5_182 l7_182 l9_182 l10_182 i28 l5_182 1)))
  have hj_X12_set_0_152 : ∀ (m_152 : MM) (l0_152 : Nat) (l1_152 : Int) (l2_152 : Int) (l3_152 : Int) (l5_152 : Int) (l6_152 : Int) (l7_152 : Int) (l8_152 : Int) (l9_152 : Int) (s0_152 : Int), Sim fx me_X12_set 152 [(0, aR (some (12, l0_152))), (1, aI l1_152), (2, aI l2_152), (3, aI l3_152), (5, aI l5_152), (6, aI l6_152), (7, aI l7_152), (8, aI l8_152), (9, aI l9_152)] [aI s0_152] m_152 ((j_X12_set_0_152 m_152 l0_152 l1_152 l2_152 l3_152 l5_152 l6_152 l7_152 l8_152 l9_152 s0_152).bind (fun z => some z)) := by
    intro m_152 l0_152 l1_152 l2_152 l3_152 l5_152 l6_152 l7_152 l8_152 l9_152 s0_152
    unfold j_X12_set_0_152
    refine s_istore (L' := [(10, aI s0_152), (0, aR (some (12, l0_152))), (1, aI l1_152), (2, aI l2_152), (3, aI l3_152), (5, aI l5_152), (6, aI l6_152), (7, aI l7_152), (8, aI l8_152), (9, aI l9_152)]) d_X12_set_152 (b8 rfl) rfl (s_iload d_X12_set_154 m0_ (s_if_eq (tgt := 182) d_X12_set_156 rfl ?_ ?_))
    · exact s_sub (subc m1_ (subc m2_ (subc m3_ (subc m4_ (subc m5_ (subc m7_ (subc m9_ (subc m0_ sub0)))))))) (hj_X12_set_0_182 m_152 l0_152 l1_152 l2_152 l3_152 l5_152 l7_152 l9_152 s0_152)
    refine s_aload_n d_X12_set_159 m1_ (s_getR cf d_X12_set_160 fl_X12_44 (s_nk fun i18 => (s_iload_n d_X12_set_163 m4_ (s_iload d_X12_set_164 m8_ (s_stN d_X12_set_166 ka_70 rfl fun m19 => ?_)))))
    refine s_aload_n d_X12_set_167 m1_ (s_iload_n d_X12_set_168 m2_ (s_iload d_X12_set_169 m5_ (s_iload_n d_X12_set_171 m4_ (s_iload d_X12_set_172 m6_ (s_iload d_X12_set_174 m7_ ?_)))))
    exact s_iconst d_X12_set_176 n_1 (s_cI (r_V d_X12_set_177 k_X12_laysLines w_1799 rfl rfl) ms_X12_laysLines (b8 rfl) rfl rfl rfl (fun _ _ _ => rfl) (fun _ _ => Or.inl rfl) fun v21 m20 => (s_istore (L' := [(9, aI v21), (10, aI s0_152), (0, aR (some (12, l0_152))), (1, aI l1_152), (2, aI l2_152), (3, aI l3_152), (5, aI l5_152), (6, aI l6_152), (7, aI l7_152), (8, aI l8_152)]) d_X12_set_180 (b8 rfl) rfl (s_sub (subc m2_ (subc m3_ (subc m4_ (subc m5_ (subc m6_ (subc m8_ (subc m0_ (subc m1_ sub0)))))))) (hj_X12_set_0_182 m20 l0_152 l1_152 l2_152 l3_152 l5_152 l7_152 v21 s0_152))))
  have hj_X12_set_0_151 : ∀ (m_151 : MM) (l0_151 : Nat) (l1_151 : Int) (l2_151 : Int) (l3_151 : Int) (l5_151 : Int) (l6_151 : Int) (l7_151 : Int) (l8_151 : Int) (l9_151 : Int), Sim fx me_X12_set 151 [(0, aR (some (12, l0_151))), (1, aI l1_151), (2, aI l2_151), (3, aI l3_151), (5, aI l5_151), (6, aI l6_151), (7, aI l7_151), (8, aI l8_151), (9, aI l9_151)] [] m_151 ((j_X12_set_0_151 m_151 l0_151 l1_151 l2_151 l3_151 l5_151 l6_151 l7_151 l8_151 l9_151).bind (fun z => some z)) := by
    intro m_151 l0_151 l1_151 l2_151 l3_151 l5_151 l6_151 l7_151 l8_151 l9_151
    unfold j_X12_set_0_151
    exact s_iconst d_X12_set_151 n_0 (s_sub (subc m0_ (subc m1_ (subc m2_ (subc m3_ (subc m4_ (subc m5_ (subc m6_ (subc m7_ (subc m8_ sub0))))))))) (hj_X12_set_0_152 m_151 l0_151 l1_151 l2_151 l3_151 l5_151 l6_151 l7_151 l8_151 l9_151 0))
  have hj_X12_set_0_84 : ∀ (m_84 : MM) (l0_84 : Nat) (l1_84 : Int) (l2_84 : Int) (l3_84 : Int) (l5_84 : Int) (s0_84 : Nat) (s1_84 : Int), Sim fx me_X12_set 84 [(0, aR (some (12, l0_84))), (1, aI l1_84), (2, aI l2_84), (3, aI l3_84), (5, aI l5_84)] [aI s1_84, aR (some (12, s0_84))] m_84 ((j_X12_set_0_84 m_84 l0_84 l1_84 l2_84 l3_84 l5_84 s0_84 s1_84).bind (fun z => some z)) := by
    intro m_84 l0_84 l1_84 l2_84 l3_84 l5_84 s0_84 s1_84
    unfold j_X12_set_0_84
    refine s_cI (r_V d_X12_set_84 k_X12_holds w_1668 rfl rfl) ms_X12_holds (b8 rfl) rfl rfl rfl (fun _ _ _ => rfl) (fun _ _ => Or.inl rfl) fun v9 m8 => (s_if_ne (tgt := 92) d_X12_set_87 rfl ?_ ?_)
    · refine s_aload_n d_X12_set_92 m0_ (s_iload_n d_X12_set_93 m1_ (s_iload_n d_X12_set_94 m2_ (s_pI (r_V d_X12_set_95 k_X12_partFrom w_1791 rfl rfl) ms_X12_partFrom (b8 rfl) rfl rfl rfl fun v10 => (s_istore (L' := [(6, aI v10), (0, aR (some (12, l0_84))), (1, aI l1_84), (2, aI l2_84), (3, aI l3_84), (5, aI l5_84)]) d_X12_set_98 (b8 rfl) rfl (s_aload_n d_X12_set_100 m1_ ?_)))))
      refine s_iload_n d_X12_set_101 m2_ (s_iload_n d_X12_set_102 m3_ (s_pI (r_V d_X12_set_103 k_X12_partTo w_1795 rfl rfl) ms_X12_partTo (b8 rfl) rfl rfl rfl fun v11 => (s_istore (L' := [(7, aI v11), (6, aI v10), (0, aR (some (12, l0_84))), (1, aI l1_84), (2, aI l2_84), (3, aI l3_84), (5, aI l5_84)]) d_X12_set_106 (b8 rfl) rfl (s_aload_n d_X12_set_108 m2_ (s_getR cf d_X12_set_109 fl_X12_44 ?_)))))
      refine s_nk fun i12 => (s_iload_n d_X12_set_112 m5_ (s_ldN d_X12_set_113 ka_70 rfl fun v13 => (s_istore (L' := [(8, aI v13), (7, aI v11), (6, aI v10), (0, aR (some (12, l0_84))), (1, aI l1_84), (2, aI l2_84), (3, aI l3_84), (5, aI l5_84)]) d_X12_set_114 (b8 rfl) rfl (s_aload_n d_X12_set_116 m3_ (s_iload_n d_X12_set_117 m4_ ?_)))))
      refine s_iload d_X12_set_118 m7_ (s_iload_n d_X12_set_120 m6_ (s_iload d_X12_set_121 m2_ (s_iload d_X12_set_123 m1_ (s_iconst d_X12_set_125 n_0 (s_cI (r_V d_X12_set_126 k_X12_laysLines w_1799 rfl rfl) ms_X12_laysLines (b8 rfl) rfl rfl rfl (fun _ _ _ => rfl) (fun _ _ => Or.inl rfl) fun v15 m14 => ?_)))))
      refine s_istore (L' := [(9, aI v15), (8, aI v13), (7, aI v11), (6, aI v10), (0, aR (some (12, l0_84))), (1, aI l1_84), (2, aI l2_84), (3, aI l3_84), (5, aI l5_84)]) d_X12_set_129 (b8 rfl) rfl (s_aload_n d_X12_set_131 m4_ (s_getR cf d_X12_set_132 fl_X12_68 (s_nk fun i16 => (s_iload_n d_X12_set_135 m5_ (s_ldN d_X12_set_136 ka_78 rfl fun v17 => ?_)))))
      refine s_if_le (tgt := 151) d_X12_set_137 rfl ?_ ?_
      · exact s_sub (subc m4_ (subc m5_ (subc m6_ (subc m7_ (subc m8_ (subc m3_ (subc m2_ (subc m1_ (subc m0_ sub0))))))))) (hj_X12_set_0_151 m14 l0_84 l1_84 l2_84 l3_84 l5_84 v10 v11 v13 v15)
      refine s_iload d_X12_set_140 m0_ (s_iload d_X12_set_142 m2_ (s_icmp_ge (tgt := 151) d_X12_set_144 rfl ?_ ?_))
      · exact s_sub (subc m4_ (subc m5_ (subc m6_ (subc m7_ (subc m8_ (subc m3_ (subc m2_ (subc m1_ (subc m0_ sub0))))))))) (hj_X12_set_0_151 m14 l0_84 l1_84 l2_84 l3_84 l5_84 v10 v11 v13 v15)
      exact s_iconst d_X12_set_147 n_1 (s_goto (tgt := 152) d_X12_set_148 rfl (s_sub (subc m4_ (subc m5_ (subc m6_ (subc m7_ (subc m8_ (subc m3_ (subc m2_ (subc m1_ (subc m0_ sub0))))))))) (hj_X12_set_0_152 m14 l0_84 l1_84 l2_84 l3_84 l5_84 v10 v11 v13 v15 1)))
    exact s_iconst d_X12_set_90 n_0 (s_iret d_X12_set_91 rfl rfl)
  have hj_X12_set_0_79 : ∀ (m_79 : MM) (l0_79 : Nat) (l1_79 : Int) (l2_79 : Int) (l3_79 : Int) (l5_79 : Int) (s0_79 : Nat), Sim fx me_X12_set 79 [(0, aR (some (12, l0_79))), (1, aI l1_79), (2, aI l2_79), (3, aI l3_79), (5, aI l5_79)] [aR (some (12, s0_79))] m_79 ((j_X12_set_0_79 m_79 l0_79 l1_79 l2_79 l3_79 l5_79 s0_79).bind (fun z => some z)) := by
    intro m_79 l0_79 l1_79 l2_79 l3_79 l5_79 s0_79
    unfold j_X12_set_0_79
    exact s_iconst d_X12_set_79 n_2 (s_goto (tgt := 84) d_X12_set_80 rfl (s_sub (subc m0_ (subc m1_ (subc m2_ (subc m3_ (subc m4_ sub0))))) (hj_X12_set_0_84 m_79 l0_79 l1_79 l2_79 l3_79 l5_79 s0_79 2)))
  have hj_X12_set_0_39 : ∀ (m_39 : MM) (l0_39 : Nat) (l1_39 : Int) (l2_39 : Int) (l3_39 : Int) (l4_39 : Int) (s0_39 : Int), Sim fx me_X12_set 39 [(0, aR (some (12, l0_39))), (1, aI l1_39), (2, aI l2_39), (3, aI l3_39), (4, aI l4_39)] [aI s0_39] m_39 ((j_X12_set_0_39 m_39 l0_39 l1_39 l2_39 l3_39 l4_39 s0_39).bind (fun z => some z)) := by
    intro m_39 l0_39 l1_39 l2_39 l3_39 l4_39 s0_39
    unfold j_X12_set_0_39
    refine s_istore (L' := [(5, aI s0_39), (0, aR (some (12, l0_39))), (1, aI l1_39), (2, aI l2_39), (3, aI l3_39), (4, aI l4_39)]) d_X12_set_39 (b8 rfl) rfl (s_aload_n d_X12_set_41 m1_ (s_iload d_X12_set_42 m5_ (s_if_ne (tgt := 51) d_X12_set_44 rfl ?_ ?_)))
    · refine s_aload_n d_X12_set_51 m1_ (s_getR cf d_X12_set_52 fl_X12_75 (s_nk fun i3 => (s_iload_n d_X12_set_55 m2_ (s_ldN d_X12_set_56 ka_80 rfl fun v4 => (s_if_eq (tgt := 79) d_X12_set_57 rfl ?_ ?_)))))
      · exact s_sub (subc m1_ (subc m2_ (subc m3_ (subc m4_ (subc m0_ sub0))))) (hj_X12_set_0_79 m_39 l0_39 l1_39 l2_39 l3_39 s0_39 l0_39)
      refine s_aload_n d_X12_set_60 m1_ (s_getR cf d_X12_set_61 fl_X12_84 (s_nk fun i5 => (s_iload d_X12_set_64 m0_ (s_ldB d_X12_set_66 ka_83 rfl fun v6 => (s_if_ne (tgt := 79) d_X12_set_67 rfl ?_ ?_)))))
      · exact s_sub (subc m1_ (subc m2_ (subc m3_ (subc m4_ (subc m0_ sub0))))) (hj_X12_set_0_79 m_39 l0_39 l1_39 l2_39 l3_39 s0_39 l0_39)
      refine s_aload_n d_X12_set_70 m1_ (s_iload_n d_X12_set_71 m2_ (s_iload_n d_X12_set_72 m3_ (s_pI (r_V d_X12_set_73 k_X12_hasPart w_1787 rfl rfl) ms_X12_hasPart (b8 rfl) rfl rfl rfl fun v7 => (s_if_ne (tgt := 83) d_X12_set_76 rfl ?_ ?_))))
      · exact s_iconst d_X12_set_83 n_0 (s_sub (subc m1_ (subc m2_ (subc m3_ (subc m4_ (subc m0_ sub0))))) (hj_X12_set_0_84 m_39 l0_39 l1_39 l2_39 l3_39 s0_39 l0_39 0))
      exact s_sub (subc m1_ (subc m2_ (subc m3_ (subc m4_ (subc m0_ sub0))))) (hj_X12_set_0_79 m_39 l0_39 l1_39 l2_39 l3_39 s0_39 l0_39)
    exact s_iconst d_X12_set_47 n_1 (s_goto (tgt := 84) d_X12_set_48 rfl (s_sub (subc m1_ (subc m2_ (subc m3_ (subc m4_ (subc m0_ sub0))))) (hj_X12_set_0_84 m_39 l0_39 l1_39 l2_39 l3_39 s0_39 l0_39 1)))
  have hj_X12_set_0_22 : ∀ (m_22 : MM) (l0_22 : Nat) (l1_22 : Int) (l2_22 : Int) (l3_22 : Int) (s0_22 : Int), Sim fx me_X12_set 22 [(0, aR (some (12, l0_22))), (1, aI l1_22), (2, aI l2_22), (3, aI l3_22)] [aI s0_22] m_22 ((j_X12_set_0_22 m_22 l0_22 l1_22 l2_22 l3_22 s0_22).bind (fun z => some z)) := by
    intro m_22 l0_22 l1_22 l2_22 l3_22 s0_22
    unfold j_X12_set_0_22
    refine s_istore (L' := [(4, aI s0_22), (0, aR (some (12, l0_22))), (1, aI l1_22), (2, aI l2_22), (3, aI l3_22)]) d_X12_set_22 (b8 rfl) rfl (s_iload d_X12_set_24 m0_ (s_if_eq (tgt := 38) d_X12_set_26 rfl ?_ ?_))
    · exact s_iconst d_X12_set_38 n_0 (s_sub (subc m1_ (subc m2_ (subc m3_ (subc m4_ (subc m0_ sub0))))) (hj_X12_set_0_39 m_22 l0_22 l1_22 l2_22 l3_22 s0_22 0))
    refine s_bipush d_X12_set_29 n_16 rfl (s_iload_n d_X12_set_31 m2_ (s_imul d_X12_set_32 rfl rfl (s_iload_n d_X12_set_33 m3_ (s_iadd d_X12_set_34 rfl rfl (s_goto (tgt := 39) d_X12_set_35 rfl ?_)))))
    exact s_ck (s_sub (subc m1_ (subc m2_ (subc m3_ (subc m4_ (subc m0_ sub0))))) (hj_X12_set_0_39 m_22 l0_22 l1_22 l2_22 l3_22 s0_22 ((16 * l1_22) + l2_22)))
  have hj_X12_set_0_21 : ∀ (m_21 : MM) (l0_21 : Nat) (l1_21 : Int) (l2_21 : Int) (l3_21 : Int), Sim fx me_X12_set 21 [(0, aR (some (12, l0_21))), (1, aI l1_21), (2, aI l2_21), (3, aI l3_21)] [] m_21 ((j_X12_set_0_21 m_21 l0_21 l1_21 l2_21 l3_21).bind (fun z => some z)) := by
    intro m_21 l0_21 l1_21 l2_21 l3_21
    unfold j_X12_set_0_21
    exact s_iconst d_X12_set_21 n_0 (s_sub (subc m0_ (subc m1_ (subc m2_ (subc m3_ sub0)))) (hj_X12_set_0_22 m_21 l0_21 l1_21 l2_21 l3_21 0))
  refine s_aload_n d_X12_set_0 m0_ (s_iload_n d_X12_set_1 m1_ (s_iload_n d_X12_set_2 m2_ (s_pI (r_V d_X12_set_3 k_X12_isPage w_1779 rfl rfl) ms_X12_isPage (b8 rfl) rfl rfl rfl fun v1 => (s_if_eq (tgt := 21) d_X12_set_6 rfl ?_ ?_))))
  · exact s_sub (subc m0_ (subc m1_ (subc m2_ (subc m3_ sub0)))) (hj_X12_set_0_21 m l0 l1 l2 l3)
  refine s_aload_n d_X12_set_9 m0_ (s_iload_n d_X12_set_10 m3_ (s_pI (r_V d_X12_set_11 k_X12_isHand w_1783 rfl rfl) ms_X12_isHand (b8 rfl) rfl rfl rfl fun v2 => (s_if_eq (tgt := 21) d_X12_set_14 rfl ?_ ?_)))
  · exact s_sub (subc m0_ (subc m1_ (subc m2_ (subc m3_ sub0)))) (hj_X12_set_0_21 m l0 l1 l2 l3)
  exact s_iconst d_X12_set_17 n_1 (s_goto (tgt := 22) d_X12_set_18 rfl (s_sub (subc m0_ (subc m1_ (subc m2_ (subc m3_ sub0)))) (hj_X12_set_0_22 m l0 l1 l2 l3 1)))
theorem d_X12_shared_0 : dk me_X12_shared 0 (.aload_n 0) 1 1 := And.intro (by decide +kernel) rfl
theorem d_X12_shared_1 : dk me_X12_shared 1 (.iload_n 1) 1 2 := And.intro (by decide +kernel) rfl
theorem d_X12_shared_2 : dk me_X12_shared 2 (.iload_n 2) 1 3 := And.intro (by decide +kernel) rfl
theorem d_X12_shared_3 : dk me_X12_shared 3 (.invokevirtual 370) 3 6 := And.intro (by decide +kernel) rfl
theorem d_X12_shared_6 : dk me_X12_shared 6 (.ifCond .eq 16) 3 9 := And.intro (by decide +kernel) rfl
theorem d_X12_shared_9 : dk me_X12_shared 9 (.aload_n 0) 1 10 := And.intro (by decide +kernel) rfl
theorem d_X12_shared_10 : dk me_X12_shared 10 (.iload_n 1) 1 11 := And.intro (by decide +kernel) rfl
theorem d_X12_shared_11 : dk me_X12_shared 11 (.iload_n 3) 1 12 := And.intro (by decide +kernel) rfl
theorem d_X12_shared_12 : dk me_X12_shared 12 (.invokevirtual 370) 3 15 := And.intro (by decide +kernel) rfl
theorem d_X12_shared_15 : dk me_X12_shared 15 (.ifCond .eq 7) 3 18 := And.intro (by decide +kernel) rfl
theorem d_X12_shared_18 : dk me_X12_shared 18 (.iconst 1) 1 19 := And.intro (by decide +kernel) rfl
theorem d_X12_shared_19 : dk me_X12_shared 19 (.goto 4) 3 22 := And.intro (by decide +kernel) rfl
theorem d_X12_shared_22 : dk me_X12_shared 22 (.iconst 0) 1 23 := And.intro (by decide +kernel) rfl
theorem d_X12_shared_23 : dk me_X12_shared 23 (.istore 4) 2 25 := And.intro (by decide +kernel) rfl
theorem d_X12_shared_25 : dk me_X12_shared 25 (.aload_n 0) 1 26 := And.intro (by decide +kernel) rfl
theorem d_X12_shared_26 : dk me_X12_shared 26 (.iload 4) 2 28 := And.intro (by decide +kernel) rfl
theorem d_X12_shared_28 : dk me_X12_shared 28 (.ifCond .ne 7) 3 31 := And.intro (by decide +kernel) rfl
theorem d_X12_shared_31 : dk me_X12_shared 31 (.iconst 1) 1 32 := And.intro (by decide +kernel) rfl
theorem d_X12_shared_32 : dk me_X12_shared 32 (.goto 13) 3 35 := And.intro (by decide +kernel) rfl
theorem d_X12_shared_35 : dk me_X12_shared 35 (.iload_n 2) 1 36 := And.intro (by decide +kernel) rfl
theorem d_X12_shared_36 : dk me_X12_shared 36 (.iload_n 3) 1 37 := And.intro (by decide +kernel) rfl
theorem d_X12_shared_37 : dk me_X12_shared 37 (.if_icmp .ne 7) 3 40 := And.intro (by decide +kernel) rfl
theorem d_X12_shared_40 : dk me_X12_shared 40 (.iconst 2) 1 41 := And.intro (by decide +kernel) rfl
theorem d_X12_shared_41 : dk me_X12_shared 41 (.goto 4) 3 44 := And.intro (by decide +kernel) rfl
theorem d_X12_shared_44 : dk me_X12_shared 44 (.iconst 0) 1 45 := And.intro (by decide +kernel) rfl
theorem d_X12_shared_45 : dk me_X12_shared 45 (.invokevirtual 260) 3 48 := And.intro (by decide +kernel) rfl
theorem d_X12_shared_48 : dk me_X12_shared 48 (.ifCond .ne 5) 3 51 := And.intro (by decide +kernel) rfl
theorem d_X12_shared_51 : dk me_X12_shared 51 (.iconst 0) 1 52 := And.intro (by decide +kernel) rfl
theorem d_X12_shared_52 : dk me_X12_shared 52 (.ireturn) 1 53 := And.intro (by decide +kernel) rfl
theorem d_X12_shared_53 : dk me_X12_shared 53 (.iconst 0) 1 54 := And.intro (by decide +kernel) rfl
theorem d_X12_shared_54 : dk me_X12_shared 54 (.istore 5) 2 56 := And.intro (by decide +kernel) rfl
theorem d_X12_shared_56 : dk me_X12_shared 56 (.iconst 0) 1 57 := And.intro (by decide +kernel) rfl
theorem d_X12_shared_57 : dk me_X12_shared 57 (.istore 6) 2 59 := And.intro (by decide +kernel) rfl
theorem d_X12_shared_59 : dk me_X12_shared 59 (.iload 6) 2 61 := And.intro (by decide +kernel) rfl
theorem d_X12_shared_61 : dk me_X12_shared 61 (.aload_n 0) 1 62 := And.intro (by decide +kernel) rfl
theorem d_X12_shared_62 : dk me_X12_shared 62 (.getfield 291) 3 65 := And.intro (by decide +kernel) rfl
theorem d_X12_shared_65 : dk me_X12_shared 65 (.if_icmp .ge 51) 3 68 := And.intro (by decide +kernel) rfl
theorem d_X12_shared_68 : dk me_X12_shared 68 (.iload 5) 2 70 := And.intro (by decide +kernel) rfl
theorem d_X12_shared_70 : dk me_X12_shared 70 (.aload_n 0) 1 71 := And.intro (by decide +kernel) rfl
theorem d_X12_shared_71 : dk me_X12_shared 71 (.getfield 23) 3 74 := And.intro (by decide +kernel) rfl
theorem d_X12_shared_74 : dk me_X12_shared 74 (.iload 6) 2 76 := And.intro (by decide +kernel) rfl
theorem d_X12_shared_76 : dk me_X12_shared 76 (.iaload) 1 77 := And.intro (by decide +kernel) rfl
theorem d_X12_shared_77 : dk me_X12_shared 77 (.ifCond .le 29) 3 80 := And.intro (by decide +kernel) rfl
theorem d_X12_shared_80 : dk me_X12_shared 80 (.aload_n 0) 1 81 := And.intro (by decide +kernel) rfl
theorem d_X12_shared_81 : dk me_X12_shared 81 (.iload_n 1) 1 82 := And.intro (by decide +kernel) rfl
theorem d_X12_shared_82 : dk me_X12_shared 82 (.iload_n 2) 1 83 := And.intro (by decide +kernel) rfl
theorem d_X12_shared_83 : dk me_X12_shared 83 (.iload 6) 2 85 := And.intro (by decide +kernel) rfl
theorem d_X12_shared_85 : dk me_X12_shared 85 (.invokevirtual 415) 3 88 := And.intro (by decide +kernel) rfl
theorem d_X12_shared_88 : dk me_X12_shared 88 (.ifCond .le 18) 3 91 := And.intro (by decide +kernel) rfl
theorem d_X12_shared_91 : dk me_X12_shared 91 (.aload_n 0) 1 92 := And.intro (by decide +kernel) rfl
theorem d_X12_shared_92 : dk me_X12_shared 92 (.iload_n 1) 1 93 := And.intro (by decide +kernel) rfl
theorem d_X12_shared_93 : dk me_X12_shared 93 (.iload_n 3) 1 94 := And.intro (by decide +kernel) rfl
theorem d_X12_shared_94 : dk me_X12_shared 94 (.iload 6) 2 96 := And.intro (by decide +kernel) rfl
theorem d_X12_shared_96 : dk me_X12_shared 96 (.invokevirtual 415) 3 99 := And.intro (by decide +kernel) rfl
theorem d_X12_shared_99 : dk me_X12_shared 99 (.ifCond .le 7) 3 102 := And.intro (by decide +kernel) rfl
theorem d_X12_shared_102 : dk me_X12_shared 102 (.iconst 1) 1 103 := And.intro (by decide +kernel) rfl
theorem d_X12_shared_103 : dk me_X12_shared 103 (.goto 4) 3 106 := And.intro (by decide +kernel) rfl
theorem d_X12_shared_106 : dk me_X12_shared 106 (.iconst 0) 1 107 := And.intro (by decide +kernel) rfl
theorem d_X12_shared_107 : dk me_X12_shared 107 (.iadd) 1 108 := And.intro (by decide +kernel) rfl
theorem d_X12_shared_108 : dk me_X12_shared 108 (.istore 5) 2 110 := And.intro (by decide +kernel) rfl
theorem d_X12_shared_110 : dk me_X12_shared 110 (.iinc 6 1) 3 113 := And.intro (by decide +kernel) rfl
theorem d_X12_shared_113 : dk me_X12_shared 113 (.goto (-54)) 3 116 := And.intro (by decide +kernel) rfl
theorem d_X12_shared_116 : dk me_X12_shared 116 (.bipush 8) 2 118 := And.intro (by decide +kernel) rfl
theorem d_X12_shared_118 : dk me_X12_shared 118 (.iload_n 1) 1 119 := And.intro (by decide +kernel) rfl
theorem d_X12_shared_119 : dk me_X12_shared 119 (.imul) 1 120 := And.intro (by decide +kernel) rfl
theorem d_X12_shared_120 : dk me_X12_shared 120 (.iload_n 2) 1 121 := And.intro (by decide +kernel) rfl
theorem d_X12_shared_121 : dk me_X12_shared 121 (.iadd) 1 122 := And.intro (by decide +kernel) rfl
theorem d_X12_shared_122 : dk me_X12_shared 122 (.istore 6) 2 124 := And.intro (by decide +kernel) rfl
theorem d_X12_shared_124 : dk me_X12_shared 124 (.bipush 8) 2 126 := And.intro (by decide +kernel) rfl
theorem d_X12_shared_126 : dk me_X12_shared 126 (.iload_n 1) 1 127 := And.intro (by decide +kernel) rfl
theorem d_X12_shared_127 : dk me_X12_shared 127 (.imul) 1 128 := And.intro (by decide +kernel) rfl
theorem d_X12_shared_128 : dk me_X12_shared 128 (.iload_n 3) 1 129 := And.intro (by decide +kernel) rfl
theorem d_X12_shared_129 : dk me_X12_shared 129 (.iadd) 1 130 := And.intro (by decide +kernel) rfl
theorem d_X12_shared_130 : dk me_X12_shared 130 (.istore 7) 2 132 := And.intro (by decide +kernel) rfl
theorem d_X12_shared_132 : dk me_X12_shared 132 (.iload 5) 2 134 := And.intro (by decide +kernel) rfl
theorem d_X12_shared_134 : dk me_X12_shared 134 (.aload_n 0) 1 135 := And.intro (by decide +kernel) rfl
theorem d_X12_shared_135 : dk me_X12_shared 135 (.getfield 159) 3 138 := And.intro (by decide +kernel) rfl
theorem d_X12_shared_138 : dk me_X12_shared 138 (.iload 6) 2 140 := And.intro (by decide +kernel) rfl
theorem d_X12_shared_140 : dk me_X12_shared 140 (.iaload) 1 141 := And.intro (by decide +kernel) rfl
theorem d_X12_shared_141 : dk me_X12_shared 141 (.ifCond .eq 36) 3 144 := And.intro (by decide +kernel) rfl
theorem d_X12_shared_144 : dk me_X12_shared 144 (.aload_n 0) 1 145 := And.intro (by decide +kernel) rfl
theorem d_X12_shared_145 : dk me_X12_shared 145 (.getfield 159) 3 148 := And.intro (by decide +kernel) rfl
theorem d_X12_shared_148 : dk me_X12_shared 148 (.iload 7) 2 150 := And.intro (by decide +kernel) rfl
theorem d_X12_shared_150 : dk me_X12_shared 150 (.iaload) 1 151 := And.intro (by decide +kernel) rfl
theorem d_X12_shared_151 : dk me_X12_shared 151 (.ifCond .eq 26) 3 154 := And.intro (by decide +kernel) rfl
theorem d_X12_shared_154 : dk me_X12_shared 154 (.aload_n 0) 1 155 := And.intro (by decide +kernel) rfl
theorem d_X12_shared_155 : dk me_X12_shared 155 (.getfield 162) 3 158 := And.intro (by decide +kernel) rfl
theorem d_X12_shared_158 : dk me_X12_shared 158 (.iload 6) 2 160 := And.intro (by decide +kernel) rfl
theorem d_X12_shared_160 : dk me_X12_shared 160 (.iaload) 1 161 := And.intro (by decide +kernel) rfl
theorem d_X12_shared_161 : dk me_X12_shared 161 (.aload_n 0) 1 162 := And.intro (by decide +kernel) rfl
theorem d_X12_shared_162 : dk me_X12_shared 162 (.getfield 162) 3 165 := And.intro (by decide +kernel) rfl
theorem d_X12_shared_165 : dk me_X12_shared 165 (.iload 7) 2 167 := And.intro (by decide +kernel) rfl
theorem d_X12_shared_167 : dk me_X12_shared 167 (.iaload) 1 168 := And.intro (by decide +kernel) rfl
theorem d_X12_shared_168 : dk me_X12_shared 168 (.if_icmp .ne 9) 3 171 := And.intro (by decide +kernel) rfl
theorem d_X12_shared_171 : dk me_X12_shared 171 (.sipush 1000) 3 174 := And.intro (by decide +kernel) rfl
theorem d_X12_shared_174 : dk me_X12_shared 174 (.goto 4) 3 177 := And.intro (by decide +kernel) rfl
theorem d_X12_shared_177 : dk me_X12_shared 177 (.iconst 0) 1 178 := And.intro (by decide +kernel) rfl
theorem d_X12_shared_178 : dk me_X12_shared 178 (.iadd) 1 179 := And.intro (by decide +kernel) rfl
theorem d_X12_shared_179 : dk me_X12_shared 179 (.ireturn) 1 180 := And.intro (by decide +kernel) rfl
theorem ms_X12_shared {fx : FX} {m : MM} {l0 : Nat} {l1 : Int} {l2 : Int} {l3 : Int} : MS fx me_X12_shared [aR (some (12, l0)), aI l1, aI l2, aI l3] m (f_X12_shared m l0 l1 l2 l3) := by
  refine ms_of rfl mf_X12_shared (b8 rfl) ?_
  refine s_top ?_
  show Sim fx me_X12_shared 0 [(0, aR (some (12, l0))), (1, aI l1), (2, aI l2), (3, aI l3)] [] m _
  unfold f_X12_shared
  have hj_X12_shared_0_116 : ∀ (m_116 : MM) (l0_116 : Nat) (l1_116 : Int) (l2_116 : Int) (l3_116 : Int) (l5_116 : Int), Sim fx me_X12_shared 116 [(0, aR (some (12, l0_116))), (1, aI l1_116), (2, aI l2_116), (3, aI l3_116), (5, aI l5_116)] [] m_116 ((j_X12_shared_0_116 m_116 l0_116 l1_116 l2_116 l3_116 l5_116).bind (fun z => some z)) := by
    intro m_116 l0_116 l1_116 l2_116 l3_116 l5_116
    unfold j_X12_shared_0_116
    refine s_bipush d_X12_shared_116 n_8 rfl (s_iload_n d_X12_shared_118 m1_ (s_imul d_X12_shared_119 rfl rfl (s_iload_n d_X12_shared_120 m2_ (s_iadd d_X12_shared_121 rfl rfl (s_ck ?_)))))
    refine s_istore (L' := [(6, aI ((8 * l1_116) + l2_116)), (0, aR (some (12, l0_116))), (1, aI l1_116), (2, aI l2_116), (3, aI l3_116), (5, aI l5_116)]) d_X12_shared_122 (b8 rfl) rfl (s_bipush d_X12_shared_124 n_8 rfl (s_iload_n d_X12_shared_126 m2_ (s_imul d_X12_shared_127 rfl rfl (s_iload_n d_X12_shared_128 m4_ (s_iadd d_X12_shared_129 rfl rfl ?_)))))
    refine s_ck (s_istore (L' := [(7, aI ((8 * l1_116) + l3_116)), (6, aI ((8 * l1_116) + l2_116)), (0, aR (some (12, l0_116))), (1, aI l1_116), (2, aI l2_116), (3, aI l3_116), (5, aI l5_116)]) d_X12_shared_130 (b8 rfl) rfl (s_iload d_X12_shared_132 m6_ (s_aload_n d_X12_shared_134 m2_ (s_getR cf d_X12_shared_135 fl_X12_159 (s_nk fun i9 => ?_)))))
    refine s_iload d_X12_shared_138 m1_ (s_ldN d_X12_shared_140 ka_108 rfl fun v10 => (s_if_eq (tgt := 177) d_X12_shared_141 rfl ?_ ?_))
    · exact s_iconst d_X12_shared_177 n_0 (s_iadd d_X12_shared_178 rfl rfl (s_ck (s_iret d_X12_shared_179 rfl rfl)))
    refine s_aload_n d_X12_shared_144 m2_ (s_getR cf d_X12_shared_145 fl_X12_159 (s_nk fun i11 => (s_iload d_X12_shared_148 m0_ (s_ldN d_X12_shared_150 ka_108 rfl fun v12 => (s_if_eq (tgt := 177) d_X12_shared_151 rfl ?_ ?_)))))
    · exact s_iconst d_X12_shared_177 n_0 (s_iadd d_X12_shared_178 rfl rfl (s_ck (s_iret d_X12_shared_179 rfl rfl)))
    refine s_aload_n d_X12_shared_154 m2_ (s_getR cf d_X12_shared_155 fl_X12_162 (s_nk fun i13 => (s_iload d_X12_shared_158 m1_ (s_ldN d_X12_shared_160 ka_109 rfl fun v14 => (s_aload_n d_X12_shared_161 m2_ ?_)))))
    refine s_getR cf d_X12_shared_162 fl_X12_162 (s_nk fun i15 => (s_iload d_X12_shared_165 m0_ (s_ldN d_X12_shared_167 ka_109 rfl fun v16 => (s_icmp_ne (tgt := 177) d_X12_shared_168 rfl ?_ ?_))))
    · exact s_iconst d_X12_shared_177 n_0 (s_iadd d_X12_shared_178 rfl rfl (s_ck (s_iret d_X12_shared_179 rfl rfl)))
    exact s_sipush d_X12_shared_171 n_1000 rfl (s_goto (tgt := 178) d_X12_shared_174 rfl (s_iadd d_X12_shared_178 rfl rfl (s_ck (s_iret d_X12_shared_179 rfl rfl))))
  have hj_X12_shared_0_45 : ∀ (m_45 : MM) (l0_45 : Nat) (l1_45 : Int) (l2_45 : Int) (l3_45 : Int) (s0_45 : Nat) (s1_45 : Int), Sim fx me_X12_shared 45 [(0, aR (some (12, l0_45))), (1, aI l1_45), (2, aI l2_45), (3, aI l3_45)] [aI s1_45, aR (some (12, s0_45))] m_45 ((j_X12_shared_0_45 m_45 l0_45 l1_45 l2_45 l3_45 s0_45 s1_45).bind (fun z => some z)) := by
    intro m_45 l0_45 l1_45 l2_45 l3_45 s0_45 s1_45
    unfold j_X12_shared_0_45
    refine s_cI (r_V d_X12_shared_45 k_X12_holds w_1668 rfl rfl) ms_X12_holds (b8 rfl) rfl rfl rfl (fun _ _ _ => rfl) (fun _ _ => Or.inl rfl) fun v4 m3 => (s_if_ne (tgt := 53) d_X12_shared_48 rfl ?_ ?_)
    · refine s_iconst d_X12_shared_53 n_0 (s_istore (L' := [(5, aI 0), (0, aR (some (12, l0_45))), (1, aI l1_45), (2, aI l2_45), (3, aI l3_45)]) d_X12_shared_54 (b8 rfl) rfl (s_iconst d_X12_shared_56 n_0 (s_istore (L' := [(6, aI 0), (5, aI 0), (0, aR (some (12, l0_45))), (1, aI l1_45), (2, aI l2_45), (3, aI l3_45)]) d_X12_shared_57 (b8 rfl) rfl (s_sub (subc m1_ (subc m0_ (subc m2_ (subc m3_ (subc m4_ (subc m5_ sub0)))))) (s_lp2 (fun s => [(5, aI (s.1)), (6, aI (s.2)), (0, aR (some (12, l0_45))), (1, aI l1_45), (2, aI l2_45), (3, aI l3_45)]) (fun s => m3) (0, 0) fun k59 hx59 s ih0 => ?_)))))
      obtain ⟨l5_59, l6_59⟩ := s
      have ih59 := ih0
      clear ih0
      try dsimp only
      unfold b_X12_shared_59
      refine s_iload d_X12_shared_59 m1_ (s_aload_n d_X12_shared_61 m2_ (s_getN cf d_X12_shared_62 fl_X12_291 (s_icmp_ge (tgt := 116) d_X12_shared_65 rfl ?_ ?_)))
      · exact s_exit (hx59 _) (s_sub (subc m2_ (subc m3_ (subc m4_ (subc m5_ (subc m0_ sub0))))) (hj_X12_shared_0_116 m3 l0_45 l1_45 l2_45 l3_45 l5_59))
      refine s_iload d_X12_shared_68 m0_ (s_aload_n d_X12_shared_70 m2_ (s_getR cf d_X12_shared_71 fl_X12_23 (s_nk fun i5 => (s_iload d_X12_shared_74 m1_ (s_ldN d_X12_shared_76 ka_63 rfl fun v6 => ?_)))))
      refine s_if_le (tgt := 106) d_X12_shared_77 rfl ?_ ?_
      · refine s_iconst d_X12_shared_106 n_0 (s_iadd d_X12_shared_107 rfl rfl (s_ck (s_istore (L' := [(5, aI (l5_59 + 0)), (6, aI l6_59), (0, aR (some (12, l0_45))), (1, aI l1_45), (2, aI l2_45), (3, aI l3_45)]) d_X12_shared_108 (b8 rfl) rfl (s_iinc (L' := [(6, aI (l6_59 + 1)), (5, aI (l5_59 + 0)), (0, aR (some (12, l0_45))), (1, aI l1_45), (2, aI l2_45), (3, aI l3_45)]) d_X12_shared_110 m1_ (b8 rfl) rfl (s_goto (tgt := 59) d_X12_shared_113 rfl ?_)))))
        exact s_sub (subc m1_ (subc m0_ (subc m2_ (subc m3_ (subc m4_ (subc m5_ sub0)))))) (s_back (ih59 ((l5_59 + 0), (l6_59 + 1))))
      refine s_aload_n d_X12_shared_80 m2_ (s_iload_n d_X12_shared_81 m3_ (s_iload_n d_X12_shared_82 m4_ (s_iload d_X12_shared_83 m1_ (s_pI (r_V d_X12_shared_85 k_X12_seenIn w_1984 rfl rfl) ms_X12_seenIn (b8 rfl) rfl rfl rfl fun v7 => (s_if_le (tgt := 106) d_X12_shared_88 rfl ?_ ?_)))))
      · refine s_iconst d_X12_shared_106 n_0 (s_iadd d_X12_shared_107 rfl rfl (s_ck (s_istore (L' := [(5, aI (l5_59 + 0)), (6, aI l6_59), (0, aR (some (12, l0_45))), (1, aI l1_45), (2, aI l2_45), (3, aI l3_45)]) d_X12_shared_108 (b8 rfl) rfl (s_iinc (L' := [(6, aI (l6_59 + 1)), (5, aI (l5_59 + 0)), (0, aR (some (12, l0_45))), (1, aI l1_45), (2, aI l2_45), (3, aI l3_45)]) d_X12_shared_110 m1_ (b8 rfl) rfl (s_goto (tgt := 59) d_X12_shared_113 rfl ?_)))))
        exact s_sub (subc m1_ (subc m0_ (subc m2_ (subc m3_ (subc m4_ (subc m5_ sub0)))))) (s_back (ih59 ((l5_59 + 0), (l6_59 + 1))))
      refine s_aload_n d_X12_shared_91 m2_ (s_iload_n d_X12_shared_92 m3_ (s_iload_n d_X12_shared_93 m5_ (s_iload d_X12_shared_94 m1_ (s_pI (r_V d_X12_shared_96 k_X12_seenIn w_1984 rfl rfl) ms_X12_seenIn (b8 rfl) rfl rfl rfl fun v8 => (s_if_le (tgt := 106) d_X12_shared_99 rfl ?_ ?_)))))
      · refine s_iconst d_X12_shared_106 n_0 (s_iadd d_X12_shared_107 rfl rfl (s_ck (s_istore (L' := [(5, aI (l5_59 + 0)), (6, aI l6_59), (0, aR (some (12, l0_45))), (1, aI l1_45), (2, aI l2_45), (3, aI l3_45)]) d_X12_shared_108 (b8 rfl) rfl (s_iinc (L' := [(6, aI (l6_59 + 1)), (5, aI (l5_59 + 0)), (0, aR (some (12, l0_45))), (1, aI l1_45), (2, aI l2_45), (3, aI l3_45)]) d_X12_shared_110 m1_ (b8 rfl) rfl (s_goto (tgt := 59) d_X12_shared_113 rfl ?_)))))
        exact s_sub (subc m1_ (subc m0_ (subc m2_ (subc m3_ (subc m4_ (subc m5_ sub0)))))) (s_back (ih59 ((l5_59 + 0), (l6_59 + 1))))
      refine s_iconst d_X12_shared_102 n_1 (s_goto (tgt := 107) d_X12_shared_103 rfl (s_iadd d_X12_shared_107 rfl rfl (s_ck (s_istore (L' := [(5, aI (l5_59 + 1)), (6, aI l6_59), (0, aR (some (12, l0_45))), (1, aI l1_45), (2, aI l2_45), (3, aI l3_45)]) d_X12_shared_108 (b8 rfl) rfl (s_iinc (L' := [(6, aI (l6_59 + 1)), (5, aI (l5_59 + 1)), (0, aR (some (12, l0_45))), (1, aI l1_45), (2, aI l2_45), (3, aI l3_45)]) d_X12_shared_110 m1_ (b8 rfl) rfl ?_)))))
      exact s_goto (tgt := 59) d_X12_shared_113 rfl (s_sub (subc m1_ (subc m0_ (subc m2_ (subc m3_ (subc m4_ (subc m5_ sub0)))))) (s_back (ih59 ((l5_59 + 1), (l6_59 + 1)))))
    exact s_iconst d_X12_shared_51 n_0 (s_iret d_X12_shared_52 rfl rfl)
  have hj_X12_shared_0_23 : ∀ (m_23 : MM) (l0_23 : Nat) (l1_23 : Int) (l2_23 : Int) (l3_23 : Int) (s0_23 : Int), Sim fx me_X12_shared 23 [(0, aR (some (12, l0_23))), (1, aI l1_23), (2, aI l2_23), (3, aI l3_23)] [aI s0_23] m_23 ((j_X12_shared_0_23 m_23 l0_23 l1_23 l2_23 l3_23 s0_23).bind (fun z => some z)) := by
    intro m_23 l0_23 l1_23 l2_23 l3_23 s0_23
    unfold j_X12_shared_0_23
    refine s_istore (L' := [(4, aI s0_23), (0, aR (some (12, l0_23))), (1, aI l1_23), (2, aI l2_23), (3, aI l3_23)]) d_X12_shared_23 (b8 rfl) rfl (s_aload_n d_X12_shared_25 m1_ (s_iload d_X12_shared_26 m0_ (s_if_ne (tgt := 35) d_X12_shared_28 rfl ?_ ?_)))
    · refine s_iload_n d_X12_shared_35 m3_ (s_iload_n d_X12_shared_36 m4_ (s_icmp_ne (tgt := 44) d_X12_shared_37 rfl ?_ ?_))
      · exact s_iconst d_X12_shared_44 n_0 (s_sub (subc m1_ (subc m2_ (subc m3_ (subc m4_ sub0)))) (hj_X12_shared_0_45 m_23 l0_23 l1_23 l2_23 l3_23 l0_23 0))
      exact s_iconst d_X12_shared_40 n_2 (s_goto (tgt := 45) d_X12_shared_41 rfl (s_sub (subc m1_ (subc m2_ (subc m3_ (subc m4_ sub0)))) (hj_X12_shared_0_45 m_23 l0_23 l1_23 l2_23 l3_23 l0_23 2)))
    exact s_iconst d_X12_shared_31 n_1 (s_goto (tgt := 45) d_X12_shared_32 rfl (s_sub (subc m1_ (subc m2_ (subc m3_ (subc m4_ sub0)))) (hj_X12_shared_0_45 m_23 l0_23 l1_23 l2_23 l3_23 l0_23 1)))
  have hj_X12_shared_0_22 : ∀ (m_22 : MM) (l0_22 : Nat) (l1_22 : Int) (l2_22 : Int) (l3_22 : Int), Sim fx me_X12_shared 22 [(0, aR (some (12, l0_22))), (1, aI l1_22), (2, aI l2_22), (3, aI l3_22)] [] m_22 ((j_X12_shared_0_22 m_22 l0_22 l1_22 l2_22 l3_22).bind (fun z => some z)) := by
    intro m_22 l0_22 l1_22 l2_22 l3_22
    unfold j_X12_shared_0_22
    exact s_iconst d_X12_shared_22 n_0 (s_sub (subc m0_ (subc m1_ (subc m2_ (subc m3_ sub0)))) (hj_X12_shared_0_23 m_22 l0_22 l1_22 l2_22 l3_22 0))
  refine s_aload_n d_X12_shared_0 m0_ (s_iload_n d_X12_shared_1 m1_ (s_iload_n d_X12_shared_2 m2_ (s_pI (r_V d_X12_shared_3 k_X12_isForme w_1866 rfl rfl) ms_X12_isForme (b8 rfl) rfl rfl rfl fun v1 => (s_if_eq (tgt := 22) d_X12_shared_6 rfl ?_ ?_))))
  · exact s_sub (subc m0_ (subc m1_ (subc m2_ (subc m3_ sub0)))) (hj_X12_shared_0_22 m l0 l1 l2 l3)
  refine s_aload_n d_X12_shared_9 m0_ (s_iload_n d_X12_shared_10 m1_ (s_iload_n d_X12_shared_11 m3_ (s_pI (r_V d_X12_shared_12 k_X12_isForme w_1866 rfl rfl) ms_X12_isForme (b8 rfl) rfl rfl rfl fun v2 => (s_if_eq (tgt := 22) d_X12_shared_15 rfl ?_ ?_))))
  · exact s_sub (subc m0_ (subc m1_ (subc m2_ (subc m3_ sub0)))) (hj_X12_shared_0_22 m l0 l1 l2 l3)
  exact s_iconst d_X12_shared_18 n_1 (s_goto (tgt := 23) d_X12_shared_19 rfl (s_sub (subc m0_ (subc m1_ (subc m2_ (subc m3_ sub0)))) (hj_X12_shared_0_23 m l0 l1 l2 l3 1)))
theorem d_X12_isSpelling_0 : dk me_X12_isSpelling 0 (.aload_n 0) 1 1 := And.intro (by decide +kernel) rfl
theorem d_X12_isSpelling_1 : dk me_X12_isSpelling 1 (.invokevirtual 263) 3 4 := And.intro (by decide +kernel) rfl
theorem d_X12_isSpelling_4 : dk me_X12_isSpelling 4 (.iconst (-1)) 1 5 := And.intro (by decide +kernel) rfl
theorem d_X12_isSpelling_5 : dk me_X12_isSpelling 5 (.if_icmp .ne 19) 3 8 := And.intro (by decide +kernel) rfl
theorem d_X12_isSpelling_8 : dk me_X12_isSpelling 8 (.aload_n 0) 1 9 := And.intro (by decide +kernel) rfl
theorem d_X12_isSpelling_9 : dk me_X12_isSpelling 9 (.invokevirtual 270) 3 12 := And.intro (by decide +kernel) rfl
theorem d_X12_isSpelling_12 : dk me_X12_isSpelling 12 (.iconst 2) 1 13 := And.intro (by decide +kernel) rfl
theorem d_X12_isSpelling_13 : dk me_X12_isSpelling 13 (.if_icmp .ne 11) 3 16 := And.intro (by decide +kernel) rfl
theorem d_X12_isSpelling_16 : dk me_X12_isSpelling 16 (.aload_n 0) 1 17 := And.intro (by decide +kernel) rfl
theorem d_X12_isSpelling_17 : dk me_X12_isSpelling 17 (.iconst 0) 1 18 := And.intro (by decide +kernel) rfl
theorem d_X12_isSpelling_18 : dk me_X12_isSpelling 18 (.invokevirtual 273) 3 21 := And.intro (by decide +kernel) rfl
theorem d_X12_isSpelling_21 : dk me_X12_isSpelling 21 (.ifCond .eq 5) 3 24 := And.intro (by decide +kernel) rfl
theorem d_X12_isSpelling_24 : dk me_X12_isSpelling 24 (.iconst 0) 1 25 := And.intro (by decide +kernel) rfl
theorem d_X12_isSpelling_25 : dk me_X12_isSpelling 25 (.ireturn) 1 26 := And.intro (by decide +kernel) rfl
theorem d_X12_isSpelling_26 : dk me_X12_isSpelling 26 (.aload_n 0) 1 27 := And.intro (by decide +kernel) rfl
theorem d_X12_isSpelling_27 : dk me_X12_isSpelling 27 (.iconst 1) 1 28 := And.intro (by decide +kernel) rfl
theorem d_X12_isSpelling_28 : dk me_X12_isSpelling 28 (.invokevirtual 276) 3 31 := And.intro (by decide +kernel) rfl
theorem d_X12_isSpelling_31 : dk me_X12_isSpelling 31 (.invokestatic 280) 3 34 := And.intro (by decide +kernel) rfl
theorem d_X12_isSpelling_34 : dk me_X12_isSpelling 34 (.aload_n 0) 1 35 := And.intro (by decide +kernel) rfl
theorem d_X12_isSpelling_35 : dk me_X12_isSpelling 35 (.iconst 0) 1 36 := And.intro (by decide +kernel) rfl
theorem d_X12_isSpelling_36 : dk me_X12_isSpelling 36 (.invokevirtual 276) 3 39 := And.intro (by decide +kernel) rfl
theorem d_X12_isSpelling_39 : dk me_X12_isSpelling 39 (.invokestatic 280) 3 42 := And.intro (by decide +kernel) rfl
theorem d_X12_isSpelling_42 : dk me_X12_isSpelling 42 (.isub) 1 43 := And.intro (by decide +kernel) rfl
theorem d_X12_isSpelling_43 : dk me_X12_isSpelling 43 (.istore_n 1) 1 44 := And.intro (by decide +kernel) rfl
theorem d_X12_isSpelling_44 : dk me_X12_isSpelling 44 (.iload_n 1) 1 45 := And.intro (by decide +kernel) rfl
theorem d_X12_isSpelling_45 : dk me_X12_isSpelling 45 (.iconst 1) 1 46 := And.intro (by decide +kernel) rfl
theorem d_X12_isSpelling_46 : dk me_X12_isSpelling 46 (.iconst 3) 1 47 := And.intro (by decide +kernel) rfl
theorem d_X12_isSpelling_47 : dk me_X12_isSpelling 47 (.invokestatic 235) 3 50 := And.intro (by decide +kernel) rfl
theorem d_X12_isSpelling_50 : dk me_X12_isSpelling 50 (.ifCond .eq 33) 3 53 := And.intro (by decide +kernel) rfl
theorem d_X12_isSpelling_53 : dk me_X12_isSpelling 53 (.aload_n 0) 1 54 := And.intro (by decide +kernel) rfl
theorem d_X12_isSpelling_54 : dk me_X12_isSpelling 54 (.aload_n 0) 1 55 := And.intro (by decide +kernel) rfl
theorem d_X12_isSpelling_55 : dk me_X12_isSpelling 55 (.iconst 0) 1 56 := And.intro (by decide +kernel) rfl
theorem d_X12_isSpelling_56 : dk me_X12_isSpelling 56 (.invokevirtual 276) 3 59 := And.intro (by decide +kernel) rfl
theorem d_X12_isSpelling_59 : dk me_X12_isSpelling 59 (.invokevirtual 284) 3 62 := And.intro (by decide +kernel) rfl
theorem d_X12_isSpelling_62 : dk me_X12_isSpelling 62 (.iconst (-1)) 1 63 := And.intro (by decide +kernel) rfl
theorem d_X12_isSpelling_63 : dk me_X12_isSpelling 63 (.if_icmp .ne 20) 3 66 := And.intro (by decide +kernel) rfl
theorem d_X12_isSpelling_66 : dk me_X12_isSpelling 66 (.aload_n 0) 1 67 := And.intro (by decide +kernel) rfl
theorem d_X12_isSpelling_67 : dk me_X12_isSpelling 67 (.aload_n 0) 1 68 := And.intro (by decide +kernel) rfl
theorem d_X12_isSpelling_68 : dk me_X12_isSpelling 68 (.iconst 1) 1 69 := And.intro (by decide +kernel) rfl
theorem d_X12_isSpelling_69 : dk me_X12_isSpelling 69 (.invokevirtual 276) 3 72 := And.intro (by decide +kernel) rfl
theorem d_X12_isSpelling_72 : dk me_X12_isSpelling 72 (.invokevirtual 284) 3 75 := And.intro (by decide +kernel) rfl
theorem d_X12_isSpelling_75 : dk me_X12_isSpelling 75 (.iconst (-1)) 1 76 := And.intro (by decide +kernel) rfl
theorem d_X12_isSpelling_76 : dk me_X12_isSpelling 76 (.if_icmp .ne 7) 3 79 := And.intro (by decide +kernel) rfl
theorem d_X12_isSpelling_79 : dk me_X12_isSpelling 79 (.iconst 1) 1 80 := And.intro (by decide +kernel) rfl
theorem d_X12_isSpelling_80 : dk me_X12_isSpelling 80 (.goto 4) 3 83 := And.intro (by decide +kernel) rfl
theorem d_X12_isSpelling_83 : dk me_X12_isSpelling 83 (.iconst 0) 1 84 := And.intro (by decide +kernel) rfl
theorem d_X12_isSpelling_84 : dk me_X12_isSpelling 84 (.ireturn) 1 85 := And.intro (by decide +kernel) rfl
theorem ms_X12_isSpelling {fx : FX} {m : MM} {l0 : Nat} : MS fx me_X12_isSpelling [aR (some (12, l0))] m ((f_X12_isSpelling m l0).bind fun v => some (.inl (some (aI v)), m)) := by
  refine ms_of rfl mf_X12_isSpelling (b8 rfl) ?_
  show Sim fx me_X12_isSpelling 0 [(0, aR (some (12, l0)))] [] m _
  unfold f_X12_isSpelling
  refine s_aload_n d_X12_isSpelling_0 m0_ (s_pI (r_V d_X12_isSpelling_1 k_X12_tapeFault w_1680 rfl rfl) ms_X12_tapeFault (b8 rfl) rfl rfl rfl fun v1 => (s_iconst d_X12_isSpelling_4 n_m1 (s_icmp_ne (tgt := 24) d_X12_isSpelling_5 rfl ?_ ?_)))
  · exact s_iconst d_X12_isSpelling_24 n_0 (s_zretl d_X12_isSpelling_25 rfl (by decide) rfl)
  refine s_aload_n d_X12_isSpelling_8 m0_ (s_pI (r_V d_X12_isSpelling_9 k_X12_tapeWords w_1692 rfl rfl) ms_X12_tapeWords (b8 rfl) rfl rfl rfl fun v2 => (s_iconst d_X12_isSpelling_12 n_2 (s_icmp_ne (tgt := 24) d_X12_isSpelling_13 rfl ?_ ?_)))
  · exact s_iconst d_X12_isSpelling_24 n_0 (s_zretl d_X12_isSpelling_25 rfl (by decide) rfl)
  refine s_aload_n d_X12_isSpelling_16 m0_ (s_iconst d_X12_isSpelling_17 n_0 (s_pI (r_V d_X12_isSpelling_18 k_X12_tapeEnds w_1696 rfl rfl) ms_X12_tapeEnds (b8 rfl) rfl rfl rfl fun v3 => (s_if_eq (tgt := 26) d_X12_isSpelling_21 rfl ?_ ?_)))
  · refine s_aload_n d_X12_isSpelling_26 m0_ (s_iconst d_X12_isSpelling_27 n_1 (s_pL (r_V d_X12_isSpelling_28 k_X12_tapeWord w_1704 rfl rfl) ms_X12_tapeWord (b8 rfl) rfl rfl rfl fun v4 => (s_pI (r_S d_X12_isSpelling_31 k_X12_letters w_1708 rfl rfl) ms_X12_letters (b8 rfl) rfl rfl rfl fun v5 => (s_aload_n d_X12_isSpelling_34 m0_ (s_iconst d_X12_isSpelling_35 n_0 ?_)))))
    refine s_pL (r_V d_X12_isSpelling_36 k_X12_tapeWord w_1704 rfl rfl) ms_X12_tapeWord (b8 rfl) rfl rfl rfl fun v6 => (s_pI (r_S d_X12_isSpelling_39 k_X12_letters w_1708 rfl rfl) ms_X12_letters (b8 rfl) rfl rfl rfl fun v7 => (s_isub d_X12_isSpelling_42 rfl rfl (s_ck (s_istore_n (L' := [(1, aI (v5 - v7)), (0, aR (some (12, l0)))]) d_X12_isSpelling_43 (b8 rfl) rfl (s_iload_n d_X12_isSpelling_44 m0_ ?_)))))
    refine s_iconst d_X12_isSpelling_45 n_1 (s_iconst d_X12_isSpelling_46 n_3 (s_pI (r_S d_X12_isSpelling_47 k_X12_isIn w_1664 rfl rfl) ms_X12_isIn (b8 rfl) rfl rfl rfl fun v8 => (s_if_eq (tgt := 83) d_X12_isSpelling_50 rfl ?_ ?_)))
    · exact s_iconst d_X12_isSpelling_83 n_0 (s_zretl d_X12_isSpelling_84 rfl (by decide) rfl)
    refine s_aload_n d_X12_isSpelling_53 m1_ (s_aload_n d_X12_isSpelling_54 m1_ (s_iconst d_X12_isSpelling_55 n_0 (s_pL (r_V d_X12_isSpelling_56 k_X12_tapeWord w_1704 rfl rfl) ms_X12_tapeWord (b8 rfl) rfl rfl rfl fun v9 => (s_pI (r_V d_X12_isSpelling_59 k_X12_spellingOf w_1711 rfl rfl) ms_X12_spellingOf (b8 rfl) rfl rfl rfl fun v10 => (s_iconst d_X12_isSpelling_62 n_m1 ?_)))))
    refine s_icmp_ne (tgt := 83) d_X12_isSpelling_63 rfl ?_ ?_
    · exact s_iconst d_X12_isSpelling_83 n_0 (s_zretl d_X12_isSpelling_84 rfl (by decide) rfl)
    refine s_aload_n d_X12_isSpelling_66 m1_ (s_aload_n d_X12_isSpelling_67 m1_ (s_iconst d_X12_isSpelling_68 n_1 (s_pL (r_V d_X12_isSpelling_69 k_X12_tapeWord w_1704 rfl rfl) ms_X12_tapeWord (b8 rfl) rfl rfl rfl fun v11 => (s_pI (r_V d_X12_isSpelling_72 k_X12_spellingOf w_1711 rfl rfl) ms_X12_spellingOf (b8 rfl) rfl rfl rfl fun v12 => (s_iconst d_X12_isSpelling_75 n_m1 ?_)))))
    refine s_icmp_ne (tgt := 83) d_X12_isSpelling_76 rfl ?_ ?_
    · exact s_iconst d_X12_isSpelling_83 n_0 (s_zretl d_X12_isSpelling_84 rfl (by decide) rfl)
    exact s_iconst d_X12_isSpelling_79 n_1 (s_goto (tgt := 84) d_X12_isSpelling_80 rfl (s_zretl d_X12_isSpelling_84 rfl (by decide) rfl))
  exact s_iconst d_X12_isSpelling_24 n_0 (s_zretl d_X12_isSpelling_25 rfl (by decide) rfl)
theorem d_X12_spelling_0 : dk me_X12_spelling 0 (.aload_n 0) 1 1 := And.intro (by decide +kernel) rfl
theorem d_X12_spelling_1 : dk me_X12_spelling 1 (.getfield 252) 3 4 := And.intro (by decide +kernel) rfl
theorem d_X12_spelling_4 : dk me_X12_spelling 4 (.bipush 6) 2 6 := And.intro (by decide +kernel) rfl
theorem d_X12_spelling_6 : dk me_X12_spelling 6 (.if_icmp .ge 7) 3 9 := And.intro (by decide +kernel) rfl
theorem d_X12_spelling_9 : dk me_X12_spelling 9 (.iconst 1) 1 10 := And.intro (by decide +kernel) rfl
theorem d_X12_spelling_10 : dk me_X12_spelling 10 (.goto 4) 3 13 := And.intro (by decide +kernel) rfl
theorem d_X12_spelling_13 : dk me_X12_spelling 13 (.iconst 0) 1 14 := And.intro (by decide +kernel) rfl
theorem d_X12_spelling_14 : dk me_X12_spelling 14 (.istore_n 1) 1 15 := And.intro (by decide +kernel) rfl
theorem d_X12_spelling_15 : dk me_X12_spelling 15 (.iconst 0) 1 16 := And.intro (by decide +kernel) rfl
theorem d_X12_spelling_16 : dk me_X12_spelling 16 (.istore_n 2) 1 17 := And.intro (by decide +kernel) rfl
theorem d_X12_spelling_17 : dk me_X12_spelling 17 (.iload_n 2) 1 18 := And.intro (by decide +kernel) rfl
theorem d_X12_spelling_18 : dk me_X12_spelling 18 (.aload_n 0) 1 19 := And.intro (by decide +kernel) rfl
theorem d_X12_spelling_19 : dk me_X12_spelling 19 (.getfield 232) 3 22 := And.intro (by decide +kernel) rfl
theorem d_X12_spelling_22 : dk me_X12_spelling 22 (.if_icmp .ge 28) 3 25 := And.intro (by decide +kernel) rfl
theorem d_X12_spelling_25 : dk me_X12_spelling 25 (.iload_n 1) 1 26 := And.intro (by decide +kernel) rfl
theorem d_X12_spelling_26 : dk me_X12_spelling 26 (.ifCond .eq 16) 3 29 := And.intro (by decide +kernel) rfl
theorem d_X12_spelling_29 : dk me_X12_spelling 29 (.aload_n 0) 1 30 := And.intro (by decide +kernel) rfl
theorem d_X12_spelling_30 : dk me_X12_spelling 30 (.getfield 75) 3 33 := And.intro (by decide +kernel) rfl
theorem d_X12_spelling_33 : dk me_X12_spelling 33 (.iload_n 2) 1 34 := And.intro (by decide +kernel) rfl
theorem d_X12_spelling_34 : dk me_X12_spelling 34 (.iaload) 1 35 := And.intro (by decide +kernel) rfl
theorem d_X12_spelling_35 : dk me_X12_spelling 35 (.ifCond .ne 7) 3 38 := And.intro (by decide +kernel) rfl
theorem d_X12_spelling_38 : dk me_X12_spelling 38 (.iconst 1) 1 39 := And.intro (by decide +kernel) rfl
theorem d_X12_spelling_39 : dk me_X12_spelling 39 (.goto 4) 3 42 := And.intro (by decide +kernel) rfl
theorem d_X12_spelling_42 : dk me_X12_spelling 42 (.iconst 0) 1 43 := And.intro (by decide +kernel) rfl
theorem d_X12_spelling_43 : dk me_X12_spelling 43 (.istore_n 1) 1 44 := And.intro (by decide +kernel) rfl
theorem d_X12_spelling_44 : dk me_X12_spelling 44 (.iinc 2 1) 3 47 := And.intro (by decide +kernel) rfl
theorem d_X12_spelling_47 : dk me_X12_spelling 47 (.goto (-30)) 3 50 := And.intro (by decide +kernel) rfl
theorem d_X12_spelling_50 : dk me_X12_spelling 50 (.aload_n 0) 1 51 := And.intro (by decide +kernel) rfl
theorem d_X12_spelling_51 : dk me_X12_spelling 51 (.aload_n 0) 1 52 := And.intro (by decide +kernel) rfl
theorem d_X12_spelling_52 : dk me_X12_spelling 52 (.invokevirtual 287) 3 55 := And.intro (by decide +kernel) rfl
theorem d_X12_spelling_55 : dk me_X12_spelling 55 (.ifCond .ne 7) 3 58 := And.intro (by decide +kernel) rfl
theorem d_X12_spelling_58 : dk me_X12_spelling 58 (.iconst 1) 1 59 := And.intro (by decide +kernel) rfl
theorem d_X12_spelling_59 : dk me_X12_spelling 59 (.goto 12) 3 62 := And.intro (by decide +kernel) rfl
theorem d_X12_spelling_62 : dk me_X12_spelling 62 (.iload_n 1) 1 63 := And.intro (by decide +kernel) rfl
theorem d_X12_spelling_63 : dk me_X12_spelling 63 (.ifCond .eq 7) 3 66 := And.intro (by decide +kernel) rfl
theorem d_X12_spelling_66 : dk me_X12_spelling 66 (.iconst 0) 1 67 := And.intro (by decide +kernel) rfl
theorem d_X12_spelling_67 : dk me_X12_spelling 67 (.goto 4) 3 70 := And.intro (by decide +kernel) rfl
theorem d_X12_spelling_70 : dk me_X12_spelling 70 (.iconst 2) 1 71 := And.intro (by decide +kernel) rfl
theorem d_X12_spelling_71 : dk me_X12_spelling 71 (.invokevirtual 260) 3 74 := And.intro (by decide +kernel) rfl
theorem d_X12_spelling_74 : dk me_X12_spelling 74 (.ifCond .ne 5) 3 77 := And.intro (by decide +kernel) rfl
theorem d_X12_spelling_77 : dk me_X12_spelling 77 (.iconst 0) 1 78 := And.intro (by decide +kernel) rfl
theorem d_X12_spelling_78 : dk me_X12_spelling 78 (.ireturn) 1 79 := And.intro (by decide +kernel) rfl
theorem d_X12_spelling_79 : dk me_X12_spelling 79 (.aload_n 0) 1 80 := And.intro (by decide +kernel) rfl
theorem d_X12_spelling_80 : dk me_X12_spelling 80 (.getfield 13) 3 83 := And.intro (by decide +kernel) rfl
theorem d_X12_spelling_83 : dk me_X12_spelling 83 (.aload_n 0) 1 84 := And.intro (by decide +kernel) rfl
theorem d_X12_spelling_84 : dk me_X12_spelling 84 (.getfield 252) 3 87 := And.intro (by decide +kernel) rfl
theorem d_X12_spelling_87 : dk me_X12_spelling 87 (.aload_n 0) 1 88 := And.intro (by decide +kernel) rfl
theorem d_X12_spelling_88 : dk me_X12_spelling 88 (.iconst 0) 1 89 := And.intro (by decide +kernel) rfl
theorem d_X12_spelling_89 : dk me_X12_spelling 89 (.invokevirtual 276) 3 92 := And.intro (by decide +kernel) rfl
theorem d_X12_spelling_92 : dk me_X12_spelling 92 (.lastore) 1 93 := And.intro (by decide +kernel) rfl
theorem d_X12_spelling_93 : dk me_X12_spelling 93 (.aload_n 0) 1 94 := And.intro (by decide +kernel) rfl
theorem d_X12_spelling_94 : dk me_X12_spelling 94 (.getfield 17) 3 97 := And.intro (by decide +kernel) rfl
theorem d_X12_spelling_97 : dk me_X12_spelling 97 (.aload_n 0) 1 98 := And.intro (by decide +kernel) rfl
theorem d_X12_spelling_98 : dk me_X12_spelling 98 (.getfield 252) 3 101 := And.intro (by decide +kernel) rfl
theorem d_X12_spelling_101 : dk me_X12_spelling 101 (.aload_n 0) 1 102 := And.intro (by decide +kernel) rfl
theorem d_X12_spelling_102 : dk me_X12_spelling 102 (.iconst 1) 1 103 := And.intro (by decide +kernel) rfl
theorem d_X12_spelling_103 : dk me_X12_spelling 103 (.invokevirtual 276) 3 106 := And.intro (by decide +kernel) rfl
theorem d_X12_spelling_106 : dk me_X12_spelling 106 (.lastore) 1 107 := And.intro (by decide +kernel) rfl
theorem d_X12_spelling_107 : dk me_X12_spelling 107 (.aload_n 0) 1 108 := And.intro (by decide +kernel) rfl
theorem d_X12_spelling_108 : dk me_X12_spelling 108 (.dup) 1 109 := And.intro (by decide +kernel) rfl
theorem d_X12_spelling_109 : dk me_X12_spelling 109 (.getfield 252) 3 112 := And.intro (by decide +kernel) rfl
theorem d_X12_spelling_112 : dk me_X12_spelling 112 (.iconst 1) 1 113 := And.intro (by decide +kernel) rfl
theorem d_X12_spelling_113 : dk me_X12_spelling 113 (.iadd) 1 114 := And.intro (by decide +kernel) rfl
theorem d_X12_spelling_114 : dk me_X12_spelling 114 (.putfield 252) 3 117 := And.intro (by decide +kernel) rfl
theorem d_X12_spelling_117 : dk me_X12_spelling 117 (.aload_n 0) 1 118 := And.intro (by decide +kernel) rfl
theorem d_X12_spelling_118 : dk me_X12_spelling 118 (.iconst 0) 1 119 := And.intro (by decide +kernel) rfl
theorem d_X12_spelling_119 : dk me_X12_spelling 119 (.putfield 257) 3 122 := And.intro (by decide +kernel) rfl
theorem d_X12_spelling_122 : dk me_X12_spelling 122 (.aload_n 0) 1 123 := And.intro (by decide +kernel) rfl
theorem d_X12_spelling_123 : dk me_X12_spelling 123 (.getfield 252) 3 126 := And.intro (by decide +kernel) rfl
theorem d_X12_spelling_126 : dk me_X12_spelling 126 (.iconst 1) 1 127 := And.intro (by decide +kernel) rfl
theorem d_X12_spelling_127 : dk me_X12_spelling 127 (.isub) 1 128 := And.intro (by decide +kernel) rfl
theorem d_X12_spelling_128 : dk me_X12_spelling 128 (.ireturn) 1 129 := And.intro (by decide +kernel) rfl
theorem ms_X12_spelling {fx : FX} {m : MM} {l0 : Nat} : MS fx me_X12_spelling [aR (some (12, l0))] m (f_X12_spelling m l0) := by
  refine ms_of rfl mf_X12_spelling (b8 rfl) ?_
  refine s_top ?_
  show Sim fx me_X12_spelling 0 [(0, aR (some (12, l0)))] [] m _
  unfold f_X12_spelling
  have hj_X12_spelling_0_71 : ∀ (m_71 : MM) (l0_71 : Nat) (s0_71 : Nat) (s1_71 : Int), Sim fx me_X12_spelling 71 [(0, aR (some (12, l0_71)))] [aI s1_71, aR (some (12, s0_71))] m_71 ((j_X12_spelling_0_71 m_71 l0_71 s0_71 s1_71).bind (fun z => some z)) := by
    intro m_71 l0_71 s0_71 s1_71
    unfold j_X12_spelling_0_71
    refine s_cI (r_V d_X12_spelling_71 k_X12_holds w_1668 rfl rfl) ms_X12_holds (b8 rfl) rfl rfl rfl (fun _ _ _ => rfl) (fun _ _ => Or.inl rfl) fun v5 m4 => (s_if_ne (tgt := 79) d_X12_spelling_74 rfl ?_ ?_)
    · refine s_aload_n d_X12_spelling_79 m0_ (s_getR cf d_X12_spelling_80 fl_X12_13 (s_nk fun i6 => (s_aload_n d_X12_spelling_83 m0_ (s_getN cf d_X12_spelling_84 fl_X12_252 (s_aload_n d_X12_spelling_87 m0_ ?_)))))
      refine s_iconst d_X12_spelling_88 n_0 (s_pL (r_V d_X12_spelling_89 k_X12_tapeWord w_1704 rfl rfl) ms_X12_tapeWord (b8 rfl) rfl rfl rfl fun v7 => (s_stL d_X12_spelling_92 ka_60 rfl fun m8 => (s_aload_n d_X12_spelling_93 m0_ (s_getR cf d_X12_spelling_94 fl_X12_17 (s_nk fun i9 => ?_)))))
      refine s_aload_n d_X12_spelling_97 m0_ (s_getN cf d_X12_spelling_98 fl_X12_252 (s_aload_n d_X12_spelling_101 m0_ (s_iconst d_X12_spelling_102 n_1 (s_pL (r_V d_X12_spelling_103 k_X12_tapeWord w_1704 rfl rfl) ms_X12_tapeWord (b8 rfl) rfl rfl rfl fun v10 => (s_stL d_X12_spelling_106 ka_61 rfl fun m11 => ?_)))))
      refine s_aload_n d_X12_spelling_107 m0_ (s_dup d_X12_spelling_108 rfl (s_getN cf d_X12_spelling_109 fl_X12_252 (s_iconst d_X12_spelling_112 n_1 (s_iadd d_X12_spelling_113 rfl rfl (s_ck ?_)))))
      refine s_putN cf d_X12_spelling_114 fl_X12_252 (fun h => by cases h) fun m12 => (s_aload_n d_X12_spelling_117 m0_ (s_iconst d_X12_spelling_118 n_0 (s_putN cf d_X12_spelling_119 fl_X12_257 (fun h => by cases h) fun m13 => (s_aload_n d_X12_spelling_122 m0_ (s_getN cf d_X12_spelling_123 fl_X12_252 ?_)))))
      exact s_iconst d_X12_spelling_126 n_1 (s_isub d_X12_spelling_127 rfl rfl (s_ck (s_iret d_X12_spelling_128 rfl rfl)))
    exact s_iconst d_X12_spelling_77 n_0 (s_iret d_X12_spelling_78 rfl rfl)
  have hj_X12_spelling_0_50 : ∀ (m_50 : MM) (l0_50 : Nat) (l1_50 : Int), Sim fx me_X12_spelling 50 [(0, aR (some (12, l0_50))), (1, aI l1_50)] [] m_50 ((j_X12_spelling_0_50 m_50 l0_50 l1_50).bind (fun z => some z)) := by
    intro m_50 l0_50 l1_50
    unfold j_X12_spelling_0_50
    refine s_aload_n d_X12_spelling_50 m0_ (s_aload_n d_X12_spelling_51 m0_ (s_pI (r_V d_X12_spelling_52 k_X12_isSpelling w_1688 rfl rfl) ms_X12_isSpelling (b8 rfl) rfl rfl rfl fun v3 => (s_if_ne (tgt := 62) d_X12_spelling_55 rfl ?_ ?_)))
    · refine s_iload_n d_X12_spelling_62 m1_ (s_if_eq (tgt := 70) d_X12_spelling_63 rfl ?_ ?_)
      · exact s_iconst d_X12_spelling_70 n_2 (s_sub (subc m0_ sub0) (hj_X12_spelling_0_71 m_50 l0_50 l0_50 2))
      exact s_iconst d_X12_spelling_66 n_0 (s_goto (tgt := 71) d_X12_spelling_67 rfl (s_sub (subc m0_ sub0) (hj_X12_spelling_0_71 m_50 l0_50 l0_50 0)))
    exact s_iconst d_X12_spelling_58 n_1 (s_goto (tgt := 71) d_X12_spelling_59 rfl (s_sub (subc m0_ sub0) (hj_X12_spelling_0_71 m_50 l0_50 l0_50 1)))
  have hj_X12_spelling_0_14 : ∀ (m_14 : MM) (l0_14 : Nat) (s0_14 : Int), Sim fx me_X12_spelling 14 [(0, aR (some (12, l0_14)))] [aI s0_14] m_14 ((j_X12_spelling_0_14 m_14 l0_14 s0_14).bind (fun z => some z)) := by
    intro m_14 l0_14 s0_14
    unfold j_X12_spelling_0_14
    refine s_istore_n (L' := [(1, aI s0_14), (0, aR (some (12, l0_14)))]) d_X12_spelling_14 (b8 rfl) rfl (s_iconst d_X12_spelling_15 n_0 (s_istore_n (L' := [(2, aI 0), (1, aI s0_14), (0, aR (some (12, l0_14)))]) d_X12_spelling_16 (b8 rfl) rfl (s_sub (subc m1_ (subc m0_ (subc m2_ sub0))) (s_lp2 (fun s => [(1, aI (s.1)), (2, aI (s.2)), (0, aR (some (12, l0_14)))]) (fun s => m_14) (s0_14, 0) fun k17 hx17 s ih0 => ?_))))
    obtain ⟨l1_17, l2_17⟩ := s
    have ih17 := ih0
    clear ih0
    try dsimp only
    unfold b_X12_spelling_17
    refine s_iload_n d_X12_spelling_17 m1_ (s_aload_n d_X12_spelling_18 m2_ (s_getN cf d_X12_spelling_19 fl_X12_232 (s_icmp_ge (tgt := 50) d_X12_spelling_22 rfl ?_ ?_)))
    · exact s_exit (hx17 _) (s_sub (subc m2_ (subc m0_ sub0)) (hj_X12_spelling_0_50 m_14 l0_14 l1_17))
    refine s_iload_n d_X12_spelling_25 m0_ (s_if_eq (tgt := 42) d_X12_spelling_26 rfl ?_ ?_)
    · exact s_iconst d_X12_spelling_42 n_0 (s_istore_n (L' := [(1, aI 0), (2, aI l2_17), (0, aR (some (12, l0_14)))]) d_X12_spelling_43 (b8 rfl) rfl (s_iinc (L' := [(2, aI (l2_17 + 1)), (1, aI 0), (0, aR (some (12, l0_14)))]) d_X12_spelling_44 m1_ (b8 rfl) rfl (s_goto (tgt := 17) d_X12_spelling_47 rfl (s_sub (subc m1_ (subc m0_ (subc m2_ sub0))) (s_back (ih17 (0, (l2_17 + 1))))))))
    refine s_aload_n d_X12_spelling_29 m2_ (s_getR cf d_X12_spelling_30 fl_X12_75 (s_nk fun i1 => (s_iload_n d_X12_spelling_33 m1_ (s_ldN d_X12_spelling_34 ka_80 rfl fun v2 => (s_if_ne (tgt := 42) d_X12_spelling_35 rfl ?_ ?_)))))
    · exact s_iconst d_X12_spelling_42 n_0 (s_istore_n (L' := [(1, aI 0), (2, aI l2_17), (0, aR (some (12, l0_14)))]) d_X12_spelling_43 (b8 rfl) rfl (s_iinc (L' := [(2, aI (l2_17 + 1)), (1, aI 0), (0, aR (some (12, l0_14)))]) d_X12_spelling_44 m1_ (b8 rfl) rfl (s_goto (tgt := 17) d_X12_spelling_47 rfl (s_sub (subc m1_ (subc m0_ (subc m2_ sub0))) (s_back (ih17 (0, (l2_17 + 1))))))))
    exact s_iconst d_X12_spelling_38 n_1 (s_goto (tgt := 43) d_X12_spelling_39 rfl (s_istore_n (L' := [(1, aI 1), (2, aI l2_17), (0, aR (some (12, l0_14)))]) d_X12_spelling_43 (b8 rfl) rfl (s_iinc (L' := [(2, aI (l2_17 + 1)), (1, aI 1), (0, aR (some (12, l0_14)))]) d_X12_spelling_44 m1_ (b8 rfl) rfl (s_goto (tgt := 17) d_X12_spelling_47 rfl (s_sub (subc m1_ (subc m0_ (subc m2_ sub0))) (s_back (ih17 (1, (l2_17 + 1)))))))))
  refine s_aload_n d_X12_spelling_0 m0_ (s_getN cf d_X12_spelling_1 fl_X12_252 (s_bipush d_X12_spelling_4 n_6 rfl (s_icmp_ge (tgt := 13) d_X12_spelling_6 rfl ?_ ?_)))
  · exact s_iconst d_X12_spelling_13 n_0 (s_sub (subc m0_ sub0) (hj_X12_spelling_0_14 m l0 0))
  exact s_iconst d_X12_spelling_9 n_1 (s_goto (tgt := 14) d_X12_spelling_10 rfl (s_sub (subc m0_ sub0) (hj_X12_spelling_0_14 m l0 1)))
theorem d_X12_state_0 : dk me_X12_state 0 (.aload_n 0) 1 1 := And.intro (by decide +kernel) rfl
theorem d_X12_state_1 : dk me_X12_state 1 (.iload_n 1) 1 2 := And.intro (by decide +kernel) rfl
theorem d_X12_state_2 : dk me_X12_state 2 (.iload_n 2) 1 3 := And.intro (by decide +kernel) rfl
theorem d_X12_state_3 : dk me_X12_state 3 (.invokevirtual 403) 3 6 := And.intro (by decide +kernel) rfl
theorem d_X12_state_6 : dk me_X12_state 6 (.ifCond .eq 16) 3 9 := And.intro (by decide +kernel) rfl
theorem d_X12_state_9 : dk me_X12_state 9 (.aload_n 0) 1 10 := And.intro (by decide +kernel) rfl
theorem d_X12_state_10 : dk me_X12_state 10 (.iload_n 1) 1 11 := And.intro (by decide +kernel) rfl
theorem d_X12_state_11 : dk me_X12_state 11 (.iload_n 3) 1 12 := And.intro (by decide +kernel) rfl
theorem d_X12_state_12 : dk me_X12_state 12 (.invokevirtual 333) 3 15 := And.intro (by decide +kernel) rfl
theorem d_X12_state_15 : dk me_X12_state 15 (.ifCond .eq 7) 3 18 := And.intro (by decide +kernel) rfl
theorem d_X12_state_18 : dk me_X12_state 18 (.iconst 1) 1 19 := And.intro (by decide +kernel) rfl
theorem d_X12_state_19 : dk me_X12_state 19 (.goto 4) 3 22 := And.intro (by decide +kernel) rfl
theorem d_X12_state_22 : dk me_X12_state 22 (.iconst 0) 1 23 := And.intro (by decide +kernel) rfl
theorem d_X12_state_23 : dk me_X12_state 23 (.istore 4) 2 25 := And.intro (by decide +kernel) rfl
theorem d_X12_state_25 : dk me_X12_state 25 (.aload_n 0) 1 26 := And.intro (by decide +kernel) rfl
theorem d_X12_state_26 : dk me_X12_state 26 (.iload 4) 2 28 := And.intro (by decide +kernel) rfl
theorem d_X12_state_28 : dk me_X12_state 28 (.ifCond .ne 7) 3 31 := And.intro (by decide +kernel) rfl
theorem d_X12_state_31 : dk me_X12_state 31 (.iconst 1) 1 32 := And.intro (by decide +kernel) rfl
theorem d_X12_state_32 : dk me_X12_state 32 (.goto 17) 3 35 := And.intro (by decide +kernel) rfl
theorem d_X12_state_35 : dk me_X12_state 35 (.aload_n 0) 1 36 := And.intro (by decide +kernel) rfl
theorem d_X12_state_36 : dk me_X12_state 36 (.getfield 71) 3 39 := And.intro (by decide +kernel) rfl
theorem d_X12_state_39 : dk me_X12_state 39 (.iload_n 1) 1 40 := And.intro (by decide +kernel) rfl
theorem d_X12_state_40 : dk me_X12_state 40 (.baload) 1 41 := And.intro (by decide +kernel) rfl
theorem d_X12_state_41 : dk me_X12_state 41 (.ifCond .eq 7) 3 44 := And.intro (by decide +kernel) rfl
theorem d_X12_state_44 : dk me_X12_state 44 (.iconst 0) 1 45 := And.intro (by decide +kernel) rfl
theorem d_X12_state_45 : dk me_X12_state 45 (.goto 4) 3 48 := And.intro (by decide +kernel) rfl
theorem d_X12_state_48 : dk me_X12_state 48 (.iconst 2) 1 49 := And.intro (by decide +kernel) rfl
theorem d_X12_state_49 : dk me_X12_state 49 (.invokevirtual 260) 3 52 := And.intro (by decide +kernel) rfl
theorem d_X12_state_52 : dk me_X12_state 52 (.ifCond .eq 13) 3 55 := And.intro (by decide +kernel) rfl
theorem d_X12_state_55 : dk me_X12_state 55 (.aload_n 0) 1 56 := And.intro (by decide +kernel) rfl
theorem d_X12_state_56 : dk me_X12_state 56 (.iload_n 1) 1 57 := And.intro (by decide +kernel) rfl
theorem d_X12_state_57 : dk me_X12_state 57 (.iload_n 2) 1 58 := And.intro (by decide +kernel) rfl
theorem d_X12_state_58 : dk me_X12_state 58 (.iload_n 3) 1 59 := And.intro (by decide +kernel) rfl
theorem d_X12_state_59 : dk me_X12_state 59 (.invokevirtual 409) 3 62 := And.intro (by decide +kernel) rfl
theorem d_X12_state_62 : dk me_X12_state 62 (.goto 4) 3 65 := And.intro (by decide +kernel) rfl
theorem d_X12_state_65 : dk me_X12_state 65 (.iconst 0) 1 66 := And.intro (by decide +kernel) rfl
theorem d_X12_state_66 : dk me_X12_state 66 (.ireturn) 1 67 := And.intro (by decide +kernel) rfl
theorem ms_X12_state {fx : FX} {m : MM} {l0 : Nat} {l1 : Int} {l2 : Int} {l3 : Int} : MS fx me_X12_state [aR (some (12, l0)), aI l1, aI l2, aI l3] m (f_X12_state m l0 l1 l2 l3) := by
  refine ms_of rfl mf_X12_state (b8 rfl) ?_
  refine s_top ?_
  show Sim fx me_X12_state 0 [(0, aR (some (12, l0))), (1, aI l1), (2, aI l2), (3, aI l3)] [] m _
  unfold f_X12_state
  have hj_X12_state_0_49 : ∀ (m_49 : MM) (l0_49 : Nat) (l1_49 : Int) (l2_49 : Int) (l3_49 : Int) (s0_49 : Nat) (s1_49 : Int), Sim fx me_X12_state 49 [(0, aR (some (12, l0_49))), (1, aI l1_49), (2, aI l2_49), (3, aI l3_49)] [aI s1_49, aR (some (12, s0_49))] m_49 ((j_X12_state_0_49 m_49 l0_49 l1_49 l2_49 l3_49 s0_49 s1_49).bind (fun z => some z)) := by
    intro m_49 l0_49 l1_49 l2_49 l3_49 s0_49 s1_49
    unfold j_X12_state_0_49
    refine s_cI (r_V d_X12_state_49 k_X12_holds w_1668 rfl rfl) ms_X12_holds (b8 rfl) rfl rfl rfl (fun _ _ _ => rfl) (fun _ _ => Or.inl rfl) fun v6 m5 => (s_if_eq (tgt := 65) d_X12_state_52 rfl ?_ ?_)
    · exact s_iconst d_X12_state_65 n_0 (s_iret d_X12_state_66 rfl rfl)
    refine s_aload_n d_X12_state_55 m0_ (s_iload_n d_X12_state_56 m1_ (s_iload_n d_X12_state_57 m2_ (s_iload_n d_X12_state_58 m3_ (s_pI (r_V d_X12_state_59 k_X12_stateIn w_1956 rfl rfl) ms_X12_stateIn (b8 rfl) rfl rfl rfl fun v7 => (s_goto (tgt := 66) d_X12_state_62 rfl ?_)))))
    exact s_iret d_X12_state_66 rfl rfl
  have hj_X12_state_0_23 : ∀ (m_23 : MM) (l0_23 : Nat) (l1_23 : Int) (l2_23 : Int) (l3_23 : Int) (s0_23 : Int), Sim fx me_X12_state 23 [(0, aR (some (12, l0_23))), (1, aI l1_23), (2, aI l2_23), (3, aI l3_23)] [aI s0_23] m_23 ((j_X12_state_0_23 m_23 l0_23 l1_23 l2_23 l3_23 s0_23).bind (fun z => some z)) := by
    intro m_23 l0_23 l1_23 l2_23 l3_23 s0_23
    unfold j_X12_state_0_23
    refine s_istore (L' := [(4, aI s0_23), (0, aR (some (12, l0_23))), (1, aI l1_23), (2, aI l2_23), (3, aI l3_23)]) d_X12_state_23 (b8 rfl) rfl (s_aload_n d_X12_state_25 m1_ (s_iload d_X12_state_26 m0_ (s_if_ne (tgt := 35) d_X12_state_28 rfl ?_ ?_)))
    · refine s_aload_n d_X12_state_35 m1_ (s_getR cf d_X12_state_36 fl_X12_71 (s_nk fun i3 => (s_iload_n d_X12_state_39 m2_ (s_ldB d_X12_state_40 ka_79 rfl fun v4 => (s_if_eq (tgt := 48) d_X12_state_41 rfl ?_ ?_)))))
      · exact s_iconst d_X12_state_48 n_2 (s_sub (subc m1_ (subc m2_ (subc m3_ (subc m4_ sub0)))) (hj_X12_state_0_49 m_23 l0_23 l1_23 l2_23 l3_23 l0_23 2))
      exact s_iconst d_X12_state_44 n_0 (s_goto (tgt := 49) d_X12_state_45 rfl (s_sub (subc m1_ (subc m2_ (subc m3_ (subc m4_ sub0)))) (hj_X12_state_0_49 m_23 l0_23 l1_23 l2_23 l3_23 l0_23 0)))
    exact s_iconst d_X12_state_31 n_1 (s_goto (tgt := 49) d_X12_state_32 rfl (s_sub (subc m1_ (subc m2_ (subc m3_ (subc m4_ sub0)))) (hj_X12_state_0_49 m_23 l0_23 l1_23 l2_23 l3_23 l0_23 1)))
  have hj_X12_state_0_22 : ∀ (m_22 : MM) (l0_22 : Nat) (l1_22 : Int) (l2_22 : Int) (l3_22 : Int), Sim fx me_X12_state 22 [(0, aR (some (12, l0_22))), (1, aI l1_22), (2, aI l2_22), (3, aI l3_22)] [] m_22 ((j_X12_state_0_22 m_22 l0_22 l1_22 l2_22 l3_22).bind (fun z => some z)) := by
    intro m_22 l0_22 l1_22 l2_22 l3_22
    unfold j_X12_state_0_22
    exact s_iconst d_X12_state_22 n_0 (s_sub (subc m0_ (subc m1_ (subc m2_ (subc m3_ sub0)))) (hj_X12_state_0_23 m_22 l0_22 l1_22 l2_22 l3_22 0))
  refine s_aload_n d_X12_state_0 m0_ (s_iload_n d_X12_state_1 m1_ (s_iload_n d_X12_state_2 m2_ (s_pI (r_V d_X12_state_3 k_X12_isCopy w_1940 rfl rfl) ms_X12_isCopy (b8 rfl) rfl rfl rfl fun v1 => (s_if_eq (tgt := 22) d_X12_state_6 rfl ?_ ?_))))
  · exact s_sub (subc m0_ (subc m1_ (subc m2_ (subc m3_ sub0)))) (hj_X12_state_0_22 m l0 l1 l2 l3)
  refine s_aload_n d_X12_state_9 m0_ (s_iload_n d_X12_state_10 m1_ (s_iload_n d_X12_state_11 m3_ (s_pI (r_V d_X12_state_12 k_X12_isPage w_1779 rfl rfl) ms_X12_isPage (b8 rfl) rfl rfl rfl fun v2 => (s_if_eq (tgt := 22) d_X12_state_15 rfl ?_ ?_))))
  · exact s_sub (subc m0_ (subc m1_ (subc m2_ (subc m3_ sub0)))) (hj_X12_state_0_22 m l0 l1 l2 l3)
  exact s_iconst d_X12_state_18 n_1 (s_goto (tgt := 23) d_X12_state_19 rfl (s_sub (subc m0_ (subc m1_ (subc m2_ (subc m3_ sub0)))) (hj_X12_state_0_23 m l0 l1 l2 l3 1)))
theorem d_X12_thrown_0 : dk me_X12_thrown 0 (.aload_n 0) 1 1 := And.intro (by decide +kernel) rfl
theorem d_X12_thrown_1 : dk me_X12_thrown 1 (.getfield 228) 3 4 := And.intro (by decide +kernel) rfl
theorem d_X12_thrown_4 : dk me_X12_thrown 4 (.ireturn) 1 5 := And.intro (by decide +kernel) rfl
theorem ms_X12_thrown {fx : FX} {m : MM} {l0 : Nat} : MS fx me_X12_thrown [aR (some (12, l0))] m ((f_X12_thrown m l0).bind fun v => some (.inl (some (aI v)), m)) := by
  refine ms_of rfl mf_X12_thrown (b8 rfl) ?_
  show Sim fx me_X12_thrown 0 [(0, aR (some (12, l0)))] [] m _
  unfold f_X12_thrown
  exact s_aload_n d_X12_thrown_0 m0_ (s_getN cf d_X12_thrown_1 fl_X12_228 (s_iret d_X12_thrown_4 rfl rfl))
theorem d_X12_type_0 : dk me_X12_type 0 (.iload_n 3) 1 1 := And.intro (by decide +kernel) rfl
theorem d_X12_type_1 : dk me_X12_type 1 (.iconst 1) 1 2 := And.intro (by decide +kernel) rfl
theorem d_X12_type_2 : dk me_X12_type 2 (.bipush 8) 2 4 := And.intro (by decide +kernel) rfl
theorem d_X12_type_4 : dk me_X12_type 4 (.invokestatic 235) 3 7 := And.intro (by decide +kernel) rfl
theorem d_X12_type_7 : dk me_X12_type 7 (.istore 4) 2 9 := And.intro (by decide +kernel) rfl
theorem d_X12_type_9 : dk me_X12_type 9 (.iconst 0) 1 10 := And.intro (by decide +kernel) rfl
theorem d_X12_type_10 : dk me_X12_type 10 (.istore 5) 2 12 := And.intro (by decide +kernel) rfl
theorem d_X12_type_12 : dk me_X12_type 12 (.iload 5) 2 14 := And.intro (by decide +kernel) rfl
theorem d_X12_type_14 : dk me_X12_type 14 (.iload_n 3) 1 15 := And.intro (by decide +kernel) rfl
theorem d_X12_type_15 : dk me_X12_type 15 (.if_icmp .ge 61) 3 18 := And.intro (by decide +kernel) rfl
theorem d_X12_type_18 : dk me_X12_type 18 (.iload 4) 2 20 := And.intro (by decide +kernel) rfl
theorem d_X12_type_20 : dk me_X12_type 20 (.ifCond .eq 56) 3 23 := And.intro (by decide +kernel) rfl
theorem d_X12_type_23 : dk me_X12_type 23 (.lload_n 1) 1 24 := And.intro (by decide +kernel) rfl
theorem d_X12_type_24 : dk me_X12_type 24 (.bipush 8) 2 26 := And.intro (by decide +kernel) rfl
theorem d_X12_type_26 : dk me_X12_type 26 (.iload 5) 2 28 := And.intro (by decide +kernel) rfl
theorem d_X12_type_28 : dk me_X12_type 28 (.imul) 1 29 := And.intro (by decide +kernel) rfl
theorem d_X12_type_29 : dk me_X12_type 29 (.lshr) 1 30 := And.intro (by decide +kernel) rfl
theorem d_X12_type_30 : dk me_X12_type 30 (.ldc2_w 255) 3 33 := And.intro (by decide +kernel) rfl
theorem d_X12_type_33 : dk me_X12_type 33 (.land) 1 34 := And.intro (by decide +kernel) rfl
theorem d_X12_type_34 : dk me_X12_type 34 (.l2i) 1 35 := And.intro (by decide +kernel) rfl
theorem d_X12_type_35 : dk me_X12_type 35 (.istore 6) 2 37 := And.intro (by decide +kernel) rfl
theorem d_X12_type_37 : dk me_X12_type 37 (.iload 6) 2 39 := And.intro (by decide +kernel) rfl
theorem d_X12_type_39 : dk me_X12_type 39 (.bipush 97) 2 41 := And.intro (by decide +kernel) rfl
theorem d_X12_type_41 : dk me_X12_type 41 (.bipush 122) 2 43 := And.intro (by decide +kernel) rfl
theorem d_X12_type_43 : dk me_X12_type 43 (.invokestatic 235) 3 46 := And.intro (by decide +kernel) rfl
theorem d_X12_type_46 : dk me_X12_type 46 (.ifCond .ne 17) 3 49 := And.intro (by decide +kernel) rfl
theorem d_X12_type_49 : dk me_X12_type 49 (.iload 6) 2 51 := And.intro (by decide +kernel) rfl
theorem d_X12_type_51 : dk me_X12_type 51 (.bipush 32) 2 53 := And.intro (by decide +kernel) rfl
theorem d_X12_type_53 : dk me_X12_type 53 (.if_icmp .eq 10) 3 56 := And.intro (by decide +kernel) rfl
theorem d_X12_type_56 : dk me_X12_type 56 (.iload 6) 2 58 := And.intro (by decide +kernel) rfl
theorem d_X12_type_58 : dk me_X12_type 58 (.bipush 47) 2 60 := And.intro (by decide +kernel) rfl
theorem d_X12_type_60 : dk me_X12_type 60 (.if_icmp .ne 7) 3 63 := And.intro (by decide +kernel) rfl
theorem d_X12_type_63 : dk me_X12_type 63 (.iconst 1) 1 64 := And.intro (by decide +kernel) rfl
theorem d_X12_type_64 : dk me_X12_type 64 (.goto 4) 3 67 := And.intro (by decide +kernel) rfl
theorem d_X12_type_67 : dk me_X12_type 67 (.iconst 0) 1 68 := And.intro (by decide +kernel) rfl
theorem d_X12_type_68 : dk me_X12_type 68 (.istore 4) 2 70 := And.intro (by decide +kernel) rfl
theorem d_X12_type_70 : dk me_X12_type 70 (.iinc 5 1) 3 73 := And.intro (by decide +kernel) rfl
theorem d_X12_type_73 : dk me_X12_type 73 (.goto (-61)) 3 76 := And.intro (by decide +kernel) rfl
theorem d_X12_type_76 : dk me_X12_type 76 (.aload_n 0) 1 77 := And.intro (by decide +kernel) rfl
theorem d_X12_type_77 : dk me_X12_type 77 (.iload 4) 2 79 := And.intro (by decide +kernel) rfl
theorem d_X12_type_79 : dk me_X12_type 79 (.ifCond .ne 7) 3 82 := And.intro (by decide +kernel) rfl
theorem d_X12_type_82 : dk me_X12_type 82 (.iconst 1) 1 83 := And.intro (by decide +kernel) rfl
theorem d_X12_type_83 : dk me_X12_type 83 (.goto 19) 3 86 := And.intro (by decide +kernel) rfl
theorem d_X12_type_86 : dk me_X12_type 86 (.aload_n 0) 1 87 := And.intro (by decide +kernel) rfl
theorem d_X12_type_87 : dk me_X12_type 87 (.getfield 257) 3 90 := And.intro (by decide +kernel) rfl
theorem d_X12_type_90 : dk me_X12_type 90 (.iload_n 3) 1 91 := And.intro (by decide +kernel) rfl
theorem d_X12_type_91 : dk me_X12_type 91 (.iadd) 1 92 := And.intro (by decide +kernel) rfl
theorem d_X12_type_92 : dk me_X12_type 92 (.bipush 40) 2 94 := And.intro (by decide +kernel) rfl
theorem d_X12_type_94 : dk me_X12_type 94 (.if_icmp .le 7) 3 97 := And.intro (by decide +kernel) rfl
theorem d_X12_type_97 : dk me_X12_type 97 (.iconst 2) 1 98 := And.intro (by decide +kernel) rfl
theorem d_X12_type_98 : dk me_X12_type 98 (.goto 4) 3 101 := And.intro (by decide +kernel) rfl
theorem d_X12_type_101 : dk me_X12_type 101 (.iconst 0) 1 102 := And.intro (by decide +kernel) rfl
theorem d_X12_type_102 : dk me_X12_type 102 (.invokevirtual 260) 3 105 := And.intro (by decide +kernel) rfl
theorem d_X12_type_105 : dk me_X12_type 105 (.ifCond .ne 5) 3 108 := And.intro (by decide +kernel) rfl
theorem d_X12_type_108 : dk me_X12_type 108 (.iconst 0) 1 109 := And.intro (by decide +kernel) rfl
theorem d_X12_type_109 : dk me_X12_type 109 (.ireturn) 1 110 := And.intro (by decide +kernel) rfl
theorem d_X12_type_110 : dk me_X12_type 110 (.iconst 0) 1 111 := And.intro (by decide +kernel) rfl
theorem d_X12_type_111 : dk me_X12_type 111 (.istore 5) 2 113 := And.intro (by decide +kernel) rfl
theorem d_X12_type_113 : dk me_X12_type 113 (.iload 5) 2 115 := And.intro (by decide +kernel) rfl
theorem d_X12_type_115 : dk me_X12_type 115 (.iload_n 3) 1 116 := And.intro (by decide +kernel) rfl
theorem d_X12_type_116 : dk me_X12_type 116 (.if_icmp .ge 40) 3 119 := And.intro (by decide +kernel) rfl
theorem d_X12_type_119 : dk me_X12_type 119 (.aload_n 0) 1 120 := And.intro (by decide +kernel) rfl
theorem d_X12_type_120 : dk me_X12_type 120 (.getfield 7) 3 123 := And.intro (by decide +kernel) rfl
theorem d_X12_type_123 : dk me_X12_type 123 (.aload_n 0) 1 124 := And.intro (by decide +kernel) rfl
theorem d_X12_type_124 : dk me_X12_type 124 (.getfield 257) 3 127 := And.intro (by decide +kernel) rfl
theorem d_X12_type_127 : dk me_X12_type 127 (.lload_n 1) 1 128 := And.intro (by decide +kernel) rfl
theorem d_X12_type_128 : dk me_X12_type 128 (.bipush 8) 2 130 := And.intro (by decide +kernel) rfl
theorem d_X12_type_130 : dk me_X12_type 130 (.iload 5) 2 132 := And.intro (by decide +kernel) rfl
theorem d_X12_type_132 : dk me_X12_type 132 (.imul) 1 133 := And.intro (by decide +kernel) rfl
theorem d_X12_type_133 : dk me_X12_type 133 (.lshr) 1 134 := And.intro (by decide +kernel) rfl
theorem d_X12_type_134 : dk me_X12_type 134 (.ldc2_w 255) 3 137 := And.intro (by decide +kernel) rfl
theorem d_X12_type_137 : dk me_X12_type 137 (.land) 1 138 := And.intro (by decide +kernel) rfl
theorem d_X12_type_138 : dk me_X12_type 138 (.l2i) 1 139 := And.intro (by decide +kernel) rfl
theorem d_X12_type_139 : dk me_X12_type 139 (.iastore) 1 140 := And.intro (by decide +kernel) rfl
theorem d_X12_type_140 : dk me_X12_type 140 (.aload_n 0) 1 141 := And.intro (by decide +kernel) rfl
theorem d_X12_type_141 : dk me_X12_type 141 (.dup) 1 142 := And.intro (by decide +kernel) rfl
theorem d_X12_type_142 : dk me_X12_type 142 (.getfield 257) 3 145 := And.intro (by decide +kernel) rfl
theorem d_X12_type_145 : dk me_X12_type 145 (.iconst 1) 1 146 := And.intro (by decide +kernel) rfl
theorem d_X12_type_146 : dk me_X12_type 146 (.iadd) 1 147 := And.intro (by decide +kernel) rfl
theorem d_X12_type_147 : dk me_X12_type 147 (.putfield 257) 3 150 := And.intro (by decide +kernel) rfl
theorem d_X12_type_150 : dk me_X12_type 150 (.iinc 5 1) 3 153 := And.intro (by decide +kernel) rfl
theorem d_X12_type_153 : dk me_X12_type 153 (.goto (-40)) 3 156 := And.intro (by decide +kernel) rfl
theorem d_X12_type_156 : dk me_X12_type 156 (.aload_n 0) 1 157 := And.intro (by decide +kernel) rfl
theorem d_X12_type_157 : dk me_X12_type 157 (.getfield 257) 3 160 := And.intro (by decide +kernel) rfl
theorem d_X12_type_160 : dk me_X12_type 160 (.ireturn) 1 161 := And.intro (by decide +kernel) rfl
theorem ms_X12_type {fx : FX} {m : MM} {l0 : Nat} {l1 : Int64} {l3 : Int} : MS fx me_X12_type [aR (some (12, l0)), aL l1, aI l3] m (f_X12_type m l0 l1 l3) := by
  refine ms_of rfl mf_X12_type (b8 rfl) ?_
  refine s_top ?_
  show Sim fx me_X12_type 0 [(0, aR (some (12, l0))), (1, aL l1), (3, aI l3)] [] m _
  unfold f_X12_type
  have hj_X12_type_0_156 : ∀ (m_156 : MM) (l0_156 : Nat), Sim fx me_X12_type 156 [(0, aR (some (12, l0_156)))] [] m_156 ((j_X12_type_0_156 m_156 l0_156).bind (fun z => some z)) := by
    intro m_156 l0_156
    unfold j_X12_type_0_156
    exact s_aload_n d_X12_type_156 m0_ (s_getN cf d_X12_type_157 fl_X12_257 (s_iret d_X12_type_160 rfl rfl))
  have hj_X12_type_0_102 : ∀ (m_102 : MM) (l0_102 : Nat) (l1_102 : Int64) (l3_102 : Int) (s0_102 : Nat) (s1_102 : Int), Sim fx me_X12_type 102 [(0, aR (some (12, l0_102))), (1, aL l1_102), (3, aI l3_102)] [aI s1_102, aR (some (12, s0_102))] m_102 ((j_X12_type_0_102 m_102 l0_102 l1_102 l3_102 s0_102 s1_102).bind (fun z => some z)) := by
    intro m_102 l0_102 l1_102 l3_102 s0_102 s1_102
    unfold j_X12_type_0_102
    refine s_cI (r_V d_X12_type_102 k_X12_holds w_1668 rfl rfl) ms_X12_holds (b8 rfl) rfl rfl rfl (fun _ _ _ => rfl) (fun _ _ => Or.inl rfl) fun v5 m4 => (s_if_ne (tgt := 110) d_X12_type_105 rfl ?_ ?_)
    · refine s_iconst d_X12_type_110 n_0 (s_istore (L' := [(5, aI 0), (0, aR (some (12, l0_102))), (1, aL l1_102), (3, aI l3_102)]) d_X12_type_111 (b8 rfl) rfl (s_sub (subc m0_ (subc m1_ (subc m2_ (subc m3_ sub0)))) (s_lp2 (fun s => [(5, aI (s.1)), (0, aR (some (12, l0_102))), (1, aL l1_102), (3, aI l3_102)]) (fun s => s.2) (0, m4) fun k113 hx113 s ih0 => ?_)))
      obtain ⟨l5_113, mm_113⟩ := s
      have ih113 := ih0
      clear ih0
      try dsimp only
      unfold b_X12_type_113
      refine s_iload d_X12_type_113 m0_ (s_iload_n d_X12_type_115 m3_ (s_icmp_ge (tgt := 156) d_X12_type_116 rfl ?_ ?_))
      · exact s_exit (hx113 _) (s_sub (subc m1_ sub0) (hj_X12_type_0_156 mm_113 l0_102))
      refine s_aload_n d_X12_type_119 m1_ (s_getR cf d_X12_type_120 fl_X12_7 (s_nk fun i6 => (s_aload_n d_X12_type_123 m1_ (s_getN cf d_X12_type_124 fl_X12_257 (s_lload_n d_X12_type_127 m2_ ?_)))))
      refine s_bipush d_X12_type_128 n_8 rfl (s_iload d_X12_type_130 m0_ (s_imul d_X12_type_132 rfl rfl (s_ck (s_lshr d_X12_type_133 (s_ldc2 d_X12_type_134 w_1667 ?_)))))
      refine s_land d_X12_type_137 (s_l2i d_X12_type_138 (s_stN d_X12_type_139 ka_59 rfl fun m7 => (s_aload_n d_X12_type_140 m1_ (s_dup d_X12_type_141 rfl (s_getN cf d_X12_type_142 fl_X12_257 ?_)))))
      refine s_iconst d_X12_type_145 n_1 (s_iadd d_X12_type_146 rfl rfl (s_ck (s_putN cf d_X12_type_147 fl_X12_257 (fun h => by cases h) fun m8 => (s_iinc (L' := [(5, aI (l5_113 + 1)), (0, aR (some (12, l0_102))), (1, aL l1_102), (3, aI l3_102)]) d_X12_type_150 m0_ (b8 rfl) rfl (s_goto (tgt := 113) d_X12_type_153 rfl ?_)))))
      exact s_sub (subc m0_ (subc m1_ (subc m2_ (subc m3_ sub0)))) (s_back (ih113 ((l5_113 + 1), m8)))
    exact s_iconst d_X12_type_108 n_0 (s_iret d_X12_type_109 rfl rfl)
  have hj_X12_type_0_76 : ∀ (m_76 : MM) (l0_76 : Nat) (l1_76 : Int64) (l3_76 : Int) (l4_76 : Int), Sim fx me_X12_type 76 [(0, aR (some (12, l0_76))), (1, aL l1_76), (3, aI l3_76), (4, aI l4_76)] [] m_76 ((j_X12_type_0_76 m_76 l0_76 l1_76 l3_76 l4_76).bind (fun z => some z)) := by
    intro m_76 l0_76 l1_76 l3_76 l4_76
    unfold j_X12_type_0_76
    refine s_aload_n d_X12_type_76 m0_ (s_iload d_X12_type_77 m3_ (s_if_ne (tgt := 86) d_X12_type_79 rfl ?_ ?_))
    · refine s_aload_n d_X12_type_86 m0_ (s_getN cf d_X12_type_87 fl_X12_257 (s_iload_n d_X12_type_90 m2_ (s_iadd d_X12_type_91 rfl rfl (s_bipush d_X12_type_92 n_40 rfl (s_ck1 ?_)))))
      refine s_icmp_le (tgt := 101) d_X12_type_94 rfl ?_ ?_
      · exact s_iconst d_X12_type_101 n_0 (s_sub (subc m0_ (subc m1_ (subc m2_ sub0))) (hj_X12_type_0_102 m_76 l0_76 l1_76 l3_76 l0_76 0))
      exact s_iconst d_X12_type_97 n_2 (s_goto (tgt := 102) d_X12_type_98 rfl (s_sub (subc m0_ (subc m1_ (subc m2_ sub0))) (hj_X12_type_0_102 m_76 l0_76 l1_76 l3_76 l0_76 2)))
    exact s_iconst d_X12_type_82 n_1 (s_goto (tgt := 102) d_X12_type_83 rfl (s_sub (subc m0_ (subc m1_ (subc m2_ sub0))) (hj_X12_type_0_102 m_76 l0_76 l1_76 l3_76 l0_76 1)))
  refine s_iload_n d_X12_type_0 m2_ (s_iconst d_X12_type_1 n_1 (s_bipush d_X12_type_2 n_8 rfl (s_pI (r_S d_X12_type_4 k_X12_isIn w_1664 rfl rfl) ms_X12_isIn (b8 rfl) rfl rfl rfl fun v1 => (s_istore (L' := [(4, aI v1), (0, aR (some (12, l0))), (1, aL l1), (3, aI l3)]) d_X12_type_7 (b8 rfl) rfl (s_iconst d_X12_type_9 n_0 ?_)))))
  refine s_istore (L' := [(5, aI 0), (4, aI v1), (0, aR (some (12, l0))), (1, aL l1), (3, aI l3)]) d_X12_type_10 (b8 rfl) rfl (s_sub (subc m1_ (subc m0_ (subc m2_ (subc m3_ (subc m4_ sub0))))) (s_lp2 (fun s => [(4, aI (s.1)), (5, aI (s.2)), (0, aR (some (12, l0))), (1, aL l1), (3, aI l3)]) (fun s => m) (v1, 0) fun k12 hx12 s ih0 => ?_))
  obtain ⟨l4_12, l5_12⟩ := s
  have ih12 := ih0
  clear ih0
  try dsimp only
  unfold b_X12_type_12
  refine s_iload d_X12_type_12 m1_ (s_iload_n d_X12_type_14 m4_ (s_icmp_ge (tgt := 76) d_X12_type_15 rfl ?_ ?_))
  · exact s_exit (hx12 _) (s_sub (subc m2_ (subc m3_ (subc m4_ (subc m0_ sub0)))) (hj_X12_type_0_76 m l0 l1 l3 l4_12))
  refine s_iload d_X12_type_18 m0_ (s_if_eq (tgt := 76) d_X12_type_20 rfl ?_ ?_)
  · exact s_exit (hx12 _) (s_sub (subc m2_ (subc m3_ (subc m4_ (subc m0_ sub0)))) (hj_X12_type_0_76 m l0 l1 l3 l4_12))
  refine s_lload_n d_X12_type_23 m3_ (s_bipush d_X12_type_24 n_8 rfl (s_iload d_X12_type_26 m1_ (s_imul d_X12_type_28 rfl rfl (s_ck (s_lshr d_X12_type_29 ?_)))))
  refine s_ldc2 d_X12_type_30 w_1667 (s_land d_X12_type_33 (s_l2i d_X12_type_34 (s_let fun v2 => (s_istore (L' := [(6, aI v2), (4, aI l4_12), (5, aI l5_12), (0, aR (some (12, l0))), (1, aL l1), (3, aI l3)]) d_X12_type_35 (b8 rfl) rfl (s_iload d_X12_type_37 m0_ ?_)))))
  refine s_bipush d_X12_type_39 n_97 rfl (s_bipush d_X12_type_41 n_122 rfl (s_pI (r_S d_X12_type_43 k_X12_isIn w_1664 rfl rfl) ms_X12_isIn (b8 rfl) rfl rfl rfl fun v3 => (s_if_ne (tgt := 63) d_X12_type_46 rfl ?_ ?_)))
  · exact s_iconst d_X12_type_63 n_1 (s_goto (tgt := 68) d_X12_type_64 rfl (s_istore (L' := [(4, aI 1), (6, aI v2), (5, aI l5_12), (0, aR (some (12, l0))), (1, aL l1), (3, aI l3)]) d_X12_type_68 (b8 rfl) rfl (s_iinc (L' := [(5, aI (l5_12 + 1)), (4, aI 1), (6, aI v2), (0, aR (some (12, l0))), (1, aL l1), (3, aI l3)]) d_X12_type_70 m2_ (b8 rfl) rfl (s_goto (tgt := 12) d_X12_type_73 rfl (s_sub (subc m1_ (subc m0_ (subc m3_ (subc m4_ (subc m5_ sub0))))) (s_back (ih12 (1, (l5_12 + 1)))))))))
  refine s_iload d_X12_type_49 m0_ (s_bipush d_X12_type_51 n_32 rfl (s_icmp_eq (tgt := 63) d_X12_type_53 rfl ?_ ?_))
  · exact s_iconst d_X12_type_63 n_1 (s_goto (tgt := 68) d_X12_type_64 rfl (s_istore (L' := [(4, aI 1), (6, aI v2), (5, aI l5_12), (0, aR (some (12, l0))), (1, aL l1), (3, aI l3)]) d_X12_type_68 (b8 rfl) rfl (s_iinc (L' := [(5, aI (l5_12 + 1)), (4, aI 1), (6, aI v2), (0, aR (some (12, l0))), (1, aL l1), (3, aI l3)]) d_X12_type_70 m2_ (b8 rfl) rfl (s_goto (tgt := 12) d_X12_type_73 rfl (s_sub (subc m1_ (subc m0_ (subc m3_ (subc m4_ (subc m5_ sub0))))) (s_back (ih12 (1, (l5_12 + 1)))))))))
  refine s_iload d_X12_type_56 m0_ (s_bipush d_X12_type_58 n_47 rfl (s_icmp_ne (tgt := 67) d_X12_type_60 rfl ?_ ?_))
  · exact s_iconst d_X12_type_67 n_0 (s_istore (L' := [(4, aI 0), (6, aI v2), (5, aI l5_12), (0, aR (some (12, l0))), (1, aL l1), (3, aI l3)]) d_X12_type_68 (b8 rfl) rfl (s_iinc (L' := [(5, aI (l5_12 + 1)), (4, aI 0), (6, aI v2), (0, aR (some (12, l0))), (1, aL l1), (3, aI l3)]) d_X12_type_70 m2_ (b8 rfl) rfl (s_goto (tgt := 12) d_X12_type_73 rfl (s_sub (subc m1_ (subc m0_ (subc m3_ (subc m4_ (subc m5_ sub0))))) (s_back (ih12 (0, (l5_12 + 1))))))))
  exact s_iconst d_X12_type_63 n_1 (s_goto (tgt := 68) d_X12_type_64 rfl (s_istore (L' := [(4, aI 1), (6, aI v2), (5, aI l5_12), (0, aR (some (12, l0))), (1, aL l1), (3, aI l3)]) d_X12_type_68 (b8 rfl) rfl (s_iinc (L' := [(5, aI (l5_12 + 1)), (4, aI 1), (6, aI v2), (0, aR (some (12, l0))), (1, aL l1), (3, aI l3)]) d_X12_type_70 m2_ (b8 rfl) rfl (s_goto (tgt := 12) d_X12_type_73 rfl (s_sub (subc m1_ (subc m0_ (subc m3_ (subc m4_ (subc m5_ sub0))))) (s_back (ih12 (1, (l5_12 + 1)))))))))
theorem d_X12_wear_0 : dk me_X12_wear 0 (.iload_n 1) 1 1 := And.intro (by decide +kernel) rfl
theorem d_X12_wear_1 : dk me_X12_wear 1 (.iconst 0) 1 2 := And.intro (by decide +kernel) rfl
theorem d_X12_wear_2 : dk me_X12_wear 2 (.aload_n 0) 1 3 := And.intro (by decide +kernel) rfl
theorem d_X12_wear_3 : dk me_X12_wear 3 (.getfield 291) 3 6 := And.intro (by decide +kernel) rfl
theorem d_X12_wear_6 : dk me_X12_wear 6 (.iconst 1) 1 7 := And.intro (by decide +kernel) rfl
theorem d_X12_wear_7 : dk me_X12_wear 7 (.isub) 1 8 := And.intro (by decide +kernel) rfl
theorem d_X12_wear_8 : dk me_X12_wear 8 (.invokestatic 235) 3 11 := And.intro (by decide +kernel) rfl
theorem d_X12_wear_11 : dk me_X12_wear 11 (.istore_n 2) 1 12 := And.intro (by decide +kernel) rfl
theorem d_X12_wear_12 : dk me_X12_wear 12 (.aload_n 0) 1 13 := And.intro (by decide +kernel) rfl
theorem d_X12_wear_13 : dk me_X12_wear 13 (.iload_n 2) 1 14 := And.intro (by decide +kernel) rfl
theorem d_X12_wear_14 : dk me_X12_wear 14 (.ifCond .ne 7) 3 17 := And.intro (by decide +kernel) rfl
theorem d_X12_wear_17 : dk me_X12_wear 17 (.iconst 1) 1 18 := And.intro (by decide +kernel) rfl
theorem d_X12_wear_18 : dk me_X12_wear 18 (.goto 18) 3 21 := And.intro (by decide +kernel) rfl
theorem d_X12_wear_21 : dk me_X12_wear 21 (.aload_n 0) 1 22 := And.intro (by decide +kernel) rfl
theorem d_X12_wear_22 : dk me_X12_wear 22 (.getfield 23) 3 25 := And.intro (by decide +kernel) rfl
theorem d_X12_wear_25 : dk me_X12_wear 25 (.iload_n 1) 1 26 := And.intro (by decide +kernel) rfl
theorem d_X12_wear_26 : dk me_X12_wear 26 (.iaload) 1 27 := And.intro (by decide +kernel) rfl
theorem d_X12_wear_27 : dk me_X12_wear 27 (.iconst 3) 1 28 := And.intro (by decide +kernel) rfl
theorem d_X12_wear_28 : dk me_X12_wear 28 (.if_icmp .ne 7) 3 31 := And.intro (by decide +kernel) rfl
theorem d_X12_wear_31 : dk me_X12_wear 31 (.iconst 2) 1 32 := And.intro (by decide +kernel) rfl
theorem d_X12_wear_32 : dk me_X12_wear 32 (.goto 4) 3 35 := And.intro (by decide +kernel) rfl
theorem d_X12_wear_35 : dk me_X12_wear 35 (.iconst 0) 1 36 := And.intro (by decide +kernel) rfl
theorem d_X12_wear_36 : dk me_X12_wear 36 (.invokevirtual 260) 3 39 := And.intro (by decide +kernel) rfl
theorem d_X12_wear_39 : dk me_X12_wear 39 (.ifCond .ne 5) 3 42 := And.intro (by decide +kernel) rfl
theorem d_X12_wear_42 : dk me_X12_wear 42 (.iconst 0) 1 43 := And.intro (by decide +kernel) rfl
theorem d_X12_wear_43 : dk me_X12_wear 43 (.ireturn) 1 44 := And.intro (by decide +kernel) rfl
theorem d_X12_wear_44 : dk me_X12_wear 44 (.aload_n 0) 1 45 := And.intro (by decide +kernel) rfl
theorem d_X12_wear_45 : dk me_X12_wear 45 (.getfield 23) 3 48 := And.intro (by decide +kernel) rfl
theorem d_X12_wear_48 : dk me_X12_wear 48 (.iload_n 1) 1 49 := And.intro (by decide +kernel) rfl
theorem d_X12_wear_49 : dk me_X12_wear 49 (.dup2) 1 50 := And.intro (by decide +kernel) rfl
theorem d_X12_wear_50 : dk me_X12_wear 50 (.iaload) 1 51 := And.intro (by decide +kernel) rfl
theorem d_X12_wear_51 : dk me_X12_wear 51 (.iconst 1) 1 52 := And.intro (by decide +kernel) rfl
theorem d_X12_wear_52 : dk me_X12_wear 52 (.iadd) 1 53 := And.intro (by decide +kernel) rfl
theorem d_X12_wear_53 : dk me_X12_wear 53 (.iastore) 1 54 := And.intro (by decide +kernel) rfl
theorem d_X12_wear_54 : dk me_X12_wear 54 (.aload_n 0) 1 55 := And.intro (by decide +kernel) rfl
theorem d_X12_wear_55 : dk me_X12_wear 55 (.getfield 23) 3 58 := And.intro (by decide +kernel) rfl
theorem d_X12_wear_58 : dk me_X12_wear 58 (.iload_n 1) 1 59 := And.intro (by decide +kernel) rfl
theorem d_X12_wear_59 : dk me_X12_wear 59 (.iaload) 1 60 := And.intro (by decide +kernel) rfl
theorem d_X12_wear_60 : dk me_X12_wear 60 (.ireturn) 1 61 := And.intro (by decide +kernel) rfl
theorem ms_X12_wear {fx : FX} {m : MM} {l0 : Nat} {l1 : Int} : MS fx me_X12_wear [aR (some (12, l0)), aI l1] m (f_X12_wear m l0 l1) := by
  refine ms_of rfl mf_X12_wear (b8 rfl) ?_
  refine s_top ?_
  show Sim fx me_X12_wear 0 [(0, aR (some (12, l0))), (1, aI l1)] [] m _
  unfold f_X12_wear
  have hj_X12_wear_0_36 : ∀ (m_36 : MM) (l0_36 : Nat) (l1_36 : Int) (s0_36 : Nat) (s1_36 : Int), Sim fx me_X12_wear 36 [(0, aR (some (12, l0_36))), (1, aI l1_36)] [aI s1_36, aR (some (12, s0_36))] m_36 ((j_X12_wear_0_36 m_36 l0_36 l1_36 s0_36 s1_36).bind (fun z => some z)) := by
    intro m_36 l0_36 l1_36 s0_36 s1_36
    unfold j_X12_wear_0_36
    refine s_cI (r_V d_X12_wear_36 k_X12_holds w_1668 rfl rfl) ms_X12_holds (b8 rfl) rfl rfl rfl (fun _ _ _ => rfl) (fun _ _ => Or.inl rfl) fun v5 m4 => (s_if_ne (tgt := 44) d_X12_wear_39 rfl ?_ ?_)
    · refine s_aload_n d_X12_wear_44 m0_ (s_getR cf d_X12_wear_45 fl_X12_23 (s_nk fun i6 => (s_iload_n d_X12_wear_48 m1_ (s_dup2 d_X12_wear_49 rfl rfl (s_ldN d_X12_wear_50 ka_63 rfl fun v7 => ?_)))))
      refine s_iconst d_X12_wear_51 n_1 (s_iadd d_X12_wear_52 rfl rfl (s_ck (s_stN d_X12_wear_53 ka_63 rfl fun m8 => (s_aload_n d_X12_wear_54 m0_ (s_getR cf d_X12_wear_55 fl_X12_23 ?_)))))
      exact s_nk fun i9 => (s_iload_n d_X12_wear_58 m1_ (s_ldN d_X12_wear_59 ka_63 rfl fun v10 => (s_iret d_X12_wear_60 rfl rfl)))
    exact s_iconst d_X12_wear_42 n_0 (s_iret d_X12_wear_43 rfl rfl)
  refine s_iload_n d_X12_wear_0 m1_ (s_iconst d_X12_wear_1 n_0 (s_aload_n d_X12_wear_2 m0_ (s_getN cf d_X12_wear_3 fl_X12_291 (s_iconst d_X12_wear_6 n_1 (s_isub d_X12_wear_7 rfl rfl ?_)))))
  refine s_ck (s_pI (r_S d_X12_wear_8 k_X12_isIn w_1664 rfl rfl) ms_X12_isIn (b8 rfl) rfl rfl rfl fun v1 => (s_istore_n (L' := [(2, aI v1), (0, aR (some (12, l0))), (1, aI l1)]) d_X12_wear_11 (b8 rfl) rfl (s_aload_n d_X12_wear_12 m1_ (s_iload_n d_X12_wear_13 m0_ (s_if_ne (tgt := 21) d_X12_wear_14 rfl ?_ ?_)))))
  · refine s_aload_n d_X12_wear_21 m1_ (s_getR cf d_X12_wear_22 fl_X12_23 (s_nk fun i2 => (s_iload_n d_X12_wear_25 m2_ (s_ldN d_X12_wear_26 ka_63 rfl fun v3 => (s_iconst d_X12_wear_27 n_3 ?_)))))
    refine s_icmp_ne (tgt := 35) d_X12_wear_28 rfl ?_ ?_
    · exact s_iconst d_X12_wear_35 n_0 (s_sub (subc m1_ (subc m2_ sub0)) (hj_X12_wear_0_36 m l0 l1 l0 0))
    exact s_iconst d_X12_wear_31 n_2 (s_goto (tgt := 36) d_X12_wear_32 rfl (s_sub (subc m1_ (subc m2_ sub0)) (hj_X12_wear_0_36 m l0 l1 l0 2)))
  exact s_iconst d_X12_wear_17 n_1 (s_goto (tgt := 36) d_X12_wear_18 rfl (s_sub (subc m1_ (subc m2_ sub0)) (hj_X12_wear_0_36 m l0 l1 l0 1)))
theorem d_X12_wipe_0 : dk me_X12_wipe 0 (.aload_n 0) 1 1 := And.intro (by decide +kernel) rfl
theorem d_X12_wipe_1 : dk me_X12_wipe 1 (.iconst 0) 1 2 := And.intro (by decide +kernel) rfl
theorem d_X12_wipe_2 : dk me_X12_wipe 2 (.putfield 228) 3 5 := And.intro (by decide +kernel) rfl
theorem d_X12_wipe_5 : dk me_X12_wipe 5 (.aload_n 0) 1 6 := And.intro (by decide +kernel) rfl
theorem d_X12_wipe_6 : dk me_X12_wipe 6 (.getfield 257) 3 9 := And.intro (by decide +kernel) rfl
theorem d_X12_wipe_9 : dk me_X12_wipe 9 (.istore_n 1) 1 10 := And.intro (by decide +kernel) rfl
theorem d_X12_wipe_10 : dk me_X12_wipe 10 (.aload_n 0) 1 11 := And.intro (by decide +kernel) rfl
theorem d_X12_wipe_11 : dk me_X12_wipe 11 (.iconst 0) 1 12 := And.intro (by decide +kernel) rfl
theorem d_X12_wipe_12 : dk me_X12_wipe 12 (.putfield 257) 3 15 := And.intro (by decide +kernel) rfl
theorem d_X12_wipe_15 : dk me_X12_wipe 15 (.iload_n 1) 1 16 := And.intro (by decide +kernel) rfl
theorem d_X12_wipe_16 : dk me_X12_wipe 16 (.ireturn) 1 17 := And.intro (by decide +kernel) rfl
theorem ms_X12_wipe {fx : FX} {m : MM} {l0 : Nat} : MS fx me_X12_wipe [aR (some (12, l0))] m (f_X12_wipe m l0) := by
  refine ms_of rfl mf_X12_wipe (b8 rfl) ?_
  refine s_top ?_
  show Sim fx me_X12_wipe 0 [(0, aR (some (12, l0)))] [] m _
  unfold f_X12_wipe
  refine s_aload_n d_X12_wipe_0 m0_ (s_iconst d_X12_wipe_1 n_0 (s_putN cf d_X12_wipe_2 fl_X12_228 (fun h => by cases h) fun m1 => (s_aload_n d_X12_wipe_5 m0_ (s_getN cf d_X12_wipe_6 fl_X12_257 (s_istore_n (L' := [(1, aI (gN m1 12 l0 1)), (0, aR (some (12, l0)))]) d_X12_wipe_9 (b8 rfl) rfl ?_)))))
  exact s_aload_n d_X12_wipe_10 m1_ (s_iconst d_X12_wipe_11 n_0 (s_putN cf d_X12_wipe_12 fl_X12_257 (fun h => by cases h) fun m2 => (s_iload_n d_X12_wipe_15 m0_ (s_iret d_X12_wipe_16 rfl rfl))))
