set_option maxRecDepth 8000
theorem d_X12_lay_0 : dk me_X12_lay 0 (.aload_n 0) 1 1 := And.intro (by decide +kernel) rfl
theorem d_X12_lay_1 : dk me_X12_lay 1 (.iload_n 1) 1 2 := And.intro (by decide +kernel) rfl
theorem d_X12_lay_2 : dk me_X12_lay 2 (.invokevirtual 239) 3 5 := And.intro (by decide +kernel) rfl
theorem d_X12_lay_5 : dk me_X12_lay 5 (.ifCond .eq 23) 3 8 := And.intro (by decide +kernel) rfl
theorem d_X12_lay_8 : dk me_X12_lay 8 (.iload_n 2) 1 9 := And.intro (by decide +kernel) rfl
theorem d_X12_lay_9 : dk me_X12_lay 9 (.iconst 0) 1 10 := And.intro (by decide +kernel) rfl
theorem d_X12_lay_10 : dk me_X12_lay 10 (.aload_n 0) 1 11 := And.intro (by decide +kernel) rfl
theorem d_X12_lay_11 : dk me_X12_lay 11 (.getfield 56) 3 14 := And.intro (by decide +kernel) rfl
theorem d_X12_lay_14 : dk me_X12_lay 14 (.iload_n 1) 1 15 := And.intro (by decide +kernel) rfl
theorem d_X12_lay_15 : dk me_X12_lay 15 (.iaload) 1 16 := And.intro (by decide +kernel) rfl
theorem d_X12_lay_16 : dk me_X12_lay 16 (.iconst 1) 1 17 := And.intro (by decide +kernel) rfl
theorem d_X12_lay_17 : dk me_X12_lay 17 (.isub) 1 18 := And.intro (by decide +kernel) rfl
theorem d_X12_lay_18 : dk me_X12_lay 18 (.invokestatic 235) 3 21 := And.intro (by decide +kernel) rfl
theorem d_X12_lay_21 : dk me_X12_lay 21 (.ifCond .eq 7) 3 24 := And.intro (by decide +kernel) rfl
theorem d_X12_lay_24 : dk me_X12_lay 24 (.iconst 1) 1 25 := And.intro (by decide +kernel) rfl
theorem d_X12_lay_25 : dk me_X12_lay 25 (.goto 4) 3 28 := And.intro (by decide +kernel) rfl
theorem d_X12_lay_28 : dk me_X12_lay 28 (.iconst 0) 1 29 := And.intro (by decide +kernel) rfl
theorem d_X12_lay_29 : dk me_X12_lay 29 (.istore 4) 2 31 := And.intro (by decide +kernel) rfl
theorem d_X12_lay_31 : dk me_X12_lay 31 (.aload_n 0) 1 32 := And.intro (by decide +kernel) rfl
theorem d_X12_lay_32 : dk me_X12_lay 32 (.iload 4) 2 34 := And.intro (by decide +kernel) rfl
theorem d_X12_lay_34 : dk me_X12_lay 34 (.ifCond .ne 7) 3 37 := And.intro (by decide +kernel) rfl
theorem d_X12_lay_37 : dk me_X12_lay 37 (.iconst 1) 1 38 := And.intro (by decide +kernel) rfl
theorem d_X12_lay_38 : dk me_X12_lay 38 (.goto 37) 3 41 := And.intro (by decide +kernel) rfl
theorem d_X12_lay_41 : dk me_X12_lay 41 (.iload_n 3) 1 42 := And.intro (by decide +kernel) rfl
theorem d_X12_lay_42 : dk me_X12_lay 42 (.iconst 0) 1 43 := And.intro (by decide +kernel) rfl
theorem d_X12_lay_43 : dk me_X12_lay 43 (.aload_n 0) 1 44 := And.intro (by decide +kernel) rfl
theorem d_X12_lay_44 : dk me_X12_lay 44 (.getfield 65) 3 47 := And.intro (by decide +kernel) rfl
theorem d_X12_lay_47 : dk me_X12_lay 47 (.iload_n 1) 1 48 := And.intro (by decide +kernel) rfl
theorem d_X12_lay_48 : dk me_X12_lay 48 (.iaload) 1 49 := And.intro (by decide +kernel) rfl
theorem d_X12_lay_49 : dk me_X12_lay 49 (.iconst 1) 1 50 := And.intro (by decide +kernel) rfl
theorem d_X12_lay_50 : dk me_X12_lay 50 (.isub) 1 51 := And.intro (by decide +kernel) rfl
theorem d_X12_lay_51 : dk me_X12_lay 51 (.invokestatic 235) 3 54 := And.intro (by decide +kernel) rfl
theorem d_X12_lay_54 : dk me_X12_lay 54 (.ifCond .ne 7) 3 57 := And.intro (by decide +kernel) rfl
theorem d_X12_lay_57 : dk me_X12_lay 57 (.iconst 2) 1 58 := And.intro (by decide +kernel) rfl
theorem d_X12_lay_58 : dk me_X12_lay 58 (.goto 17) 3 61 := And.intro (by decide +kernel) rfl
theorem d_X12_lay_61 : dk me_X12_lay 61 (.aload_n 0) 1 62 := And.intro (by decide +kernel) rfl
theorem d_X12_lay_62 : dk me_X12_lay 62 (.getfield 71) 3 65 := And.intro (by decide +kernel) rfl
theorem d_X12_lay_65 : dk me_X12_lay 65 (.iload_n 1) 1 66 := And.intro (by decide +kernel) rfl
theorem d_X12_lay_66 : dk me_X12_lay 66 (.baload) 1 67 := And.intro (by decide +kernel) rfl
theorem d_X12_lay_67 : dk me_X12_lay 67 (.ifCond .eq 7) 3 70 := And.intro (by decide +kernel) rfl
theorem d_X12_lay_70 : dk me_X12_lay 70 (.iconst 3) 1 71 := And.intro (by decide +kernel) rfl
theorem d_X12_lay_71 : dk me_X12_lay 71 (.goto 4) 3 74 := And.intro (by decide +kernel) rfl
theorem d_X12_lay_74 : dk me_X12_lay 74 (.iconst 0) 1 75 := And.intro (by decide +kernel) rfl
theorem d_X12_lay_75 : dk me_X12_lay 75 (.invokevirtual 260) 3 78 := And.intro (by decide +kernel) rfl
theorem d_X12_lay_78 : dk me_X12_lay 78 (.ifCond .eq 14) 3 81 := And.intro (by decide +kernel) rfl
theorem d_X12_lay_81 : dk me_X12_lay 81 (.aload_n 0) 1 82 := And.intro (by decide +kernel) rfl
theorem d_X12_lay_82 : dk me_X12_lay 82 (.getfield 195) 3 85 := And.intro (by decide +kernel) rfl
theorem d_X12_lay_85 : dk me_X12_lay 85 (.iconst 4) 1 86 := And.intro (by decide +kernel) rfl
theorem d_X12_lay_86 : dk me_X12_lay 86 (.iload_n 1) 1 87 := And.intro (by decide +kernel) rfl
theorem d_X12_lay_87 : dk me_X12_lay 87 (.imul) 1 88 := And.intro (by decide +kernel) rfl
theorem d_X12_lay_88 : dk me_X12_lay 88 (.iload_n 2) 1 89 := And.intro (by decide +kernel) rfl
theorem d_X12_lay_89 : dk me_X12_lay 89 (.iadd) 1 90 := And.intro (by decide +kernel) rfl
theorem d_X12_lay_90 : dk me_X12_lay 90 (.iload_n 3) 1 91 := And.intro (by decide +kernel) rfl
theorem d_X12_lay_91 : dk me_X12_lay 91 (.iastore) 1 92 := And.intro (by decide +kernel) rfl
theorem d_X12_lay_92 : dk me_X12_lay 92 (.return_) 1 93 := And.intro (by decide +kernel) rfl
theorem ms_X12_lay {fx : FX} {m : MM} {l0 : Nat} {l1 : Int} {l2 : Int} {l3 : Int} : MS fx me_X12_lay [aR (some (12, l0)), aI l1, aI l2, aI l3] m (f_X12_lay m l0 l1 l2 l3) := by
  refine ms_of rfl mf_X12_lay (b8 rfl) ?_
  refine s_top ?_
  show Sim fx me_X12_lay 0 [(0, aR (some (12, l0))), (1, aI l1), (2, aI l2), (3, aI l3)] [] m _
  unfold f_X12_lay
  have hj_X12_lay_0_75 : ∀ (m_75 : MM) (l0_75 : Nat) (l1_75 : Int) (l2_75 : Int) (l3_75 : Int) (s0_75 : Nat) (s1_75 : Int), Sim fx me_X12_lay 75 [(0, aR (some (12, l0_75))), (1, aI l1_75), (2, aI l2_75), (3, aI l3_75)] [aI s1_75, aR (some (12, s0_75))] m_75 ((j_X12_lay_0_75 m_75 l0_75 l1_75 l2_75 l3_75 s0_75 s1_75).bind (fun z => some z)) := by
    intro m_75 l0_75 l1_75 l2_75 l3_75 s0_75 s1_75
    unfold j_X12_lay_0_75
    refine s_cI (r_V d_X12_lay_75 k_X12_holds w_1668 rfl rfl) ms_X12_holds (b8 rfl) rfl rfl rfl (fun _ _ _ => rfl) (fun _ _ => Or.inl rfl) fun v11 m10 => (s_if_eq (tgt := 92) d_X12_lay_78 rfl ?_ ?_)
    · exact s_vret d_X12_lay_92 rfl rfl
    refine s_aload_n d_X12_lay_81 m0_ (s_getR cf d_X12_lay_82 fl_X12_195 (s_nk fun i12 => (s_iconst d_X12_lay_85 n_4 (s_iload_n d_X12_lay_86 m1_ (s_imul d_X12_lay_87 rfl rfl ?_)))))
    exact s_iload_n d_X12_lay_88 m2_ (s_iadd d_X12_lay_89 rfl rfl (s_iload_n d_X12_lay_90 m3_ (s_stN d_X12_lay_91 ka_120 rfl fun m13 => (s_vret d_X12_lay_92 rfl rfl))))
  have hj_X12_lay_0_29 : ∀ (m_29 : MM) (l0_29 : Nat) (l1_29 : Int) (l2_29 : Int) (l3_29 : Int) (s0_29 : Int), Sim fx me_X12_lay 29 [(0, aR (some (12, l0_29))), (1, aI l1_29), (2, aI l2_29), (3, aI l3_29)] [aI s0_29] m_29 ((j_X12_lay_0_29 m_29 l0_29 l1_29 l2_29 l3_29 s0_29).bind (fun z => some z)) := by
    intro m_29 l0_29 l1_29 l2_29 l3_29 s0_29
    unfold j_X12_lay_0_29
    refine s_istore (L' := [(4, aI s0_29), (0, aR (some (12, l0_29))), (1, aI l1_29), (2, aI l2_29), (3, aI l3_29)]) d_X12_lay_29 (b8 rfl) rfl (s_aload_n d_X12_lay_31 m1_ (s_iload d_X12_lay_32 m0_ (s_if_ne (tgt := 41) d_X12_lay_34 rfl ?_ ?_)))
    · refine s_iload_n d_X12_lay_41 m4_ (s_iconst d_X12_lay_42 n_0 (s_aload_n d_X12_lay_43 m1_ (s_getR cf d_X12_lay_44 fl_X12_65 (s_nk fun i5 => (s_iload_n d_X12_lay_47 m2_ ?_)))))
      refine s_ldN d_X12_lay_48 ka_77 rfl fun v6 => (s_iconst d_X12_lay_49 n_1 (s_isub d_X12_lay_50 rfl rfl (s_ck (s_pI (r_S d_X12_lay_51 k_X12_isIn w_1664 rfl rfl) ms_X12_isIn (b8 rfl) rfl rfl rfl fun v7 => (s_if_ne (tgt := 61) d_X12_lay_54 rfl ?_ ?_)))))
      · refine s_aload_n d_X12_lay_61 m1_ (s_getR cf d_X12_lay_62 fl_X12_71 (s_nk fun i8 => (s_iload_n d_X12_lay_65 m2_ (s_ldB d_X12_lay_66 ka_79 rfl fun v9 => (s_if_eq (tgt := 74) d_X12_lay_67 rfl ?_ ?_)))))
        · exact s_iconst d_X12_lay_74 n_0 (s_sub (subc m1_ (subc m2_ (subc m3_ (subc m4_ sub0)))) (hj_X12_lay_0_75 m_29 l0_29 l1_29 l2_29 l3_29 l0_29 0))
        exact s_iconst d_X12_lay_70 n_3 (s_goto (tgt := 75) d_X12_lay_71 rfl (s_sub (subc m1_ (subc m2_ (subc m3_ (subc m4_ sub0)))) (hj_X12_lay_0_75 m_29 l0_29 l1_29 l2_29 l3_29 l0_29 3)))
      exact s_iconst d_X12_lay_57 n_2 (s_goto (tgt := 75) d_X12_lay_58 rfl (s_sub (subc m1_ (subc m2_ (subc m3_ (subc m4_ sub0)))) (hj_X12_lay_0_75 m_29 l0_29 l1_29 l2_29 l3_29 l0_29 2)))
    exact s_iconst d_X12_lay_37 n_1 (s_goto (tgt := 75) d_X12_lay_38 rfl (s_sub (subc m1_ (subc m2_ (subc m3_ (subc m4_ sub0)))) (hj_X12_lay_0_75 m_29 l0_29 l1_29 l2_29 l3_29 l0_29 1)))
  have hj_X12_lay_0_28 : ∀ (m_28 : MM) (l0_28 : Nat) (l1_28 : Int) (l2_28 : Int) (l3_28 : Int), Sim fx me_X12_lay 28 [(0, aR (some (12, l0_28))), (1, aI l1_28), (2, aI l2_28), (3, aI l3_28)] [] m_28 ((j_X12_lay_0_28 m_28 l0_28 l1_28 l2_28 l3_28).bind (fun z => some z)) := by
    intro m_28 l0_28 l1_28 l2_28 l3_28
    unfold j_X12_lay_0_28
    exact s_iconst d_X12_lay_28 n_0 (s_sub (subc m0_ (subc m1_ (subc m2_ (subc m3_ sub0)))) (hj_X12_lay_0_29 m_28 l0_28 l1_28 l2_28 l3_28 0))
  refine s_aload_n d_X12_lay_0 m0_ (s_iload_n d_X12_lay_1 m1_ (s_pI (r_V d_X12_lay_2 k_X12_isBook w_1747 rfl rfl) ms_X12_isBook (b8 rfl) rfl rfl rfl fun v1 => (s_if_eq (tgt := 28) d_X12_lay_5 rfl ?_ ?_)))
  · exact s_sub (subc m0_ (subc m1_ (subc m2_ (subc m3_ sub0)))) (hj_X12_lay_0_28 m l0 l1 l2 l3)
  refine s_iload_n d_X12_lay_8 m2_ (s_iconst d_X12_lay_9 n_0 (s_aload_n d_X12_lay_10 m0_ (s_getR cf d_X12_lay_11 fl_X12_56 (s_nk fun i2 => (s_iload_n d_X12_lay_14 m1_ ?_)))))
  refine s_ldN d_X12_lay_15 ka_74 rfl fun v3 => (s_iconst d_X12_lay_16 n_1 (s_isub d_X12_lay_17 rfl rfl (s_ck (s_pI (r_S d_X12_lay_18 k_X12_isIn w_1664 rfl rfl) ms_X12_isIn (b8 rfl) rfl rfl rfl fun v4 => (s_if_eq (tgt := 28) d_X12_lay_21 rfl ?_ ?_)))))
  · exact s_sub (subc m0_ (subc m1_ (subc m2_ (subc m3_ sub0)))) (hj_X12_lay_0_28 m l0 l1 l2 l3)
  exact s_iconst d_X12_lay_24 n_1 (s_goto (tgt := 29) d_X12_lay_25 rfl (s_sub (subc m0_ (subc m1_ (subc m2_ (subc m3_ sub0)))) (hj_X12_lay_0_29 m l0 l1 l2 l3 1)))
theorem d_X12_line_0 : dk me_X12_line 0 (.aload_n 0) 1 1 := And.intro (by decide +kernel) rfl
theorem d_X12_line_1 : dk me_X12_line 1 (.aload_n 0) 1 2 := And.intro (by decide +kernel) rfl
theorem d_X12_line_2 : dk me_X12_line 2 (.iload_n 1) 1 3 := And.intro (by decide +kernel) rfl
theorem d_X12_line_3 : dk me_X12_line 3 (.iload_n 2) 1 4 := And.intro (by decide +kernel) rfl
theorem d_X12_line_4 : dk me_X12_line 4 (.invokevirtual 333) 3 7 := And.intro (by decide +kernel) rfl
theorem d_X12_line_7 : dk me_X12_line 7 (.ifCond .eq 7) 3 10 := And.intro (by decide +kernel) rfl
theorem d_X12_line_10 : dk me_X12_line 10 (.iload_n 3) 1 11 := And.intro (by decide +kernel) rfl
theorem d_X12_line_11 : dk me_X12_line 11 (.ifCond .ge 7) 3 14 := And.intro (by decide +kernel) rfl
theorem d_X12_line_14 : dk me_X12_line 14 (.iconst 1) 1 15 := And.intro (by decide +kernel) rfl
theorem d_X12_line_15 : dk me_X12_line 15 (.goto 18) 3 18 := And.intro (by decide +kernel) rfl
theorem d_X12_line_18 : dk me_X12_line 18 (.iload 4) 2 20 := And.intro (by decide +kernel) rfl
theorem d_X12_line_20 : dk me_X12_line 20 (.iconst 0) 1 21 := And.intro (by decide +kernel) rfl
theorem d_X12_line_21 : dk me_X12_line 21 (.iconst 4) 1 22 := And.intro (by decide +kernel) rfl
theorem d_X12_line_22 : dk me_X12_line 22 (.invokestatic 235) 3 25 := And.intro (by decide +kernel) rfl
theorem d_X12_line_25 : dk me_X12_line 25 (.ifCond .eq 7) 3 28 := And.intro (by decide +kernel) rfl
theorem d_X12_line_28 : dk me_X12_line 28 (.iconst 0) 1 29 := And.intro (by decide +kernel) rfl
theorem d_X12_line_29 : dk me_X12_line 29 (.goto 4) 3 32 := And.intro (by decide +kernel) rfl
theorem d_X12_line_32 : dk me_X12_line 32 (.iconst 2) 1 33 := And.intro (by decide +kernel) rfl
theorem d_X12_line_33 : dk me_X12_line 33 (.invokevirtual 260) 3 36 := And.intro (by decide +kernel) rfl
theorem d_X12_line_36 : dk me_X12_line 36 (.ifCond .ne 5) 3 39 := And.intro (by decide +kernel) rfl
theorem d_X12_line_39 : dk me_X12_line 39 (.iconst 0) 1 40 := And.intro (by decide +kernel) rfl
theorem d_X12_line_40 : dk me_X12_line 40 (.ireturn) 1 41 := And.intro (by decide +kernel) rfl
theorem d_X12_line_41 : dk me_X12_line 41 (.bipush 16) 2 43 := And.intro (by decide +kernel) rfl
theorem d_X12_line_43 : dk me_X12_line 43 (.iload_n 1) 1 44 := And.intro (by decide +kernel) rfl
theorem d_X12_line_44 : dk me_X12_line 44 (.imul) 1 45 := And.intro (by decide +kernel) rfl
theorem d_X12_line_45 : dk me_X12_line 45 (.iload_n 2) 1 46 := And.intro (by decide +kernel) rfl
theorem d_X12_line_46 : dk me_X12_line 46 (.iadd) 1 47 := And.intro (by decide +kernel) rfl
theorem d_X12_line_47 : dk me_X12_line 47 (.istore 5) 2 49 := And.intro (by decide +kernel) rfl
theorem d_X12_line_49 : dk me_X12_line 49 (.aload_n 0) 1 50 := And.intro (by decide +kernel) rfl
theorem d_X12_line_50 : dk me_X12_line 50 (.getfield 84) 3 53 := And.intro (by decide +kernel) rfl
theorem d_X12_line_53 : dk me_X12_line 53 (.iload 5) 2 55 := And.intro (by decide +kernel) rfl
theorem d_X12_line_55 : dk me_X12_line 55 (.baload) 1 56 := And.intro (by decide +kernel) rfl
theorem d_X12_line_56 : dk me_X12_line 56 (.ifCond .eq 14) 3 59 := And.intro (by decide +kernel) rfl
theorem d_X12_line_59 : dk me_X12_line 59 (.iload_n 3) 1 60 := And.intro (by decide +kernel) rfl
theorem d_X12_line_60 : dk me_X12_line 60 (.aload_n 0) 1 61 := And.intro (by decide +kernel) rfl
theorem d_X12_line_61 : dk me_X12_line 61 (.getfield 99) 3 64 := And.intro (by decide +kernel) rfl
theorem d_X12_line_64 : dk me_X12_line 64 (.iload 5) 2 66 := And.intro (by decide +kernel) rfl
theorem d_X12_line_66 : dk me_X12_line 66 (.iaload) 1 67 := And.intro (by decide +kernel) rfl
theorem d_X12_line_67 : dk me_X12_line 67 (.if_icmp .lt 5) 3 70 := And.intro (by decide +kernel) rfl
theorem d_X12_line_70 : dk me_X12_line 70 (.iconst (-1)) 1 71 := And.intro (by decide +kernel) rfl
theorem d_X12_line_71 : dk me_X12_line 71 (.ireturn) 1 72 := And.intro (by decide +kernel) rfl
theorem d_X12_line_72 : dk me_X12_line 72 (.bipush 6) 2 74 := And.intro (by decide +kernel) rfl
theorem d_X12_line_74 : dk me_X12_line 74 (.iload 5) 2 76 := And.intro (by decide +kernel) rfl
theorem d_X12_line_76 : dk me_X12_line 76 (.imul) 1 77 := And.intro (by decide +kernel) rfl
theorem d_X12_line_77 : dk me_X12_line 77 (.iload_n 3) 1 78 := And.intro (by decide +kernel) rfl
theorem d_X12_line_78 : dk me_X12_line 78 (.iadd) 1 79 := And.intro (by decide +kernel) rfl
theorem d_X12_line_79 : dk me_X12_line 79 (.istore 6) 2 81 := And.intro (by decide +kernel) rfl
theorem d_X12_line_81 : dk me_X12_line 81 (.iload 4) 2 83 := And.intro (by decide +kernel) rfl
theorem d_X12_line_83 : dk me_X12_line 83 (.ifCond .ne 13) 3 86 := And.intro (by decide +kernel) rfl
theorem d_X12_line_86 : dk me_X12_line 86 (.aload_n 0) 1 87 := And.intro (by decide +kernel) rfl
theorem d_X12_line_87 : dk me_X12_line 87 (.getfield 111) 3 90 := And.intro (by decide +kernel) rfl
theorem d_X12_line_90 : dk me_X12_line 90 (.iload 6) 2 92 := And.intro (by decide +kernel) rfl
theorem d_X12_line_92 : dk me_X12_line 92 (.iaload) 1 93 := And.intro (by decide +kernel) rfl
theorem d_X12_line_93 : dk me_X12_line 93 (.goto 80) 3 96 := And.intro (by decide +kernel) rfl
theorem d_X12_line_96 : dk me_X12_line 96 (.iload 4) 2 98 := And.intro (by decide +kernel) rfl
theorem d_X12_line_98 : dk me_X12_line 98 (.iconst 1) 1 99 := And.intro (by decide +kernel) rfl
theorem d_X12_line_99 : dk me_X12_line 99 (.if_icmp .ne 34) 3 102 := And.intro (by decide +kernel) rfl
theorem d_X12_line_102 : dk me_X12_line 102 (.aload_n 0) 1 103 := And.intro (by decide +kernel) rfl
theorem d_X12_line_103 : dk me_X12_line 103 (.getfield 120) 3 106 := And.intro (by decide +kernel) rfl
theorem d_X12_line_106 : dk me_X12_line 106 (.bipush 60) 2 108 := And.intro (by decide +kernel) rfl
theorem d_X12_line_108 : dk me_X12_line 108 (.iload 5) 2 110 := And.intro (by decide +kernel) rfl
theorem d_X12_line_110 : dk me_X12_line 110 (.imul) 1 111 := And.intro (by decide +kernel) rfl
theorem d_X12_line_111 : dk me_X12_line 111 (.aload_n 0) 1 112 := And.intro (by decide +kernel) rfl
theorem d_X12_line_112 : dk me_X12_line 112 (.getfield 108) 3 115 := And.intro (by decide +kernel) rfl
theorem d_X12_line_115 : dk me_X12_line 115 (.iload 6) 2 117 := And.intro (by decide +kernel) rfl
theorem d_X12_line_117 : dk me_X12_line 117 (.iaload) 1 118 := And.intro (by decide +kernel) rfl
theorem d_X12_line_118 : dk me_X12_line 118 (.iadd) 1 119 := And.intro (by decide +kernel) rfl
theorem d_X12_line_119 : dk me_X12_line 119 (.aload_n 0) 1 120 := And.intro (by decide +kernel) rfl
theorem d_X12_line_120 : dk me_X12_line 120 (.getfield 111) 3 123 := And.intro (by decide +kernel) rfl
theorem d_X12_line_123 : dk me_X12_line 123 (.iload 6) 2 125 := And.intro (by decide +kernel) rfl
theorem d_X12_line_125 : dk me_X12_line 125 (.iaload) 1 126 := And.intro (by decide +kernel) rfl
theorem d_X12_line_126 : dk me_X12_line 126 (.iadd) 1 127 := And.intro (by decide +kernel) rfl
theorem d_X12_line_127 : dk me_X12_line 127 (.iconst 1) 1 128 := And.intro (by decide +kernel) rfl
theorem d_X12_line_128 : dk me_X12_line 128 (.isub) 1 129 := And.intro (by decide +kernel) rfl
theorem d_X12_line_129 : dk me_X12_line 129 (.iaload) 1 130 := And.intro (by decide +kernel) rfl
theorem d_X12_line_130 : dk me_X12_line 130 (.goto 43) 3 133 := And.intro (by decide +kernel) rfl
theorem d_X12_line_133 : dk me_X12_line 133 (.iload 4) 2 135 := And.intro (by decide +kernel) rfl
theorem d_X12_line_135 : dk me_X12_line 135 (.iconst 2) 1 136 := And.intro (by decide +kernel) rfl
theorem d_X12_line_136 : dk me_X12_line 136 (.if_icmp .ne 13) 3 139 := And.intro (by decide +kernel) rfl
theorem d_X12_line_139 : dk me_X12_line 139 (.aload_n 0) 1 140 := And.intro (by decide +kernel) rfl
theorem d_X12_line_140 : dk me_X12_line 140 (.getfield 114) 3 143 := And.intro (by decide +kernel) rfl
theorem d_X12_line_143 : dk me_X12_line 143 (.iload 6) 2 145 := And.intro (by decide +kernel) rfl
theorem d_X12_line_145 : dk me_X12_line 145 (.iaload) 1 146 := And.intro (by decide +kernel) rfl
theorem d_X12_line_146 : dk me_X12_line 146 (.goto 27) 3 149 := And.intro (by decide +kernel) rfl
theorem d_X12_line_149 : dk me_X12_line 149 (.iload 4) 2 151 := And.intro (by decide +kernel) rfl
theorem d_X12_line_151 : dk me_X12_line 151 (.iconst 3) 1 152 := And.intro (by decide +kernel) rfl
theorem d_X12_line_152 : dk me_X12_line 152 (.if_icmp .ne 13) 3 155 := And.intro (by decide +kernel) rfl
theorem d_X12_line_155 : dk me_X12_line 155 (.aload_n 0) 1 156 := And.intro (by decide +kernel) rfl
theorem d_X12_line_156 : dk me_X12_line 156 (.getfield 117) 3 159 := And.intro (by decide +kernel) rfl
theorem d_X12_line_159 : dk me_X12_line 159 (.iload 6) 2 161 := And.intro (by decide +kernel) rfl
theorem d_X12_line_161 : dk me_X12_line 161 (.iaload) 1 162 := And.intro (by decide +kernel) rfl
theorem d_X12_line_162 : dk me_X12_line 162 (.goto 11) 3 165 := And.intro (by decide +kernel) rfl
theorem d_X12_line_165 : dk me_X12_line 165 (.aload_n 0) 1 166 := And.intro (by decide +kernel) rfl
theorem d_X12_line_166 : dk me_X12_line 166 (.iload 5) 2 168 := And.intro (by decide +kernel) rfl
theorem d_X12_line_168 : dk me_X12_line 168 (.iload_n 3) 1 169 := And.intro (by decide +kernel) rfl
theorem d_X12_line_169 : dk me_X12_line 169 (.iconst 1) 1 170 := And.intro (by decide +kernel) rfl
theorem d_X12_line_170 : dk me_X12_line 170 (.invokevirtual 366) 3 173 := And.intro (by decide +kernel) rfl
theorem d_X12_line_173 : dk me_X12_line 173 (.ireturn) 1 174 := And.intro (by decide +kernel) rfl
theorem ms_X12_line {fx : FX} {m : MM} {l0 : Nat} {l1 : Int} {l2 : Int} {l3 : Int} {l4 : Int} : MS fx me_X12_line [aR (some (12, l0)), aI l1, aI l2, aI l3, aI l4] m (f_X12_line m l0 l1 l2 l3 l4) := by
  refine ms_of rfl mf_X12_line (b8 rfl) ?_
  refine s_top ?_
  show Sim fx me_X12_line 0 [(0, aR (some (12, l0))), (1, aI l1), (2, aI l2), (3, aI l3), (4, aI l4)] [] m _
  unfold f_X12_line
  have hj_X12_line_0_33 : ∀ (m_33 : MM) (l0_33 : Nat) (l1_33 : Int) (l2_33 : Int) (l3_33 : Int) (l4_33 : Int) (s0_33 : Nat) (s1_33 : Int), Sim fx me_X12_line 33 [(0, aR (some (12, l0_33))), (1, aI l1_33), (2, aI l2_33), (3, aI l3_33), (4, aI l4_33)] [aI s1_33, aR (some (12, s0_33))] m_33 ((j_X12_line_0_33 m_33 l0_33 l1_33 l2_33 l3_33 l4_33 s0_33 s1_33).bind (fun z => some z)) := by
    intro m_33 l0_33 l1_33 l2_33 l3_33 l4_33 s0_33 s1_33
    unfold j_X12_line_0_33
    refine s_cI (r_V d_X12_line_33 k_X12_holds w_1668 rfl rfl) ms_X12_holds (b8 rfl) rfl rfl rfl (fun _ _ _ => rfl) (fun _ _ => Or.inl rfl) fun v4 m3 => (s_if_ne (tgt := 41) d_X12_line_36 rfl ?_ ?_)
    · refine s_bipush d_X12_line_41 n_16 rfl (s_iload_n d_X12_line_43 m1_ (s_imul d_X12_line_44 rfl rfl (s_iload_n d_X12_line_45 m2_ (s_iadd d_X12_line_46 rfl rfl (s_ck ?_)))))
      refine s_istore (L' := [(5, aI ((16 * l1_33) + l2_33)), (0, aR (some (12, l0_33))), (1, aI l1_33), (2, aI l2_33), (3, aI l3_33), (4, aI l4_33)]) d_X12_line_47 (b8 rfl) rfl (s_aload_n d_X12_line_49 m1_ (s_getR cf d_X12_line_50 fl_X12_84 (s_nk fun i5 => (s_iload d_X12_line_53 m0_ (s_ldB d_X12_line_55 ka_83 rfl fun v6 => ?_)))))
      refine s_if_eq (tgt := 70) d_X12_line_56 rfl ?_ ?_
      · exact s_iconst d_X12_line_70 n_m1 (s_iret d_X12_line_71 rfl rfl)
      refine s_iload_n d_X12_line_59 m4_ (s_aload_n d_X12_line_60 m1_ (s_getR cf d_X12_line_61 fl_X12_99 (s_nk fun i7 => (s_iload d_X12_line_64 m0_ (s_ldN d_X12_line_66 ka_88 rfl fun v8 => ?_)))))
      refine s_icmp_lt (tgt := 72) d_X12_line_67 rfl ?_ ?_
      · refine s_bipush d_X12_line_72 n_6 rfl (s_iload d_X12_line_74 m0_ (s_imul d_X12_line_76 rfl rfl (s_iload_n d_X12_line_77 m4_ (s_iadd d_X12_line_78 rfl rfl (s_ck ?_)))))
        refine s_let fun v9 => (s_istore (L' := [(6, aI v9), (5, aI ((16 * l1_33) + l2_33)), (0, aR (some (12, l0_33))), (1, aI l1_33), (2, aI l2_33), (3, aI l3_33), (4, aI l4_33)]) d_X12_line_79 (b8 rfl) rfl (s_iload d_X12_line_81 m6_ (s_if_ne (tgt := 96) d_X12_line_83 rfl ?_ ?_)))
        · refine s_iload d_X12_line_96 m6_ (s_iconst d_X12_line_98 n_1 (s_icmp_ne (tgt := 133) d_X12_line_99 rfl ?_ ?_))
          · refine s_iload d_X12_line_133 m6_ (s_iconst d_X12_line_135 n_2 (s_icmp_ne (tgt := 149) d_X12_line_136 rfl ?_ ?_))
            · refine s_iload d_X12_line_149 m6_ (s_iconst d_X12_line_151 n_3 (s_icmp_ne (tgt := 165) d_X12_line_152 rfl ?_ ?_))
              · exact s_aload_n d_X12_line_165 m2_ (s_iload d_X12_line_166 m1_ (s_iload_n d_X12_line_168 m5_ (s_iconst d_X12_line_169 n_1 (s_pI (r_V d_X12_line_170 k_X12_formsIn w_1854 rfl rfl) ms_X12_formsIn (b8 rfl) rfl rfl rfl fun v10 => (s_iret d_X12_line_173 rfl rfl)))))
              refine s_aload_n d_X12_line_155 m2_ (s_getR cf d_X12_line_156 fl_X12_117 (s_nk fun i11 => (s_iload d_X12_line_159 m0_ (s_ldN d_X12_line_161 ka_94 rfl fun v12 => (s_goto (tgt := 173) d_X12_line_162 rfl ?_)))))
              exact s_iret d_X12_line_173 rfl rfl
            refine s_aload_n d_X12_line_139 m2_ (s_getR cf d_X12_line_140 fl_X12_114 (s_nk fun i13 => (s_iload d_X12_line_143 m0_ (s_ldN d_X12_line_145 ka_93 rfl fun v14 => (s_goto (tgt := 173) d_X12_line_146 rfl ?_)))))
            exact s_iret d_X12_line_173 rfl rfl
          refine s_aload_n d_X12_line_102 m2_ (s_getR cf d_X12_line_103 fl_X12_120 (s_nk fun i15 => (s_bipush d_X12_line_106 n_60 rfl (s_iload d_X12_line_108 m1_ (s_imul d_X12_line_110 rfl rfl ?_)))))
          refine s_aload_n d_X12_line_111 m2_ (s_getR cf d_X12_line_112 fl_X12_108 (s_nk fun i16 => (s_iload d_X12_line_115 m0_ (s_ldN d_X12_line_117 ka_91 rfl fun v17 => (s_iadd d_X12_line_118 rfl rfl ?_)))))
          refine s_aload_n d_X12_line_119 m2_ (s_getR cf d_X12_line_120 fl_X12_111 (s_nk fun i18 => (s_iload d_X12_line_123 m0_ (s_ldN d_X12_line_125 ka_92 rfl fun v19 => (s_iadd d_X12_line_126 rfl rfl ?_)))))
          exact s_iconst d_X12_line_127 n_1 (s_isub d_X12_line_128 rfl rfl (s_ldN d_X12_line_129 ka_95 rfl fun v20 => (s_goto (tgt := 173) d_X12_line_130 rfl (s_iret d_X12_line_173 rfl rfl))))
        refine s_aload_n d_X12_line_86 m2_ (s_getR cf d_X12_line_87 fl_X12_111 (s_nk fun i21 => (s_iload d_X12_line_90 m0_ (s_ldN d_X12_line_92 ka_92 rfl fun v22 => (s_goto (tgt := 173) d_X12_line_93 rfl ?_)))))
        exact s_iret d_X12_line_173 rfl rfl
      exact s_iconst d_X12_line_70 n_m1 (s_iret d_X12_line_71 rfl rfl)
    exact s_iconst d_X12_line_39 n_0 (s_iret d_X12_line_40 rfl rfl)
  have hj_X12_line_0_14 : ∀ (m_14 : MM) (l0_14 : Nat) (l1_14 : Int) (l2_14 : Int) (l3_14 : Int) (l4_14 : Int) (s0_14 : Nat), Sim fx me_X12_line 14 [(0, aR (some (12, l0_14))), (1, aI l1_14), (2, aI l2_14), (3, aI l3_14), (4, aI l4_14)] [aR (some (12, s0_14))] m_14 ((j_X12_line_0_14 m_14 l0_14 l1_14 l2_14 l3_14 l4_14 s0_14).bind (fun z => some z)) := by
    intro m_14 l0_14 l1_14 l2_14 l3_14 l4_14 s0_14
    unfold j_X12_line_0_14
    exact s_iconst d_X12_line_14 n_1 (s_goto (tgt := 33) d_X12_line_15 rfl (s_sub (subc m0_ (subc m1_ (subc m2_ (subc m3_ (subc m4_ sub0))))) (hj_X12_line_0_33 m_14 l0_14 l1_14 l2_14 l3_14 l4_14 s0_14 1)))
  refine s_aload_n d_X12_line_0 m0_ (s_aload_n d_X12_line_1 m0_ (s_iload_n d_X12_line_2 m1_ (s_iload_n d_X12_line_3 m2_ (s_pI (r_V d_X12_line_4 k_X12_isPage w_1779 rfl rfl) ms_X12_isPage (b8 rfl) rfl rfl rfl fun v1 => (s_if_eq (tgt := 14) d_X12_line_7 rfl ?_ ?_)))))
  · exact s_sub (subc m0_ (subc m1_ (subc m2_ (subc m3_ (subc m4_ sub0))))) (hj_X12_line_0_14 m l0 l1 l2 l3 l4 l0)
  refine s_iload_n d_X12_line_10 m3_ (s_if_ge (tgt := 18) d_X12_line_11 rfl ?_ ?_)
  · refine s_iload d_X12_line_18 m4_ (s_iconst d_X12_line_20 n_0 (s_iconst d_X12_line_21 n_4 (s_pI (r_S d_X12_line_22 k_X12_isIn w_1664 rfl rfl) ms_X12_isIn (b8 rfl) rfl rfl rfl fun v2 => (s_if_eq (tgt := 32) d_X12_line_25 rfl ?_ ?_))))
    · exact s_iconst d_X12_line_32 n_2 (s_sub (subc m0_ (subc m1_ (subc m2_ (subc m3_ (subc m4_ sub0))))) (hj_X12_line_0_33 m l0 l1 l2 l3 l4 l0 2))
    exact s_iconst d_X12_line_28 n_0 (s_goto (tgt := 33) d_X12_line_29 rfl (s_sub (subc m0_ (subc m1_ (subc m2_ (subc m3_ (subc m4_ sub0))))) (hj_X12_line_0_33 m l0 l1 l2 l3 l4 l0 0)))
  exact s_sub (subc m0_ (subc m1_ (subc m2_ (subc m3_ (subc m4_ sub0))))) (hj_X12_line_0_14 m l0 l1 l2 l3 l4 l0)
theorem d_X12_isUsed_0 : dk me_X12_isUsed 0 (.iconst 0) 1 1 := And.intro (by decide +kernel) rfl
theorem d_X12_isUsed_1 : dk me_X12_isUsed 1 (.istore_n 2) 1 2 := And.intro (by decide +kernel) rfl
theorem d_X12_isUsed_2 : dk me_X12_isUsed 2 (.iconst 0) 1 3 := And.intro (by decide +kernel) rfl
theorem d_X12_isUsed_3 : dk me_X12_isUsed 3 (.istore_n 3) 1 4 := And.intro (by decide +kernel) rfl
theorem d_X12_isUsed_4 : dk me_X12_isUsed 4 (.iload_n 3) 1 5 := And.intro (by decide +kernel) rfl
theorem d_X12_isUsed_5 : dk me_X12_isUsed 5 (.bipush 8) 2 7 := And.intro (by decide +kernel) rfl
theorem d_X12_isUsed_7 : dk me_X12_isUsed 7 (.aload_n 0) 1 8 := And.intro (by decide +kernel) rfl
theorem d_X12_isUsed_8 : dk me_X12_isUsed 8 (.getfield 232) 3 11 := And.intro (by decide +kernel) rfl
theorem d_X12_isUsed_11 : dk me_X12_isUsed 11 (.imul) 1 12 := And.intro (by decide +kernel) rfl
theorem d_X12_isUsed_12 : dk me_X12_isUsed 12 (.if_icmp .ge 43) 3 15 := And.intro (by decide +kernel) rfl
theorem d_X12_isUsed_15 : dk me_X12_isUsed 15 (.iload_n 2) 1 16 := And.intro (by decide +kernel) rfl
theorem d_X12_isUsed_16 : dk me_X12_isUsed 16 (.ifCond .ne 27) 3 19 := And.intro (by decide +kernel) rfl
theorem d_X12_isUsed_19 : dk me_X12_isUsed 19 (.aload_n 0) 1 20 := And.intro (by decide +kernel) rfl
theorem d_X12_isUsed_20 : dk me_X12_isUsed 20 (.getfield 159) 3 23 := And.intro (by decide +kernel) rfl
theorem d_X12_isUsed_23 : dk me_X12_isUsed 23 (.iload_n 3) 1 24 := And.intro (by decide +kernel) rfl
theorem d_X12_isUsed_24 : dk me_X12_isUsed 24 (.iaload) 1 25 := And.intro (by decide +kernel) rfl
theorem d_X12_isUsed_25 : dk me_X12_isUsed 25 (.iconst 1) 1 26 := And.intro (by decide +kernel) rfl
theorem d_X12_isUsed_26 : dk me_X12_isUsed 26 (.iconst 3) 1 27 := And.intro (by decide +kernel) rfl
theorem d_X12_isUsed_27 : dk me_X12_isUsed 27 (.invokestatic 235) 3 30 := And.intro (by decide +kernel) rfl
theorem d_X12_isUsed_30 : dk me_X12_isUsed 30 (.ifCond .eq 17) 3 33 := And.intro (by decide +kernel) rfl
theorem d_X12_isUsed_33 : dk me_X12_isUsed 33 (.aload_n 0) 1 34 := And.intro (by decide +kernel) rfl
theorem d_X12_isUsed_34 : dk me_X12_isUsed 34 (.getfield 162) 3 37 := And.intro (by decide +kernel) rfl
theorem d_X12_isUsed_37 : dk me_X12_isUsed 37 (.iload_n 3) 1 38 := And.intro (by decide +kernel) rfl
theorem d_X12_isUsed_38 : dk me_X12_isUsed 38 (.iaload) 1 39 := And.intro (by decide +kernel) rfl
theorem d_X12_isUsed_39 : dk me_X12_isUsed 39 (.iload_n 1) 1 40 := And.intro (by decide +kernel) rfl
theorem d_X12_isUsed_40 : dk me_X12_isUsed 40 (.if_icmp .ne 7) 3 43 := And.intro (by decide +kernel) rfl
theorem d_X12_isUsed_43 : dk me_X12_isUsed 43 (.iconst 1) 1 44 := And.intro (by decide +kernel) rfl
theorem d_X12_isUsed_44 : dk me_X12_isUsed 44 (.goto 4) 3 47 := And.intro (by decide +kernel) rfl
theorem d_X12_isUsed_47 : dk me_X12_isUsed 47 (.iconst 0) 1 48 := And.intro (by decide +kernel) rfl
theorem d_X12_isUsed_48 : dk me_X12_isUsed 48 (.istore_n 2) 1 49 := And.intro (by decide +kernel) rfl
theorem d_X12_isUsed_49 : dk me_X12_isUsed 49 (.iinc 3 1) 3 52 := And.intro (by decide +kernel) rfl
theorem d_X12_isUsed_52 : dk me_X12_isUsed 52 (.goto (-48)) 3 55 := And.intro (by decide +kernel) rfl
theorem d_X12_isUsed_55 : dk me_X12_isUsed 55 (.iload_n 2) 1 56 := And.intro (by decide +kernel) rfl
theorem d_X12_isUsed_56 : dk me_X12_isUsed 56 (.ireturn) 1 57 := And.intro (by decide +kernel) rfl
theorem ms_X12_isUsed {fx : FX} {m : MM} {l0 : Nat} {l1 : Int} : MS fx me_X12_isUsed [aR (some (12, l0)), aI l1] m ((f_X12_isUsed m l0 l1).bind fun v => some (.inl (some (aI v)), m)) := by
  refine ms_of rfl mf_X12_isUsed (b8 rfl) ?_
  show Sim fx me_X12_isUsed 0 [(0, aR (some (12, l0))), (1, aI l1)] [] m _
  unfold f_X12_isUsed
  have hj_X12_isUsed_0_55 : ∀ (l2_55 : Int), Sim fx me_X12_isUsed 55 [(2, aI l2_55)] [] m ((j_X12_isUsed_0_55 m l2_55).bind (fun v => some (.inl (some (aI v)), m))) := by
    intro l2_55
    unfold j_X12_isUsed_0_55
    exact s_iload_n d_X12_isUsed_55 m0_ (s_zret d_X12_isUsed_56 rfl rfl)
  refine s_iconst d_X12_isUsed_0 n_0 (s_istore_n (L' := [(2, aI 0), (0, aR (some (12, l0))), (1, aI l1)]) d_X12_isUsed_1 (b8 rfl) rfl (s_iconst d_X12_isUsed_2 n_0 (s_istore_n (L' := [(3, aI 0), (2, aI 0), (0, aR (some (12, l0))), (1, aI l1)]) d_X12_isUsed_3 (b8 rfl) rfl (s_sub (subc m1_ (subc m0_ (subc m2_ (subc m3_ sub0)))) (s_lp2 (fun s => [(2, aI (s.1)), (3, aI (s.2)), (0, aR (some (12, l0))), (1, aI l1)]) (fun s => m) (0, 0) fun k4 hx4 s ih0 => ?_)))))
  obtain ⟨l2_4, l3_4⟩ := s
  have ih4 := ih0
  clear ih0
  try dsimp only
  unfold b_X12_isUsed_4
  refine s_iload_n d_X12_isUsed_4 m1_ (s_bipush d_X12_isUsed_5 n_8 rfl (s_aload_n d_X12_isUsed_7 m2_ (s_getN cf d_X12_isUsed_8 fl_X12_232 (s_imul d_X12_isUsed_11 rfl rfl (s_ck ?_)))))
  refine s_icmp_ge (tgt := 55) d_X12_isUsed_12 rfl ?_ ?_
  · exact s_exit (hx4 _) (s_sub (subc m0_ sub0) (hj_X12_isUsed_0_55 l2_4))
  refine s_iload_n d_X12_isUsed_15 m0_ (s_if_ne (tgt := 43) d_X12_isUsed_16 rfl ?_ ?_)
  · exact s_iconst d_X12_isUsed_43 n_1 (s_goto (tgt := 48) d_X12_isUsed_44 rfl (s_istore_n (L' := [(2, aI 1), (3, aI l3_4), (0, aR (some (12, l0))), (1, aI l1)]) d_X12_isUsed_48 (b8 rfl) rfl (s_iinc (L' := [(3, aI (l3_4 + 1)), (2, aI 1), (0, aR (some (12, l0))), (1, aI l1)]) d_X12_isUsed_49 m1_ (b8 rfl) rfl (s_goto (tgt := 4) d_X12_isUsed_52 rfl (s_sub (subc m1_ (subc m0_ (subc m2_ (subc m3_ sub0)))) (s_back (ih4 (1, (l3_4 + 1)))))))))
  refine s_aload_n d_X12_isUsed_19 m2_ (s_getR cf d_X12_isUsed_20 fl_X12_159 (s_nk fun i1 => (s_iload_n d_X12_isUsed_23 m1_ (s_ldN d_X12_isUsed_24 ka_108 rfl fun v2 => (s_iconst d_X12_isUsed_25 n_1 ?_)))))
  refine s_iconst d_X12_isUsed_26 n_3 (s_pI (r_S d_X12_isUsed_27 k_X12_isIn w_1664 rfl rfl) ms_X12_isIn (b8 rfl) rfl rfl rfl fun v3 => (s_if_eq (tgt := 47) d_X12_isUsed_30 rfl ?_ ?_))
  · exact s_iconst d_X12_isUsed_47 n_0 (s_istore_n (L' := [(2, aI 0), (3, aI l3_4), (0, aR (some (12, l0))), (1, aI l1)]) d_X12_isUsed_48 (b8 rfl) rfl (s_iinc (L' := [(3, aI (l3_4 + 1)), (2, aI 0), (0, aR (some (12, l0))), (1, aI l1)]) d_X12_isUsed_49 m1_ (b8 rfl) rfl (s_goto (tgt := 4) d_X12_isUsed_52 rfl (s_sub (subc m1_ (subc m0_ (subc m2_ (subc m3_ sub0)))) (s_back (ih4 (0, (l3_4 + 1))))))))
  refine s_aload_n d_X12_isUsed_33 m2_ (s_getR cf d_X12_isUsed_34 fl_X12_162 (s_nk fun i4 => (s_iload_n d_X12_isUsed_37 m1_ (s_ldN d_X12_isUsed_38 ka_109 rfl fun v5 => (s_iload_n d_X12_isUsed_39 m3_ ?_)))))
  refine s_icmp_ne (tgt := 47) d_X12_isUsed_40 rfl ?_ ?_
  · exact s_iconst d_X12_isUsed_47 n_0 (s_istore_n (L' := [(2, aI 0), (3, aI l3_4), (0, aR (some (12, l0))), (1, aI l1)]) d_X12_isUsed_48 (b8 rfl) rfl (s_iinc (L' := [(3, aI (l3_4 + 1)), (2, aI 0), (0, aR (some (12, l0))), (1, aI l1)]) d_X12_isUsed_49 m1_ (b8 rfl) rfl (s_goto (tgt := 4) d_X12_isUsed_52 rfl (s_sub (subc m1_ (subc m0_ (subc m2_ (subc m3_ sub0)))) (s_back (ih4 (0, (l3_4 + 1))))))))
  exact s_iconst d_X12_isUsed_43 n_1 (s_goto (tgt := 48) d_X12_isUsed_44 rfl (s_istore_n (L' := [(2, aI 1), (3, aI l3_4), (0, aR (some (12, l0))), (1, aI l1)]) d_X12_isUsed_48 (b8 rfl) rfl (s_iinc (L' := [(3, aI (l3_4 + 1)), (2, aI 1), (0, aR (some (12, l0))), (1, aI l1)]) d_X12_isUsed_49 m1_ (b8 rfl) rfl (s_goto (tgt := 4) d_X12_isUsed_52 rfl (s_sub (subc m1_ (subc m0_ (subc m2_ (subc m3_ sub0)))) (s_back (ih4 (1, (l3_4 + 1)))))))))
theorem d_X12_isWhole_0 : dk me_X12_isWhole 0 (.iconst 1) 1 1 := And.intro (by decide +kernel) rfl
theorem d_X12_isWhole_1 : dk me_X12_isWhole 1 (.istore_n 3) 1 2 := And.intro (by decide +kernel) rfl
theorem d_X12_isWhole_2 : dk me_X12_isWhole 2 (.iconst 0) 1 3 := And.intro (by decide +kernel) rfl
theorem d_X12_isWhole_3 : dk me_X12_isWhole 3 (.istore 4) 2 5 := And.intro (by decide +kernel) rfl
theorem d_X12_isWhole_5 : dk me_X12_isWhole 5 (.iload 4) 2 7 := And.intro (by decide +kernel) rfl
theorem d_X12_isWhole_7 : dk me_X12_isWhole 7 (.aload_n 0) 1 8 := And.intro (by decide +kernel) rfl
theorem d_X12_isWhole_8 : dk me_X12_isWhole 8 (.iload_n 1) 1 9 := And.intro (by decide +kernel) rfl
theorem d_X12_isWhole_9 : dk me_X12_isWhole 9 (.invokevirtual 243) 3 12 := And.intro (by decide +kernel) rfl
theorem d_X12_isWhole_12 : dk me_X12_isWhole 12 (.if_icmp .ge 45) 3 15 := And.intro (by decide +kernel) rfl
theorem d_X12_isWhole_15 : dk me_X12_isWhole 15 (.iload_n 3) 1 16 := And.intro (by decide +kernel) rfl
theorem d_X12_isWhole_16 : dk me_X12_isWhole 16 (.ifCond .eq 33) 3 19 := And.intro (by decide +kernel) rfl
theorem d_X12_isWhole_19 : dk me_X12_isWhole 19 (.aload_n 0) 1 20 := And.intro (by decide +kernel) rfl
theorem d_X12_isWhole_20 : dk me_X12_isWhole 20 (.iload_n 1) 1 21 := And.intro (by decide +kernel) rfl
theorem d_X12_isWhole_21 : dk me_X12_isWhole 21 (.iload 4) 2 23 := And.intro (by decide +kernel) rfl
theorem d_X12_isWhole_23 : dk me_X12_isWhole 23 (.invokevirtual 360) 3 26 := And.intro (by decide +kernel) rfl
theorem d_X12_isWhole_26 : dk me_X12_isWhole 26 (.iload_n 2) 1 27 := And.intro (by decide +kernel) rfl
theorem d_X12_isWhole_27 : dk me_X12_isWhole 27 (.if_icmp .ne 18) 3 30 := And.intro (by decide +kernel) rfl
theorem d_X12_isWhole_30 : dk me_X12_isWhole 30 (.aload_n 0) 1 31 := And.intro (by decide +kernel) rfl
theorem d_X12_isWhole_31 : dk me_X12_isWhole 31 (.getfield 84) 3 34 := And.intro (by decide +kernel) rfl
theorem d_X12_isWhole_34 : dk me_X12_isWhole 34 (.bipush 16) 2 36 := And.intro (by decide +kernel) rfl
theorem d_X12_isWhole_36 : dk me_X12_isWhole 36 (.iload_n 1) 1 37 := And.intro (by decide +kernel) rfl
theorem d_X12_isWhole_37 : dk me_X12_isWhole 37 (.imul) 1 38 := And.intro (by decide +kernel) rfl
theorem d_X12_isWhole_38 : dk me_X12_isWhole 38 (.iload 4) 2 40 := And.intro (by decide +kernel) rfl
theorem d_X12_isWhole_40 : dk me_X12_isWhole 40 (.iadd) 1 41 := And.intro (by decide +kernel) rfl
theorem d_X12_isWhole_41 : dk me_X12_isWhole 41 (.baload) 1 42 := And.intro (by decide +kernel) rfl
theorem d_X12_isWhole_42 : dk me_X12_isWhole 42 (.ifCond .eq 7) 3 45 := And.intro (by decide +kernel) rfl
theorem d_X12_isWhole_45 : dk me_X12_isWhole 45 (.iconst 1) 1 46 := And.intro (by decide +kernel) rfl
theorem d_X12_isWhole_46 : dk me_X12_isWhole 46 (.goto 4) 3 49 := And.intro (by decide +kernel) rfl
theorem d_X12_isWhole_49 : dk me_X12_isWhole 49 (.iconst 0) 1 50 := And.intro (by decide +kernel) rfl
theorem d_X12_isWhole_50 : dk me_X12_isWhole 50 (.istore_n 3) 1 51 := And.intro (by decide +kernel) rfl
theorem d_X12_isWhole_51 : dk me_X12_isWhole 51 (.iinc 4 1) 3 54 := And.intro (by decide +kernel) rfl
theorem d_X12_isWhole_54 : dk me_X12_isWhole 54 (.goto (-49)) 3 57 := And.intro (by decide +kernel) rfl
theorem d_X12_isWhole_57 : dk me_X12_isWhole 57 (.iload_n 3) 1 58 := And.intro (by decide +kernel) rfl
theorem d_X12_isWhole_58 : dk me_X12_isWhole 58 (.ireturn) 1 59 := And.intro (by decide +kernel) rfl
theorem ms_X12_isWhole {fx : FX} {m : MM} {l0 : Nat} {l1 : Int} {l2 : Int} : MS fx me_X12_isWhole [aR (some (12, l0)), aI l1, aI l2] m ((f_X12_isWhole m l0 l1 l2).bind fun v => some (.inl (some (aI v)), m)) := by
  refine ms_of rfl mf_X12_isWhole (b8 rfl) ?_
  show Sim fx me_X12_isWhole 0 [(0, aR (some (12, l0))), (1, aI l1), (2, aI l2)] [] m _
  unfold f_X12_isWhole
  have hj_X12_isWhole_0_57 : ∀ (l3_57 : Int), Sim fx me_X12_isWhole 57 [(3, aI l3_57)] [] m ((j_X12_isWhole_0_57 m l3_57).bind (fun v => some (.inl (some (aI v)), m))) := by
    intro l3_57
    unfold j_X12_isWhole_0_57
    exact s_iload_n d_X12_isWhole_57 m0_ (s_zret d_X12_isWhole_58 rfl rfl)
  refine s_iconst d_X12_isWhole_0 n_1 (s_istore_n (L' := [(3, aI 1), (0, aR (some (12, l0))), (1, aI l1), (2, aI l2)]) d_X12_isWhole_1 (b8 rfl) rfl (s_iconst d_X12_isWhole_2 n_0 (s_istore (L' := [(4, aI 0), (3, aI 1), (0, aR (some (12, l0))), (1, aI l1), (2, aI l2)]) d_X12_isWhole_3 (b8 rfl) rfl (s_sub (subc m1_ (subc m0_ (subc m2_ (subc m3_ (subc m4_ sub0))))) (s_lp2 (fun s => [(3, aI (s.1)), (4, aI (s.2)), (0, aR (some (12, l0))), (1, aI l1), (2, aI l2)]) (fun s => m) (1, 0) fun k5 hx5 s ih0 => ?_)))))
  obtain ⟨l3_5, l4_5⟩ := s
  have ih5 := ih0
  clear ih0
  try dsimp only
  unfold b_X12_isWhole_5
  refine s_iload d_X12_isWhole_5 m1_ (s_aload_n d_X12_isWhole_7 m2_ (s_iload_n d_X12_isWhole_8 m3_ (s_pI (r_V d_X12_isWhole_9 k_X12_pagesOf w_1755 rfl rfl) ms_X12_pagesOf (b8 rfl) rfl rfl rfl fun v1 => (s_icmp_ge (tgt := 57) d_X12_isWhole_12 rfl ?_ ?_))))
  · exact s_exit (hx5 _) (s_sub (subc m0_ sub0) (hj_X12_isWhole_0_57 l3_5))
  refine s_iload_n d_X12_isWhole_15 m0_ (s_if_eq (tgt := 49) d_X12_isWhole_16 rfl ?_ ?_)
  · exact s_iconst d_X12_isWhole_49 n_0 (s_istore_n (L' := [(3, aI 0), (4, aI l4_5), (0, aR (some (12, l0))), (1, aI l1), (2, aI l2)]) d_X12_isWhole_50 (b8 rfl) rfl (s_iinc (L' := [(4, aI (l4_5 + 1)), (3, aI 0), (0, aR (some (12, l0))), (1, aI l1), (2, aI l2)]) d_X12_isWhole_51 m1_ (b8 rfl) rfl (s_goto (tgt := 5) d_X12_isWhole_54 rfl (s_sub (subc m1_ (subc m0_ (subc m2_ (subc m3_ (subc m4_ sub0))))) (s_back (ih5 (0, (l4_5 + 1))))))))
  refine s_aload_n d_X12_isWhole_19 m2_ (s_iload_n d_X12_isWhole_20 m3_ (s_iload d_X12_isWhole_21 m1_ (s_pI (r_V d_X12_isWhole_23 k_X12_formeOf w_1842 rfl rfl) ms_X12_formeOf (b8 rfl) rfl rfl rfl fun v2 => (s_iload_n d_X12_isWhole_26 m4_ (s_icmp_ne (tgt := 45) d_X12_isWhole_27 rfl ?_ ?_)))))
  · exact s_iconst d_X12_isWhole_45 n_1 (s_goto (tgt := 50) d_X12_isWhole_46 rfl (s_istore_n (L' := [(3, aI 1), (4, aI l4_5), (0, aR (some (12, l0))), (1, aI l1), (2, aI l2)]) d_X12_isWhole_50 (b8 rfl) rfl (s_iinc (L' := [(4, aI (l4_5 + 1)), (3, aI 1), (0, aR (some (12, l0))), (1, aI l1), (2, aI l2)]) d_X12_isWhole_51 m1_ (b8 rfl) rfl (s_goto (tgt := 5) d_X12_isWhole_54 rfl (s_sub (subc m1_ (subc m0_ (subc m2_ (subc m3_ (subc m4_ sub0))))) (s_back (ih5 (1, (l4_5 + 1)))))))))
  refine s_aload_n d_X12_isWhole_30 m2_ (s_getR cf d_X12_isWhole_31 fl_X12_84 (s_nk fun i3 => (s_bipush d_X12_isWhole_34 n_16 rfl (s_iload_n d_X12_isWhole_36 m3_ (s_imul d_X12_isWhole_37 rfl rfl ?_)))))
  refine s_iload d_X12_isWhole_38 m1_ (s_iadd d_X12_isWhole_40 rfl rfl (s_ldB d_X12_isWhole_41 ka_83 rfl fun v4 => (s_if_eq (tgt := 49) d_X12_isWhole_42 rfl ?_ ?_)))
  · exact s_iconst d_X12_isWhole_49 n_0 (s_istore_n (L' := [(3, aI 0), (4, aI l4_5), (0, aR (some (12, l0))), (1, aI l1), (2, aI l2)]) d_X12_isWhole_50 (b8 rfl) rfl (s_iinc (L' := [(4, aI (l4_5 + 1)), (3, aI 0), (0, aR (some (12, l0))), (1, aI l1), (2, aI l2)]) d_X12_isWhole_51 m1_ (b8 rfl) rfl (s_goto (tgt := 5) d_X12_isWhole_54 rfl (s_sub (subc m1_ (subc m0_ (subc m2_ (subc m3_ (subc m4_ sub0))))) (s_back (ih5 (0, (l4_5 + 1))))))))
  exact s_iconst d_X12_isWhole_45 n_1 (s_goto (tgt := 50) d_X12_isWhole_46 rfl (s_istore_n (L' := [(3, aI 1), (4, aI l4_5), (0, aR (some (12, l0))), (1, aI l1), (2, aI l2)]) d_X12_isWhole_50 (b8 rfl) rfl (s_iinc (L' := [(4, aI (l4_5 + 1)), (3, aI 1), (0, aR (some (12, l0))), (1, aI l1), (2, aI l2)]) d_X12_isWhole_51 m1_ (b8 rfl) rfl (s_goto (tgt := 5) d_X12_isWhole_54 rfl (s_sub (subc m1_ (subc m0_ (subc m2_ (subc m3_ (subc m4_ sub0))))) (s_back (ih5 (1, (l4_5 + 1)))))))))
theorem d_X12_lock_0 : dk me_X12_lock 0 (.aload_n 0) 1 1 := And.intro (by decide +kernel) rfl
theorem d_X12_lock_1 : dk me_X12_lock 1 (.iload_n 1) 1 2 := And.intro (by decide +kernel) rfl
theorem d_X12_lock_2 : dk me_X12_lock 2 (.iload_n 2) 1 3 := And.intro (by decide +kernel) rfl
theorem d_X12_lock_3 : dk me_X12_lock 3 (.invokevirtual 370) 3 6 := And.intro (by decide +kernel) rfl
theorem d_X12_lock_6 : dk me_X12_lock 6 (.istore 4) 2 8 := And.intro (by decide +kernel) rfl
theorem d_X12_lock_8 : dk me_X12_lock 8 (.iload 4) 2 10 := And.intro (by decide +kernel) rfl
theorem d_X12_lock_10 : dk me_X12_lock 10 (.ifCond .eq 12) 3 13 := And.intro (by decide +kernel) rfl
theorem d_X12_lock_13 : dk me_X12_lock 13 (.bipush 8) 2 15 := And.intro (by decide +kernel) rfl
theorem d_X12_lock_15 : dk me_X12_lock 15 (.iload_n 1) 1 16 := And.intro (by decide +kernel) rfl
theorem d_X12_lock_16 : dk me_X12_lock 16 (.imul) 1 17 := And.intro (by decide +kernel) rfl
theorem d_X12_lock_17 : dk me_X12_lock 17 (.iload_n 2) 1 18 := And.intro (by decide +kernel) rfl
theorem d_X12_lock_18 : dk me_X12_lock 18 (.iadd) 1 19 := And.intro (by decide +kernel) rfl
theorem d_X12_lock_19 : dk me_X12_lock 19 (.goto 4) 3 22 := And.intro (by decide +kernel) rfl
theorem d_X12_lock_22 : dk me_X12_lock 22 (.iconst 0) 1 23 := And.intro (by decide +kernel) rfl
theorem d_X12_lock_23 : dk me_X12_lock 23 (.istore 5) 2 25 := And.intro (by decide +kernel) rfl
theorem d_X12_lock_25 : dk me_X12_lock 25 (.iload_n 3) 1 26 := And.intro (by decide +kernel) rfl
theorem d_X12_lock_26 : dk me_X12_lock 26 (.iconst 0) 1 27 := And.intro (by decide +kernel) rfl
theorem d_X12_lock_27 : dk me_X12_lock 27 (.iconst 5) 1 28 := And.intro (by decide +kernel) rfl
theorem d_X12_lock_28 : dk me_X12_lock 28 (.invokestatic 235) 3 31 := And.intro (by decide +kernel) rfl
theorem d_X12_lock_31 : dk me_X12_lock 31 (.istore 6) 2 33 := And.intro (by decide +kernel) rfl
theorem d_X12_lock_33 : dk me_X12_lock 33 (.iload 4) 2 35 := And.intro (by decide +kernel) rfl
theorem d_X12_lock_35 : dk me_X12_lock 35 (.ifCond .eq 39) 3 38 := And.intro (by decide +kernel) rfl
theorem d_X12_lock_38 : dk me_X12_lock 38 (.iload 6) 2 40 := And.intro (by decide +kernel) rfl
theorem d_X12_lock_40 : dk me_X12_lock 40 (.ifCond .eq 34) 3 43 := And.intro (by decide +kernel) rfl
theorem d_X12_lock_43 : dk me_X12_lock 43 (.aload_n 0) 1 44 := And.intro (by decide +kernel) rfl
theorem d_X12_lock_44 : dk me_X12_lock 44 (.getfield 159) 3 47 := And.intro (by decide +kernel) rfl
theorem d_X12_lock_47 : dk me_X12_lock 47 (.iload 5) 2 49 := And.intro (by decide +kernel) rfl
theorem d_X12_lock_49 : dk me_X12_lock 49 (.iaload) 1 50 := And.intro (by decide +kernel) rfl
theorem d_X12_lock_50 : dk me_X12_lock 50 (.ifCond .ne 24) 3 53 := And.intro (by decide +kernel) rfl
theorem d_X12_lock_53 : dk me_X12_lock 53 (.aload_n 0) 1 54 := And.intro (by decide +kernel) rfl
theorem d_X12_lock_54 : dk me_X12_lock 54 (.iload_n 1) 1 55 := And.intro (by decide +kernel) rfl
theorem d_X12_lock_55 : dk me_X12_lock 55 (.iload_n 2) 1 56 := And.intro (by decide +kernel) rfl
theorem d_X12_lock_56 : dk me_X12_lock 56 (.invokevirtual 373) 3 59 := And.intro (by decide +kernel) rfl
theorem d_X12_lock_59 : dk me_X12_lock 59 (.ifCond .eq 15) 3 62 := And.intro (by decide +kernel) rfl
theorem d_X12_lock_62 : dk me_X12_lock 62 (.aload_n 0) 1 63 := And.intro (by decide +kernel) rfl
theorem d_X12_lock_63 : dk me_X12_lock 63 (.iload_n 3) 1 64 := And.intro (by decide +kernel) rfl
theorem d_X12_lock_64 : dk me_X12_lock 64 (.invokevirtual 376) 3 67 := And.intro (by decide +kernel) rfl
theorem d_X12_lock_67 : dk me_X12_lock 67 (.ifCond .ne 7) 3 70 := And.intro (by decide +kernel) rfl
theorem d_X12_lock_70 : dk me_X12_lock 70 (.iconst 1) 1 71 := And.intro (by decide +kernel) rfl
theorem d_X12_lock_71 : dk me_X12_lock 71 (.goto 4) 3 74 := And.intro (by decide +kernel) rfl
theorem d_X12_lock_74 : dk me_X12_lock 74 (.iconst 0) 1 75 := And.intro (by decide +kernel) rfl
theorem d_X12_lock_75 : dk me_X12_lock 75 (.istore 7) 2 77 := And.intro (by decide +kernel) rfl
theorem d_X12_lock_77 : dk me_X12_lock 77 (.aload_n 0) 1 78 := And.intro (by decide +kernel) rfl
theorem d_X12_lock_78 : dk me_X12_lock 78 (.iload 4) 2 80 := And.intro (by decide +kernel) rfl
theorem d_X12_lock_80 : dk me_X12_lock 80 (.ifCond .ne 7) 3 83 := And.intro (by decide +kernel) rfl
theorem d_X12_lock_83 : dk me_X12_lock 83 (.iconst 1) 1 84 := And.intro (by decide +kernel) rfl
theorem d_X12_lock_84 : dk me_X12_lock 84 (.goto 22) 3 87 := And.intro (by decide +kernel) rfl
theorem d_X12_lock_87 : dk me_X12_lock 87 (.iload 6) 2 89 := And.intro (by decide +kernel) rfl
theorem d_X12_lock_89 : dk me_X12_lock 89 (.ifCond .ne 7) 3 92 := And.intro (by decide +kernel) rfl
theorem d_X12_lock_92 : dk me_X12_lock 92 (.iconst 2) 1 93 := And.intro (by decide +kernel) rfl
theorem d_X12_lock_93 : dk me_X12_lock 93 (.goto 13) 3 96 := And.intro (by decide +kernel) rfl
theorem d_X12_lock_96 : dk me_X12_lock 96 (.iload 7) 2 98 := And.intro (by decide +kernel) rfl
theorem d_X12_lock_98 : dk me_X12_lock 98 (.ifCond .eq 7) 3 101 := And.intro (by decide +kernel) rfl
theorem d_X12_lock_101 : dk me_X12_lock 101 (.iconst 0) 1 102 := And.intro (by decide +kernel) rfl
theorem d_X12_lock_102 : dk me_X12_lock 102 (.goto 4) 3 105 := And.intro (by decide +kernel) rfl
theorem d_X12_lock_105 : dk me_X12_lock 105 (.iconst 3) 1 106 := And.intro (by decide +kernel) rfl
theorem d_X12_lock_106 : dk me_X12_lock 106 (.invokevirtual 260) 3 109 := And.intro (by decide +kernel) rfl
theorem d_X12_lock_109 : dk me_X12_lock 109 (.ifCond .eq 38) 3 112 := And.intro (by decide +kernel) rfl
theorem d_X12_lock_112 : dk me_X12_lock 112 (.aload_n 0) 1 113 := And.intro (by decide +kernel) rfl
theorem d_X12_lock_113 : dk me_X12_lock 113 (.getfield 159) 3 116 := And.intro (by decide +kernel) rfl
theorem d_X12_lock_116 : dk me_X12_lock 116 (.iload 5) 2 118 := And.intro (by decide +kernel) rfl
theorem d_X12_lock_118 : dk me_X12_lock 118 (.iconst 1) 1 119 := And.intro (by decide +kernel) rfl
theorem d_X12_lock_119 : dk me_X12_lock 119 (.iastore) 1 120 := And.intro (by decide +kernel) rfl
theorem d_X12_lock_120 : dk me_X12_lock 120 (.aload_n 0) 1 121 := And.intro (by decide +kernel) rfl
theorem d_X12_lock_121 : dk me_X12_lock 121 (.getfield 162) 3 124 := And.intro (by decide +kernel) rfl
theorem d_X12_lock_124 : dk me_X12_lock 124 (.iload 5) 2 126 := And.intro (by decide +kernel) rfl
theorem d_X12_lock_126 : dk me_X12_lock 126 (.iload_n 3) 1 127 := And.intro (by decide +kernel) rfl
theorem d_X12_lock_127 : dk me_X12_lock 127 (.iastore) 1 128 := And.intro (by decide +kernel) rfl
theorem d_X12_lock_128 : dk me_X12_lock 128 (.aload_n 0) 1 129 := And.intro (by decide +kernel) rfl
theorem d_X12_lock_129 : dk me_X12_lock 129 (.getfield 168) 3 132 := And.intro (by decide +kernel) rfl
theorem d_X12_lock_132 : dk me_X12_lock 132 (.iload 5) 2 134 := And.intro (by decide +kernel) rfl
theorem d_X12_lock_134 : dk me_X12_lock 134 (.iconst 1) 1 135 := And.intro (by decide +kernel) rfl
theorem d_X12_lock_135 : dk me_X12_lock 135 (.iastore) 1 136 := And.intro (by decide +kernel) rfl
theorem d_X12_lock_136 : dk me_X12_lock 136 (.aload_n 0) 1 137 := And.intro (by decide +kernel) rfl
theorem d_X12_lock_137 : dk me_X12_lock 137 (.getfield 171) 3 140 := And.intro (by decide +kernel) rfl
theorem d_X12_lock_140 : dk me_X12_lock 140 (.bipush 26) 2 142 := And.intro (by decide +kernel) rfl
theorem d_X12_lock_142 : dk me_X12_lock 142 (.iload 5) 2 144 := And.intro (by decide +kernel) rfl
theorem d_X12_lock_144 : dk me_X12_lock 144 (.imul) 1 145 := And.intro (by decide +kernel) rfl
theorem d_X12_lock_145 : dk me_X12_lock 145 (.iconst 0) 1 146 := And.intro (by decide +kernel) rfl
theorem d_X12_lock_146 : dk me_X12_lock 146 (.iastore) 1 147 := And.intro (by decide +kernel) rfl
theorem d_X12_lock_147 : dk me_X12_lock 147 (.return_) 1 148 := And.intro (by decide +kernel) rfl
theorem ms_X12_lock {fx : FX} {m : MM} {l0 : Nat} {l1 : Int} {l2 : Int} {l3 : Int} : MS fx me_X12_lock [aR (some (12, l0)), aI l1, aI l2, aI l3] m (f_X12_lock m l0 l1 l2 l3) := by
  refine ms_of rfl mf_X12_lock (b8 rfl) ?_
  refine s_top ?_
  show Sim fx me_X12_lock 0 [(0, aR (some (12, l0))), (1, aI l1), (2, aI l2), (3, aI l3)] [] m _
  unfold f_X12_lock
  have hj_X12_lock_0_106 : ∀ (m_106 : MM) (l0_106 : Nat) (l3_106 : Int) (l5_106 : Int) (s0_106 : Nat) (s1_106 : Int), Sim fx me_X12_lock 106 [(0, aR (some (12, l0_106))), (3, aI l3_106), (5, aI l5_106)] [aI s1_106, aR (some (12, s0_106))] m_106 ((j_X12_lock_0_106 m_106 l0_106 l3_106 l5_106 s0_106 s1_106).bind (fun z => some z)) := by
    intro m_106 l0_106 l3_106 l5_106 s0_106 s1_106
    unfold j_X12_lock_0_106
    refine s_cI (r_V d_X12_lock_106 k_X12_holds w_1668 rfl rfl) ms_X12_holds (b8 rfl) rfl rfl rfl (fun _ _ _ => rfl) (fun _ _ => Or.inl rfl) fun v8 m7 => (s_if_eq (tgt := 147) d_X12_lock_109 rfl ?_ ?_)
    · exact s_vret d_X12_lock_147 rfl rfl
    refine s_aload_n d_X12_lock_112 m0_ (s_getR cf d_X12_lock_113 fl_X12_159 (s_nk fun i9 => (s_iload d_X12_lock_116 m2_ (s_iconst d_X12_lock_118 n_1 (s_stN d_X12_lock_119 ka_108 rfl fun m10 => ?_)))))
    refine s_aload_n d_X12_lock_120 m0_ (s_getR cf d_X12_lock_121 fl_X12_162 (s_nk fun i11 => (s_iload d_X12_lock_124 m2_ (s_iload_n d_X12_lock_126 m1_ (s_stN d_X12_lock_127 ka_109 rfl fun m12 => ?_)))))
    refine s_aload_n d_X12_lock_128 m0_ (s_getR cf d_X12_lock_129 fl_X12_168 (s_nk fun i13 => (s_iload d_X12_lock_132 m2_ (s_iconst d_X12_lock_134 n_1 (s_stN d_X12_lock_135 ka_111 rfl fun m14 => ?_)))))
    refine s_aload_n d_X12_lock_136 m0_ (s_getR cf d_X12_lock_137 fl_X12_171 (s_nk fun i15 => (s_bipush d_X12_lock_140 n_26 rfl (s_iload d_X12_lock_142 m2_ (s_imul d_X12_lock_144 rfl rfl ?_)))))
    exact s_iconst d_X12_lock_145 n_0 (s_stN d_X12_lock_146 ka_112 rfl fun m16 => (s_vret d_X12_lock_147 rfl rfl))
  have hj_X12_lock_0_75 : ∀ (m_75 : MM) (l0_75 : Nat) (l3_75 : Int) (l4_75 : Int) (l5_75 : Int) (l6_75 : Int) (s0_75 : Int), Sim fx me_X12_lock 75 [(0, aR (some (12, l0_75))), (3, aI l3_75), (4, aI l4_75), (5, aI l5_75), (6, aI l6_75)] [aI s0_75] m_75 ((j_X12_lock_0_75 m_75 l0_75 l3_75 l4_75 l5_75 l6_75 s0_75).bind (fun z => some z)) := by
    intro m_75 l0_75 l3_75 l4_75 l5_75 l6_75 s0_75
    unfold j_X12_lock_0_75
    refine s_istore (L' := [(7, aI s0_75), (0, aR (some (12, l0_75))), (3, aI l3_75), (4, aI l4_75), (5, aI l5_75), (6, aI l6_75)]) d_X12_lock_75 (b8 rfl) rfl (s_aload_n d_X12_lock_77 m1_ (s_iload d_X12_lock_78 m3_ (s_if_ne (tgt := 87) d_X12_lock_80 rfl ?_ ?_)))
    · refine s_iload d_X12_lock_87 m5_ (s_if_ne (tgt := 96) d_X12_lock_89 rfl ?_ ?_)
      · refine s_iload d_X12_lock_96 m0_ (s_if_eq (tgt := 105) d_X12_lock_98 rfl ?_ ?_)
        · exact s_iconst d_X12_lock_105 n_3 (s_sub (subc m1_ (subc m2_ (subc m4_ sub0))) (hj_X12_lock_0_106 m_75 l0_75 l3_75 l5_75 l0_75 3))
        exact s_iconst d_X12_lock_101 n_0 (s_goto (tgt := 106) d_X12_lock_102 rfl (s_sub (subc m1_ (subc m2_ (subc m4_ sub0))) (hj_X12_lock_0_106 m_75 l0_75 l3_75 l5_75 l0_75 0)))
      exact s_iconst d_X12_lock_92 n_2 (s_goto (tgt := 106) d_X12_lock_93 rfl (s_sub (subc m1_ (subc m2_ (subc m4_ sub0))) (hj_X12_lock_0_106 m_75 l0_75 l3_75 l5_75 l0_75 2)))
    exact s_iconst d_X12_lock_83 n_1 (s_goto (tgt := 106) d_X12_lock_84 rfl (s_sub (subc m1_ (subc m2_ (subc m4_ sub0))) (hj_X12_lock_0_106 m_75 l0_75 l3_75 l5_75 l0_75 1)))
  have hj_X12_lock_0_74 : ∀ (m_74 : MM) (l0_74 : Nat) (l3_74 : Int) (l4_74 : Int) (l5_74 : Int) (l6_74 : Int), Sim fx me_X12_lock 74 [(0, aR (some (12, l0_74))), (3, aI l3_74), (4, aI l4_74), (5, aI l5_74), (6, aI l6_74)] [] m_74 ((j_X12_lock_0_74 m_74 l0_74 l3_74 l4_74 l5_74 l6_74).bind (fun z => some z)) := by
    intro m_74 l0_74 l3_74 l4_74 l5_74 l6_74
    unfold j_X12_lock_0_74
    exact s_iconst d_X12_lock_74 n_0 (s_sub (subc m0_ (subc m1_ (subc m2_ (subc m3_ (subc m4_ sub0))))) (hj_X12_lock_0_75 m_74 l0_74 l3_74 l4_74 l5_74 l6_74 0))
  have hj_X12_lock_0_23 : ∀ (m_23 : MM) (l0_23 : Nat) (l1_23 : Int) (l2_23 : Int) (l3_23 : Int) (l4_23 : Int) (s0_23 : Int), Sim fx me_X12_lock 23 [(0, aR (some (12, l0_23))), (1, aI l1_23), (2, aI l2_23), (3, aI l3_23), (4, aI l4_23)] [aI s0_23] m_23 ((j_X12_lock_0_23 m_23 l0_23 l1_23 l2_23 l3_23 l4_23 s0_23).bind (fun z => some z)) := by
    intro m_23 l0_23 l1_23 l2_23 l3_23 l4_23 s0_23
    unfold j_X12_lock_0_23
    refine s_istore (L' := [(5, aI s0_23), (0, aR (some (12, l0_23))), (1, aI l1_23), (2, aI l2_23), (3, aI l3_23), (4, aI l4_23)]) d_X12_lock_23 (b8 rfl) rfl (s_iload_n d_X12_lock_25 m4_ (s_iconst d_X12_lock_26 n_0 (s_iconst d_X12_lock_27 n_5 (s_pI (r_S d_X12_lock_28 k_X12_isIn w_1664 rfl rfl) ms_X12_isIn (b8 rfl) rfl rfl rfl fun v2 => (s_istore (L' := [(6, aI v2), (5, aI s0_23), (0, aR (some (12, l0_23))), (1, aI l1_23), (2, aI l2_23), (3, aI l3_23), (4, aI l4_23)]) d_X12_lock_31 (b8 rfl) rfl ?_)))))
    refine s_iload d_X12_lock_33 m6_ (s_if_eq (tgt := 74) d_X12_lock_35 rfl ?_ ?_)
    · exact s_sub (subc m2_ (subc m5_ (subc m6_ (subc m1_ (subc m0_ sub0))))) (hj_X12_lock_0_74 m_23 l0_23 l3_23 l4_23 s0_23 v2)
    refine s_iload d_X12_lock_38 m0_ (s_if_eq (tgt := 74) d_X12_lock_40 rfl ?_ ?_)
    · exact s_sub (subc m2_ (subc m5_ (subc m6_ (subc m1_ (subc m0_ sub0))))) (hj_X12_lock_0_74 m_23 l0_23 l3_23 l4_23 s0_23 v2)
    refine s_aload_n d_X12_lock_43 m2_ (s_getR cf d_X12_lock_44 fl_X12_159 (s_nk fun i3 => (s_iload d_X12_lock_47 m1_ (s_ldN d_X12_lock_49 ka_108 rfl fun v4 => (s_if_ne (tgt := 74) d_X12_lock_50 rfl ?_ ?_)))))
    · exact s_sub (subc m2_ (subc m5_ (subc m6_ (subc m1_ (subc m0_ sub0))))) (hj_X12_lock_0_74 m_23 l0_23 l3_23 l4_23 s0_23 v2)
    refine s_aload_n d_X12_lock_53 m2_ (s_iload_n d_X12_lock_54 m3_ (s_iload_n d_X12_lock_55 m4_ (s_pI (r_V d_X12_lock_56 k_X12_isWhole w_1870 rfl rfl) ms_X12_isWhole (b8 rfl) rfl rfl rfl fun v5 => (s_if_eq (tgt := 74) d_X12_lock_59 rfl ?_ ?_))))
    · exact s_sub (subc m2_ (subc m5_ (subc m6_ (subc m1_ (subc m0_ sub0))))) (hj_X12_lock_0_74 m_23 l0_23 l3_23 l4_23 s0_23 v2)
    refine s_aload_n d_X12_lock_62 m2_ (s_iload_n d_X12_lock_63 m5_ (s_pI (r_V d_X12_lock_64 k_X12_isUsed w_1874 rfl rfl) ms_X12_isUsed (b8 rfl) rfl rfl rfl fun v6 => (s_if_ne (tgt := 74) d_X12_lock_67 rfl ?_ ?_)))
    · exact s_sub (subc m2_ (subc m5_ (subc m6_ (subc m1_ (subc m0_ sub0))))) (hj_X12_lock_0_74 m_23 l0_23 l3_23 l4_23 s0_23 v2)
    exact s_iconst d_X12_lock_70 n_1 (s_goto (tgt := 75) d_X12_lock_71 rfl (s_sub (subc m2_ (subc m5_ (subc m6_ (subc m1_ (subc m0_ sub0))))) (hj_X12_lock_0_75 m_23 l0_23 l3_23 l4_23 s0_23 v2 1)))
  refine s_aload_n d_X12_lock_0 m0_ (s_iload_n d_X12_lock_1 m1_ (s_iload_n d_X12_lock_2 m2_ (s_pI (r_V d_X12_lock_3 k_X12_isForme w_1866 rfl rfl) ms_X12_isForme (b8 rfl) rfl rfl rfl fun v1 => (s_istore (L' := [(4, aI v1), (0, aR (some (12, l0))), (1, aI l1), (2, aI l2), (3, aI l3)]) d_X12_lock_6 (b8 rfl) rfl (s_iload d_X12_lock_8 m0_ ?_)))))
  refine s_if_eq (tgt := 22) d_X12_lock_10 rfl ?_ ?_
  · exact s_iconst d_X12_lock_22 n_0 (s_sub (subc m1_ (subc m2_ (subc m3_ (subc m4_ (subc m0_ sub0))))) (hj_X12_lock_0_23 m l0 l1 l2 l3 v1 0))
  refine s_bipush d_X12_lock_13 n_8 rfl (s_iload_n d_X12_lock_15 m2_ (s_imul d_X12_lock_16 rfl rfl (s_iload_n d_X12_lock_17 m3_ (s_iadd d_X12_lock_18 rfl rfl (s_goto (tgt := 23) d_X12_lock_19 rfl ?_)))))
  exact s_ck (s_sub (subc m1_ (subc m2_ (subc m3_ (subc m4_ (subc m0_ sub0))))) (hj_X12_lock_0_23 m l0 l1 l2 l3 v1 ((8 * l1) + l2)))
theorem d_X12_madeUp_0 : dk me_X12_madeUp 0 (.aload_n 0) 1 1 := And.intro (by decide +kernel) rfl
theorem d_X12_madeUp_1 : dk me_X12_madeUp 1 (.aload_n 0) 1 2 := And.intro (by decide +kernel) rfl
theorem d_X12_madeUp_2 : dk me_X12_madeUp 2 (.iload_n 1) 1 3 := And.intro (by decide +kernel) rfl
theorem d_X12_madeUp_3 : dk me_X12_madeUp 3 (.iload_n 2) 1 4 := And.intro (by decide +kernel) rfl
theorem d_X12_madeUp_4 : dk me_X12_madeUp 4 (.invokevirtual 403) 3 7 := And.intro (by decide +kernel) rfl
theorem d_X12_madeUp_7 : dk me_X12_madeUp 7 (.ifCond .ne 7) 3 10 := And.intro (by decide +kernel) rfl
theorem d_X12_madeUp_10 : dk me_X12_madeUp 10 (.iconst 1) 1 11 := And.intro (by decide +kernel) rfl
theorem d_X12_madeUp_11 : dk me_X12_madeUp 11 (.goto 17) 3 14 := And.intro (by decide +kernel) rfl
theorem d_X12_madeUp_14 : dk me_X12_madeUp 14 (.aload_n 0) 1 15 := And.intro (by decide +kernel) rfl
theorem d_X12_madeUp_15 : dk me_X12_madeUp 15 (.getfield 71) 3 18 := And.intro (by decide +kernel) rfl
theorem d_X12_madeUp_18 : dk me_X12_madeUp 18 (.iload_n 1) 1 19 := And.intro (by decide +kernel) rfl
theorem d_X12_madeUp_19 : dk me_X12_madeUp 19 (.baload) 1 20 := And.intro (by decide +kernel) rfl
theorem d_X12_madeUp_20 : dk me_X12_madeUp 20 (.ifCond .eq 7) 3 23 := And.intro (by decide +kernel) rfl
theorem d_X12_madeUp_23 : dk me_X12_madeUp 23 (.iconst 0) 1 24 := And.intro (by decide +kernel) rfl
theorem d_X12_madeUp_24 : dk me_X12_madeUp 24 (.goto 4) 3 27 := And.intro (by decide +kernel) rfl
theorem d_X12_madeUp_27 : dk me_X12_madeUp 27 (.iconst 2) 1 28 := And.intro (by decide +kernel) rfl
theorem d_X12_madeUp_28 : dk me_X12_madeUp 28 (.invokevirtual 260) 3 31 := And.intro (by decide +kernel) rfl
theorem d_X12_madeUp_31 : dk me_X12_madeUp 31 (.ifCond .ne 5) 3 34 := And.intro (by decide +kernel) rfl
theorem d_X12_madeUp_34 : dk me_X12_madeUp 34 (.iconst 0) 1 35 := And.intro (by decide +kernel) rfl
theorem d_X12_madeUp_35 : dk me_X12_madeUp 35 (.ireturn) 1 36 := And.intro (by decide +kernel) rfl
theorem d_X12_madeUp_36 : dk me_X12_madeUp 36 (.iconst 0) 1 37 := And.intro (by decide +kernel) rfl
theorem d_X12_madeUp_37 : dk me_X12_madeUp 37 (.istore_n 3) 1 38 := And.intro (by decide +kernel) rfl
theorem d_X12_madeUp_38 : dk me_X12_madeUp 38 (.iconst 0) 1 39 := And.intro (by decide +kernel) rfl
theorem d_X12_madeUp_39 : dk me_X12_madeUp 39 (.istore 4) 2 41 := And.intro (by decide +kernel) rfl
theorem d_X12_madeUp_41 : dk me_X12_madeUp 41 (.iload 4) 2 43 := And.intro (by decide +kernel) rfl
theorem d_X12_madeUp_43 : dk me_X12_madeUp 43 (.aload_n 0) 1 44 := And.intro (by decide +kernel) rfl
theorem d_X12_madeUp_44 : dk me_X12_madeUp 44 (.getfield 56) 3 47 := And.intro (by decide +kernel) rfl
theorem d_X12_madeUp_47 : dk me_X12_madeUp 47 (.iload_n 1) 1 48 := And.intro (by decide +kernel) rfl
theorem d_X12_madeUp_48 : dk me_X12_madeUp 48 (.iaload) 1 49 := And.intro (by decide +kernel) rfl
theorem d_X12_madeUp_49 : dk me_X12_madeUp 49 (.if_icmp .ge 116) 3 52 := And.intro (by decide +kernel) rfl
theorem d_X12_madeUp_52 : dk me_X12_madeUp 52 (.bipush 24) 2 54 := And.intro (by decide +kernel) rfl
theorem d_X12_madeUp_54 : dk me_X12_madeUp 54 (.istore 5) 2 56 := And.intro (by decide +kernel) rfl
theorem d_X12_madeUp_56 : dk me_X12_madeUp 56 (.iconst (-1)) 1 57 := And.intro (by decide +kernel) rfl
theorem d_X12_madeUp_57 : dk me_X12_madeUp 57 (.istore 6) 2 59 := And.intro (by decide +kernel) rfl
theorem d_X12_madeUp_59 : dk me_X12_madeUp 59 (.aload_n 0) 1 60 := And.intro (by decide +kernel) rfl
theorem d_X12_madeUp_60 : dk me_X12_madeUp 60 (.getfield 53) 3 63 := And.intro (by decide +kernel) rfl
theorem d_X12_madeUp_63 : dk me_X12_madeUp 63 (.iload_n 1) 1 64 := And.intro (by decide +kernel) rfl
theorem d_X12_madeUp_64 : dk me_X12_madeUp 64 (.iaload) 1 65 := And.intro (by decide +kernel) rfl
theorem d_X12_madeUp_65 : dk me_X12_madeUp 65 (.iload 4) 2 67 := And.intro (by decide +kernel) rfl
theorem d_X12_madeUp_67 : dk me_X12_madeUp 67 (.imul) 1 68 := And.intro (by decide +kernel) rfl
theorem d_X12_madeUp_68 : dk me_X12_madeUp 68 (.istore 7) 2 70 := And.intro (by decide +kernel) rfl
theorem d_X12_madeUp_70 : dk me_X12_madeUp 70 (.iload 7) 2 72 := And.intro (by decide +kernel) rfl
theorem d_X12_madeUp_72 : dk me_X12_madeUp 72 (.aload_n 0) 1 73 := And.intro (by decide +kernel) rfl
theorem d_X12_madeUp_73 : dk me_X12_madeUp 73 (.getfield 53) 3 76 := And.intro (by decide +kernel) rfl
theorem d_X12_madeUp_76 : dk me_X12_madeUp 76 (.iload_n 1) 1 77 := And.intro (by decide +kernel) rfl
theorem d_X12_madeUp_77 : dk me_X12_madeUp 77 (.iaload) 1 78 := And.intro (by decide +kernel) rfl
theorem d_X12_madeUp_78 : dk me_X12_madeUp 78 (.iload 4) 2 80 := And.intro (by decide +kernel) rfl
theorem d_X12_madeUp_80 : dk me_X12_madeUp 80 (.iconst 1) 1 81 := And.intro (by decide +kernel) rfl
theorem d_X12_madeUp_81 : dk me_X12_madeUp 81 (.iadd) 1 82 := And.intro (by decide +kernel) rfl
theorem d_X12_madeUp_82 : dk me_X12_madeUp 82 (.imul) 1 83 := And.intro (by decide +kernel) rfl
theorem d_X12_madeUp_83 : dk me_X12_madeUp 83 (.if_icmp .ge 61) 3 86 := And.intro (by decide +kernel) rfl
theorem d_X12_madeUp_86 : dk me_X12_madeUp 86 (.aload_n 0) 1 87 := And.intro (by decide +kernel) rfl
theorem d_X12_madeUp_87 : dk me_X12_madeUp 87 (.getfield 213) 3 90 := And.intro (by decide +kernel) rfl
theorem d_X12_madeUp_90 : dk me_X12_madeUp 90 (.iload_n 1) 1 91 := And.intro (by decide +kernel) rfl
theorem d_X12_madeUp_91 : dk me_X12_madeUp 91 (.iload_n 2) 1 92 := And.intro (by decide +kernel) rfl
theorem d_X12_madeUp_92 : dk me_X12_madeUp 92 (.iload 7) 2 94 := And.intro (by decide +kernel) rfl
theorem d_X12_madeUp_94 : dk me_X12_madeUp 94 (.invokestatic 400) 3 97 := And.intro (by decide +kernel) rfl
theorem d_X12_madeUp_97 : dk me_X12_madeUp 97 (.iaload) 1 98 := And.intro (by decide +kernel) rfl
theorem d_X12_madeUp_98 : dk me_X12_madeUp 98 (.istore 8) 2 100 := And.intro (by decide +kernel) rfl
theorem d_X12_madeUp_100 : dk me_X12_madeUp 100 (.iload 8) 2 102 := And.intro (by decide +kernel) rfl
theorem d_X12_madeUp_102 : dk me_X12_madeUp 102 (.iconst (-1)) 1 103 := And.intro (by decide +kernel) rfl
theorem d_X12_madeUp_103 : dk me_X12_madeUp 103 (.if_icmp .eq 15) 3 106 := And.intro (by decide +kernel) rfl
theorem d_X12_madeUp_106 : dk me_X12_madeUp 106 (.iload 8) 2 108 := And.intro (by decide +kernel) rfl
theorem d_X12_madeUp_108 : dk me_X12_madeUp 108 (.iload 5) 2 110 := And.intro (by decide +kernel) rfl
theorem d_X12_madeUp_110 : dk me_X12_madeUp 110 (.if_icmp .ge 8) 3 113 := And.intro (by decide +kernel) rfl
theorem d_X12_madeUp_113 : dk me_X12_madeUp 113 (.iload 8) 2 115 := And.intro (by decide +kernel) rfl
theorem d_X12_madeUp_115 : dk me_X12_madeUp 115 (.goto 5) 3 118 := And.intro (by decide +kernel) rfl
theorem d_X12_madeUp_118 : dk me_X12_madeUp 118 (.iload 5) 2 120 := And.intro (by decide +kernel) rfl
theorem d_X12_madeUp_120 : dk me_X12_madeUp 120 (.istore 5) 2 122 := And.intro (by decide +kernel) rfl
theorem d_X12_madeUp_122 : dk me_X12_madeUp 122 (.iload 8) 2 124 := And.intro (by decide +kernel) rfl
theorem d_X12_madeUp_124 : dk me_X12_madeUp 124 (.iload 6) 2 126 := And.intro (by decide +kernel) rfl
theorem d_X12_madeUp_126 : dk me_X12_madeUp 126 (.if_icmp .le 8) 3 129 := And.intro (by decide +kernel) rfl
theorem d_X12_madeUp_129 : dk me_X12_madeUp 129 (.iload 8) 2 131 := And.intro (by decide +kernel) rfl
theorem d_X12_madeUp_131 : dk me_X12_madeUp 131 (.goto 5) 3 134 := And.intro (by decide +kernel) rfl
theorem d_X12_madeUp_134 : dk me_X12_madeUp 134 (.iload 6) 2 136 := And.intro (by decide +kernel) rfl
theorem d_X12_madeUp_136 : dk me_X12_madeUp 136 (.istore 6) 2 138 := And.intro (by decide +kernel) rfl
theorem d_X12_madeUp_138 : dk me_X12_madeUp 138 (.iinc 7 1) 3 141 := And.intro (by decide +kernel) rfl
theorem d_X12_madeUp_141 : dk me_X12_madeUp 141 (.goto (-71)) 3 144 := And.intro (by decide +kernel) rfl
theorem d_X12_madeUp_144 : dk me_X12_madeUp 144 (.iload_n 3) 1 145 := And.intro (by decide +kernel) rfl
theorem d_X12_madeUp_145 : dk me_X12_madeUp 145 (.iload 6) 2 147 := And.intro (by decide +kernel) rfl
theorem d_X12_madeUp_147 : dk me_X12_madeUp 147 (.iload 5) 2 149 := And.intro (by decide +kernel) rfl
theorem d_X12_madeUp_149 : dk me_X12_madeUp 149 (.if_icmp .le 7) 3 152 := And.intro (by decide +kernel) rfl
theorem d_X12_madeUp_152 : dk me_X12_madeUp 152 (.iconst 1) 1 153 := And.intro (by decide +kernel) rfl
theorem d_X12_madeUp_153 : dk me_X12_madeUp 153 (.goto 4) 3 156 := And.intro (by decide +kernel) rfl
theorem d_X12_madeUp_156 : dk me_X12_madeUp 156 (.iconst 0) 1 157 := And.intro (by decide +kernel) rfl
theorem d_X12_madeUp_157 : dk me_X12_madeUp 157 (.iadd) 1 158 := And.intro (by decide +kernel) rfl
theorem d_X12_madeUp_158 : dk me_X12_madeUp 158 (.istore_n 3) 1 159 := And.intro (by decide +kernel) rfl
theorem d_X12_madeUp_159 : dk me_X12_madeUp 159 (.iinc 4 1) 3 162 := And.intro (by decide +kernel) rfl
theorem d_X12_madeUp_162 : dk me_X12_madeUp 162 (.goto (-121)) 3 165 := And.intro (by decide +kernel) rfl
theorem d_X12_madeUp_165 : dk me_X12_madeUp 165 (.iload_n 3) 1 166 := And.intro (by decide +kernel) rfl
theorem d_X12_madeUp_166 : dk me_X12_madeUp 166 (.ireturn) 1 167 := And.intro (by decide +kernel) rfl
theorem ms_X12_madeUp {fx : FX} {m : MM} {l0 : Nat} {l1 : Int} {l2 : Int} : MS fx me_X12_madeUp [aR (some (12, l0)), aI l1, aI l2] m (f_X12_madeUp m l0 l1 l2) := by
  refine ms_of rfl mf_X12_madeUp (b8 rfl) ?_
  refine s_top ?_
  show Sim fx me_X12_madeUp 0 [(0, aR (some (12, l0))), (1, aI l1), (2, aI l2)] [] m _
  unfold f_X12_madeUp
  have hj_X12_madeUp_0_165 : ∀ (m_165 : MM) (l3_165 : Int), Sim fx me_X12_madeUp 165 [(3, aI l3_165)] [] m_165 ((j_X12_madeUp_0_165 m_165 l3_165).bind (fun z => some z)) := by
    intro m_165 l3_165
    unfold j_X12_madeUp_0_165
    exact s_iload_n d_X12_madeUp_165 m0_ (s_iret d_X12_madeUp_166 rfl rfl)
  have hj_X12_madeUp_0_28 : ∀ (m_28 : MM) (l0_28 : Nat) (l1_28 : Int) (l2_28 : Int) (s0_28 : Nat) (s1_28 : Int), Sim fx me_X12_madeUp 28 [(0, aR (some (12, l0_28))), (1, aI l1_28), (2, aI l2_28)] [aI s1_28, aR (some (12, s0_28))] m_28 ((j_X12_madeUp_0_28 m_28 l0_28 l1_28 l2_28 s0_28 s1_28).bind (fun z => some z)) := by
    intro m_28 l0_28 l1_28 l2_28 s0_28 s1_28
    unfold j_X12_madeUp_0_28
    refine s_cI (r_V d_X12_madeUp_28 k_X12_holds w_1668 rfl rfl) ms_X12_holds (b8 rfl) rfl rfl rfl (fun _ _ _ => rfl) (fun _ _ => Or.inl rfl) fun v5 m4 => (s_if_ne (tgt := 36) d_X12_madeUp_31 rfl ?_ ?_)
    · refine s_iconst d_X12_madeUp_36 n_0 (s_istore_n (L' := [(3, aI 0), (0, aR (some (12, l0_28))), (1, aI l1_28), (2, aI l2_28)]) d_X12_madeUp_37 (b8 rfl) rfl (s_iconst d_X12_madeUp_38 n_0 (s_istore (L' := [(4, aI 0), (3, aI 0), (0, aR (some (12, l0_28))), (1, aI l1_28), (2, aI l2_28)]) d_X12_madeUp_39 (b8 rfl) rfl (s_sub (subc m1_ (subc m0_ (subc m2_ (subc m3_ (subc m4_ sub0))))) (s_lp2 (fun s => [(3, aI (s.1)), (4, aI (s.2)), (0, aR (some (12, l0_28))), (1, aI l1_28), (2, aI l2_28)]) (fun s => m4) (0, 0) fun k41 hx41 s ih0 => ?_)))))
      obtain ⟨l3_41, l4_41⟩ := s
      have ih41 := ih0
      clear ih0
      try dsimp only
      unfold b_X12_madeUp_41
      have hj_X12_madeUp_41_144 : ∀ (l3_144 : Int) (l4_144 : Int) (l5_144 : Int) (l6_144 : Int), Sim fx me_X12_madeUp 144 [(0, aR (some (12, l0_28))), (1, aI l1_28), (2, aI l2_28), (3, aI l3_144), (4, aI l4_144), (5, aI l5_144), (6, aI l6_144)] [] m4 ((j_X12_madeUp_41_144 m4 l0_28 l1_28 l2_28 l3_144 l4_144 l5_144 l6_144).bind k41) := by
        intro l3_144 l4_144 l5_144 l6_144
        unfold j_X12_madeUp_41_144
        refine s_iload_n d_X12_madeUp_144 m3_ (s_iload d_X12_madeUp_145 m6_ (s_iload d_X12_madeUp_147 m5_ (s_icmp_le (tgt := 156) d_X12_madeUp_149 rfl ?_ ?_)))
        · refine s_iconst d_X12_madeUp_156 n_0 (s_iadd d_X12_madeUp_157 rfl rfl (s_ck (s_istore_n (L' := [(3, aI (l3_144 + 0)), (0, aR (some (12, l0_28))), (1, aI l1_28), (2, aI l2_28), (4, aI l4_144), (5, aI l5_144), (6, aI l6_144)]) d_X12_madeUp_158 (b8 rfl) rfl (s_iinc (L' := [(4, aI (l4_144 + 1)), (3, aI (l3_144 + 0)), (0, aR (some (12, l0_28))), (1, aI l1_28), (2, aI l2_28), (5, aI l5_144), (6, aI l6_144)]) d_X12_madeUp_159 m4_ (b8 rfl) rfl (s_goto (tgt := 41) d_X12_madeUp_162 rfl ?_)))))
          exact s_sub (subc m1_ (subc m0_ (subc m2_ (subc m3_ (subc m4_ sub0))))) (s_back (ih41 ((l3_144 + 0), (l4_144 + 1))))
        refine s_iconst d_X12_madeUp_152 n_1 (s_goto (tgt := 157) d_X12_madeUp_153 rfl (s_iadd d_X12_madeUp_157 rfl rfl (s_ck (s_istore_n (L' := [(3, aI (l3_144 + 1)), (0, aR (some (12, l0_28))), (1, aI l1_28), (2, aI l2_28), (4, aI l4_144), (5, aI l5_144), (6, aI l6_144)]) d_X12_madeUp_158 (b8 rfl) rfl (s_iinc (L' := [(4, aI (l4_144 + 1)), (3, aI (l3_144 + 1)), (0, aR (some (12, l0_28))), (1, aI l1_28), (2, aI l2_28), (5, aI l5_144), (6, aI l6_144)]) d_X12_madeUp_159 m4_ (b8 rfl) rfl ?_)))))
        exact s_goto (tgt := 41) d_X12_madeUp_162 rfl (s_sub (subc m1_ (subc m0_ (subc m2_ (subc m3_ (subc m4_ sub0))))) (s_back (ih41 ((l3_144 + 1), (l4_144 + 1)))))
      refine s_iload d_X12_madeUp_41 m1_ (s_aload_n d_X12_madeUp_43 m2_ (s_getR cf d_X12_madeUp_44 fl_X12_56 (s_nk fun i6 => (s_iload_n d_X12_madeUp_47 m3_ (s_ldN d_X12_madeUp_48 ka_74 rfl fun v7 => ?_)))))
      refine s_icmp_ge (tgt := 165) d_X12_madeUp_49 rfl ?_ ?_
      · exact s_exit (hx41 _) (s_sub (subc m0_ sub0) (hj_X12_madeUp_0_165 m4 l3_41))
      refine s_bipush d_X12_madeUp_52 n_24 rfl (s_istore (L' := [(5, aI 24), (3, aI l3_41), (4, aI l4_41), (0, aR (some (12, l0_28))), (1, aI l1_28), (2, aI l2_28)]) d_X12_madeUp_54 (b8 rfl) rfl (s_iconst d_X12_madeUp_56 n_m1 (s_istore (L' := [(6, aI (-1)), (5, aI 24), (3, aI l3_41), (4, aI l4_41), (0, aR (some (12, l0_28))), (1, aI l1_28), (2, aI l2_28)]) d_X12_madeUp_57 (b8 rfl) rfl (s_aload_n d_X12_madeUp_59 m4_ (s_getR cf d_X12_madeUp_60 fl_X12_53 ?_)))))
      refine s_nk fun i8 => (s_iload_n d_X12_madeUp_63 m5_ (s_ldN d_X12_madeUp_64 ka_73 rfl fun v9 => (s_iload d_X12_madeUp_65 m3_ (s_imul d_X12_madeUp_67 rfl rfl (s_ck ?_)))))
      refine s_istore (L' := [(7, aI (v9 * l4_41)), (6, aI (-1)), (5, aI 24), (3, aI l3_41), (4, aI l4_41), (0, aR (some (12, l0_28))), (1, aI l1_28), (2, aI l2_28)]) d_X12_madeUp_68 (b8 rfl) rfl (s_sub (subc m2_ (subc m1_ (subc m0_ (subc m5_ (subc m6_ (subc m7_ (subc m3_ (subc m4_ sub0)))))))) (s_lp2 (fun s => [(5, aI (s.1)), (6, aI (s.2.1)), (7, aI (s.2.2)), (0, aR (some (12, l0_28))), (1, aI l1_28), (2, aI l2_28), (3, aI l3_41), (4, aI l4_41)]) (fun s => m4) (24, (-1), (v9 * l4_41)) fun k70 hx70 s ih0 => ?_))
      obtain ⟨l5_70, l6_70, l7_70⟩ := s
      have ih70 := ih0
      clear ih0
      try dsimp only
      unfold b_X12_madeUp_70
      have hj_X12_madeUp_70_120 : ∀ (l6_120 : Int) (l7_120 : Int) (l8_120 : Int) (s0_120 : Int), Sim fx me_X12_madeUp 120 [(0, aR (some (12, l0_28))), (1, aI l1_28), (2, aI l2_28), (3, aI l3_41), (4, aI l4_41), (6, aI l6_120), (7, aI l7_120), (8, aI l8_120)] [aI s0_120] m4 ((j_X12_madeUp_70_120 m4 l0_28 l1_28 l2_28 l3_41 l4_41 l6_120 l7_120 l8_120 s0_120).bind k70) := by
        intro l6_120 l7_120 l8_120 s0_120
        unfold j_X12_madeUp_70_120
        refine s_istore (L' := [(5, aI s0_120), (0, aR (some (12, l0_28))), (1, aI l1_28), (2, aI l2_28), (3, aI l3_41), (4, aI l4_41), (6, aI l6_120), (7, aI l7_120), (8, aI l8_120)]) d_X12_madeUp_120 (b8 rfl) rfl (s_iload d_X12_madeUp_122 m8_ (s_iload d_X12_madeUp_124 m6_ (s_icmp_le (tgt := 134) d_X12_madeUp_126 rfl ?_ ?_)))
        · exact s_iload d_X12_madeUp_134 m6_ (s_istore (L' := [(6, aI l6_120), (5, aI s0_120), (0, aR (some (12, l0_28))), (1, aI l1_28), (2, aI l2_28), (3, aI l3_41), (4, aI l4_41), (7, aI l7_120), (8, aI l8_120)]) d_X12_madeUp_136 (b8 rfl) rfl (s_iinc (L' := [(7, aI (l7_120 + 1)), (6, aI l6_120), (5, aI s0_120), (0, aR (some (12, l0_28))), (1, aI l1_28), (2, aI l2_28), (3, aI l3_41), (4, aI l4_41), (8, aI l8_120)]) d_X12_madeUp_138 m7_ (b8 rfl) rfl (s_goto (tgt := 70) d_X12_madeUp_141 rfl (s_sub (subc m2_ (subc m1_ (subc m0_ (subc m3_ (subc m4_ (subc m5_ (subc m6_ (subc m7_ sub0)))))))) (s_back (ih70 (s0_120, l6_120, (l7_120 + 1))))))))
        exact s_iload d_X12_madeUp_129 m8_ (s_goto (tgt := 136) d_X12_madeUp_131 rfl (s_istore (L' := [(6, aI l8_120), (5, aI s0_120), (0, aR (some (12, l0_28))), (1, aI l1_28), (2, aI l2_28), (3, aI l3_41), (4, aI l4_41), (7, aI l7_120), (8, aI l8_120)]) d_X12_madeUp_136 (b8 rfl) rfl (s_iinc (L' := [(7, aI (l7_120 + 1)), (6, aI l8_120), (5, aI s0_120), (0, aR (some (12, l0_28))), (1, aI l1_28), (2, aI l2_28), (3, aI l3_41), (4, aI l4_41), (8, aI l8_120)]) d_X12_madeUp_138 m7_ (b8 rfl) rfl (s_goto (tgt := 70) d_X12_madeUp_141 rfl (s_sub (subc m2_ (subc m1_ (subc m0_ (subc m3_ (subc m4_ (subc m5_ (subc m6_ (subc m7_ sub0)))))))) (s_back (ih70 (s0_120, l8_120, (l7_120 + 1)))))))))
      have hj_X12_madeUp_70_118 : ∀ (l5_118 : Int) (l6_118 : Int) (l7_118 : Int) (l8_118 : Int), Sim fx me_X12_madeUp 118 [(0, aR (some (12, l0_28))), (1, aI l1_28), (2, aI l2_28), (3, aI l3_41), (4, aI l4_41), (5, aI l5_118), (6, aI l6_118), (7, aI l7_118), (8, aI l8_118)] [] m4 ((j_X12_madeUp_70_118 m4 l0_28 l1_28 l2_28 l3_41 l4_41 l5_118 l6_118 l7_118 l8_118).bind k70) := by
        intro l5_118 l6_118 l7_118 l8_118
        unfold j_X12_madeUp_70_118
        exact s_iload d_X12_madeUp_118 m5_ (s_sub (subc m0_ (subc m1_ (subc m2_ (subc m3_ (subc m4_ (subc m6_ (subc m7_ (subc m8_ sub0)))))))) (hj_X12_madeUp_70_120 l6_118 l7_118 l8_118 l5_118))
      refine s_iload d_X12_madeUp_70 m2_ (s_aload_n d_X12_madeUp_72 m3_ (s_getR cf d_X12_madeUp_73 fl_X12_53 (s_nk fun i10 => (s_iload_n d_X12_madeUp_76 m4_ (s_ldN d_X12_madeUp_77 ka_73 rfl fun v11 => ?_)))))
      refine s_iload d_X12_madeUp_78 m7_ (s_iconst d_X12_madeUp_80 n_1 (s_iadd d_X12_madeUp_81 rfl rfl (s_imul d_X12_madeUp_82 rfl rfl (s_ck (s_icmp_ge (tgt := 144) d_X12_madeUp_83 rfl ?_ ?_)))))
      · exact s_exit (hx70 _) (s_sub (subc m3_ (subc m4_ (subc m5_ (subc m6_ (subc m7_ (subc m0_ (subc m1_ sub0))))))) (hj_X12_madeUp_41_144 l3_41 l4_41 l5_70 l6_70))
      refine s_aload_n d_X12_madeUp_86 m3_ (s_getR cf d_X12_madeUp_87 fl_X12_213 (s_nk fun i12 => (s_iload_n d_X12_madeUp_90 m4_ (s_iload_n d_X12_madeUp_91 m5_ (s_iload d_X12_madeUp_92 m2_ ?_)))))
      refine s_pI (r_S d_X12_madeUp_94 k_X12_leafAt w_1933 rfl rfl) ms_X12_leafAt (b8 rfl) rfl rfl rfl fun v13 => (s_ldN d_X12_madeUp_97 ka_126 rfl fun v14 => (s_istore (L' := [(8, aI v14), (5, aI l5_70), (6, aI l6_70), (7, aI l7_70), (0, aR (some (12, l0_28))), (1, aI l1_28), (2, aI l2_28), (3, aI l3_41), (4, aI l4_41)]) d_X12_madeUp_98 (b8 rfl) rfl (s_iload d_X12_madeUp_100 m0_ (s_iconst d_X12_madeUp_102 n_m1 (s_icmp_eq (tgt := 118) d_X12_madeUp_103 rfl ?_ ?_)))))
      · exact s_sub (subc m4_ (subc m5_ (subc m6_ (subc m7_ (subc m8_ (subc m1_ (subc m2_ (subc m3_ (subc m0_ sub0))))))))) (hj_X12_madeUp_70_118 l5_70 l6_70 l7_70 v14)
      refine s_iload d_X12_madeUp_106 m0_ (s_iload d_X12_madeUp_108 m1_ (s_icmp_ge (tgt := 118) d_X12_madeUp_110 rfl ?_ ?_))
      · exact s_sub (subc m4_ (subc m5_ (subc m6_ (subc m7_ (subc m8_ (subc m1_ (subc m2_ (subc m3_ (subc m0_ sub0))))))))) (hj_X12_madeUp_70_118 l5_70 l6_70 l7_70 v14)
      exact s_iload d_X12_madeUp_113 m0_ (s_goto (tgt := 120) d_X12_madeUp_115 rfl (s_sub (subc m4_ (subc m5_ (subc m6_ (subc m7_ (subc m8_ (subc m2_ (subc m3_ (subc m0_ sub0)))))))) (hj_X12_madeUp_70_120 l6_70 l7_70 v14 v14)))
    exact s_iconst d_X12_madeUp_34 n_0 (s_iret d_X12_madeUp_35 rfl rfl)
  refine s_aload_n d_X12_madeUp_0 m0_ (s_aload_n d_X12_madeUp_1 m0_ (s_iload_n d_X12_madeUp_2 m1_ (s_iload_n d_X12_madeUp_3 m2_ (s_pI (r_V d_X12_madeUp_4 k_X12_isCopy w_1940 rfl rfl) ms_X12_isCopy (b8 rfl) rfl rfl rfl fun v1 => (s_if_ne (tgt := 14) d_X12_madeUp_7 rfl ?_ ?_)))))
  · refine s_aload_n d_X12_madeUp_14 m0_ (s_getR cf d_X12_madeUp_15 fl_X12_71 (s_nk fun i2 => (s_iload_n d_X12_madeUp_18 m1_ (s_ldB d_X12_madeUp_19 ka_79 rfl fun v3 => (s_if_eq (tgt := 27) d_X12_madeUp_20 rfl ?_ ?_)))))
    · exact s_iconst d_X12_madeUp_27 n_2 (s_sub (subc m0_ (subc m1_ (subc m2_ sub0))) (hj_X12_madeUp_0_28 m l0 l1 l2 l0 2))
    exact s_iconst d_X12_madeUp_23 n_0 (s_goto (tgt := 28) d_X12_madeUp_24 rfl (s_sub (subc m0_ (subc m1_ (subc m2_ sub0))) (hj_X12_madeUp_0_28 m l0 l1 l2 l0 0)))
  exact s_iconst d_X12_madeUp_10 n_1 (s_goto (tgt := 28) d_X12_madeUp_11 rfl (s_sub (subc m0_ (subc m1_ (subc m2_ sub0))) (hj_X12_madeUp_0_28 m l0 l1 l2 l0 1)))
theorem d_X12_mark_0 : dk me_X12_mark 0 (.aload_n 0) 1 1 := And.intro (by decide +kernel) rfl
theorem d_X12_mark_1 : dk me_X12_mark 1 (.iload_n 1) 1 2 := And.intro (by decide +kernel) rfl
theorem d_X12_mark_2 : dk me_X12_mark 2 (.iload_n 2) 1 3 := And.intro (by decide +kernel) rfl
theorem d_X12_mark_3 : dk me_X12_mark 3 (.invokevirtual 403) 3 6 := And.intro (by decide +kernel) rfl
theorem d_X12_mark_6 : dk me_X12_mark 6 (.ifCond .eq 16) 3 9 := And.intro (by decide +kernel) rfl
theorem d_X12_mark_9 : dk me_X12_mark 9 (.aload_n 0) 1 10 := And.intro (by decide +kernel) rfl
theorem d_X12_mark_10 : dk me_X12_mark 10 (.iload_n 1) 1 11 := And.intro (by decide +kernel) rfl
theorem d_X12_mark_11 : dk me_X12_mark 11 (.iload_n 3) 1 12 := And.intro (by decide +kernel) rfl
theorem d_X12_mark_12 : dk me_X12_mark 12 (.invokevirtual 406) 3 15 := And.intro (by decide +kernel) rfl
theorem d_X12_mark_15 : dk me_X12_mark 15 (.ifCond .eq 7) 3 18 := And.intro (by decide +kernel) rfl
theorem d_X12_mark_18 : dk me_X12_mark 18 (.iconst 1) 1 19 := And.intro (by decide +kernel) rfl
theorem d_X12_mark_19 : dk me_X12_mark 19 (.goto 4) 3 22 := And.intro (by decide +kernel) rfl
theorem d_X12_mark_22 : dk me_X12_mark 22 (.iconst 0) 1 23 := And.intro (by decide +kernel) rfl
theorem d_X12_mark_23 : dk me_X12_mark 23 (.istore 4) 2 25 := And.intro (by decide +kernel) rfl
theorem d_X12_mark_25 : dk me_X12_mark 25 (.aload_n 0) 1 26 := And.intro (by decide +kernel) rfl
theorem d_X12_mark_26 : dk me_X12_mark 26 (.iload 4) 2 28 := And.intro (by decide +kernel) rfl
theorem d_X12_mark_28 : dk me_X12_mark 28 (.ifCond .ne 7) 3 31 := And.intro (by decide +kernel) rfl
theorem d_X12_mark_31 : dk me_X12_mark 31 (.iconst 1) 1 32 := And.intro (by decide +kernel) rfl
theorem d_X12_mark_32 : dk me_X12_mark 32 (.goto 17) 3 35 := And.intro (by decide +kernel) rfl
theorem d_X12_mark_35 : dk me_X12_mark 35 (.aload_n 0) 1 36 := And.intro (by decide +kernel) rfl
theorem d_X12_mark_36 : dk me_X12_mark 36 (.getfield 71) 3 39 := And.intro (by decide +kernel) rfl
theorem d_X12_mark_39 : dk me_X12_mark 39 (.iload_n 1) 1 40 := And.intro (by decide +kernel) rfl
theorem d_X12_mark_40 : dk me_X12_mark 40 (.baload) 1 41 := And.intro (by decide +kernel) rfl
theorem d_X12_mark_41 : dk me_X12_mark 41 (.ifCond .eq 7) 3 44 := And.intro (by decide +kernel) rfl
theorem d_X12_mark_44 : dk me_X12_mark 44 (.iconst 0) 1 45 := And.intro (by decide +kernel) rfl
theorem d_X12_mark_45 : dk me_X12_mark 45 (.goto 4) 3 48 := And.intro (by decide +kernel) rfl
theorem d_X12_mark_48 : dk me_X12_mark 48 (.iconst 2) 1 49 := And.intro (by decide +kernel) rfl
theorem d_X12_mark_49 : dk me_X12_mark 49 (.invokevirtual 260) 3 52 := And.intro (by decide +kernel) rfl
theorem d_X12_mark_52 : dk me_X12_mark 52 (.ifCond .ne 5) 3 55 := And.intro (by decide +kernel) rfl
theorem d_X12_mark_55 : dk me_X12_mark 55 (.iconst 0) 1 56 := And.intro (by decide +kernel) rfl
theorem d_X12_mark_56 : dk me_X12_mark 56 (.ireturn) 1 57 := And.intro (by decide +kernel) rfl
theorem d_X12_mark_57 : dk me_X12_mark 57 (.aload_n 0) 1 58 := And.intro (by decide +kernel) rfl
theorem d_X12_mark_58 : dk me_X12_mark 58 (.getfield 213) 3 61 := And.intro (by decide +kernel) rfl
theorem d_X12_mark_61 : dk me_X12_mark 61 (.iload_n 1) 1 62 := And.intro (by decide +kernel) rfl
theorem d_X12_mark_62 : dk me_X12_mark 62 (.iload_n 2) 1 63 := And.intro (by decide +kernel) rfl
theorem d_X12_mark_63 : dk me_X12_mark 63 (.iload_n 3) 1 64 := And.intro (by decide +kernel) rfl
theorem d_X12_mark_64 : dk me_X12_mark 64 (.invokestatic 400) 3 67 := And.intro (by decide +kernel) rfl
theorem d_X12_mark_67 : dk me_X12_mark 67 (.iaload) 1 68 := And.intro (by decide +kernel) rfl
theorem d_X12_mark_68 : dk me_X12_mark 68 (.istore 5) 2 70 := And.intro (by decide +kernel) rfl
theorem d_X12_mark_70 : dk me_X12_mark 70 (.iconst 4) 1 71 := And.intro (by decide +kernel) rfl
theorem d_X12_mark_71 : dk me_X12_mark 71 (.iload_n 1) 1 72 := And.intro (by decide +kernel) rfl
theorem d_X12_mark_72 : dk me_X12_mark 72 (.imul) 1 73 := And.intro (by decide +kernel) rfl
theorem d_X12_mark_73 : dk me_X12_mark 73 (.iload_n 3) 1 74 := And.intro (by decide +kernel) rfl
theorem d_X12_mark_74 : dk me_X12_mark 74 (.aload_n 0) 1 75 := And.intro (by decide +kernel) rfl
theorem d_X12_mark_75 : dk me_X12_mark 75 (.getfield 53) 3 78 := And.intro (by decide +kernel) rfl
theorem d_X12_mark_78 : dk me_X12_mark 78 (.iload_n 1) 1 79 := And.intro (by decide +kernel) rfl
theorem d_X12_mark_79 : dk me_X12_mark 79 (.iaload) 1 80 := And.intro (by decide +kernel) rfl
theorem d_X12_mark_80 : dk me_X12_mark 80 (.idiv) 1 81 := And.intro (by decide +kernel) rfl
theorem d_X12_mark_81 : dk me_X12_mark 81 (.iadd) 1 82 := And.intro (by decide +kernel) rfl
theorem d_X12_mark_82 : dk me_X12_mark 82 (.istore 6) 2 84 := And.intro (by decide +kernel) rfl
theorem d_X12_mark_84 : dk me_X12_mark 84 (.iload 5) 2 86 := And.intro (by decide +kernel) rfl
theorem d_X12_mark_86 : dk me_X12_mark 86 (.iconst (-1)) 1 87 := And.intro (by decide +kernel) rfl
theorem d_X12_mark_87 : dk me_X12_mark 87 (.if_icmp .ne 7) 3 90 := And.intro (by decide +kernel) rfl
theorem d_X12_mark_90 : dk me_X12_mark 90 (.iconst (-1)) 1 91 := And.intro (by decide +kernel) rfl
theorem d_X12_mark_91 : dk me_X12_mark 91 (.goto 25) 3 94 := And.intro (by decide +kernel) rfl
theorem d_X12_mark_94 : dk me_X12_mark 94 (.iconst 2) 1 95 := And.intro (by decide +kernel) rfl
theorem d_X12_mark_95 : dk me_X12_mark 95 (.aload_n 0) 1 96 := And.intro (by decide +kernel) rfl
theorem d_X12_mark_96 : dk me_X12_mark 96 (.getfield 189) 3 99 := And.intro (by decide +kernel) rfl
theorem d_X12_mark_99 : dk me_X12_mark 99 (.iload 6) 2 101 := And.intro (by decide +kernel) rfl
theorem d_X12_mark_101 : dk me_X12_mark 101 (.iaload) 1 102 := And.intro (by decide +kernel) rfl
theorem d_X12_mark_102 : dk me_X12_mark 102 (.imul) 1 103 := And.intro (by decide +kernel) rfl
theorem d_X12_mark_103 : dk me_X12_mark 103 (.aload_n 0) 1 104 := And.intro (by decide +kernel) rfl
theorem d_X12_mark_104 : dk me_X12_mark 104 (.getfield 192) 3 107 := And.intro (by decide +kernel) rfl
theorem d_X12_mark_107 : dk me_X12_mark 107 (.iload 6) 2 109 := And.intro (by decide +kernel) rfl
theorem d_X12_mark_109 : dk me_X12_mark 109 (.iaload) 1 110 := And.intro (by decide +kernel) rfl
theorem d_X12_mark_110 : dk me_X12_mark 110 (.iload 5) 2 112 := And.intro (by decide +kernel) rfl
theorem d_X12_mark_112 : dk me_X12_mark 112 (.iadd) 1 113 := And.intro (by decide +kernel) rfl
theorem d_X12_mark_113 : dk me_X12_mark 113 (.iconst 2) 1 114 := And.intro (by decide +kernel) rfl
theorem d_X12_mark_114 : dk me_X12_mark 114 (.irem) 1 115 := And.intro (by decide +kernel) rfl
theorem d_X12_mark_115 : dk me_X12_mark 115 (.iadd) 1 116 := And.intro (by decide +kernel) rfl
theorem d_X12_mark_116 : dk me_X12_mark 116 (.ireturn) 1 117 := And.intro (by decide +kernel) rfl
theorem ms_X12_mark {fx : FX} {m : MM} {l0 : Nat} {l1 : Int} {l2 : Int} {l3 : Int} : MS fx me_X12_mark [aR (some (12, l0)), aI l1, aI l2, aI l3] m (f_X12_mark m l0 l1 l2 l3) := by
  refine ms_of rfl mf_X12_mark (b8 rfl) ?_
  refine s_top ?_
  show Sim fx me_X12_mark 0 [(0, aR (some (12, l0))), (1, aI l1), (2, aI l2), (3, aI l3)] [] m _
  unfold f_X12_mark
  have hj_X12_mark_0_49 : ∀ (m_49 : MM) (l0_49 : Nat) (l1_49 : Int) (l2_49 : Int) (l3_49 : Int) (s0_49 : Nat) (s1_49 : Int), Sim fx me_X12_mark 49 [(0, aR (some (12, l0_49))), (1, aI l1_49), (2, aI l2_49), (3, aI l3_49)] [aI s1_49, aR (some (12, s0_49))] m_49 ((j_X12_mark_0_49 m_49 l0_49 l1_49 l2_49 l3_49 s0_49 s1_49).bind (fun z => some z)) := by
    intro m_49 l0_49 l1_49 l2_49 l3_49 s0_49 s1_49
    unfold j_X12_mark_0_49
    refine s_cI (r_V d_X12_mark_49 k_X12_holds w_1668 rfl rfl) ms_X12_holds (b8 rfl) rfl rfl rfl (fun _ _ _ => rfl) (fun _ _ => Or.inl rfl) fun v6 m5 => (s_if_ne (tgt := 57) d_X12_mark_52 rfl ?_ ?_)
    · refine s_aload_n d_X12_mark_57 m0_ (s_getR cf d_X12_mark_58 fl_X12_213 (s_nk fun i7 => (s_iload_n d_X12_mark_61 m1_ (s_iload_n d_X12_mark_62 m2_ (s_iload_n d_X12_mark_63 m3_ ?_)))))
      refine s_pI (r_S d_X12_mark_64 k_X12_leafAt w_1933 rfl rfl) ms_X12_leafAt (b8 rfl) rfl rfl rfl fun v8 => (s_ldN d_X12_mark_67 ka_126 rfl fun v9 => (s_istore (L' := [(5, aI v9), (0, aR (some (12, l0_49))), (1, aI l1_49), (2, aI l2_49), (3, aI l3_49)]) d_X12_mark_68 (b8 rfl) rfl (s_iconst d_X12_mark_70 n_4 (s_iload_n d_X12_mark_71 m2_ (s_imul d_X12_mark_72 rfl rfl ?_)))))
      refine s_iload_n d_X12_mark_73 m4_ (s_aload_n d_X12_mark_74 m1_ (s_getR cf d_X12_mark_75 fl_X12_53 (s_nk fun i10 => (s_iload_n d_X12_mark_78 m2_ (s_ldN d_X12_mark_79 ka_73 rfl fun v11 => ?_)))))
      refine s_idiv d_X12_mark_80 (s_iadd d_X12_mark_81 rfl rfl (s_ck (s_istore (L' := [(6, aI ((4 * l1_49) + (l3_49 / v11))), (5, aI v9), (0, aR (some (12, l0_49))), (1, aI l1_49), (2, aI l2_49), (3, aI l3_49)]) d_X12_mark_82 (b8 rfl) rfl (s_iload d_X12_mark_84 m1_ (s_iconst d_X12_mark_86 n_m1 ?_)))))
      refine s_icmp_ne (tgt := 94) d_X12_mark_87 rfl ?_ ?_
      · refine s_iconst d_X12_mark_94 n_2 (s_aload_n d_X12_mark_95 m2_ (s_getR cf d_X12_mark_96 fl_X12_189 (s_nk fun i12 => (s_iload d_X12_mark_99 m0_ (s_ldN d_X12_mark_101 ka_118 rfl fun v13 => ?_)))))
        refine s_imul d_X12_mark_102 rfl rfl (s_aload_n d_X12_mark_103 m2_ (s_getR cf d_X12_mark_104 fl_X12_192 (s_nk fun i14 => (s_iload d_X12_mark_107 m0_ (s_ldN d_X12_mark_109 ka_119 rfl fun v15 => ?_)))))
        refine s_iload d_X12_mark_110 m1_ (s_iadd d_X12_mark_112 rfl rfl (s_iconst d_X12_mark_113 n_2 (s_ck1 (s_irem d_X12_mark_114 (s_iadd d_X12_mark_115 rfl rfl ?_)))))
        exact s_ck (s_iret d_X12_mark_116 rfl rfl)
      exact s_iconst d_X12_mark_90 n_m1 (s_goto (tgt := 116) d_X12_mark_91 rfl (s_iret d_X12_mark_116 rfl rfl))
    exact s_iconst d_X12_mark_55 n_0 (s_iret d_X12_mark_56 rfl rfl)
  have hj_X12_mark_0_23 : ∀ (m_23 : MM) (l0_23 : Nat) (l1_23 : Int) (l2_23 : Int) (l3_23 : Int) (s0_23 : Int), Sim fx me_X12_mark 23 [(0, aR (some (12, l0_23))), (1, aI l1_23), (2, aI l2_23), (3, aI l3_23)] [aI s0_23] m_23 ((j_X12_mark_0_23 m_23 l0_23 l1_23 l2_23 l3_23 s0_23).bind (fun z => some z)) := by
    intro m_23 l0_23 l1_23 l2_23 l3_23 s0_23
    unfold j_X12_mark_0_23
    refine s_istore (L' := [(4, aI s0_23), (0, aR (some (12, l0_23))), (1, aI l1_23), (2, aI l2_23), (3, aI l3_23)]) d_X12_mark_23 (b8 rfl) rfl (s_aload_n d_X12_mark_25 m1_ (s_iload d_X12_mark_26 m0_ (s_if_ne (tgt := 35) d_X12_mark_28 rfl ?_ ?_)))
    · refine s_aload_n d_X12_mark_35 m1_ (s_getR cf d_X12_mark_36 fl_X12_71 (s_nk fun i3 => (s_iload_n d_X12_mark_39 m2_ (s_ldB d_X12_mark_40 ka_79 rfl fun v4 => (s_if_eq (tgt := 48) d_X12_mark_41 rfl ?_ ?_)))))
      · exact s_iconst d_X12_mark_48 n_2 (s_sub (subc m1_ (subc m2_ (subc m3_ (subc m4_ sub0)))) (hj_X12_mark_0_49 m_23 l0_23 l1_23 l2_23 l3_23 l0_23 2))
      exact s_iconst d_X12_mark_44 n_0 (s_goto (tgt := 49) d_X12_mark_45 rfl (s_sub (subc m1_ (subc m2_ (subc m3_ (subc m4_ sub0)))) (hj_X12_mark_0_49 m_23 l0_23 l1_23 l2_23 l3_23 l0_23 0)))
    exact s_iconst d_X12_mark_31 n_1 (s_goto (tgt := 49) d_X12_mark_32 rfl (s_sub (subc m1_ (subc m2_ (subc m3_ (subc m4_ sub0)))) (hj_X12_mark_0_49 m_23 l0_23 l1_23 l2_23 l3_23 l0_23 1)))
  have hj_X12_mark_0_22 : ∀ (m_22 : MM) (l0_22 : Nat) (l1_22 : Int) (l2_22 : Int) (l3_22 : Int), Sim fx me_X12_mark 22 [(0, aR (some (12, l0_22))), (1, aI l1_22), (2, aI l2_22), (3, aI l3_22)] [] m_22 ((j_X12_mark_0_22 m_22 l0_22 l1_22 l2_22 l3_22).bind (fun z => some z)) := by
    intro m_22 l0_22 l1_22 l2_22 l3_22
    unfold j_X12_mark_0_22
    exact s_iconst d_X12_mark_22 n_0 (s_sub (subc m0_ (subc m1_ (subc m2_ (subc m3_ sub0)))) (hj_X12_mark_0_23 m_22 l0_22 l1_22 l2_22 l3_22 0))
  refine s_aload_n d_X12_mark_0 m0_ (s_iload_n d_X12_mark_1 m1_ (s_iload_n d_X12_mark_2 m2_ (s_pI (r_V d_X12_mark_3 k_X12_isCopy w_1940 rfl rfl) ms_X12_isCopy (b8 rfl) rfl rfl rfl fun v1 => (s_if_eq (tgt := 22) d_X12_mark_6 rfl ?_ ?_))))
  · exact s_sub (subc m0_ (subc m1_ (subc m2_ (subc m3_ sub0)))) (hj_X12_mark_0_22 m l0 l1 l2 l3)
  refine s_aload_n d_X12_mark_9 m0_ (s_iload_n d_X12_mark_10 m1_ (s_iload_n d_X12_mark_11 m3_ (s_pI (r_V d_X12_mark_12 k_X12_isLeaf w_1944 rfl rfl) ms_X12_isLeaf (b8 rfl) rfl rfl rfl fun v2 => (s_if_eq (tgt := 22) d_X12_mark_15 rfl ?_ ?_))))
  · exact s_sub (subc m0_ (subc m1_ (subc m2_ (subc m3_ sub0)))) (hj_X12_mark_0_22 m l0 l1 l2 l3)
  exact s_iconst d_X12_mark_18 n_1 (s_goto (tgt := 23) d_X12_mark_19 rfl (s_sub (subc m0_ (subc m1_ (subc m2_ (subc m3_ sub0)))) (hj_X12_mark_0_23 m l0 l1 l2 l3 1)))
theorem d_X12_men_0 : dk me_X12_men 0 (.aload_n 0) 1 1 := And.intro (by decide +kernel) rfl
theorem d_X12_men_1 : dk me_X12_men 1 (.iload_n 1) 1 2 := And.intro (by decide +kernel) rfl
theorem d_X12_men_2 : dk me_X12_men 2 (.iconst 0) 1 3 := And.intro (by decide +kernel) rfl
theorem d_X12_men_3 : dk me_X12_men 3 (.iconst 2) 1 4 := And.intro (by decide +kernel) rfl
theorem d_X12_men_4 : dk me_X12_men 4 (.invokestatic 235) 3 7 := And.intro (by decide +kernel) rfl
theorem d_X12_men_7 : dk me_X12_men 7 (.ifCond .ne 7) 3 10 := And.intro (by decide +kernel) rfl
theorem d_X12_men_10 : dk me_X12_men 10 (.iconst 1) 1 11 := And.intro (by decide +kernel) rfl
theorem d_X12_men_11 : dk me_X12_men 11 (.goto 17) 3 14 := And.intro (by decide +kernel) rfl
theorem d_X12_men_14 : dk me_X12_men 14 (.iload_n 2) 1 15 := And.intro (by decide +kernel) rfl
theorem d_X12_men_15 : dk me_X12_men 15 (.iconst 0) 1 16 := And.intro (by decide +kernel) rfl
theorem d_X12_men_16 : dk me_X12_men 16 (.iconst 2) 1 17 := And.intro (by decide +kernel) rfl
theorem d_X12_men_17 : dk me_X12_men 17 (.invokestatic 235) 3 20 := And.intro (by decide +kernel) rfl
theorem d_X12_men_20 : dk me_X12_men 20 (.ifCond .eq 7) 3 23 := And.intro (by decide +kernel) rfl
theorem d_X12_men_23 : dk me_X12_men 23 (.iconst 0) 1 24 := And.intro (by decide +kernel) rfl
theorem d_X12_men_24 : dk me_X12_men 24 (.goto 4) 3 27 := And.intro (by decide +kernel) rfl
theorem d_X12_men_27 : dk me_X12_men 27 (.iconst 2) 1 28 := And.intro (by decide +kernel) rfl
theorem d_X12_men_28 : dk me_X12_men 28 (.invokevirtual 260) 3 31 := And.intro (by decide +kernel) rfl
theorem d_X12_men_31 : dk me_X12_men 31 (.ifCond .ne 5) 3 34 := And.intro (by decide +kernel) rfl
theorem d_X12_men_34 : dk me_X12_men 34 (.iconst 0) 1 35 := And.intro (by decide +kernel) rfl
theorem d_X12_men_35 : dk me_X12_men 35 (.ireturn) 1 36 := And.intro (by decide +kernel) rfl
theorem d_X12_men_36 : dk me_X12_men 36 (.aload_n 0) 1 37 := And.intro (by decide +kernel) rfl
theorem d_X12_men_37 : dk me_X12_men 37 (.getfield 198) 3 40 := And.intro (by decide +kernel) rfl
theorem d_X12_men_40 : dk me_X12_men 40 (.iload_n 1) 1 41 := And.intro (by decide +kernel) rfl
theorem d_X12_men_41 : dk me_X12_men 41 (.iaload) 1 42 := And.intro (by decide +kernel) rfl
theorem d_X12_men_42 : dk me_X12_men 42 (.istore_n 3) 1 43 := And.intro (by decide +kernel) rfl
theorem d_X12_men_43 : dk me_X12_men 43 (.aload_n 0) 1 44 := And.intro (by decide +kernel) rfl
theorem d_X12_men_44 : dk me_X12_men 44 (.getfield 198) 3 47 := And.intro (by decide +kernel) rfl
theorem d_X12_men_47 : dk me_X12_men 47 (.iload_n 1) 1 48 := And.intro (by decide +kernel) rfl
theorem d_X12_men_48 : dk me_X12_men 48 (.iload_n 2) 1 49 := And.intro (by decide +kernel) rfl
theorem d_X12_men_49 : dk me_X12_men 49 (.iastore) 1 50 := And.intro (by decide +kernel) rfl
theorem d_X12_men_50 : dk me_X12_men 50 (.iload_n 3) 1 51 := And.intro (by decide +kernel) rfl
theorem d_X12_men_51 : dk me_X12_men 51 (.ireturn) 1 52 := And.intro (by decide +kernel) rfl
theorem ms_X12_men {fx : FX} {m : MM} {l0 : Nat} {l1 : Int} {l2 : Int} : MS fx me_X12_men [aR (some (12, l0)), aI l1, aI l2] m (f_X12_men m l0 l1 l2) := by
  refine ms_of rfl mf_X12_men (b8 rfl) ?_
  refine s_top ?_
  show Sim fx me_X12_men 0 [(0, aR (some (12, l0))), (1, aI l1), (2, aI l2)] [] m _
  unfold f_X12_men
  have hj_X12_men_0_28 : ∀ (m_28 : MM) (l0_28 : Nat) (l1_28 : Int) (l2_28 : Int) (s0_28 : Nat) (s1_28 : Int), Sim fx me_X12_men 28 [(0, aR (some (12, l0_28))), (1, aI l1_28), (2, aI l2_28)] [aI s1_28, aR (some (12, s0_28))] m_28 ((j_X12_men_0_28 m_28 l0_28 l1_28 l2_28 s0_28 s1_28).bind (fun z => some z)) := by
    intro m_28 l0_28 l1_28 l2_28 s0_28 s1_28
    unfold j_X12_men_0_28
    refine s_cI (r_V d_X12_men_28 k_X12_holds w_1668 rfl rfl) ms_X12_holds (b8 rfl) rfl rfl rfl (fun _ _ _ => rfl) (fun _ _ => Or.inl rfl) fun v4 m3 => (s_if_ne (tgt := 36) d_X12_men_31 rfl ?_ ?_)
    · refine s_aload_n d_X12_men_36 m0_ (s_getR cf d_X12_men_37 fl_X12_198 (s_nk fun i5 => (s_iload_n d_X12_men_40 m1_ (s_ldN d_X12_men_41 ka_121 rfl fun v6 => (s_istore_n (L' := [(3, aI v6), (0, aR (some (12, l0_28))), (1, aI l1_28), (2, aI l2_28)]) d_X12_men_42 (b8 rfl) rfl ?_)))))
      refine s_aload_n d_X12_men_43 m1_ (s_getR cf d_X12_men_44 fl_X12_198 (s_nk fun i7 => (s_iload_n d_X12_men_47 m2_ (s_iload_n d_X12_men_48 m3_ (s_stN d_X12_men_49 ka_121 rfl fun m8 => ?_)))))
      exact s_iload_n d_X12_men_50 m0_ (s_iret d_X12_men_51 rfl rfl)
    exact s_iconst d_X12_men_34 n_0 (s_iret d_X12_men_35 rfl rfl)
  refine s_aload_n d_X12_men_0 m0_ (s_iload_n d_X12_men_1 m1_ (s_iconst d_X12_men_2 n_0 (s_iconst d_X12_men_3 n_2 (s_pI (r_S d_X12_men_4 k_X12_isIn w_1664 rfl rfl) ms_X12_isIn (b8 rfl) rfl rfl rfl fun v1 => (s_if_ne (tgt := 14) d_X12_men_7 rfl ?_ ?_)))))
  · refine s_iload_n d_X12_men_14 m2_ (s_iconst d_X12_men_15 n_0 (s_iconst d_X12_men_16 n_2 (s_pI (r_S d_X12_men_17 k_X12_isIn w_1664 rfl rfl) ms_X12_isIn (b8 rfl) rfl rfl rfl fun v2 => (s_if_eq (tgt := 27) d_X12_men_20 rfl ?_ ?_))))
    · exact s_iconst d_X12_men_27 n_2 (s_sub (subc m0_ (subc m1_ (subc m2_ sub0))) (hj_X12_men_0_28 m l0 l1 l2 l0 2))
    exact s_iconst d_X12_men_23 n_0 (s_goto (tgt := 28) d_X12_men_24 rfl (s_sub (subc m0_ (subc m1_ (subc m2_ sub0))) (hj_X12_men_0_28 m l0 l1 l2 l0 0)))
  exact s_iconst d_X12_men_10 n_1 (s_goto (tgt := 28) d_X12_men_11 rfl (s_sub (subc m0_ (subc m1_ (subc m2_ sub0))) (hj_X12_men_0_28 m l0 l1 l2 l0 1)))
theorem d_X12_ordersOf_0 : dk me_X12_ordersOf 0 (.iconst 2) 1 1 := And.intro (by decide +kernel) rfl
theorem d_X12_ordersOf_1 : dk me_X12_ordersOf 1 (.aload_n 0) 1 2 := And.intro (by decide +kernel) rfl
theorem d_X12_ordersOf_2 : dk me_X12_ordersOf 2 (.getfield 56) 3 5 := And.intro (by decide +kernel) rfl
theorem d_X12_ordersOf_5 : dk me_X12_ordersOf 5 (.iload_n 1) 1 6 := And.intro (by decide +kernel) rfl
theorem d_X12_ordersOf_6 : dk me_X12_ordersOf 6 (.iaload) 1 7 := And.intro (by decide +kernel) rfl
theorem d_X12_ordersOf_7 : dk me_X12_ordersOf 7 (.imul) 1 8 := And.intro (by decide +kernel) rfl
theorem d_X12_ordersOf_8 : dk me_X12_ordersOf 8 (.istore_n 2) 1 9 := And.intro (by decide +kernel) rfl
theorem d_X12_ordersOf_9 : dk me_X12_ordersOf 9 (.aload_n 0) 1 10 := And.intro (by decide +kernel) rfl
theorem d_X12_ordersOf_10 : dk me_X12_ordersOf 10 (.iload_n 1) 1 11 := And.intro (by decide +kernel) rfl
theorem d_X12_ordersOf_11 : dk me_X12_ordersOf 11 (.invokevirtual 418) 3 14 := And.intro (by decide +kernel) rfl
theorem d_X12_ordersOf_14 : dk me_X12_ordersOf 14 (.aload_n 0) 1 15 := And.intro (by decide +kernel) rfl
theorem d_X12_ordersOf_15 : dk me_X12_ordersOf 15 (.getfield 219) 3 18 := And.intro (by decide +kernel) rfl
theorem d_X12_ordersOf_18 : dk me_X12_ordersOf 18 (.iconst 0) 1 19 := And.intro (by decide +kernel) rfl
theorem d_X12_ordersOf_19 : dk me_X12_ordersOf 19 (.iconst 1) 1 20 := And.intro (by decide +kernel) rfl
theorem d_X12_ordersOf_20 : dk me_X12_ordersOf 20 (.iastore) 1 21 := And.intro (by decide +kernel) rfl
theorem d_X12_ordersOf_21 : dk me_X12_ordersOf 21 (.iconst 1) 1 22 := And.intro (by decide +kernel) rfl
theorem d_X12_ordersOf_22 : dk me_X12_ordersOf 22 (.istore_n 3) 1 23 := And.intro (by decide +kernel) rfl
theorem d_X12_ordersOf_23 : dk me_X12_ordersOf 23 (.iload_n 3) 1 24 := And.intro (by decide +kernel) rfl
theorem d_X12_ordersOf_24 : dk me_X12_ordersOf 24 (.iconst 1) 1 25 := And.intro (by decide +kernel) rfl
theorem d_X12_ordersOf_25 : dk me_X12_ordersOf 25 (.iload_n 2) 1 26 := And.intro (by decide +kernel) rfl
theorem d_X12_ordersOf_26 : dk me_X12_ordersOf 26 (.ishl) 1 27 := And.intro (by decide +kernel) rfl
theorem d_X12_ordersOf_27 : dk me_X12_ordersOf 27 (.if_icmp .ge 80) 3 30 := And.intro (by decide +kernel) rfl
theorem d_X12_ordersOf_30 : dk me_X12_ordersOf 30 (.aload_n 0) 1 31 := And.intro (by decide +kernel) rfl
theorem d_X12_ordersOf_31 : dk me_X12_ordersOf 31 (.getfield 219) 3 34 := And.intro (by decide +kernel) rfl
theorem d_X12_ordersOf_34 : dk me_X12_ordersOf 34 (.iload_n 3) 1 35 := And.intro (by decide +kernel) rfl
theorem d_X12_ordersOf_35 : dk me_X12_ordersOf 35 (.iconst 0) 1 36 := And.intro (by decide +kernel) rfl
theorem d_X12_ordersOf_36 : dk me_X12_ordersOf 36 (.iastore) 1 37 := And.intro (by decide +kernel) rfl
theorem d_X12_ordersOf_37 : dk me_X12_ordersOf 37 (.iconst 0) 1 38 := And.intro (by decide +kernel) rfl
theorem d_X12_ordersOf_38 : dk me_X12_ordersOf 38 (.istore 4) 2 40 := And.intro (by decide +kernel) rfl
theorem d_X12_ordersOf_40 : dk me_X12_ordersOf 40 (.iload 4) 2 42 := And.intro (by decide +kernel) rfl
theorem d_X12_ordersOf_42 : dk me_X12_ordersOf 42 (.iload_n 2) 1 43 := And.intro (by decide +kernel) rfl
theorem d_X12_ordersOf_43 : dk me_X12_ordersOf 43 (.if_icmp .ge 58) 3 46 := And.intro (by decide +kernel) rfl
theorem d_X12_ordersOf_46 : dk me_X12_ordersOf 46 (.iload_n 3) 1 47 := And.intro (by decide +kernel) rfl
theorem d_X12_ordersOf_47 : dk me_X12_ordersOf 47 (.iconst 1) 1 48 := And.intro (by decide +kernel) rfl
theorem d_X12_ordersOf_48 : dk me_X12_ordersOf 48 (.iload 4) 2 50 := And.intro (by decide +kernel) rfl
theorem d_X12_ordersOf_50 : dk me_X12_ordersOf 50 (.ishl) 1 51 := And.intro (by decide +kernel) rfl
theorem d_X12_ordersOf_51 : dk me_X12_ordersOf 51 (.iconst (-1)) 1 52 := And.intro (by decide +kernel) rfl
theorem d_X12_ordersOf_52 : dk me_X12_ordersOf 52 (.ixor) 1 53 := And.intro (by decide +kernel) rfl
theorem d_X12_ordersOf_53 : dk me_X12_ordersOf 53 (.iand) 1 54 := And.intro (by decide +kernel) rfl
theorem d_X12_ordersOf_54 : dk me_X12_ordersOf 54 (.istore 5) 2 56 := And.intro (by decide +kernel) rfl
theorem d_X12_ordersOf_56 : dk me_X12_ordersOf 56 (.aload_n 0) 1 57 := And.intro (by decide +kernel) rfl
theorem d_X12_ordersOf_57 : dk me_X12_ordersOf 57 (.getfield 219) 3 60 := And.intro (by decide +kernel) rfl
theorem d_X12_ordersOf_60 : dk me_X12_ordersOf 60 (.iload_n 3) 1 61 := And.intro (by decide +kernel) rfl
theorem d_X12_ordersOf_61 : dk me_X12_ordersOf 61 (.dup2) 1 62 := And.intro (by decide +kernel) rfl
theorem d_X12_ordersOf_62 : dk me_X12_ordersOf 62 (.iaload) 1 63 := And.intro (by decide +kernel) rfl
theorem d_X12_ordersOf_63 : dk me_X12_ordersOf 63 (.iload 5) 2 65 := And.intro (by decide +kernel) rfl
theorem d_X12_ordersOf_65 : dk me_X12_ordersOf 65 (.iload_n 3) 1 66 := And.intro (by decide +kernel) rfl
theorem d_X12_ordersOf_66 : dk me_X12_ordersOf 66 (.if_icmp .eq 26) 3 69 := And.intro (by decide +kernel) rfl
theorem d_X12_ordersOf_69 : dk me_X12_ordersOf 69 (.aload_n 0) 1 70 := And.intro (by decide +kernel) rfl
theorem d_X12_ordersOf_70 : dk me_X12_ordersOf 70 (.getfield 216) 3 73 := And.intro (by decide +kernel) rfl
theorem d_X12_ordersOf_73 : dk me_X12_ordersOf 73 (.iload 4) 2 75 := And.intro (by decide +kernel) rfl
theorem d_X12_ordersOf_75 : dk me_X12_ordersOf 75 (.iaload) 1 76 := And.intro (by decide +kernel) rfl
theorem d_X12_ordersOf_76 : dk me_X12_ordersOf 76 (.iload 5) 2 78 := And.intro (by decide +kernel) rfl
theorem d_X12_ordersOf_78 : dk me_X12_ordersOf 78 (.iand) 1 79 := And.intro (by decide +kernel) rfl
theorem d_X12_ordersOf_79 : dk me_X12_ordersOf 79 (.ifCond .ne 13) 3 82 := And.intro (by decide +kernel) rfl
theorem d_X12_ordersOf_82 : dk me_X12_ordersOf 82 (.aload_n 0) 1 83 := And.intro (by decide +kernel) rfl
theorem d_X12_ordersOf_83 : dk me_X12_ordersOf 83 (.getfield 219) 3 86 := And.intro (by decide +kernel) rfl
theorem d_X12_ordersOf_86 : dk me_X12_ordersOf 86 (.iload 5) 2 88 := And.intro (by decide +kernel) rfl
theorem d_X12_ordersOf_88 : dk me_X12_ordersOf 88 (.iaload) 1 89 := And.intro (by decide +kernel) rfl
theorem d_X12_ordersOf_89 : dk me_X12_ordersOf 89 (.goto 4) 3 92 := And.intro (by decide +kernel) rfl
theorem d_X12_ordersOf_92 : dk me_X12_ordersOf 92 (.iconst 0) 1 93 := And.intro (by decide +kernel) rfl
theorem d_X12_ordersOf_93 : dk me_X12_ordersOf 93 (.iadd) 1 94 := And.intro (by decide +kernel) rfl
theorem d_X12_ordersOf_94 : dk me_X12_ordersOf 94 (.iastore) 1 95 := And.intro (by decide +kernel) rfl
theorem d_X12_ordersOf_95 : dk me_X12_ordersOf 95 (.iinc 4 1) 3 98 := And.intro (by decide +kernel) rfl
theorem d_X12_ordersOf_98 : dk me_X12_ordersOf 98 (.goto (-58)) 3 101 := And.intro (by decide +kernel) rfl
theorem d_X12_ordersOf_101 : dk me_X12_ordersOf 101 (.iinc 3 1) 3 104 := And.intro (by decide +kernel) rfl
theorem d_X12_ordersOf_104 : dk me_X12_ordersOf 104 (.goto (-81)) 3 107 := And.intro (by decide +kernel) rfl
theorem d_X12_ordersOf_107 : dk me_X12_ordersOf 107 (.aload_n 0) 1 108 := And.intro (by decide +kernel) rfl
theorem d_X12_ordersOf_108 : dk me_X12_ordersOf 108 (.getfield 219) 3 111 := And.intro (by decide +kernel) rfl
theorem d_X12_ordersOf_111 : dk me_X12_ordersOf 111 (.iconst 1) 1 112 := And.intro (by decide +kernel) rfl
theorem d_X12_ordersOf_112 : dk me_X12_ordersOf 112 (.iload_n 2) 1 113 := And.intro (by decide +kernel) rfl
theorem d_X12_ordersOf_113 : dk me_X12_ordersOf 113 (.ishl) 1 114 := And.intro (by decide +kernel) rfl
theorem d_X12_ordersOf_114 : dk me_X12_ordersOf 114 (.iconst 1) 1 115 := And.intro (by decide +kernel) rfl
theorem d_X12_ordersOf_115 : dk me_X12_ordersOf 115 (.isub) 1 116 := And.intro (by decide +kernel) rfl
theorem d_X12_ordersOf_116 : dk me_X12_ordersOf 116 (.iaload) 1 117 := And.intro (by decide +kernel) rfl
theorem d_X12_ordersOf_117 : dk me_X12_ordersOf 117 (.ireturn) 1 118 := And.intro (by decide +kernel) rfl
theorem ms_X12_ordersOf {fx : FX} {m : MM} {l0 : Nat} {l1 : Int} : MS fx me_X12_ordersOf [aR (some (12, l0)), aI l1] m (f_X12_ordersOf m l0 l1) := by
  refine ms_of rfl mf_X12_ordersOf (b8 rfl) ?_
  refine s_top ?_
  show Sim fx me_X12_ordersOf 0 [(0, aR (some (12, l0))), (1, aI l1)] [] m _
  unfold f_X12_ordersOf
  have hj_X12_ordersOf_0_107 : ∀ (m_107 : MM) (l0_107 : Nat) (l2_107 : Int), Sim fx me_X12_ordersOf 107 [(0, aR (some (12, l0_107))), (2, aI l2_107)] [] m_107 ((j_X12_ordersOf_0_107 m_107 l0_107 l2_107).bind (fun z => some z)) := by
    intro m_107 l0_107 l2_107
    unfold j_X12_ordersOf_0_107
    refine s_aload_n d_X12_ordersOf_107 m0_ (s_getR cf d_X12_ordersOf_108 fl_X12_219 (s_nk fun i17 => (s_iconst d_X12_ordersOf_111 n_1 (s_iload_n d_X12_ordersOf_112 m1_ (s_ishl d_X12_ordersOf_113 ?_)))))
    exact s_iconst d_X12_ordersOf_114 n_1 (s_isub d_X12_ordersOf_115 rfl rfl (s_ldN d_X12_ordersOf_116 ka_128 rfl fun v18 => (s_iret d_X12_ordersOf_117 rfl rfl)))
  refine s_iconst d_X12_ordersOf_0 n_2 (s_aload_n d_X12_ordersOf_1 m0_ (s_getR cf d_X12_ordersOf_2 fl_X12_56 (s_nk fun i1 => (s_iload_n d_X12_ordersOf_5 m1_ (s_ldN d_X12_ordersOf_6 ka_74 rfl fun v2 => ?_)))))
  refine s_imul d_X12_ordersOf_7 rfl rfl (s_ck (s_istore_n (L' := [(2, aI (2 * v2)), (0, aR (some (12, l0))), (1, aI l1)]) d_X12_ordersOf_8 (b8 rfl) rfl (s_aload_n d_X12_ordersOf_9 m1_ (s_iload_n d_X12_ordersOf_10 m2_ (s_cV (r_V d_X12_ordersOf_11 k_X12_findSure w_1996 rfl rfl) ms_X12_findSure (b8 rfl) rfl rfl rfl (fun _ _ _ => rfl) (fun _ _ => Or.inl rfl) fun m3 => ?_)))))
  refine s_aload_n d_X12_ordersOf_14 m1_ (s_getR cf d_X12_ordersOf_15 fl_X12_219 (s_nk fun i5 => (s_iconst d_X12_ordersOf_18 n_0 (s_iconst d_X12_ordersOf_19 n_1 (s_stN d_X12_ordersOf_20 ka_128 rfl fun m6 => ?_)))))
  refine s_iconst d_X12_ordersOf_21 n_1 (s_istore_n (L' := [(3, aI 1), (2, aI (2 * v2)), (0, aR (some (12, l0))), (1, aI l1)]) d_X12_ordersOf_22 (b8 rfl) rfl (s_sub (subc m0_ (subc m2_ (subc m1_ sub0))) (s_lp2 (fun s => [(3, aI (s.1)), (0, aR (some (12, l0))), (2, aI (2 * v2))]) (fun s => s.2) (1, m6) fun k23 hx23 s ih0 => ?_)))
  obtain ⟨l3_23, mm_23⟩ := s
  have ih23 := ih0
  clear ih0
  try dsimp only
  unfold b_X12_ordersOf_23
  have hj_X12_ordersOf_23_101 : ∀ (m_101 : MM) (l3_101 : Int), Sim fx me_X12_ordersOf 101 [(0, aR (some (12, l0))), (2, aI (2 * v2)), (3, aI l3_101)] [] m_101 ((j_X12_ordersOf_23_101 m_101 l0 (2 * v2) l3_101).bind k23) := by
    intro m_101 l3_101
    unfold j_X12_ordersOf_23_101
    exact s_iinc (L' := [(3, aI (l3_101 + 1)), (0, aR (some (12, l0))), (2, aI (2 * v2))]) d_X12_ordersOf_101 m2_ (b8 rfl) rfl (s_goto (tgt := 23) d_X12_ordersOf_104 rfl (s_sub (subc m0_ (subc m1_ (subc m2_ sub0))) (s_back (ih23 ((l3_101 + 1), m_101)))))
  refine s_iload_n d_X12_ordersOf_23 m0_ (s_iconst d_X12_ordersOf_24 n_1 (s_iload_n d_X12_ordersOf_25 m2_ (s_ishl d_X12_ordersOf_26 (s_icmp_ge (tgt := 107) d_X12_ordersOf_27 rfl ?_ ?_))))
  · exact s_exit (hx23 _) (s_sub (subc m1_ (subc m2_ sub0)) (hj_X12_ordersOf_0_107 mm_23 l0 (2 * v2)))
  refine s_aload_n d_X12_ordersOf_30 m1_ (s_getR cf d_X12_ordersOf_31 fl_X12_219 (s_nk fun i7 => (s_iload_n d_X12_ordersOf_34 m0_ (s_iconst d_X12_ordersOf_35 n_0 (s_stN d_X12_ordersOf_36 ka_128 rfl fun m8 => ?_)))))
  refine s_iconst d_X12_ordersOf_37 n_0 (s_istore (L' := [(4, aI 0), (3, aI l3_23), (0, aR (some (12, l0))), (2, aI (2 * v2))]) d_X12_ordersOf_38 (b8 rfl) rfl (s_sub (subc m0_ (subc m2_ (subc m3_ (subc m1_ sub0)))) (s_lp2 (fun s => [(4, aI (s.1)), (0, aR (some (12, l0))), (2, aI (2 * v2)), (3, aI l3_23)]) (fun s => s.2) (0, m8) fun k40 hx40 s ih0 => ?_)))
  obtain ⟨l4_40, mm_40⟩ := s
  have ih40 := ih0
  clear ih0
  try dsimp only
  unfold b_X12_ordersOf_40
  have hj_X12_ordersOf_40_93 : ∀ (m_93 : MM) (l4_93 : Int) (s0_93 : Nat) (s1_93 : Int) (s2_93 : Int) (s3_93 : Int), Sim fx me_X12_ordersOf 93 [(0, aR (some (12, l0))), (2, aI (2 * v2)), (3, aI l3_23), (4, aI l4_93)] [aI s3_93, aI s2_93, aI s1_93, aR (some (128, s0_93))] m_93 ((j_X12_ordersOf_40_93 m_93 l0 (2 * v2) l3_23 l4_93 s0_93 s1_93 s2_93 s3_93).bind k40) := by
    intro m_93 l4_93 s0_93 s1_93 s2_93 s3_93
    unfold j_X12_ordersOf_40_93
    exact s_iadd d_X12_ordersOf_93 rfl rfl (s_ck (s_stN d_X12_ordersOf_94 ka_128 rfl fun m16 => (s_iinc (L' := [(4, aI (l4_93 + 1)), (0, aR (some (12, l0))), (2, aI (2 * v2)), (3, aI l3_23)]) d_X12_ordersOf_95 m3_ (b8 rfl) rfl (s_goto (tgt := 40) d_X12_ordersOf_98 rfl (s_sub (subc m0_ (subc m1_ (subc m2_ (subc m3_ sub0)))) (s_back (ih40 ((l4_93 + 1), m16))))))))
  have hj_X12_ordersOf_40_92 : ∀ (m_92 : MM) (l4_92 : Int) (s0_92 : Nat) (s1_92 : Int) (s2_92 : Int), Sim fx me_X12_ordersOf 92 [(0, aR (some (12, l0))), (2, aI (2 * v2)), (3, aI l3_23), (4, aI l4_92)] [aI s2_92, aI s1_92, aR (some (128, s0_92))] m_92 ((j_X12_ordersOf_40_92 m_92 l0 (2 * v2) l3_23 l4_92 s0_92 s1_92 s2_92).bind k40) := by
    intro m_92 l4_92 s0_92 s1_92 s2_92
    unfold j_X12_ordersOf_40_92
    exact s_iconst d_X12_ordersOf_92 n_0 (s_sub (subc m0_ (subc m1_ (subc m2_ (subc m3_ sub0)))) (hj_X12_ordersOf_40_93 m_92 l4_92 s0_92 s1_92 s2_92 0))
  refine s_iload d_X12_ordersOf_40 m0_ (s_iload_n d_X12_ordersOf_42 m2_ (s_icmp_ge (tgt := 101) d_X12_ordersOf_43 rfl ?_ ?_))
  · exact s_exit (hx40 _) (s_sub (subc m1_ (subc m2_ (subc m3_ sub0))) (hj_X12_ordersOf_23_101 mm_40 l3_23))
  refine s_iload_n d_X12_ordersOf_46 m3_ (s_iconst d_X12_ordersOf_47 n_1 (s_iload d_X12_ordersOf_48 m0_ (s_ishl d_X12_ordersOf_50 (s_iconst d_X12_ordersOf_51 n_m1 (s_ixor d_X12_ordersOf_52 ?_)))))
  refine s_iand d_X12_ordersOf_53 (s_let fun v9 => (s_istore (L' := [(5, aI v9), (4, aI l4_40), (0, aR (some (12, l0))), (2, aI (2 * v2)), (3, aI l3_23)]) d_X12_ordersOf_54 (b8 rfl) rfl (s_aload_n d_X12_ordersOf_56 m2_ (s_getR cf d_X12_ordersOf_57 fl_X12_219 (s_nk fun i10 => ?_)))))
  refine s_iload_n d_X12_ordersOf_60 m4_ (s_dup2 d_X12_ordersOf_61 rfl rfl (s_ldN d_X12_ordersOf_62 ka_128 rfl fun v11 => (s_iload d_X12_ordersOf_63 m0_ (s_iload_n d_X12_ordersOf_65 m4_ (s_icmp_eq (tgt := 92) d_X12_ordersOf_66 rfl ?_ ?_)))))
  · exact s_sub (subc m2_ (subc m3_ (subc m4_ (subc m1_ sub0)))) (hj_X12_ordersOf_40_92 mm_40 l4_40 i10 l3_23 v11)
  refine s_aload_n d_X12_ordersOf_69 m2_ (s_getR cf d_X12_ordersOf_70 fl_X12_216 (s_nk fun i12 => (s_iload d_X12_ordersOf_73 m1_ (s_ldN d_X12_ordersOf_75 ka_127 rfl fun v13 => (s_iload d_X12_ordersOf_76 m0_ ?_)))))
  refine s_iand d_X12_ordersOf_78 (s_if_ne (tgt := 92) d_X12_ordersOf_79 rfl ?_ ?_)
  · exact s_sub (subc m2_ (subc m3_ (subc m4_ (subc m1_ sub0)))) (hj_X12_ordersOf_40_92 mm_40 l4_40 i10 l3_23 v11)
  refine s_aload_n d_X12_ordersOf_82 m2_ (s_getR cf d_X12_ordersOf_83 fl_X12_219 (s_nk fun i14 => (s_iload d_X12_ordersOf_86 m0_ (s_ldN d_X12_ordersOf_88 ka_128 rfl fun v15 => (s_goto (tgt := 93) d_X12_ordersOf_89 rfl ?_)))))
  exact s_sub (subc m2_ (subc m3_ (subc m4_ (subc m1_ sub0)))) (hj_X12_ordersOf_40_93 mm_40 l4_40 i10 l3_23 v11 v15)
theorem d_X12_orders_0 : dk me_X12_orders 0 (.aload_n 0) 1 1 := And.intro (by decide +kernel) rfl
theorem d_X12_orders_1 : dk me_X12_orders 1 (.aload_n 0) 1 2 := And.intro (by decide +kernel) rfl
theorem d_X12_orders_2 : dk me_X12_orders 2 (.iload_n 1) 1 3 := And.intro (by decide +kernel) rfl
theorem d_X12_orders_3 : dk me_X12_orders 3 (.invokevirtual 239) 3 6 := And.intro (by decide +kernel) rfl
theorem d_X12_orders_6 : dk me_X12_orders 6 (.ifCond .eq 7) 3 9 := And.intro (by decide +kernel) rfl
theorem d_X12_orders_9 : dk me_X12_orders 9 (.iconst 0) 1 10 := And.intro (by decide +kernel) rfl
theorem d_X12_orders_10 : dk me_X12_orders 10 (.goto 4) 3 13 := And.intro (by decide +kernel) rfl
theorem d_X12_orders_13 : dk me_X12_orders 13 (.iconst 1) 1 14 := And.intro (by decide +kernel) rfl
theorem d_X12_orders_14 : dk me_X12_orders 14 (.invokevirtual 260) 3 17 := And.intro (by decide +kernel) rfl
theorem d_X12_orders_17 : dk me_X12_orders 17 (.ifCond .eq 11) 3 20 := And.intro (by decide +kernel) rfl
theorem d_X12_orders_20 : dk me_X12_orders 20 (.aload_n 0) 1 21 := And.intro (by decide +kernel) rfl
theorem d_X12_orders_21 : dk me_X12_orders 21 (.iload_n 1) 1 22 := And.intro (by decide +kernel) rfl
theorem d_X12_orders_22 : dk me_X12_orders 22 (.invokevirtual 422) 3 25 := And.intro (by decide +kernel) rfl
theorem d_X12_orders_25 : dk me_X12_orders 25 (.goto 4) 3 28 := And.intro (by decide +kernel) rfl
theorem d_X12_orders_28 : dk me_X12_orders 28 (.iconst 0) 1 29 := And.intro (by decide +kernel) rfl
theorem d_X12_orders_29 : dk me_X12_orders 29 (.ireturn) 1 30 := And.intro (by decide +kernel) rfl
theorem ms_X12_orders {fx : FX} {m : MM} {l0 : Nat} {l1 : Int} : MS fx me_X12_orders [aR (some (12, l0)), aI l1] m (f_X12_orders m l0 l1) := by
  refine ms_of rfl mf_X12_orders (b8 rfl) ?_
  refine s_top ?_
  show Sim fx me_X12_orders 0 [(0, aR (some (12, l0))), (1, aI l1)] [] m _
  unfold f_X12_orders
  have hj_X12_orders_0_14 : ∀ (m_14 : MM) (l0_14 : Nat) (l1_14 : Int) (s0_14 : Nat) (s1_14 : Int), Sim fx me_X12_orders 14 [(0, aR (some (12, l0_14))), (1, aI l1_14)] [aI s1_14, aR (some (12, s0_14))] m_14 ((j_X12_orders_0_14 m_14 l0_14 l1_14 s0_14 s1_14).bind (fun z => some z)) := by
    intro m_14 l0_14 l1_14 s0_14 s1_14
    unfold j_X12_orders_0_14
    refine s_cI (r_V d_X12_orders_14 k_X12_holds w_1668 rfl rfl) ms_X12_holds (b8 rfl) rfl rfl rfl (fun _ _ _ => rfl) (fun _ _ => Or.inl rfl) fun v3 m2 => (s_if_eq (tgt := 28) d_X12_orders_17 rfl ?_ ?_)
    · exact s_iconst d_X12_orders_28 n_0 (s_iret d_X12_orders_29 rfl rfl)
    exact s_aload_n d_X12_orders_20 m0_ (s_iload_n d_X12_orders_21 m1_ (s_cI (r_V d_X12_orders_22 k_X12_ordersOf w_1992 rfl rfl) ms_X12_ordersOf (b8 rfl) rfl rfl rfl (fun _ _ _ => rfl) (fun _ _ => Or.inl rfl) fun v5 m4 => (s_goto (tgt := 29) d_X12_orders_25 rfl (s_iret d_X12_orders_29 rfl rfl))))
  refine s_aload_n d_X12_orders_0 m0_ (s_aload_n d_X12_orders_1 m0_ (s_iload_n d_X12_orders_2 m1_ (s_pI (r_V d_X12_orders_3 k_X12_isBook w_1747 rfl rfl) ms_X12_isBook (b8 rfl) rfl rfl rfl fun v1 => (s_if_eq (tgt := 13) d_X12_orders_6 rfl ?_ ?_))))
  · exact s_iconst d_X12_orders_13 n_1 (s_sub (subc m0_ (subc m1_ sub0)) (hj_X12_orders_0_14 m l0 l1 l0 1))
  exact s_iconst d_X12_orders_9 n_0 (s_goto (tgt := 14) d_X12_orders_10 rfl (s_sub (subc m0_ (subc m1_ sub0)) (hj_X12_orders_0_14 m l0 l1 l0 0)))
theorem d_X12_ordersAnew_0 : dk me_X12_ordersAnew 0 (.aload_n 0) 1 1 := And.intro (by decide +kernel) rfl
theorem d_X12_ordersAnew_1 : dk me_X12_ordersAnew 1 (.iload_n 1) 1 2 := And.intro (by decide +kernel) rfl
theorem d_X12_ordersAnew_2 : dk me_X12_ordersAnew 2 (.invokevirtual 425) 3 5 := And.intro (by decide +kernel) rfl
theorem d_X12_ordersAnew_5 : dk me_X12_ordersAnew 5 (.ireturn) 1 6 := And.intro (by decide +kernel) rfl
theorem ms_X12_ordersAnew {fx : FX} {m : MM} {l0 : Nat} {l1 : Int} : MS fx me_X12_ordersAnew [aR (some (12, l0)), aI l1] m (f_X12_ordersAnew m l0 l1) := by
  refine ms_of rfl mf_X12_ordersAnew (b8 rfl) ?_
  refine s_top ?_
  show Sim fx me_X12_ordersAnew 0 [(0, aR (some (12, l0))), (1, aI l1)] [] m _
  unfold f_X12_ordersAnew
  exact s_aload_n d_X12_ordersAnew_0 m0_ (s_iload_n d_X12_ordersAnew_1 m1_ (s_cI (r_V d_X12_ordersAnew_2 k_X12_orders w_2004 rfl rfl) ms_X12_orders (b8 rfl) rfl rfl rfl (fun _ _ _ => rfl) (fun _ _ => Or.inl rfl) fun v2 m1 => (s_iret d_X12_ordersAnew_5 rfl rfl)))
theorem d_X12_placeInForme_0 : dk me_X12_placeInForme 0 (.iconst 0) 1 1 := And.intro (by decide +kernel) rfl
theorem d_X12_placeInForme_1 : dk me_X12_placeInForme 1 (.istore_n 3) 1 2 := And.intro (by decide +kernel) rfl
theorem d_X12_placeInForme_2 : dk me_X12_placeInForme 2 (.iconst 0) 1 3 := And.intro (by decide +kernel) rfl
theorem d_X12_placeInForme_3 : dk me_X12_placeInForme 3 (.istore 4) 2 5 := And.intro (by decide +kernel) rfl
theorem d_X12_placeInForme_5 : dk me_X12_placeInForme 5 (.iload 4) 2 7 := And.intro (by decide +kernel) rfl
theorem d_X12_placeInForme_7 : dk me_X12_placeInForme 7 (.iload_n 2) 1 8 := And.intro (by decide +kernel) rfl
theorem d_X12_placeInForme_8 : dk me_X12_placeInForme 8 (.if_icmp .ge 33) 3 11 := And.intro (by decide +kernel) rfl
theorem d_X12_placeInForme_11 : dk me_X12_placeInForme 11 (.iload_n 3) 1 12 := And.intro (by decide +kernel) rfl
theorem d_X12_placeInForme_12 : dk me_X12_placeInForme 12 (.aload_n 0) 1 13 := And.intro (by decide +kernel) rfl
theorem d_X12_placeInForme_13 : dk me_X12_placeInForme 13 (.iload_n 1) 1 14 := And.intro (by decide +kernel) rfl
theorem d_X12_placeInForme_14 : dk me_X12_placeInForme 14 (.iload 4) 2 16 := And.intro (by decide +kernel) rfl
theorem d_X12_placeInForme_16 : dk me_X12_placeInForme 16 (.invokevirtual 360) 3 19 := And.intro (by decide +kernel) rfl
theorem d_X12_placeInForme_19 : dk me_X12_placeInForme 19 (.aload_n 0) 1 20 := And.intro (by decide +kernel) rfl
theorem d_X12_placeInForme_20 : dk me_X12_placeInForme 20 (.iload_n 1) 1 21 := And.intro (by decide +kernel) rfl
theorem d_X12_placeInForme_21 : dk me_X12_placeInForme 21 (.iload_n 2) 1 22 := And.intro (by decide +kernel) rfl
theorem d_X12_placeInForme_22 : dk me_X12_placeInForme 22 (.invokevirtual 360) 3 25 := And.intro (by decide +kernel) rfl
theorem d_X12_placeInForme_25 : dk me_X12_placeInForme 25 (.if_icmp .ne 7) 3 28 := And.intro (by decide +kernel) rfl
theorem d_X12_placeInForme_28 : dk me_X12_placeInForme 28 (.iconst 1) 1 29 := And.intro (by decide +kernel) rfl
theorem d_X12_placeInForme_29 : dk me_X12_placeInForme 29 (.goto 4) 3 32 := And.intro (by decide +kernel) rfl
theorem d_X12_placeInForme_32 : dk me_X12_placeInForme 32 (.iconst 0) 1 33 := And.intro (by decide +kernel) rfl
theorem d_X12_placeInForme_33 : dk me_X12_placeInForme 33 (.iadd) 1 34 := And.intro (by decide +kernel) rfl
theorem d_X12_placeInForme_34 : dk me_X12_placeInForme 34 (.istore_n 3) 1 35 := And.intro (by decide +kernel) rfl
theorem d_X12_placeInForme_35 : dk me_X12_placeInForme 35 (.iinc 4 1) 3 38 := And.intro (by decide +kernel) rfl
theorem d_X12_placeInForme_38 : dk me_X12_placeInForme 38 (.goto (-33)) 3 41 := And.intro (by decide +kernel) rfl
theorem d_X12_placeInForme_41 : dk me_X12_placeInForme 41 (.iload_n 3) 1 42 := And.intro (by decide +kernel) rfl
theorem d_X12_placeInForme_42 : dk me_X12_placeInForme 42 (.ireturn) 1 43 := And.intro (by decide +kernel) rfl
theorem ms_X12_placeInForme {fx : FX} {m : MM} {l0 : Nat} {l1 : Int} {l2 : Int} : MS fx me_X12_placeInForme [aR (some (12, l0)), aI l1, aI l2] m ((f_X12_placeInForme m l0 l1 l2).bind fun v => some (.inl (some (aI v)), m)) := by
  refine ms_of rfl mf_X12_placeInForme (b8 rfl) ?_
  show Sim fx me_X12_placeInForme 0 [(0, aR (some (12, l0))), (1, aI l1), (2, aI l2)] [] m _
  unfold f_X12_placeInForme
  have hj_X12_placeInForme_0_41 : ∀ (l3_41 : Int), Sim fx me_X12_placeInForme 41 [(3, aI l3_41)] [] m ((j_X12_placeInForme_0_41 m l3_41).bind (fun v => some (.inl (some (aI v)), m))) := by
    intro l3_41
    unfold j_X12_placeInForme_0_41
    exact s_iload_n d_X12_placeInForme_41 m0_ (s_iret d_X12_placeInForme_42 rfl rfl)
  refine s_iconst d_X12_placeInForme_0 n_0 (s_istore_n (L' := [(3, aI 0), (0, aR (some (12, l0))), (1, aI l1), (2, aI l2)]) d_X12_placeInForme_1 (b8 rfl) rfl (s_iconst d_X12_placeInForme_2 n_0 (s_istore (L' := [(4, aI 0), (3, aI 0), (0, aR (some (12, l0))), (1, aI l1), (2, aI l2)]) d_X12_placeInForme_3 (b8 rfl) rfl (s_sub (subc m1_ (subc m0_ (subc m2_ (subc m3_ (subc m4_ sub0))))) (s_lp2 (fun s => [(3, aI (s.1)), (4, aI (s.2)), (0, aR (some (12, l0))), (1, aI l1), (2, aI l2)]) (fun s => m) (0, 0) fun k5 hx5 s ih0 => ?_)))))
  obtain ⟨l3_5, l4_5⟩ := s
  have ih5 := ih0
  clear ih0
  try dsimp only
  unfold b_X12_placeInForme_5
  refine s_iload d_X12_placeInForme_5 m1_ (s_iload_n d_X12_placeInForme_7 m4_ (s_icmp_ge (tgt := 41) d_X12_placeInForme_8 rfl ?_ ?_))
  · exact s_exit (hx5 _) (s_sub (subc m0_ sub0) (hj_X12_placeInForme_0_41 l3_5))
  refine s_iload_n d_X12_placeInForme_11 m0_ (s_aload_n d_X12_placeInForme_12 m2_ (s_iload_n d_X12_placeInForme_13 m3_ (s_iload d_X12_placeInForme_14 m1_ (s_pI (r_V d_X12_placeInForme_16 k_X12_formeOf w_1842 rfl rfl) ms_X12_formeOf (b8 rfl) rfl rfl rfl fun v1 => (s_aload_n d_X12_placeInForme_19 m2_ ?_)))))
  refine s_iload_n d_X12_placeInForme_20 m3_ (s_iload_n d_X12_placeInForme_21 m4_ (s_pI (r_V d_X12_placeInForme_22 k_X12_formeOf w_1842 rfl rfl) ms_X12_formeOf (b8 rfl) rfl rfl rfl fun v2 => (s_icmp_ne (tgt := 32) d_X12_placeInForme_25 rfl ?_ ?_)))
  · refine s_iconst d_X12_placeInForme_32 n_0 (s_iadd d_X12_placeInForme_33 rfl rfl (s_ck (s_istore_n (L' := [(3, aI (l3_5 + 0)), (4, aI l4_5), (0, aR (some (12, l0))), (1, aI l1), (2, aI l2)]) d_X12_placeInForme_34 (b8 rfl) rfl (s_iinc (L' := [(4, aI (l4_5 + 1)), (3, aI (l3_5 + 0)), (0, aR (some (12, l0))), (1, aI l1), (2, aI l2)]) d_X12_placeInForme_35 m1_ (b8 rfl) rfl (s_goto (tgt := 5) d_X12_placeInForme_38 rfl ?_)))))
    exact s_sub (subc m1_ (subc m0_ (subc m2_ (subc m3_ (subc m4_ sub0))))) (s_back (ih5 ((l3_5 + 0), (l4_5 + 1))))
  refine s_iconst d_X12_placeInForme_28 n_1 (s_goto (tgt := 33) d_X12_placeInForme_29 rfl (s_iadd d_X12_placeInForme_33 rfl rfl (s_ck (s_istore_n (L' := [(3, aI (l3_5 + 1)), (4, aI l4_5), (0, aR (some (12, l0))), (1, aI l1), (2, aI l2)]) d_X12_placeInForme_34 (b8 rfl) rfl (s_iinc (L' := [(4, aI (l4_5 + 1)), (3, aI (l3_5 + 1)), (0, aR (some (12, l0))), (1, aI l1), (2, aI l2)]) d_X12_placeInForme_35 m1_ (b8 rfl) rfl ?_)))))
  exact s_goto (tgt := 5) d_X12_placeInForme_38 rfl (s_sub (subc m1_ (subc m0_ (subc m2_ (subc m3_ (subc m4_ sub0))))) (s_back (ih5 ((l3_5 + 1), (l4_5 + 1)))))
theorem d_X12_page_0 : dk me_X12_page 0 (.aload_n 0) 1 1 := And.intro (by decide +kernel) rfl
theorem d_X12_page_1 : dk me_X12_page 1 (.aload_n 0) 1 2 := And.intro (by decide +kernel) rfl
theorem d_X12_page_2 : dk me_X12_page 2 (.iload_n 1) 1 3 := And.intro (by decide +kernel) rfl
theorem d_X12_page_3 : dk me_X12_page 3 (.iload_n 2) 1 4 := And.intro (by decide +kernel) rfl
theorem d_X12_page_4 : dk me_X12_page 4 (.invokevirtual 333) 3 7 := And.intro (by decide +kernel) rfl
theorem d_X12_page_7 : dk me_X12_page 7 (.ifCond .ne 7) 3 10 := And.intro (by decide +kernel) rfl
theorem d_X12_page_10 : dk me_X12_page 10 (.iconst 1) 1 11 := And.intro (by decide +kernel) rfl
theorem d_X12_page_11 : dk me_X12_page 11 (.goto 18) 3 14 := And.intro (by decide +kernel) rfl
theorem d_X12_page_14 : dk me_X12_page 14 (.iload_n 3) 1 15 := And.intro (by decide +kernel) rfl
theorem d_X12_page_15 : dk me_X12_page 15 (.iconst 0) 1 16 := And.intro (by decide +kernel) rfl
theorem d_X12_page_16 : dk me_X12_page 16 (.bipush 8) 2 18 := And.intro (by decide +kernel) rfl
theorem d_X12_page_18 : dk me_X12_page 18 (.invokestatic 235) 3 21 := And.intro (by decide +kernel) rfl
theorem d_X12_page_21 : dk me_X12_page 21 (.ifCond .eq 7) 3 24 := And.intro (by decide +kernel) rfl
theorem d_X12_page_24 : dk me_X12_page 24 (.iconst 0) 1 25 := And.intro (by decide +kernel) rfl
theorem d_X12_page_25 : dk me_X12_page 25 (.goto 4) 3 28 := And.intro (by decide +kernel) rfl
theorem d_X12_page_28 : dk me_X12_page 28 (.iconst 2) 1 29 := And.intro (by decide +kernel) rfl
theorem d_X12_page_29 : dk me_X12_page 29 (.invokevirtual 260) 3 32 := And.intro (by decide +kernel) rfl
theorem d_X12_page_32 : dk me_X12_page 32 (.ifCond .ne 5) 3 35 := And.intro (by decide +kernel) rfl
theorem d_X12_page_35 : dk me_X12_page 35 (.iconst 0) 1 36 := And.intro (by decide +kernel) rfl
theorem d_X12_page_36 : dk me_X12_page 36 (.ireturn) 1 37 := And.intro (by decide +kernel) rfl
theorem d_X12_page_37 : dk me_X12_page 37 (.bipush 16) 2 39 := And.intro (by decide +kernel) rfl
theorem d_X12_page_39 : dk me_X12_page 39 (.iload_n 1) 1 40 := And.intro (by decide +kernel) rfl
theorem d_X12_page_40 : dk me_X12_page 40 (.imul) 1 41 := And.intro (by decide +kernel) rfl
theorem d_X12_page_41 : dk me_X12_page 41 (.iload_n 2) 1 42 := And.intro (by decide +kernel) rfl
theorem d_X12_page_42 : dk me_X12_page 42 (.iadd) 1 43 := And.intro (by decide +kernel) rfl
theorem d_X12_page_43 : dk me_X12_page 43 (.istore 4) 2 45 := And.intro (by decide +kernel) rfl
theorem d_X12_page_45 : dk me_X12_page 45 (.aload_n 0) 1 46 := And.intro (by decide +kernel) rfl
theorem d_X12_page_46 : dk me_X12_page 46 (.iload_n 1) 1 47 := And.intro (by decide +kernel) rfl
theorem d_X12_page_47 : dk me_X12_page 47 (.iload_n 2) 1 48 := And.intro (by decide +kernel) rfl
theorem d_X12_page_48 : dk me_X12_page 48 (.invokevirtual 360) 3 51 := And.intro (by decide +kernel) rfl
theorem d_X12_page_51 : dk me_X12_page 51 (.istore 5) 2 53 := And.intro (by decide +kernel) rfl
theorem d_X12_page_53 : dk me_X12_page 53 (.iload_n 3) 1 54 := And.intro (by decide +kernel) rfl
theorem d_X12_page_54 : dk me_X12_page 54 (.ifCond .ne 6) 3 57 := And.intro (by decide +kernel) rfl
theorem d_X12_page_57 : dk me_X12_page 57 (.iload 5) 2 59 := And.intro (by decide +kernel) rfl
theorem d_X12_page_59 : dk me_X12_page 59 (.ireturn) 1 60 := And.intro (by decide +kernel) rfl
theorem d_X12_page_60 : dk me_X12_page 60 (.iload_n 3) 1 61 := And.intro (by decide +kernel) rfl
theorem d_X12_page_61 : dk me_X12_page 61 (.bipush 8) 2 63 := And.intro (by decide +kernel) rfl
theorem d_X12_page_63 : dk me_X12_page 63 (.if_icmp .ne 45) 3 66 := And.intro (by decide +kernel) rfl
theorem d_X12_page_66 : dk me_X12_page 66 (.aload_n 0) 1 67 := And.intro (by decide +kernel) rfl
theorem d_X12_page_67 : dk me_X12_page 67 (.getfield 159) 3 70 := And.intro (by decide +kernel) rfl
theorem d_X12_page_70 : dk me_X12_page 70 (.bipush 8) 2 72 := And.intro (by decide +kernel) rfl
theorem d_X12_page_72 : dk me_X12_page 72 (.iload_n 1) 1 73 := And.intro (by decide +kernel) rfl
theorem d_X12_page_73 : dk me_X12_page 73 (.imul) 1 74 := And.intro (by decide +kernel) rfl
theorem d_X12_page_74 : dk me_X12_page 74 (.iload 5) 2 76 := And.intro (by decide +kernel) rfl
theorem d_X12_page_76 : dk me_X12_page 76 (.iadd) 1 77 := And.intro (by decide +kernel) rfl
theorem d_X12_page_77 : dk me_X12_page 77 (.iaload) 1 78 := And.intro (by decide +kernel) rfl
theorem d_X12_page_78 : dk me_X12_page 78 (.ifCond .ne 7) 3 81 := And.intro (by decide +kernel) rfl
theorem d_X12_page_81 : dk me_X12_page 81 (.iconst (-1)) 1 82 := And.intro (by decide +kernel) rfl
theorem d_X12_page_82 : dk me_X12_page 82 (.goto 25) 3 85 := And.intro (by decide +kernel) rfl
theorem d_X12_page_85 : dk me_X12_page 85 (.bipush 8) 2 87 := And.intro (by decide +kernel) rfl
theorem d_X12_page_87 : dk me_X12_page 87 (.aload_n 0) 1 88 := And.intro (by decide +kernel) rfl
theorem d_X12_page_88 : dk me_X12_page 88 (.getfield 162) 3 91 := And.intro (by decide +kernel) rfl
theorem d_X12_page_91 : dk me_X12_page 91 (.bipush 8) 2 93 := And.intro (by decide +kernel) rfl
theorem d_X12_page_93 : dk me_X12_page 93 (.iload_n 1) 1 94 := And.intro (by decide +kernel) rfl
theorem d_X12_page_94 : dk me_X12_page 94 (.imul) 1 95 := And.intro (by decide +kernel) rfl
theorem d_X12_page_95 : dk me_X12_page 95 (.iload 5) 2 97 := And.intro (by decide +kernel) rfl
theorem d_X12_page_97 : dk me_X12_page 97 (.iadd) 1 98 := And.intro (by decide +kernel) rfl
theorem d_X12_page_98 : dk me_X12_page 98 (.iaload) 1 99 := And.intro (by decide +kernel) rfl
theorem d_X12_page_99 : dk me_X12_page 99 (.imul) 1 100 := And.intro (by decide +kernel) rfl
theorem d_X12_page_100 : dk me_X12_page 100 (.aload_n 0) 1 101 := And.intro (by decide +kernel) rfl
theorem d_X12_page_101 : dk me_X12_page 101 (.iload_n 1) 1 102 := And.intro (by decide +kernel) rfl
theorem d_X12_page_102 : dk me_X12_page 102 (.iload_n 2) 1 103 := And.intro (by decide +kernel) rfl
theorem d_X12_page_103 : dk me_X12_page 103 (.invokevirtual 363) 3 106 := And.intro (by decide +kernel) rfl
theorem d_X12_page_106 : dk me_X12_page 106 (.iadd) 1 107 := And.intro (by decide +kernel) rfl
theorem d_X12_page_107 : dk me_X12_page 107 (.ireturn) 1 108 := And.intro (by decide +kernel) rfl
theorem d_X12_page_108 : dk me_X12_page 108 (.aload_n 0) 1 109 := And.intro (by decide +kernel) rfl
theorem d_X12_page_109 : dk me_X12_page 109 (.getfield 84) 3 112 := And.intro (by decide +kernel) rfl
theorem d_X12_page_112 : dk me_X12_page 112 (.iload 4) 2 114 := And.intro (by decide +kernel) rfl
theorem d_X12_page_114 : dk me_X12_page 114 (.baload) 1 115 := And.intro (by decide +kernel) rfl
theorem d_X12_page_115 : dk me_X12_page 115 (.ifCond .ne 5) 3 118 := And.intro (by decide +kernel) rfl
theorem d_X12_page_118 : dk me_X12_page 118 (.iconst (-1)) 1 119 := And.intro (by decide +kernel) rfl
theorem d_X12_page_119 : dk me_X12_page 119 (.ireturn) 1 120 := And.intro (by decide +kernel) rfl
theorem d_X12_page_120 : dk me_X12_page 120 (.iload_n 3) 1 121 := And.intro (by decide +kernel) rfl
theorem d_X12_page_121 : dk me_X12_page 121 (.iconst 1) 1 122 := And.intro (by decide +kernel) rfl
theorem d_X12_page_122 : dk me_X12_page 122 (.if_icmp .ne 13) 3 125 := And.intro (by decide +kernel) rfl
theorem d_X12_page_125 : dk me_X12_page 125 (.aload_n 0) 1 126 := And.intro (by decide +kernel) rfl
theorem d_X12_page_126 : dk me_X12_page 126 (.getfield 87) 3 129 := And.intro (by decide +kernel) rfl
theorem d_X12_page_129 : dk me_X12_page 129 (.iload 4) 2 131 := And.intro (by decide +kernel) rfl
theorem d_X12_page_131 : dk me_X12_page 131 (.iaload) 1 132 := And.intro (by decide +kernel) rfl
theorem d_X12_page_132 : dk me_X12_page 132 (.goto 86) 3 135 := And.intro (by decide +kernel) rfl
theorem d_X12_page_135 : dk me_X12_page 135 (.iload_n 3) 1 136 := And.intro (by decide +kernel) rfl
theorem d_X12_page_136 : dk me_X12_page 136 (.iconst 2) 1 137 := And.intro (by decide +kernel) rfl
theorem d_X12_page_137 : dk me_X12_page 137 (.if_icmp .ne 13) 3 140 := And.intro (by decide +kernel) rfl
theorem d_X12_page_140 : dk me_X12_page 140 (.aload_n 0) 1 141 := And.intro (by decide +kernel) rfl
theorem d_X12_page_141 : dk me_X12_page 141 (.getfield 102) 3 144 := And.intro (by decide +kernel) rfl
theorem d_X12_page_144 : dk me_X12_page 144 (.iload 4) 2 146 := And.intro (by decide +kernel) rfl
theorem d_X12_page_146 : dk me_X12_page 146 (.iaload) 1 147 := And.intro (by decide +kernel) rfl
theorem d_X12_page_147 : dk me_X12_page 147 (.goto 71) 3 150 := And.intro (by decide +kernel) rfl
theorem d_X12_page_150 : dk me_X12_page 150 (.iload_n 3) 1 151 := And.intro (by decide +kernel) rfl
theorem d_X12_page_151 : dk me_X12_page 151 (.iconst 3) 1 152 := And.intro (by decide +kernel) rfl
theorem d_X12_page_152 : dk me_X12_page 152 (.if_icmp .ne 13) 3 155 := And.intro (by decide +kernel) rfl
theorem d_X12_page_155 : dk me_X12_page 155 (.aload_n 0) 1 156 := And.intro (by decide +kernel) rfl
theorem d_X12_page_156 : dk me_X12_page 156 (.getfield 90) 3 159 := And.intro (by decide +kernel) rfl
theorem d_X12_page_159 : dk me_X12_page 159 (.iload 4) 2 161 := And.intro (by decide +kernel) rfl
theorem d_X12_page_161 : dk me_X12_page 161 (.iaload) 1 162 := And.intro (by decide +kernel) rfl
theorem d_X12_page_162 : dk me_X12_page 162 (.goto 56) 3 165 := And.intro (by decide +kernel) rfl
theorem d_X12_page_165 : dk me_X12_page 165 (.iload_n 3) 1 166 := And.intro (by decide +kernel) rfl
theorem d_X12_page_166 : dk me_X12_page 166 (.iconst 4) 1 167 := And.intro (by decide +kernel) rfl
theorem d_X12_page_167 : dk me_X12_page 167 (.if_icmp .ne 13) 3 170 := And.intro (by decide +kernel) rfl
theorem d_X12_page_170 : dk me_X12_page 170 (.aload_n 0) 1 171 := And.intro (by decide +kernel) rfl
theorem d_X12_page_171 : dk me_X12_page 171 (.getfield 93) 3 174 := And.intro (by decide +kernel) rfl
theorem d_X12_page_174 : dk me_X12_page 174 (.iload 4) 2 176 := And.intro (by decide +kernel) rfl
theorem d_X12_page_176 : dk me_X12_page 176 (.iaload) 1 177 := And.intro (by decide +kernel) rfl
theorem d_X12_page_177 : dk me_X12_page 177 (.goto 41) 3 180 := And.intro (by decide +kernel) rfl
theorem d_X12_page_180 : dk me_X12_page 180 (.iload_n 3) 1 181 := And.intro (by decide +kernel) rfl
theorem d_X12_page_181 : dk me_X12_page 181 (.iconst 5) 1 182 := And.intro (by decide +kernel) rfl
theorem d_X12_page_182 : dk me_X12_page 182 (.if_icmp .ne 13) 3 185 := And.intro (by decide +kernel) rfl
theorem d_X12_page_185 : dk me_X12_page 185 (.aload_n 0) 1 186 := And.intro (by decide +kernel) rfl
theorem d_X12_page_186 : dk me_X12_page 186 (.getfield 96) 3 189 := And.intro (by decide +kernel) rfl
theorem d_X12_page_189 : dk me_X12_page 189 (.iload 4) 2 191 := And.intro (by decide +kernel) rfl
theorem d_X12_page_191 : dk me_X12_page 191 (.iaload) 1 192 := And.intro (by decide +kernel) rfl
theorem d_X12_page_192 : dk me_X12_page 192 (.goto 26) 3 195 := And.intro (by decide +kernel) rfl
theorem d_X12_page_195 : dk me_X12_page 195 (.iload_n 3) 1 196 := And.intro (by decide +kernel) rfl
theorem d_X12_page_196 : dk me_X12_page 196 (.bipush 6) 2 198 := And.intro (by decide +kernel) rfl
theorem d_X12_page_198 : dk me_X12_page 198 (.if_icmp .ne 13) 3 201 := And.intro (by decide +kernel) rfl
theorem d_X12_page_201 : dk me_X12_page 201 (.aload_n 0) 1 202 := And.intro (by decide +kernel) rfl
theorem d_X12_page_202 : dk me_X12_page 202 (.getfield 105) 3 205 := And.intro (by decide +kernel) rfl
theorem d_X12_page_205 : dk me_X12_page 205 (.iload 4) 2 207 := And.intro (by decide +kernel) rfl
theorem d_X12_page_207 : dk me_X12_page 207 (.iaload) 1 208 := And.intro (by decide +kernel) rfl
theorem d_X12_page_208 : dk me_X12_page 208 (.goto 10) 3 211 := And.intro (by decide +kernel) rfl
theorem d_X12_page_211 : dk me_X12_page 211 (.aload_n 0) 1 212 := And.intro (by decide +kernel) rfl
theorem d_X12_page_212 : dk me_X12_page 212 (.getfield 99) 3 215 := And.intro (by decide +kernel) rfl
theorem d_X12_page_215 : dk me_X12_page 215 (.iload 4) 2 217 := And.intro (by decide +kernel) rfl
theorem d_X12_page_217 : dk me_X12_page 217 (.iaload) 1 218 := And.intro (by decide +kernel) rfl
theorem d_X12_page_218 : dk me_X12_page 218 (.ireturn) 1 219 := And.intro (by decide +kernel) rfl
theorem ms_X12_page {fx : FX} {m : MM} {l0 : Nat} {l1 : Int} {l2 : Int} {l3 : Int} : MS fx me_X12_page [aR (some (12, l0)), aI l1, aI l2, aI l3] m (f_X12_page m l0 l1 l2 l3) := by
  refine ms_of rfl mf_X12_page (b8 rfl) ?_
  refine s_top ?_
  show Sim fx me_X12_page 0 [(0, aR (some (12, l0))), (1, aI l1), (2, aI l2), (3, aI l3)] [] m _
  unfold f_X12_page
  have hj_X12_page_0_29 : ∀ (m_29 : MM) (l0_29 : Nat) (l1_29 : Int) (l2_29 : Int) (l3_29 : Int) (s0_29 : Nat) (s1_29 : Int), Sim fx me_X12_page 29 [(0, aR (some (12, l0_29))), (1, aI l1_29), (2, aI l2_29), (3, aI l3_29)] [aI s1_29, aR (some (12, s0_29))] m_29 ((j_X12_page_0_29 m_29 l0_29 l1_29 l2_29 l3_29 s0_29 s1_29).bind (fun z => some z)) := by
    intro m_29 l0_29 l1_29 l2_29 l3_29 s0_29 s1_29
    unfold j_X12_page_0_29
    refine s_cI (r_V d_X12_page_29 k_X12_holds w_1668 rfl rfl) ms_X12_holds (b8 rfl) rfl rfl rfl (fun _ _ _ => rfl) (fun _ _ => Or.inl rfl) fun v4 m3 => (s_if_ne (tgt := 37) d_X12_page_32 rfl ?_ ?_)
    · refine s_bipush d_X12_page_37 n_16 rfl (s_iload_n d_X12_page_39 m1_ (s_imul d_X12_page_40 rfl rfl (s_iload_n d_X12_page_41 m2_ (s_iadd d_X12_page_42 rfl rfl (s_ck ?_)))))
      refine s_istore (L' := [(4, aI ((16 * l1_29) + l2_29)), (0, aR (some (12, l0_29))), (1, aI l1_29), (2, aI l2_29), (3, aI l3_29)]) d_X12_page_43 (b8 rfl) rfl (s_aload_n d_X12_page_45 m1_ (s_iload_n d_X12_page_46 m2_ (s_iload_n d_X12_page_47 m3_ (s_pI (r_V d_X12_page_48 k_X12_formeOf w_1842 rfl rfl) ms_X12_formeOf (b8 rfl) rfl rfl rfl fun v5 => (s_istore (L' := [(5, aI v5), (4, aI ((16 * l1_29) + l2_29)), (0, aR (some (12, l0_29))), (1, aI l1_29), (2, aI l2_29), (3, aI l3_29)]) d_X12_page_51 (b8 rfl) rfl ?_)))))
      refine s_iload_n d_X12_page_53 m5_ (s_if_ne (tgt := 60) d_X12_page_54 rfl ?_ ?_)
      · refine s_iload_n d_X12_page_60 m5_ (s_bipush d_X12_page_61 n_8 rfl (s_icmp_ne (tgt := 108) d_X12_page_63 rfl ?_ ?_))
        · refine s_aload_n d_X12_page_108 m2_ (s_getR cf d_X12_page_109 fl_X12_84 (s_nk fun i6 => (s_iload d_X12_page_112 m1_ (s_ldB d_X12_page_114 ka_83 rfl fun v7 => (s_if_ne (tgt := 120) d_X12_page_115 rfl ?_ ?_)))))
          · refine s_iload_n d_X12_page_120 m5_ (s_iconst d_X12_page_121 n_1 (s_icmp_ne (tgt := 135) d_X12_page_122 rfl ?_ ?_))
            · refine s_iload_n d_X12_page_135 m5_ (s_iconst d_X12_page_136 n_2 (s_icmp_ne (tgt := 150) d_X12_page_137 rfl ?_ ?_))
              · refine s_iload_n d_X12_page_150 m5_ (s_iconst d_X12_page_151 n_3 (s_icmp_ne (tgt := 165) d_X12_page_152 rfl ?_ ?_))
                · refine s_iload_n d_X12_page_165 m5_ (s_iconst d_X12_page_166 n_4 (s_icmp_ne (tgt := 180) d_X12_page_167 rfl ?_ ?_))
                  · refine s_iload_n d_X12_page_180 m5_ (s_iconst d_X12_page_181 n_5 (s_icmp_ne (tgt := 195) d_X12_page_182 rfl ?_ ?_))
                    · refine s_iload_n d_X12_page_195 m5_ (s_bipush d_X12_page_196 n_6 rfl (s_icmp_ne (tgt := 211) d_X12_page_198 rfl ?_ ?_))
                      · exact s_aload_n d_X12_page_211 m2_ (s_getR cf d_X12_page_212 fl_X12_99 (s_nk fun i8 => (s_iload d_X12_page_215 m1_ (s_ldN d_X12_page_217 ka_88 rfl fun v9 => (s_iret d_X12_page_218 rfl rfl)))))
                      refine s_aload_n d_X12_page_201 m2_ (s_getR cf d_X12_page_202 fl_X12_105 (s_nk fun i10 => (s_iload d_X12_page_205 m1_ (s_ldN d_X12_page_207 ka_90 rfl fun v11 => (s_goto (tgt := 218) d_X12_page_208 rfl ?_)))))
                      exact s_iret d_X12_page_218 rfl rfl
                    refine s_aload_n d_X12_page_185 m2_ (s_getR cf d_X12_page_186 fl_X12_96 (s_nk fun i12 => (s_iload d_X12_page_189 m1_ (s_ldN d_X12_page_191 ka_87 rfl fun v13 => (s_goto (tgt := 218) d_X12_page_192 rfl ?_)))))
                    exact s_iret d_X12_page_218 rfl rfl
                  refine s_aload_n d_X12_page_170 m2_ (s_getR cf d_X12_page_171 fl_X12_93 (s_nk fun i14 => (s_iload d_X12_page_174 m1_ (s_ldN d_X12_page_176 ka_86 rfl fun v15 => (s_goto (tgt := 218) d_X12_page_177 rfl ?_)))))
                  exact s_iret d_X12_page_218 rfl rfl
                refine s_aload_n d_X12_page_155 m2_ (s_getR cf d_X12_page_156 fl_X12_90 (s_nk fun i16 => (s_iload d_X12_page_159 m1_ (s_ldN d_X12_page_161 ka_85 rfl fun v17 => (s_goto (tgt := 218) d_X12_page_162 rfl ?_)))))
                exact s_iret d_X12_page_218 rfl rfl
              refine s_aload_n d_X12_page_140 m2_ (s_getR cf d_X12_page_141 fl_X12_102 (s_nk fun i18 => (s_iload d_X12_page_144 m1_ (s_ldN d_X12_page_146 ka_89 rfl fun v19 => (s_goto (tgt := 218) d_X12_page_147 rfl ?_)))))
              exact s_iret d_X12_page_218 rfl rfl
            refine s_aload_n d_X12_page_125 m2_ (s_getR cf d_X12_page_126 fl_X12_87 (s_nk fun i20 => (s_iload d_X12_page_129 m1_ (s_ldN d_X12_page_131 ka_84 rfl fun v21 => (s_goto (tgt := 218) d_X12_page_132 rfl ?_)))))
            exact s_iret d_X12_page_218 rfl rfl
          exact s_iconst d_X12_page_118 n_m1 (s_iret d_X12_page_119 rfl rfl)
        refine s_aload_n d_X12_page_66 m2_ (s_getR cf d_X12_page_67 fl_X12_159 (s_nk fun i22 => (s_bipush d_X12_page_70 n_8 rfl (s_iload_n d_X12_page_72 m3_ (s_imul d_X12_page_73 rfl rfl ?_)))))
        refine s_iload d_X12_page_74 m0_ (s_iadd d_X12_page_76 rfl rfl (s_ldN d_X12_page_77 ka_108 rfl fun v23 => (s_if_ne (tgt := 85) d_X12_page_78 rfl ?_ ?_)))
        · refine s_bipush d_X12_page_85 n_8 rfl (s_aload_n d_X12_page_87 m2_ (s_getR cf d_X12_page_88 fl_X12_162 (s_nk fun i24 => (s_bipush d_X12_page_91 n_8 rfl (s_iload_n d_X12_page_93 m3_ ?_)))))
          refine s_imul d_X12_page_94 rfl rfl (s_iload d_X12_page_95 m0_ (s_iadd d_X12_page_97 rfl rfl (s_ldN d_X12_page_98 ka_109 rfl fun v25 => (s_imul d_X12_page_99 rfl rfl (s_aload_n d_X12_page_100 m2_ ?_)))))
          exact s_iload_n d_X12_page_101 m3_ (s_iload_n d_X12_page_102 m4_ (s_pI (r_V d_X12_page_103 k_X12_placeInForme w_1846 rfl rfl) ms_X12_placeInForme (b8 rfl) rfl rfl rfl fun v26 => (s_iadd d_X12_page_106 rfl rfl (s_ck (s_iret d_X12_page_107 rfl rfl)))))
        exact s_iconst d_X12_page_81 n_m1 (s_goto (tgt := 107) d_X12_page_82 rfl (s_iret d_X12_page_107 rfl rfl))
      exact s_iload d_X12_page_57 m0_ (s_iret d_X12_page_59 rfl rfl)
    exact s_iconst d_X12_page_35 n_0 (s_iret d_X12_page_36 rfl rfl)
  refine s_aload_n d_X12_page_0 m0_ (s_aload_n d_X12_page_1 m0_ (s_iload_n d_X12_page_2 m1_ (s_iload_n d_X12_page_3 m2_ (s_pI (r_V d_X12_page_4 k_X12_isPage w_1779 rfl rfl) ms_X12_isPage (b8 rfl) rfl rfl rfl fun v1 => (s_if_ne (tgt := 14) d_X12_page_7 rfl ?_ ?_)))))
  · refine s_iload_n d_X12_page_14 m3_ (s_iconst d_X12_page_15 n_0 (s_bipush d_X12_page_16 n_8 rfl (s_pI (r_S d_X12_page_18 k_X12_isIn w_1664 rfl rfl) ms_X12_isIn (b8 rfl) rfl rfl rfl fun v2 => (s_if_eq (tgt := 28) d_X12_page_21 rfl ?_ ?_))))
    · exact s_iconst d_X12_page_28 n_2 (s_sub (subc m0_ (subc m1_ (subc m2_ (subc m3_ sub0)))) (hj_X12_page_0_29 m l0 l1 l2 l3 l0 2))
    exact s_iconst d_X12_page_24 n_0 (s_goto (tgt := 29) d_X12_page_25 rfl (s_sub (subc m0_ (subc m1_ (subc m2_ (subc m3_ sub0)))) (hj_X12_page_0_29 m l0 l1 l2 l3 l0 0)))
  exact s_iconst d_X12_page_10 n_1 (s_goto (tgt := 29) d_X12_page_11 rfl (s_sub (subc m0_ (subc m1_ (subc m2_ (subc m3_ sub0)))) (hj_X12_page_0_29 m l0 l1 l2 l3 l0 1)))
theorem d_X12_paper_0 : dk me_X12_paper 0 (.aload_n 0) 1 1 := And.intro (by decide +kernel) rfl
theorem d_X12_paper_1 : dk me_X12_paper 1 (.iload_n 1) 1 2 := And.intro (by decide +kernel) rfl
theorem d_X12_paper_2 : dk me_X12_paper 2 (.iconst 0) 1 3 := And.intro (by decide +kernel) rfl
theorem d_X12_paper_3 : dk me_X12_paper 3 (.iconst 3) 1 4 := And.intro (by decide +kernel) rfl
theorem d_X12_paper_4 : dk me_X12_paper 4 (.invokestatic 235) 3 7 := And.intro (by decide +kernel) rfl
theorem d_X12_paper_7 : dk me_X12_paper 7 (.ifCond .eq 7) 3 10 := And.intro (by decide +kernel) rfl
theorem d_X12_paper_10 : dk me_X12_paper 10 (.iconst 0) 1 11 := And.intro (by decide +kernel) rfl
theorem d_X12_paper_11 : dk me_X12_paper 11 (.goto 4) 3 14 := And.intro (by decide +kernel) rfl
theorem d_X12_paper_14 : dk me_X12_paper 14 (.iconst 1) 1 15 := And.intro (by decide +kernel) rfl
theorem d_X12_paper_15 : dk me_X12_paper 15 (.invokevirtual 260) 3 18 := And.intro (by decide +kernel) rfl
theorem d_X12_paper_18 : dk me_X12_paper 18 (.ifCond .ne 5) 3 21 := And.intro (by decide +kernel) rfl
theorem d_X12_paper_21 : dk me_X12_paper 21 (.iconst 0) 1 22 := And.intro (by decide +kernel) rfl
theorem d_X12_paper_22 : dk me_X12_paper 22 (.ireturn) 1 23 := And.intro (by decide +kernel) rfl
theorem d_X12_paper_23 : dk me_X12_paper 23 (.aload_n 0) 1 24 := And.intro (by decide +kernel) rfl
theorem d_X12_paper_24 : dk me_X12_paper 24 (.iload_n 1) 1 25 := And.intro (by decide +kernel) rfl
theorem d_X12_paper_25 : dk me_X12_paper 25 (.putfield 382) 3 28 := And.intro (by decide +kernel) rfl
theorem d_X12_paper_28 : dk me_X12_paper 28 (.aload_n 0) 1 29 := And.intro (by decide +kernel) rfl
theorem d_X12_paper_29 : dk me_X12_paper 29 (.getfield 210) 3 32 := And.intro (by decide +kernel) rfl
theorem d_X12_paper_32 : dk me_X12_paper 32 (.iload_n 1) 1 33 := And.intro (by decide +kernel) rfl
theorem d_X12_paper_33 : dk me_X12_paper 33 (.iaload) 1 34 := And.intro (by decide +kernel) rfl
theorem d_X12_paper_34 : dk me_X12_paper 34 (.ireturn) 1 35 := And.intro (by decide +kernel) rfl
theorem ms_X12_paper {fx : FX} {m : MM} {l0 : Nat} {l1 : Int} : MS fx me_X12_paper [aR (some (12, l0)), aI l1] m (f_X12_paper m l0 l1) := by
  refine ms_of rfl mf_X12_paper (b8 rfl) ?_
  refine s_top ?_
  show Sim fx me_X12_paper 0 [(0, aR (some (12, l0))), (1, aI l1)] [] m _
  unfold f_X12_paper
  have hj_X12_paper_0_15 : ∀ (m_15 : MM) (l0_15 : Nat) (l1_15 : Int) (s0_15 : Nat) (s1_15 : Int), Sim fx me_X12_paper 15 [(0, aR (some (12, l0_15))), (1, aI l1_15)] [aI s1_15, aR (some (12, s0_15))] m_15 ((j_X12_paper_0_15 m_15 l0_15 l1_15 s0_15 s1_15).bind (fun z => some z)) := by
    intro m_15 l0_15 l1_15 s0_15 s1_15
    unfold j_X12_paper_0_15
    refine s_cI (r_V d_X12_paper_15 k_X12_holds w_1668 rfl rfl) ms_X12_holds (b8 rfl) rfl rfl rfl (fun _ _ _ => rfl) (fun _ _ => Or.inl rfl) fun v3 m2 => (s_if_ne (tgt := 23) d_X12_paper_18 rfl ?_ ?_)
    · refine s_aload_n d_X12_paper_23 m0_ (s_iload_n d_X12_paper_24 m1_ (s_putN cf d_X12_paper_25 fl_X12_382 (fun h => by cases h) fun m4 => (s_aload_n d_X12_paper_28 m0_ (s_getR cf d_X12_paper_29 fl_X12_210 (s_nk fun i5 => ?_)))))
      exact s_iload_n d_X12_paper_32 m1_ (s_ldN d_X12_paper_33 ka_125 rfl fun v6 => (s_iret d_X12_paper_34 rfl rfl))
    exact s_iconst d_X12_paper_21 n_0 (s_iret d_X12_paper_22 rfl rfl)
  refine s_aload_n d_X12_paper_0 m0_ (s_iload_n d_X12_paper_1 m1_ (s_iconst d_X12_paper_2 n_0 (s_iconst d_X12_paper_3 n_3 (s_pI (r_S d_X12_paper_4 k_X12_isIn w_1664 rfl rfl) ms_X12_isIn (b8 rfl) rfl rfl rfl fun v1 => (s_if_eq (tgt := 14) d_X12_paper_7 rfl ?_ ?_)))))
  · exact s_iconst d_X12_paper_14 n_1 (s_sub (subc m0_ (subc m1_ sub0)) (hj_X12_paper_0_15 m l0 l1 l0 1))
  exact s_iconst d_X12_paper_10 n_0 (s_goto (tgt := 15) d_X12_paper_11 rfl (s_sub (subc m0_ (subc m1_ sub0)) (hj_X12_paper_0_15 m l0 l1 l0 0)))
theorem d_X12_isHoliday_0 : dk me_X12_isHoliday 0 (.iload_n 0) 1 1 := And.intro (by decide +kernel) rfl
theorem d_X12_isHoliday_1 : dk me_X12_isHoliday 1 (.bipush 10) 2 3 := And.intro (by decide +kernel) rfl
theorem d_X12_isHoliday_3 : dk me_X12_isHoliday 3 (.idiv) 1 4 := And.intro (by decide +kernel) rfl
theorem d_X12_isHoliday_4 : dk me_X12_isHoliday 4 (.bipush 7) 2 6 := And.intro (by decide +kernel) rfl
theorem d_X12_isHoliday_6 : dk me_X12_isHoliday 6 (.irem) 1 7 := And.intro (by decide +kernel) rfl
theorem d_X12_isHoliday_7 : dk me_X12_isHoliday 7 (.bipush 6) 2 9 := And.intro (by decide +kernel) rfl
theorem d_X12_isHoliday_9 : dk me_X12_isHoliday 9 (.if_icmp .ne 7) 3 12 := And.intro (by decide +kernel) rfl
theorem d_X12_isHoliday_12 : dk me_X12_isHoliday 12 (.iconst 1) 1 13 := And.intro (by decide +kernel) rfl
theorem d_X12_isHoliday_13 : dk me_X12_isHoliday 13 (.goto 4) 3 16 := And.intro (by decide +kernel) rfl
theorem d_X12_isHoliday_16 : dk me_X12_isHoliday 16 (.iconst 0) 1 17 := And.intro (by decide +kernel) rfl
theorem d_X12_isHoliday_17 : dk me_X12_isHoliday 17 (.ireturn) 1 18 := And.intro (by decide +kernel) rfl
theorem ms_X12_isHoliday {fx : FX} {m : MM} {l0 : Int} : MS fx me_X12_isHoliday [aI l0] m ((f_X12_isHoliday m l0).bind fun v => some (.inl (some (aI v)), m)) := by
  refine ms_of rfl mf_X12_isHoliday (b8 rfl) ?_
  show Sim fx me_X12_isHoliday 0 [(0, aI l0)] [] m _
  unfold f_X12_isHoliday
  refine s_iload_n d_X12_isHoliday_0 m0_ (s_bipush d_X12_isHoliday_1 n_10 rfl (s_idiv d_X12_isHoliday_3 (s_bipush d_X12_isHoliday_4 n_7 rfl (s_irem d_X12_isHoliday_6 (s_bipush d_X12_isHoliday_7 n_6 rfl ?_)))))
  refine s_icmp_ne (tgt := 16) d_X12_isHoliday_9 rfl ?_ ?_
  · exact s_iconst d_X12_isHoliday_16 n_0 (s_zretl d_X12_isHoliday_17 rfl (by decide) rfl)
  exact s_iconst d_X12_isHoliday_12 n_1 (s_goto (tgt := 17) d_X12_isHoliday_13 rfl (s_zretl d_X12_isHoliday_17 rfl (by decide) rfl))
theorem d_X12_keeps_0 : dk me_X12_keeps 0 (.iconst 0) 1 1 := And.intro (by decide +kernel) rfl
theorem d_X12_keeps_1 : dk me_X12_keeps 1 (.istore_n 3) 1 2 := And.intro (by decide +kernel) rfl
theorem d_X12_keeps_2 : dk me_X12_keeps 2 (.iload_n 3) 1 3 := And.intro (by decide +kernel) rfl
theorem d_X12_keeps_3 : dk me_X12_keeps 3 (.aload_n 0) 1 4 := And.intro (by decide +kernel) rfl
theorem d_X12_keeps_4 : dk me_X12_keeps 4 (.iload_n 1) 1 5 := And.intro (by decide +kernel) rfl
theorem d_X12_keeps_5 : dk me_X12_keeps 5 (.invokevirtual 243) 3 8 := And.intro (by decide +kernel) rfl
theorem d_X12_keeps_8 : dk me_X12_keeps 8 (.if_icmp .ge 108) 3 11 := And.intro (by decide +kernel) rfl
theorem d_X12_keeps_11 : dk me_X12_keeps 11 (.bipush 16) 2 13 := And.intro (by decide +kernel) rfl
theorem d_X12_keeps_13 : dk me_X12_keeps 13 (.iload_n 1) 1 14 := And.intro (by decide +kernel) rfl
theorem d_X12_keeps_14 : dk me_X12_keeps 14 (.imul) 1 15 := And.intro (by decide +kernel) rfl
theorem d_X12_keeps_15 : dk me_X12_keeps 15 (.iload_n 3) 1 16 := And.intro (by decide +kernel) rfl
theorem d_X12_keeps_16 : dk me_X12_keeps 16 (.iadd) 1 17 := And.intro (by decide +kernel) rfl
theorem d_X12_keeps_17 : dk me_X12_keeps 17 (.istore 4) 2 19 := And.intro (by decide +kernel) rfl
theorem d_X12_keeps_19 : dk me_X12_keeps 19 (.sipush 150) 3 22 := And.intro (by decide +kernel) rfl
theorem d_X12_keeps_22 : dk me_X12_keeps 22 (.iload 4) 2 24 := And.intro (by decide +kernel) rfl
theorem d_X12_keeps_24 : dk me_X12_keeps 24 (.imul) 1 25 := And.intro (by decide +kernel) rfl
theorem d_X12_keeps_25 : dk me_X12_keeps 25 (.istore 5) 2 27 := And.intro (by decide +kernel) rfl
theorem d_X12_keeps_27 : dk me_X12_keeps 27 (.iload 5) 2 29 := And.intro (by decide +kernel) rfl
theorem d_X12_keeps_29 : dk me_X12_keeps 29 (.sipush 150) 3 32 := And.intro (by decide +kernel) rfl
theorem d_X12_keeps_32 : dk me_X12_keeps 32 (.iload 4) 2 34 := And.intro (by decide +kernel) rfl
theorem d_X12_keeps_34 : dk me_X12_keeps 34 (.imul) 1 35 := And.intro (by decide +kernel) rfl
theorem d_X12_keeps_35 : dk me_X12_keeps 35 (.aload_n 0) 1 36 := And.intro (by decide +kernel) rfl
theorem d_X12_keeps_36 : dk me_X12_keeps 36 (.getfield 105) 3 39 := And.intro (by decide +kernel) rfl
theorem d_X12_keeps_39 : dk me_X12_keeps 39 (.iload 4) 2 41 := And.intro (by decide +kernel) rfl
theorem d_X12_keeps_41 : dk me_X12_keeps 41 (.iaload) 1 42 := And.intro (by decide +kernel) rfl
theorem d_X12_keeps_42 : dk me_X12_keeps 42 (.iadd) 1 43 := And.intro (by decide +kernel) rfl
theorem d_X12_keeps_43 : dk me_X12_keeps 43 (.if_icmp .ge 67) 3 46 := And.intro (by decide +kernel) rfl
theorem d_X12_keeps_46 : dk me_X12_keeps 46 (.aload_n 0) 1 47 := And.intro (by decide +kernel) rfl
theorem d_X12_keeps_47 : dk me_X12_keeps 47 (.iload_n 1) 1 48 := And.intro (by decide +kernel) rfl
theorem d_X12_keeps_48 : dk me_X12_keeps 48 (.iload_n 3) 1 49 := And.intro (by decide +kernel) rfl
theorem d_X12_keeps_49 : dk me_X12_keeps 49 (.invokevirtual 360) 3 52 := And.intro (by decide +kernel) rfl
theorem d_X12_keeps_52 : dk me_X12_keeps 52 (.iload_n 2) 1 53 := And.intro (by decide +kernel) rfl
theorem d_X12_keeps_53 : dk me_X12_keeps 53 (.if_icmp .ne 57) 3 56 := And.intro (by decide +kernel) rfl
theorem d_X12_keeps_56 : dk me_X12_keeps 56 (.aload_n 0) 1 57 := And.intro (by decide +kernel) rfl
theorem d_X12_keeps_57 : dk me_X12_keeps 57 (.getfield 144) 3 60 := And.intro (by decide +kernel) rfl
theorem d_X12_keeps_60 : dk me_X12_keeps 60 (.iload 5) 2 62 := And.intro (by decide +kernel) rfl
theorem d_X12_keeps_62 : dk me_X12_keeps 62 (.aload_n 0) 1 63 := And.intro (by decide +kernel) rfl
theorem d_X12_keeps_63 : dk me_X12_keeps 63 (.getfield 135) 3 66 := And.intro (by decide +kernel) rfl
theorem d_X12_keeps_66 : dk me_X12_keeps 66 (.iload 5) 2 68 := And.intro (by decide +kernel) rfl
theorem d_X12_keeps_68 : dk me_X12_keeps 68 (.iaload) 1 69 := And.intro (by decide +kernel) rfl
theorem d_X12_keeps_69 : dk me_X12_keeps 69 (.iastore) 1 70 := And.intro (by decide +kernel) rfl
theorem d_X12_keeps_70 : dk me_X12_keeps 70 (.aload_n 0) 1 71 := And.intro (by decide +kernel) rfl
theorem d_X12_keeps_71 : dk me_X12_keeps 71 (.getfield 147) 3 74 := And.intro (by decide +kernel) rfl
theorem d_X12_keeps_74 : dk me_X12_keeps 74 (.iload 5) 2 76 := And.intro (by decide +kernel) rfl
theorem d_X12_keeps_76 : dk me_X12_keeps 76 (.aload_n 0) 1 77 := And.intro (by decide +kernel) rfl
theorem d_X12_keeps_77 : dk me_X12_keeps 77 (.getfield 135) 3 80 := And.intro (by decide +kernel) rfl
theorem d_X12_keeps_80 : dk me_X12_keeps 80 (.iload 5) 2 82 := And.intro (by decide +kernel) rfl
theorem d_X12_keeps_82 : dk me_X12_keeps 82 (.iaload) 1 83 := And.intro (by decide +kernel) rfl
theorem d_X12_keeps_83 : dk me_X12_keeps 83 (.iconst (-1)) 1 84 := And.intro (by decide +kernel) rfl
theorem d_X12_keeps_84 : dk me_X12_keeps 84 (.if_icmp .ne 7) 3 87 := And.intro (by decide +kernel) rfl
theorem d_X12_keeps_87 : dk me_X12_keeps 87 (.iconst 0) 1 88 := And.intro (by decide +kernel) rfl
theorem d_X12_keeps_88 : dk me_X12_keeps 88 (.goto 15) 3 91 := And.intro (by decide +kernel) rfl
theorem d_X12_keeps_91 : dk me_X12_keeps 91 (.aload_n 0) 1 92 := And.intro (by decide +kernel) rfl
theorem d_X12_keeps_92 : dk me_X12_keeps 92 (.getfield 23) 3 95 := And.intro (by decide +kernel) rfl
theorem d_X12_keeps_95 : dk me_X12_keeps 95 (.aload_n 0) 1 96 := And.intro (by decide +kernel) rfl
theorem d_X12_keeps_96 : dk me_X12_keeps 96 (.getfield 135) 3 99 := And.intro (by decide +kernel) rfl
theorem d_X12_keeps_99 : dk me_X12_keeps 99 (.iload 5) 2 101 := And.intro (by decide +kernel) rfl
theorem d_X12_keeps_101 : dk me_X12_keeps 101 (.iaload) 1 102 := And.intro (by decide +kernel) rfl
theorem d_X12_keeps_102 : dk me_X12_keeps 102 (.iaload) 1 103 := And.intro (by decide +kernel) rfl
theorem d_X12_keeps_103 : dk me_X12_keeps 103 (.iastore) 1 104 := And.intro (by decide +kernel) rfl
theorem d_X12_keeps_104 : dk me_X12_keeps 104 (.iinc 5 1) 3 107 := And.intro (by decide +kernel) rfl
theorem d_X12_keeps_107 : dk me_X12_keeps 107 (.goto (-80)) 3 110 := And.intro (by decide +kernel) rfl
theorem d_X12_keeps_110 : dk me_X12_keeps 110 (.iinc 3 1) 3 113 := And.intro (by decide +kernel) rfl
theorem d_X12_keeps_113 : dk me_X12_keeps 113 (.goto (-111)) 3 116 := And.intro (by decide +kernel) rfl
theorem d_X12_keeps_116 : dk me_X12_keeps 116 (.return_) 1 117 := And.intro (by decide +kernel) rfl
theorem ms_X12_keeps {fx : FX} {m : MM} {l0 : Nat} {l1 : Int} {l2 : Int} : MS fx me_X12_keeps [aR (some (12, l0)), aI l1, aI l2] m (f_X12_keeps m l0 l1 l2) := by
  refine ms_of rfl mf_X12_keeps (b8 rfl) ?_
  refine s_top ?_
  show Sim fx me_X12_keeps 0 [(0, aR (some (12, l0))), (1, aI l1), (2, aI l2)] [] m _
  unfold f_X12_keeps
  have hj_X12_keeps_0_116 : ∀ (m_116 : MM), Sim fx me_X12_keeps 116 [] [] m_116 ((j_X12_keeps_0_116 m_116).bind (fun z => some z)) := by
    intro m_116
    unfold j_X12_keeps_0_116
    exact s_vret d_X12_keeps_116 rfl rfl
  refine s_iconst d_X12_keeps_0 n_0 (s_istore_n (L' := [(3, aI 0), (0, aR (some (12, l0))), (1, aI l1), (2, aI l2)]) d_X12_keeps_1 (b8 rfl) rfl (s_sub (subc m0_ (subc m1_ (subc m2_ (subc m3_ sub0)))) (s_lp2 (fun s => [(3, aI (s.1)), (0, aR (some (12, l0))), (1, aI l1), (2, aI l2)]) (fun s => s.2) (0, m) fun k2 hx2 s ih0 => ?_)))
  obtain ⟨l3_2, mm_2⟩ := s
  have ih2 := ih0
  clear ih0
  try dsimp only
  unfold b_X12_keeps_2
  have hj_X12_keeps_2_110 : ∀ (m_110 : MM) (l3_110 : Int), Sim fx me_X12_keeps 110 [(0, aR (some (12, l0))), (1, aI l1), (2, aI l2), (3, aI l3_110)] [] m_110 ((j_X12_keeps_2_110 m_110 l0 l1 l2 l3_110).bind k2) := by
    intro m_110 l3_110
    unfold j_X12_keeps_2_110
    exact s_iinc (L' := [(3, aI (l3_110 + 1)), (0, aR (some (12, l0))), (1, aI l1), (2, aI l2)]) d_X12_keeps_110 m3_ (b8 rfl) rfl (s_goto (tgt := 2) d_X12_keeps_113 rfl (s_sub (subc m0_ (subc m1_ (subc m2_ (subc m3_ sub0)))) (s_back (ih2 ((l3_110 + 1), m_110)))))
  refine s_iload_n d_X12_keeps_2 m0_ (s_aload_n d_X12_keeps_3 m1_ (s_iload_n d_X12_keeps_4 m2_ (s_pI (r_V d_X12_keeps_5 k_X12_pagesOf w_1755 rfl rfl) ms_X12_pagesOf (b8 rfl) rfl rfl rfl fun v1 => (s_icmp_ge (tgt := 116) d_X12_keeps_8 rfl ?_ ?_))))
  · exact s_exit (hx2 _) (s_sub (sub0) (hj_X12_keeps_0_116 mm_2))
  refine s_bipush d_X12_keeps_11 n_16 rfl (s_iload_n d_X12_keeps_13 m2_ (s_imul d_X12_keeps_14 rfl rfl (s_iload_n d_X12_keeps_15 m0_ (s_iadd d_X12_keeps_16 rfl rfl (s_ck ?_)))))
  refine s_istore (L' := [(4, aI ((16 * l1) + l3_2)), (3, aI l3_2), (0, aR (some (12, l0))), (1, aI l1), (2, aI l2)]) d_X12_keeps_17 (b8 rfl) rfl (s_sipush d_X12_keeps_19 n_150 rfl (s_iload d_X12_keeps_22 m0_ (s_imul d_X12_keeps_24 rfl rfl (s_ck (s_istore (L' := [(5, aI (150 * ((16 * l1) + l3_2))), (4, aI ((16 * l1) + l3_2)), (3, aI l3_2), (0, aR (some (12, l0))), (1, aI l1), (2, aI l2)]) d_X12_keeps_25 (b8 rfl) rfl ?_)))))
  refine s_sub (subc m0_ (subc m3_ (subc m4_ (subc m5_ (subc m2_ (subc m1_ sub0)))))) (s_lp2 (fun s => [(5, aI (s.1)), (0, aR (some (12, l0))), (1, aI l1), (2, aI l2), (3, aI l3_2), (4, aI ((16 * l1) + l3_2))]) (fun s => s.2) ((150 * ((16 * l1) + l3_2)), mm_2) fun k27 hx27 s ih0 => ?_)
  obtain ⟨l5_27, mm_27⟩ := s
  have ih27 := ih0
  clear ih0
  try dsimp only
  unfold b_X12_keeps_27
  have hj_X12_keeps_27_103 : ∀ (m_103 : MM) (l5_103 : Int) (s0_103 : Nat) (s1_103 : Int) (s2_103 : Int), Sim fx me_X12_keeps 103 [(0, aR (some (12, l0))), (1, aI l1), (2, aI l2), (3, aI l3_2), (4, aI ((16 * l1) + l3_2)), (5, aI l5_103)] [aI s2_103, aI s1_103, aR (some (104, s0_103))] m_103 ((j_X12_keeps_27_103 m_103 l0 l1 l2 l3_2 ((16 * l1) + l3_2) l5_103 s0_103 s1_103 s2_103).bind k27) := by
    intro m_103 l5_103 s0_103 s1_103 s2_103
    unfold j_X12_keeps_27_103
    exact s_stN d_X12_keeps_103 ka_104 rfl fun m16 => (s_iinc (L' := [(5, aI (l5_103 + 1)), (0, aR (some (12, l0))), (1, aI l1), (2, aI l2), (3, aI l3_2), (4, aI ((16 * l1) + l3_2))]) d_X12_keeps_104 m5_ (b8 rfl) rfl (s_goto (tgt := 27) d_X12_keeps_107 rfl (s_sub (subc m0_ (subc m1_ (subc m2_ (subc m3_ (subc m4_ (subc m5_ sub0)))))) (s_back (ih27 ((l5_103 + 1), m16))))))
  refine s_iload d_X12_keeps_27 m0_ (s_sipush d_X12_keeps_29 n_150 rfl (s_iload d_X12_keeps_32 m5_ (s_imul d_X12_keeps_34 rfl rfl (s_aload_n d_X12_keeps_35 m1_ (s_getR cf d_X12_keeps_36 fl_X12_105 ?_)))))
  refine s_nk fun i2 => (s_iload d_X12_keeps_39 m5_ (s_ldN d_X12_keeps_41 ka_90 rfl fun v3 => (s_iadd d_X12_keeps_42 rfl rfl (s_ck (s_icmp_ge (tgt := 110) d_X12_keeps_43 rfl ?_ ?_)))))
  · exact s_exit (hx27 _) (s_sub (subc m1_ (subc m2_ (subc m3_ (subc m4_ sub0)))) (hj_X12_keeps_2_110 mm_27 l3_2))
  refine s_aload_n d_X12_keeps_46 m1_ (s_iload_n d_X12_keeps_47 m2_ (s_iload_n d_X12_keeps_48 m4_ (s_pI (r_V d_X12_keeps_49 k_X12_formeOf w_1842 rfl rfl) ms_X12_formeOf (b8 rfl) rfl rfl rfl fun v4 => (s_iload_n d_X12_keeps_52 m3_ (s_icmp_ne (tgt := 110) d_X12_keeps_53 rfl ?_ ?_)))))
  · exact s_exit (hx27 _) (s_sub (subc m1_ (subc m2_ (subc m3_ (subc m4_ sub0)))) (hj_X12_keeps_2_110 mm_27 l3_2))
  refine s_aload_n d_X12_keeps_56 m1_ (s_getR cf d_X12_keeps_57 fl_X12_144 (s_nk fun i5 => (s_iload d_X12_keeps_60 m0_ (s_aload_n d_X12_keeps_62 m1_ (s_getR cf d_X12_keeps_63 fl_X12_135 ?_)))))
  refine s_nk fun i6 => (s_iload d_X12_keeps_66 m0_ (s_ldN d_X12_keeps_68 ka_100 rfl fun v7 => (s_stN d_X12_keeps_69 ka_103 rfl fun m8 => (s_aload_n d_X12_keeps_70 m1_ (s_getR cf d_X12_keeps_71 fl_X12_147 ?_)))))
  refine s_nk fun i9 => (s_iload d_X12_keeps_74 m0_ (s_aload_n d_X12_keeps_76 m1_ (s_getR cf d_X12_keeps_77 fl_X12_135 (s_nk fun i10 => (s_iload d_X12_keeps_80 m0_ ?_)))))
  refine s_ldN d_X12_keeps_82 ka_100 rfl fun v11 => (s_iconst d_X12_keeps_83 n_m1 (s_icmp_ne (tgt := 91) d_X12_keeps_84 rfl ?_ ?_))
  · refine s_aload_n d_X12_keeps_91 m1_ (s_getR cf d_X12_keeps_92 fl_X12_23 (s_nk fun i12 => (s_aload_n d_X12_keeps_95 m1_ (s_getR cf d_X12_keeps_96 fl_X12_135 (s_nk fun i13 => ?_)))))
    exact s_iload d_X12_keeps_99 m0_ (s_ldN d_X12_keeps_101 ka_100 rfl fun v14 => (s_ldN d_X12_keeps_102 ka_63 rfl fun v15 => (s_sub (subc m1_ (subc m2_ (subc m3_ (subc m4_ (subc m5_ (subc m0_ sub0)))))) (hj_X12_keeps_27_103 m8 l5_27 i9 l5_27 v15))))
  exact s_iconst d_X12_keeps_87 n_0 (s_goto (tgt := 103) d_X12_keeps_88 rfl (s_sub (subc m1_ (subc m2_ (subc m3_ (subc m4_ (subc m5_ (subc m0_ sub0)))))) (hj_X12_keeps_27_103 m8 l5_27 i9 l5_27 0)))
theorem d_X12_works_0 : dk me_X12_works 0 (.aload_n 0) 1 1 := And.intro (by decide +kernel) rfl
theorem d_X12_works_1 : dk me_X12_works 1 (.getfield 201) 3 4 := And.intro (by decide +kernel) rfl
theorem d_X12_works_4 : dk me_X12_works 4 (.iload_n 1) 1 5 := And.intro (by decide +kernel) rfl
theorem d_X12_works_5 : dk me_X12_works 5 (.iaload) 1 6 := And.intro (by decide +kernel) rfl
theorem d_X12_works_6 : dk me_X12_works 6 (.istore_n 2) 1 7 := And.intro (by decide +kernel) rfl
theorem d_X12_works_7 : dk me_X12_works 7 (.iload_n 2) 1 8 := And.intro (by decide +kernel) rfl
theorem d_X12_works_8 : dk me_X12_works 8 (.iconst (-1)) 1 9 := And.intro (by decide +kernel) rfl
theorem d_X12_works_9 : dk me_X12_works 9 (.if_icmp .eq 12) 3 12 := And.intro (by decide +kernel) rfl
theorem d_X12_works_12 : dk me_X12_works 12 (.aload_n 0) 1 13 := And.intro (by decide +kernel) rfl
theorem d_X12_works_13 : dk me_X12_works 13 (.getfield 198) 3 16 := And.intro (by decide +kernel) rfl
theorem d_X12_works_16 : dk me_X12_works 16 (.iload_n 1) 1 17 := And.intro (by decide +kernel) rfl
theorem d_X12_works_17 : dk me_X12_works 17 (.iaload) 1 18 := And.intro (by decide +kernel) rfl
theorem d_X12_works_18 : dk me_X12_works 18 (.ifCond .ne 5) 3 21 := And.intro (by decide +kernel) rfl
theorem d_X12_works_21 : dk me_X12_works 21 (.iconst 0) 1 22 := And.intro (by decide +kernel) rfl
theorem d_X12_works_22 : dk me_X12_works 22 (.ireturn) 1 23 := And.intro (by decide +kernel) rfl
theorem d_X12_works_23 : dk me_X12_works 23 (.iload_n 2) 1 24 := And.intro (by decide +kernel) rfl
theorem d_X12_works_24 : dk me_X12_works 24 (.bipush 8) 2 26 := And.intro (by decide +kernel) rfl
theorem d_X12_works_26 : dk me_X12_works 26 (.idiv) 1 27 := And.intro (by decide +kernel) rfl
theorem d_X12_works_27 : dk me_X12_works 27 (.istore_n 3) 1 28 := And.intro (by decide +kernel) rfl
theorem d_X12_works_28 : dk me_X12_works 28 (.aload_n 0) 1 29 := And.intro (by decide +kernel) rfl
theorem d_X12_works_29 : dk me_X12_works 29 (.getfield 207) 3 32 := And.intro (by decide +kernel) rfl
theorem d_X12_works_32 : dk me_X12_works 32 (.iload_n 1) 1 33 := And.intro (by decide +kernel) rfl
theorem d_X12_works_33 : dk me_X12_works 33 (.dup2) 1 34 := And.intro (by decide +kernel) rfl
theorem d_X12_works_34 : dk me_X12_works 34 (.iaload) 1 35 := And.intro (by decide +kernel) rfl
theorem d_X12_works_35 : dk me_X12_works 35 (.iconst 1) 1 36 := And.intro (by decide +kernel) rfl
theorem d_X12_works_36 : dk me_X12_works 36 (.iadd) 1 37 := And.intro (by decide +kernel) rfl
theorem d_X12_works_37 : dk me_X12_works 37 (.iastore) 1 38 := And.intro (by decide +kernel) rfl
theorem d_X12_works_38 : dk me_X12_works 38 (.aload_n 0) 1 39 := And.intro (by decide +kernel) rfl
theorem d_X12_works_39 : dk me_X12_works 39 (.getfield 180) 3 42 := And.intro (by decide +kernel) rfl
theorem d_X12_works_42 : dk me_X12_works 42 (.iload_n 2) 1 43 := And.intro (by decide +kernel) rfl
theorem d_X12_works_43 : dk me_X12_works 43 (.baload) 1 44 := And.intro (by decide +kernel) rfl
theorem d_X12_works_44 : dk me_X12_works 44 (.ifCond .ne 12) 3 47 := And.intro (by decide +kernel) rfl
theorem d_X12_works_47 : dk me_X12_works 47 (.aload_n 0) 1 48 := And.intro (by decide +kernel) rfl
theorem d_X12_works_48 : dk me_X12_works 48 (.getfield 180) 3 51 := And.intro (by decide +kernel) rfl
theorem d_X12_works_51 : dk me_X12_works 51 (.iload_n 2) 1 52 := And.intro (by decide +kernel) rfl
theorem d_X12_works_52 : dk me_X12_works 52 (.iconst 1) 1 53 := And.intro (by decide +kernel) rfl
theorem d_X12_works_53 : dk me_X12_works 53 (.bastore) 1 54 := And.intro (by decide +kernel) rfl
theorem d_X12_works_54 : dk me_X12_works 54 (.iconst 0) 1 55 := And.intro (by decide +kernel) rfl
theorem d_X12_works_55 : dk me_X12_works 55 (.ireturn) 1 56 := And.intro (by decide +kernel) rfl
theorem d_X12_works_56 : dk me_X12_works 56 (.aload_n 0) 1 57 := And.intro (by decide +kernel) rfl
theorem d_X12_works_57 : dk me_X12_works 57 (.getfield 65) 3 60 := And.intro (by decide +kernel) rfl
theorem d_X12_works_60 : dk me_X12_works 60 (.iload_n 3) 1 61 := And.intro (by decide +kernel) rfl
theorem d_X12_works_61 : dk me_X12_works 61 (.iaload) 1 62 := And.intro (by decide +kernel) rfl
theorem d_X12_works_62 : dk me_X12_works 62 (.aload_n 0) 1 63 := And.intro (by decide +kernel) rfl
theorem d_X12_works_63 : dk me_X12_works 63 (.getfield 165) 3 66 := And.intro (by decide +kernel) rfl
theorem d_X12_works_66 : dk me_X12_works 66 (.iload_n 2) 1 67 := And.intro (by decide +kernel) rfl
theorem d_X12_works_67 : dk me_X12_works 67 (.iaload) 1 68 := And.intro (by decide +kernel) rfl
theorem d_X12_works_68 : dk me_X12_works 68 (.isub) 1 69 := And.intro (by decide +kernel) rfl
theorem d_X12_works_69 : dk me_X12_works 69 (.istore 4) 2 71 := And.intro (by decide +kernel) rfl
theorem d_X12_works_71 : dk me_X12_works 71 (.aload_n 0) 1 72 := And.intro (by decide +kernel) rfl
theorem d_X12_works_72 : dk me_X12_works 72 (.getfield 198) 3 75 := And.intro (by decide +kernel) rfl
theorem d_X12_works_75 : dk me_X12_works 75 (.iload_n 1) 1 76 := And.intro (by decide +kernel) rfl
theorem d_X12_works_76 : dk me_X12_works 76 (.iaload) 1 77 := And.intro (by decide +kernel) rfl
theorem d_X12_works_77 : dk me_X12_works 77 (.iload 4) 2 79 := And.intro (by decide +kernel) rfl
theorem d_X12_works_79 : dk me_X12_works 79 (.if_icmp .ge 12) 3 82 := And.intro (by decide +kernel) rfl
theorem d_X12_works_82 : dk me_X12_works 82 (.aload_n 0) 1 83 := And.intro (by decide +kernel) rfl
theorem d_X12_works_83 : dk me_X12_works 83 (.getfield 198) 3 86 := And.intro (by decide +kernel) rfl
theorem d_X12_works_86 : dk me_X12_works 86 (.iload_n 1) 1 87 := And.intro (by decide +kernel) rfl
theorem d_X12_works_87 : dk me_X12_works 87 (.iaload) 1 88 := And.intro (by decide +kernel) rfl
theorem d_X12_works_88 : dk me_X12_works 88 (.goto 5) 3 91 := And.intro (by decide +kernel) rfl
theorem d_X12_works_91 : dk me_X12_works 91 (.iload 4) 2 93 := And.intro (by decide +kernel) rfl
theorem d_X12_works_93 : dk me_X12_works 93 (.istore 5) 2 95 := And.intro (by decide +kernel) rfl
theorem d_X12_works_95 : dk me_X12_works 95 (.aload_n 0) 1 96 := And.intro (by decide +kernel) rfl
theorem d_X12_works_96 : dk me_X12_works 96 (.getfield 165) 3 99 := And.intro (by decide +kernel) rfl
theorem d_X12_works_99 : dk me_X12_works 99 (.iload_n 2) 1 100 := And.intro (by decide +kernel) rfl
theorem d_X12_works_100 : dk me_X12_works 100 (.dup2) 1 101 := And.intro (by decide +kernel) rfl
theorem d_X12_works_101 : dk me_X12_works 101 (.iaload) 1 102 := And.intro (by decide +kernel) rfl
theorem d_X12_works_102 : dk me_X12_works 102 (.iload 5) 2 104 := And.intro (by decide +kernel) rfl
theorem d_X12_works_104 : dk me_X12_works 104 (.iadd) 1 105 := And.intro (by decide +kernel) rfl
theorem d_X12_works_105 : dk me_X12_works 105 (.iastore) 1 106 := And.intro (by decide +kernel) rfl
theorem d_X12_works_106 : dk me_X12_works 106 (.aload_n 0) 1 107 := And.intro (by decide +kernel) rfl
theorem d_X12_works_107 : dk me_X12_works 107 (.getfield 204) 3 110 := And.intro (by decide +kernel) rfl
theorem d_X12_works_110 : dk me_X12_works 110 (.iload_n 1) 1 111 := And.intro (by decide +kernel) rfl
theorem d_X12_works_111 : dk me_X12_works 111 (.dup2) 1 112 := And.intro (by decide +kernel) rfl
theorem d_X12_works_112 : dk me_X12_works 112 (.iaload) 1 113 := And.intro (by decide +kernel) rfl
theorem d_X12_works_113 : dk me_X12_works 113 (.iload 5) 2 115 := And.intro (by decide +kernel) rfl
theorem d_X12_works_115 : dk me_X12_works 115 (.iadd) 1 116 := And.intro (by decide +kernel) rfl
theorem d_X12_works_116 : dk me_X12_works 116 (.iastore) 1 117 := And.intro (by decide +kernel) rfl
theorem d_X12_works_117 : dk me_X12_works 117 (.aload_n 0) 1 118 := And.intro (by decide +kernel) rfl
theorem d_X12_works_118 : dk me_X12_works 118 (.getfield 165) 3 121 := And.intro (by decide +kernel) rfl
theorem d_X12_works_121 : dk me_X12_works 121 (.iload_n 2) 1 122 := And.intro (by decide +kernel) rfl
theorem d_X12_works_122 : dk me_X12_works 122 (.iaload) 1 123 := And.intro (by decide +kernel) rfl
theorem d_X12_works_123 : dk me_X12_works 123 (.aload_n 0) 1 124 := And.intro (by decide +kernel) rfl
theorem d_X12_works_124 : dk me_X12_works 124 (.getfield 65) 3 127 := And.intro (by decide +kernel) rfl
theorem d_X12_works_127 : dk me_X12_works 127 (.iload_n 3) 1 128 := And.intro (by decide +kernel) rfl
theorem d_X12_works_128 : dk me_X12_works 128 (.iaload) 1 129 := And.intro (by decide +kernel) rfl
theorem d_X12_works_129 : dk me_X12_works 129 (.if_icmp .ge 5) 3 132 := And.intro (by decide +kernel) rfl
theorem d_X12_works_132 : dk me_X12_works 132 (.iconst 0) 1 133 := And.intro (by decide +kernel) rfl
theorem d_X12_works_133 : dk me_X12_works 133 (.ireturn) 1 134 := And.intro (by decide +kernel) rfl
theorem d_X12_works_134 : dk me_X12_works 134 (.aload_n 0) 1 135 := And.intro (by decide +kernel) rfl
theorem d_X12_works_135 : dk me_X12_works 135 (.getfield 159) 3 138 := And.intro (by decide +kernel) rfl
theorem d_X12_works_138 : dk me_X12_works 138 (.iload_n 2) 1 139 := And.intro (by decide +kernel) rfl
theorem d_X12_works_139 : dk me_X12_works 139 (.iconst 3) 1 140 := And.intro (by decide +kernel) rfl
theorem d_X12_works_140 : dk me_X12_works 140 (.iastore) 1 141 := And.intro (by decide +kernel) rfl
theorem d_X12_works_141 : dk me_X12_works 141 (.aload_n 0) 1 142 := And.intro (by decide +kernel) rfl
theorem d_X12_works_142 : dk me_X12_works 142 (.getfield 177) 3 145 := And.intro (by decide +kernel) rfl
theorem d_X12_works_145 : dk me_X12_works 145 (.iload_n 2) 1 146 := And.intro (by decide +kernel) rfl
theorem d_X12_works_146 : dk me_X12_works 146 (.aload_n 0) 1 147 := And.intro (by decide +kernel) rfl
theorem d_X12_works_147 : dk me_X12_works 147 (.getfield 379) 3 150 := And.intro (by decide +kernel) rfl
theorem d_X12_works_150 : dk me_X12_works 150 (.iastore) 1 151 := And.intro (by decide +kernel) rfl
theorem d_X12_works_151 : dk me_X12_works 151 (.aload_n 0) 1 152 := And.intro (by decide +kernel) rfl
theorem d_X12_works_152 : dk me_X12_works 152 (.getfield 201) 3 155 := And.intro (by decide +kernel) rfl
theorem d_X12_works_155 : dk me_X12_works 155 (.iload_n 1) 1 156 := And.intro (by decide +kernel) rfl
theorem d_X12_works_156 : dk me_X12_works 156 (.iconst (-1)) 1 157 := And.intro (by decide +kernel) rfl
theorem d_X12_works_157 : dk me_X12_works 157 (.iastore) 1 158 := And.intro (by decide +kernel) rfl
theorem d_X12_works_158 : dk me_X12_works 158 (.aload_n 0) 1 159 := And.intro (by decide +kernel) rfl
theorem d_X12_works_159 : dk me_X12_works 159 (.iload_n 3) 1 160 := And.intro (by decide +kernel) rfl
theorem d_X12_works_160 : dk me_X12_works 160 (.iload_n 2) 1 161 := And.intro (by decide +kernel) rfl
theorem d_X12_works_161 : dk me_X12_works 161 (.bipush 8) 2 163 := And.intro (by decide +kernel) rfl
theorem d_X12_works_163 : dk me_X12_works 163 (.irem) 1 164 := And.intro (by decide +kernel) rfl
theorem d_X12_works_164 : dk me_X12_works 164 (.invokevirtual 385) 3 167 := And.intro (by decide +kernel) rfl
theorem d_X12_works_167 : dk me_X12_works 167 (.iconst 1) 1 168 := And.intro (by decide +kernel) rfl
theorem d_X12_works_168 : dk me_X12_works 168 (.ireturn) 1 169 := And.intro (by decide +kernel) rfl
theorem ms_X12_works {fx : FX} {m : MM} {l0 : Nat} {l1 : Int} : MS fx me_X12_works [aR (some (12, l0)), aI l1] m (f_X12_works m l0 l1) := by
  refine ms_of rfl mf_X12_works (b8 rfl) ?_
  refine s_top ?_
  show Sim fx me_X12_works 0 [(0, aR (some (12, l0))), (1, aI l1)] [] m _
  unfold f_X12_works
  have hj_X12_works_0_93 : ∀ (m_93 : MM) (l0_93 : Nat) (l1_93 : Int) (l2_93 : Int) (l3_93 : Int) (s0_93 : Int), Sim fx me_X12_works 93 [(0, aR (some (12, l0_93))), (1, aI l1_93), (2, aI l2_93), (3, aI l3_93)] [aI s0_93] m_93 ((j_X12_works_0_93 m_93 l0_93 l1_93 l2_93 l3_93 s0_93).bind (fun z => some z)) := by
    intro m_93 l0_93 l1_93 l2_93 l3_93 s0_93
    unfold j_X12_works_0_93
    refine s_istore (L' := [(5, aI s0_93), (0, aR (some (12, l0_93))), (1, aI l1_93), (2, aI l2_93), (3, aI l3_93)]) d_X12_works_93 (b8 rfl) rfl (s_aload_n d_X12_works_95 m1_ (s_getR cf d_X12_works_96 fl_X12_165 (s_nk fun i20 => (s_iload_n d_X12_works_99 m3_ (s_dup2 d_X12_works_100 rfl rfl ?_)))))
    refine s_ldN d_X12_works_101 ka_110 rfl fun v21 => (s_iload d_X12_works_102 m0_ (s_iadd d_X12_works_104 rfl rfl (s_ck (s_stN d_X12_works_105 ka_110 rfl fun m22 => (s_aload_n d_X12_works_106 m1_ ?_)))))
    refine s_getR cf d_X12_works_107 fl_X12_204 (s_nk fun i23 => (s_iload_n d_X12_works_110 m2_ (s_dup2 d_X12_works_111 rfl rfl (s_ldN d_X12_works_112 ka_123 rfl fun v24 => (s_iload d_X12_works_113 m0_ ?_)))))
    refine s_iadd d_X12_works_115 rfl rfl (s_ck (s_stN d_X12_works_116 ka_123 rfl fun m25 => (s_aload_n d_X12_works_117 m1_ (s_getR cf d_X12_works_118 fl_X12_165 (s_nk fun i26 => ?_)))))
    refine s_iload_n d_X12_works_121 m3_ (s_ldN d_X12_works_122 ka_110 rfl fun v27 => (s_aload_n d_X12_works_123 m1_ (s_getR cf d_X12_works_124 fl_X12_65 (s_nk fun i28 => (s_iload_n d_X12_works_127 m4_ ?_)))))
    refine s_ldN d_X12_works_128 ka_77 rfl fun v29 => (s_icmp_ge (tgt := 134) d_X12_works_129 rfl ?_ ?_)
    · refine s_aload_n d_X12_works_134 m1_ (s_getR cf d_X12_works_135 fl_X12_159 (s_nk fun i30 => (s_iload_n d_X12_works_138 m3_ (s_iconst d_X12_works_139 n_3 (s_stN d_X12_works_140 ka_108 rfl fun m31 => ?_)))))
      refine s_aload_n d_X12_works_141 m1_ (s_getR cf d_X12_works_142 fl_X12_177 (s_nk fun i32 => (s_iload_n d_X12_works_145 m3_ (s_aload_n d_X12_works_146 m1_ (s_getN cf d_X12_works_147 fl_X12_379 ?_)))))
      refine s_stN d_X12_works_150 ka_114 rfl fun m33 => (s_aload_n d_X12_works_151 m1_ (s_getR cf d_X12_works_152 fl_X12_201 (s_nk fun i34 => (s_iload_n d_X12_works_155 m2_ (s_iconst d_X12_works_156 n_m1 ?_)))))
      refine s_stN d_X12_works_157 ka_122 rfl fun m35 => (s_aload_n d_X12_works_158 m1_ (s_iload_n d_X12_works_159 m4_ (s_iload_n d_X12_works_160 m3_ (s_bipush d_X12_works_161 n_8 rfl (s_irem d_X12_works_163 ?_)))))
      exact s_cV (r_V d_X12_works_164 k_X12_keeps w_1897 rfl rfl) ms_X12_keeps (b8 rfl) rfl rfl rfl (fun _ _ _ => rfl) (fun _ _ => Or.inl rfl) fun m36 => (s_iconst d_X12_works_167 n_1 (s_iret d_X12_works_168 rfl rfl))
    exact s_iconst d_X12_works_132 n_0 (s_iret d_X12_works_133 rfl rfl)
  refine s_aload_n d_X12_works_0 m0_ (s_getR cf d_X12_works_1 fl_X12_201 (s_nk fun i1 => (s_iload_n d_X12_works_4 m1_ (s_ldN d_X12_works_5 ka_122 rfl fun v2 => (s_istore_n (L' := [(2, aI v2), (0, aR (some (12, l0))), (1, aI l1)]) d_X12_works_6 (b8 rfl) rfl ?_)))))
  refine s_iload_n d_X12_works_7 m0_ (s_iconst d_X12_works_8 n_m1 (s_icmp_eq (tgt := 21) d_X12_works_9 rfl ?_ ?_))
  · exact s_iconst d_X12_works_21 n_0 (s_iret d_X12_works_22 rfl rfl)
  refine s_aload_n d_X12_works_12 m1_ (s_getR cf d_X12_works_13 fl_X12_198 (s_nk fun i3 => (s_iload_n d_X12_works_16 m2_ (s_ldN d_X12_works_17 ka_121 rfl fun v4 => (s_if_ne (tgt := 23) d_X12_works_18 rfl ?_ ?_)))))
  · refine s_iload_n d_X12_works_23 m0_ (s_bipush d_X12_works_24 n_8 rfl (s_idiv d_X12_works_26 (s_istore_n (L' := [(3, aI (v2 / 8)), (2, aI v2), (0, aR (some (12, l0))), (1, aI l1)]) d_X12_works_27 (b8 rfl) rfl (s_aload_n d_X12_works_28 m2_ (s_getR cf d_X12_works_29 fl_X12_207 ?_)))))
    refine s_nk fun i5 => (s_iload_n d_X12_works_32 m3_ (s_dup2 d_X12_works_33 rfl rfl (s_ldN d_X12_works_34 ka_124 rfl fun v6 => (s_iconst d_X12_works_35 n_1 (s_iadd d_X12_works_36 rfl rfl ?_)))))
    refine s_ck (s_stN d_X12_works_37 ka_124 rfl fun m7 => (s_aload_n d_X12_works_38 m2_ (s_getR cf d_X12_works_39 fl_X12_180 (s_nk fun i8 => (s_iload_n d_X12_works_42 m1_ ?_)))))
    refine s_ldB d_X12_works_43 ka_115 rfl fun v9 => (s_if_ne (tgt := 56) d_X12_works_44 rfl ?_ ?_)
    · refine s_aload_n d_X12_works_56 m2_ (s_getR cf d_X12_works_57 fl_X12_65 (s_nk fun i10 => (s_iload_n d_X12_works_60 m0_ (s_ldN d_X12_works_61 ka_77 rfl fun v11 => (s_aload_n d_X12_works_62 m2_ ?_)))))
      refine s_getR cf d_X12_works_63 fl_X12_165 (s_nk fun i12 => (s_iload_n d_X12_works_66 m1_ (s_ldN d_X12_works_67 ka_110 rfl fun v13 => (s_isub d_X12_works_68 rfl rfl (s_ck ?_)))))
      refine s_istore (L' := [(4, aI (v11 - v13)), (3, aI (v2 / 8)), (2, aI v2), (0, aR (some (12, l0))), (1, aI l1)]) d_X12_works_69 (b8 rfl) rfl (s_aload_n d_X12_works_71 m3_ (s_getR cf d_X12_works_72 fl_X12_198 (s_nk fun i14 => (s_iload_n d_X12_works_75 m4_ (s_ldN d_X12_works_76 ka_121 rfl fun v15 => ?_)))))
      refine s_iload d_X12_works_77 m0_ (s_icmp_ge (tgt := 91) d_X12_works_79 rfl ?_ ?_)
      · exact s_iload d_X12_works_91 m0_ (s_sub (subc m3_ (subc m4_ (subc m2_ (subc m1_ sub0)))) (hj_X12_works_0_93 m7 l0 l1 v2 (v2 / 8) (v11 - v13)))
      refine s_aload_n d_X12_works_82 m3_ (s_getR cf d_X12_works_83 fl_X12_198 (s_nk fun i16 => (s_iload_n d_X12_works_86 m4_ (s_ldN d_X12_works_87 ka_121 rfl fun v17 => (s_goto (tgt := 93) d_X12_works_88 rfl ?_)))))
      exact s_sub (subc m3_ (subc m4_ (subc m2_ (subc m1_ sub0)))) (hj_X12_works_0_93 m7 l0 l1 v2 (v2 / 8) v17)
    refine s_aload_n d_X12_works_47 m2_ (s_getR cf d_X12_works_48 fl_X12_180 (s_nk fun i18 => (s_iload_n d_X12_works_51 m1_ (s_iconst d_X12_works_52 n_1 (s_stBl d_X12_works_53 ka_115 rfl (by decide) fun m19 => ?_)))))
    exact s_iconst d_X12_works_54 n_0 (s_iret d_X12_works_55 rfl rfl)
  exact s_iconst d_X12_works_21 n_0 (s_iret d_X12_works_22 rfl rfl)
theorem d_X12_pass_0 : dk me_X12_pass 0 (.aload_n 0) 1 1 := And.intro (by decide +kernel) rfl
theorem d_X12_pass_1 : dk me_X12_pass 1 (.iload_n 1) 1 2 := And.intro (by decide +kernel) rfl
theorem d_X12_pass_2 : dk me_X12_pass 2 (.iconst 1) 1 3 := And.intro (by decide +kernel) rfl
theorem d_X12_pass_3 : dk me_X12_pass 3 (.bipush 70) 2 5 := And.intro (by decide +kernel) rfl
theorem d_X12_pass_5 : dk me_X12_pass 5 (.invokestatic 235) 3 8 := And.intro (by decide +kernel) rfl
theorem d_X12_pass_8 : dk me_X12_pass 8 (.ifCond .ne 7) 3 11 := And.intro (by decide +kernel) rfl
theorem d_X12_pass_11 : dk me_X12_pass 11 (.iconst 1) 1 12 := And.intro (by decide +kernel) rfl
theorem d_X12_pass_12 : dk me_X12_pass 12 (.goto 20) 3 15 := And.intro (by decide +kernel) rfl
theorem d_X12_pass_15 : dk me_X12_pass 15 (.aload_n 0) 1 16 := And.intro (by decide +kernel) rfl
theorem d_X12_pass_16 : dk me_X12_pass 16 (.getfield 379) 3 19 := And.intro (by decide +kernel) rfl
theorem d_X12_pass_19 : dk me_X12_pass 19 (.iload_n 1) 1 20 := And.intro (by decide +kernel) rfl
theorem d_X12_pass_20 : dk me_X12_pass 20 (.iadd) 1 21 := And.intro (by decide +kernel) rfl
theorem d_X12_pass_21 : dk me_X12_pass 21 (.sipush 5000) 3 24 := And.intro (by decide +kernel) rfl
theorem d_X12_pass_24 : dk me_X12_pass 24 (.if_icmp .le 7) 3 27 := And.intro (by decide +kernel) rfl
theorem d_X12_pass_27 : dk me_X12_pass 27 (.iconst 2) 1 28 := And.intro (by decide +kernel) rfl
theorem d_X12_pass_28 : dk me_X12_pass 28 (.goto 4) 3 31 := And.intro (by decide +kernel) rfl
theorem d_X12_pass_31 : dk me_X12_pass 31 (.iconst 0) 1 32 := And.intro (by decide +kernel) rfl
theorem d_X12_pass_32 : dk me_X12_pass 32 (.invokevirtual 260) 3 35 := And.intro (by decide +kernel) rfl
theorem d_X12_pass_35 : dk me_X12_pass 35 (.ifCond .ne 5) 3 38 := And.intro (by decide +kernel) rfl
theorem d_X12_pass_38 : dk me_X12_pass 38 (.iconst 0) 1 39 := And.intro (by decide +kernel) rfl
theorem d_X12_pass_39 : dk me_X12_pass 39 (.ireturn) 1 40 := And.intro (by decide +kernel) rfl
theorem d_X12_pass_40 : dk me_X12_pass 40 (.iconst 0) 1 41 := And.intro (by decide +kernel) rfl
theorem d_X12_pass_41 : dk me_X12_pass 41 (.istore_n 2) 1 42 := And.intro (by decide +kernel) rfl
theorem d_X12_pass_42 : dk me_X12_pass 42 (.iconst 0) 1 43 := And.intro (by decide +kernel) rfl
theorem d_X12_pass_43 : dk me_X12_pass 43 (.istore_n 3) 1 44 := And.intro (by decide +kernel) rfl
theorem d_X12_pass_44 : dk me_X12_pass 44 (.iload_n 3) 1 45 := And.intro (by decide +kernel) rfl
theorem d_X12_pass_45 : dk me_X12_pass 45 (.iload_n 1) 1 46 := And.intro (by decide +kernel) rfl
theorem d_X12_pass_46 : dk me_X12_pass 46 (.if_icmp .ge 53) 3 49 := And.intro (by decide +kernel) rfl
theorem d_X12_pass_49 : dk me_X12_pass 49 (.iconst 0) 1 50 := And.intro (by decide +kernel) rfl
theorem d_X12_pass_50 : dk me_X12_pass 50 (.istore 4) 2 52 := And.intro (by decide +kernel) rfl
theorem d_X12_pass_52 : dk me_X12_pass 52 (.iload 4) 2 54 := And.intro (by decide +kernel) rfl
theorem d_X12_pass_54 : dk me_X12_pass 54 (.iconst 3) 1 55 := And.intro (by decide +kernel) rfl
theorem d_X12_pass_55 : dk me_X12_pass 55 (.if_icmp .ge 28) 3 58 := And.intro (by decide +kernel) rfl
theorem d_X12_pass_58 : dk me_X12_pass 58 (.aload_n 0) 1 59 := And.intro (by decide +kernel) rfl
theorem d_X12_pass_59 : dk me_X12_pass 59 (.getfield 379) 3 62 := And.intro (by decide +kernel) rfl
theorem d_X12_pass_62 : dk me_X12_pass 62 (.invokestatic 388) 3 65 := And.intro (by decide +kernel) rfl
theorem d_X12_pass_65 : dk me_X12_pass 65 (.ifCond .ne 18) 3 68 := And.intro (by decide +kernel) rfl
theorem d_X12_pass_68 : dk me_X12_pass 68 (.iload_n 2) 1 69 := And.intro (by decide +kernel) rfl
theorem d_X12_pass_69 : dk me_X12_pass 69 (.aload_n 0) 1 70 := And.intro (by decide +kernel) rfl
theorem d_X12_pass_70 : dk me_X12_pass 70 (.iload 4) 2 72 := And.intro (by decide +kernel) rfl
theorem d_X12_pass_72 : dk me_X12_pass 72 (.invokevirtual 391) 3 75 := And.intro (by decide +kernel) rfl
theorem d_X12_pass_75 : dk me_X12_pass 75 (.iadd) 1 76 := And.intro (by decide +kernel) rfl
theorem d_X12_pass_76 : dk me_X12_pass 76 (.istore_n 2) 1 77 := And.intro (by decide +kernel) rfl
theorem d_X12_pass_77 : dk me_X12_pass 77 (.iinc 4 1) 3 80 := And.intro (by decide +kernel) rfl
theorem d_X12_pass_80 : dk me_X12_pass 80 (.goto (-28)) 3 83 := And.intro (by decide +kernel) rfl
theorem d_X12_pass_83 : dk me_X12_pass 83 (.aload_n 0) 1 84 := And.intro (by decide +kernel) rfl
theorem d_X12_pass_84 : dk me_X12_pass 84 (.dup) 1 85 := And.intro (by decide +kernel) rfl
theorem d_X12_pass_85 : dk me_X12_pass 85 (.getfield 379) 3 88 := And.intro (by decide +kernel) rfl
theorem d_X12_pass_88 : dk me_X12_pass 88 (.iconst 1) 1 89 := And.intro (by decide +kernel) rfl
theorem d_X12_pass_89 : dk me_X12_pass 89 (.iadd) 1 90 := And.intro (by decide +kernel) rfl
theorem d_X12_pass_90 : dk me_X12_pass 90 (.putfield 379) 3 93 := And.intro (by decide +kernel) rfl
theorem d_X12_pass_93 : dk me_X12_pass 93 (.iinc 3 1) 3 96 := And.intro (by decide +kernel) rfl
theorem d_X12_pass_96 : dk me_X12_pass 96 (.goto (-52)) 3 99 := And.intro (by decide +kernel) rfl
theorem d_X12_pass_99 : dk me_X12_pass 99 (.iload_n 2) 1 100 := And.intro (by decide +kernel) rfl
theorem d_X12_pass_100 : dk me_X12_pass 100 (.ireturn) 1 101 := And.intro (by decide +kernel) rfl
theorem ms_X12_pass {fx : FX} {m : MM} {l0 : Nat} {l1 : Int} : MS fx me_X12_pass [aR (some (12, l0)), aI l1] m (f_X12_pass m l0 l1) := by
  refine ms_of rfl mf_X12_pass (b8 rfl) ?_
  refine s_top ?_
  show Sim fx me_X12_pass 0 [(0, aR (some (12, l0))), (1, aI l1)] [] m _
  unfold f_X12_pass
  have hj_X12_pass_0_99 : ∀ (m_99 : MM) (l2_99 : Int), Sim fx me_X12_pass 99 [(2, aI l2_99)] [] m_99 ((j_X12_pass_0_99 m_99 l2_99).bind (fun z => some z)) := by
    intro m_99 l2_99
    unfold j_X12_pass_0_99
    exact s_iload_n d_X12_pass_99 m0_ (s_iret d_X12_pass_100 rfl rfl)
  have hj_X12_pass_0_32 : ∀ (m_32 : MM) (l0_32 : Nat) (l1_32 : Int) (s0_32 : Nat) (s1_32 : Int), Sim fx me_X12_pass 32 [(0, aR (some (12, l0_32))), (1, aI l1_32)] [aI s1_32, aR (some (12, s0_32))] m_32 ((j_X12_pass_0_32 m_32 l0_32 l1_32 s0_32 s1_32).bind (fun z => some z)) := by
    intro m_32 l0_32 l1_32 s0_32 s1_32
    unfold j_X12_pass_0_32
    refine s_cI (r_V d_X12_pass_32 k_X12_holds w_1668 rfl rfl) ms_X12_holds (b8 rfl) rfl rfl rfl (fun _ _ _ => rfl) (fun _ _ => Or.inl rfl) fun v3 m2 => (s_if_ne (tgt := 40) d_X12_pass_35 rfl ?_ ?_)
    · refine s_iconst d_X12_pass_40 n_0 (s_istore_n (L' := [(2, aI 0), (0, aR (some (12, l0_32))), (1, aI l1_32)]) d_X12_pass_41 (b8 rfl) rfl (s_iconst d_X12_pass_42 n_0 (s_istore_n (L' := [(3, aI 0), (2, aI 0), (0, aR (some (12, l0_32))), (1, aI l1_32)]) d_X12_pass_43 (b8 rfl) rfl (s_sub (subc m1_ (subc m0_ (subc m2_ (subc m3_ sub0)))) (s_lp2 (fun s => [(2, aI (s.1)), (3, aI (s.2.1)), (0, aR (some (12, l0_32))), (1, aI l1_32)]) (fun s => s.2.2) (0, 0, m2) fun k44 hx44 s ih0 => ?_)))))
      obtain ⟨l2_44, l3_44, mm_44⟩ := s
      have ih44 := ih0
      clear ih0
      try dsimp only
      unfold b_X12_pass_44
      have hj_X12_pass_44_83 : ∀ (m_83 : MM) (l2_83 : Int) (l3_83 : Int), Sim fx me_X12_pass 83 [(0, aR (some (12, l0_32))), (1, aI l1_32), (2, aI l2_83), (3, aI l3_83)] [] m_83 ((j_X12_pass_44_83 m_83 l0_32 l1_32 l2_83 l3_83).bind k44) := by
        intro m_83 l2_83 l3_83
        unfold j_X12_pass_44_83
        refine s_aload_n d_X12_pass_83 m0_ (s_dup d_X12_pass_84 rfl (s_getN cf d_X12_pass_85 fl_X12_379 (s_iconst d_X12_pass_88 n_1 (s_iadd d_X12_pass_89 rfl rfl (s_ck ?_)))))
        exact s_putN cf d_X12_pass_90 fl_X12_379 (fun h => by cases h) fun m7 => (s_iinc (L' := [(3, aI (l3_83 + 1)), (0, aR (some (12, l0_32))), (1, aI l1_32), (2, aI l2_83)]) d_X12_pass_93 m3_ (b8 rfl) rfl (s_goto (tgt := 44) d_X12_pass_96 rfl (s_sub (subc m3_ (subc m0_ (subc m1_ (subc m2_ sub0)))) (s_back (ih44 (l2_83, (l3_83 + 1), m7))))))
      refine s_iload_n d_X12_pass_44 m1_ (s_iload_n d_X12_pass_45 m3_ (s_icmp_ge (tgt := 99) d_X12_pass_46 rfl ?_ ?_))
      · exact s_exit (hx44 _) (s_sub (subc m0_ sub0) (hj_X12_pass_0_99 mm_44 l2_44))
      refine s_iconst d_X12_pass_49 n_0 (s_istore (L' := [(4, aI 0), (2, aI l2_44), (3, aI l3_44), (0, aR (some (12, l0_32))), (1, aI l1_32)]) d_X12_pass_50 (b8 rfl) rfl (s_sub (subc m1_ (subc m0_ (subc m3_ (subc m4_ (subc m2_ sub0))))) (s_lp2 (fun s => [(2, aI (s.1)), (4, aI (s.2.1)), (0, aR (some (12, l0_32))), (1, aI l1_32), (3, aI l3_44)]) (fun s => s.2.2) (l2_44, 0, mm_44) fun k52 hx52 s ih0 => ?_)))
      obtain ⟨l2_52, l4_52, mm_52⟩ := s
      have ih52 := ih0
      clear ih0
      try dsimp only
      unfold b_X12_pass_52
      refine s_iload d_X12_pass_52 m1_ (s_iconst d_X12_pass_54 n_3 (s_icmp_ge (tgt := 83) d_X12_pass_55 rfl ?_ ?_))
      · exact s_exit (hx52 _) (s_sub (subc m2_ (subc m3_ (subc m0_ (subc m4_ sub0)))) (hj_X12_pass_44_83 mm_52 l2_52 l3_44))
      refine s_aload_n d_X12_pass_58 m2_ (s_getN cf d_X12_pass_59 fl_X12_379 (s_pI (r_S d_X12_pass_62 k_X12_isHoliday w_1890 rfl rfl) ms_X12_isHoliday (b8 rfl) rfl rfl rfl fun v4 => (s_if_ne (tgt := 83) d_X12_pass_65 rfl ?_ ?_)))
      · exact s_exit (hx52 _) (s_sub (subc m2_ (subc m3_ (subc m0_ (subc m4_ sub0)))) (hj_X12_pass_44_83 mm_52 l2_52 l3_44))
      refine s_iload_n d_X12_pass_68 m0_ (s_aload_n d_X12_pass_69 m2_ (s_iload d_X12_pass_70 m1_ (s_cI (r_V d_X12_pass_72 k_X12_works w_1893 rfl rfl) ms_X12_works (b8 rfl) rfl rfl rfl (fun _ _ _ => rfl) (fun _ _ => Or.inl rfl) fun v6 m5 => (s_iadd d_X12_pass_75 rfl rfl (s_ck ?_)))))
      exact s_istore_n (L' := [(2, aI (l2_52 + v6)), (4, aI l4_52), (0, aR (some (12, l0_32))), (1, aI l1_32), (3, aI l3_44)]) d_X12_pass_76 (b8 rfl) rfl (s_iinc (L' := [(4, aI (l4_52 + 1)), (2, aI (l2_52 + v6)), (0, aR (some (12, l0_32))), (1, aI l1_32), (3, aI l3_44)]) d_X12_pass_77 m1_ (b8 rfl) rfl (s_goto (tgt := 52) d_X12_pass_80 rfl (s_sub (subc m1_ (subc m0_ (subc m2_ (subc m3_ (subc m4_ sub0))))) (s_back (ih52 ((l2_52 + v6), (l4_52 + 1), m5))))))
    exact s_iconst d_X12_pass_38 n_0 (s_iret d_X12_pass_39 rfl rfl)
  refine s_aload_n d_X12_pass_0 m0_ (s_iload_n d_X12_pass_1 m1_ (s_iconst d_X12_pass_2 n_1 (s_bipush d_X12_pass_3 n_70 rfl (s_pI (r_S d_X12_pass_5 k_X12_isIn w_1664 rfl rfl) ms_X12_isIn (b8 rfl) rfl rfl rfl fun v1 => (s_if_ne (tgt := 15) d_X12_pass_8 rfl ?_ ?_)))))
  · refine s_aload_n d_X12_pass_15 m0_ (s_getN cf d_X12_pass_16 fl_X12_379 (s_iload_n d_X12_pass_19 m1_ (s_iadd d_X12_pass_20 rfl rfl (s_sipush d_X12_pass_21 n_5000 rfl (s_ck1 ?_)))))
    refine s_icmp_le (tgt := 31) d_X12_pass_24 rfl ?_ ?_
    · exact s_iconst d_X12_pass_31 n_0 (s_sub (subc m0_ (subc m1_ sub0)) (hj_X12_pass_0_32 m l0 l1 l0 0))
    exact s_iconst d_X12_pass_27 n_2 (s_goto (tgt := 32) d_X12_pass_28 rfl (s_sub (subc m0_ (subc m1_ sub0)) (hj_X12_pass_0_32 m l0 l1 l0 2)))
  exact s_iconst d_X12_pass_11 n_1 (s_goto (tgt := 32) d_X12_pass_12 rfl (s_sub (subc m0_ (subc m1_ sub0)) (hj_X12_pass_0_32 m l0 l1 l0 1)))
theorem d_X12_piece_0 : dk me_X12_piece 0 (.aload_n 0) 1 1 := And.intro (by decide +kernel) rfl
theorem d_X12_piece_1 : dk me_X12_piece 1 (.iload_n 1) 1 2 := And.intro (by decide +kernel) rfl
theorem d_X12_piece_2 : dk me_X12_piece 2 (.iconst 0) 1 3 := And.intro (by decide +kernel) rfl
theorem d_X12_piece_3 : dk me_X12_piece 3 (.aload_n 0) 1 4 := And.intro (by decide +kernel) rfl
theorem d_X12_piece_4 : dk me_X12_piece 4 (.getfield 291) 3 7 := And.intro (by decide +kernel) rfl
theorem d_X12_piece_7 : dk me_X12_piece 7 (.iconst 1) 1 8 := And.intro (by decide +kernel) rfl
theorem d_X12_piece_8 : dk me_X12_piece 8 (.isub) 1 9 := And.intro (by decide +kernel) rfl
theorem d_X12_piece_9 : dk me_X12_piece 9 (.invokestatic 235) 3 12 := And.intro (by decide +kernel) rfl
theorem d_X12_piece_12 : dk me_X12_piece 12 (.ifCond .ne 7) 3 15 := And.intro (by decide +kernel) rfl
theorem d_X12_piece_15 : dk me_X12_piece 15 (.iconst 1) 1 16 := And.intro (by decide +kernel) rfl
theorem d_X12_piece_16 : dk me_X12_piece 16 (.goto 17) 3 19 := And.intro (by decide +kernel) rfl
theorem d_X12_piece_19 : dk me_X12_piece 19 (.iload_n 2) 1 20 := And.intro (by decide +kernel) rfl
theorem d_X12_piece_20 : dk me_X12_piece 20 (.iconst 0) 1 21 := And.intro (by decide +kernel) rfl
theorem d_X12_piece_21 : dk me_X12_piece 21 (.iconst 2) 1 22 := And.intro (by decide +kernel) rfl
theorem d_X12_piece_22 : dk me_X12_piece 22 (.invokestatic 235) 3 25 := And.intro (by decide +kernel) rfl
theorem d_X12_piece_25 : dk me_X12_piece 25 (.ifCond .eq 7) 3 28 := And.intro (by decide +kernel) rfl
theorem d_X12_piece_28 : dk me_X12_piece 28 (.iconst 0) 1 29 := And.intro (by decide +kernel) rfl
theorem d_X12_piece_29 : dk me_X12_piece 29 (.goto 4) 3 32 := And.intro (by decide +kernel) rfl
theorem d_X12_piece_32 : dk me_X12_piece 32 (.iconst 2) 1 33 := And.intro (by decide +kernel) rfl
theorem d_X12_piece_33 : dk me_X12_piece 33 (.invokevirtual 260) 3 36 := And.intro (by decide +kernel) rfl
theorem d_X12_piece_36 : dk me_X12_piece 36 (.ifCond .ne 5) 3 39 := And.intro (by decide +kernel) rfl
theorem d_X12_piece_39 : dk me_X12_piece 39 (.iconst 0) 1 40 := And.intro (by decide +kernel) rfl
theorem d_X12_piece_40 : dk me_X12_piece 40 (.ireturn) 1 41 := And.intro (by decide +kernel) rfl
theorem d_X12_piece_41 : dk me_X12_piece 41 (.iload_n 2) 1 42 := And.intro (by decide +kernel) rfl
theorem d_X12_piece_42 : dk me_X12_piece 42 (.ifCond .ne 12) 3 45 := And.intro (by decide +kernel) rfl
theorem d_X12_piece_45 : dk me_X12_piece 45 (.aload_n 0) 1 46 := And.intro (by decide +kernel) rfl
theorem d_X12_piece_46 : dk me_X12_piece 46 (.getfield 20) 3 49 := And.intro (by decide +kernel) rfl
theorem d_X12_piece_49 : dk me_X12_piece 49 (.iload_n 1) 1 50 := And.intro (by decide +kernel) rfl
theorem d_X12_piece_50 : dk me_X12_piece 50 (.iaload) 1 51 := And.intro (by decide +kernel) rfl
theorem d_X12_piece_51 : dk me_X12_piece 51 (.goto 23) 3 54 := And.intro (by decide +kernel) rfl
theorem d_X12_piece_54 : dk me_X12_piece 54 (.iload_n 2) 1 55 := And.intro (by decide +kernel) rfl
theorem d_X12_piece_55 : dk me_X12_piece 55 (.iconst 1) 1 56 := And.intro (by decide +kernel) rfl
theorem d_X12_piece_56 : dk me_X12_piece 56 (.if_icmp .ne 12) 3 59 := And.intro (by decide +kernel) rfl
theorem d_X12_piece_59 : dk me_X12_piece 59 (.aload_n 0) 1 60 := And.intro (by decide +kernel) rfl
theorem d_X12_piece_60 : dk me_X12_piece 60 (.getfield 23) 3 63 := And.intro (by decide +kernel) rfl
theorem d_X12_piece_63 : dk me_X12_piece 63 (.iload_n 1) 1 64 := And.intro (by decide +kernel) rfl
theorem d_X12_piece_64 : dk me_X12_piece 64 (.iaload) 1 65 := And.intro (by decide +kernel) rfl
theorem d_X12_piece_65 : dk me_X12_piece 65 (.goto 9) 3 68 := And.intro (by decide +kernel) rfl
theorem d_X12_piece_68 : dk me_X12_piece 68 (.aload_n 0) 1 69 := And.intro (by decide +kernel) rfl
theorem d_X12_piece_69 : dk me_X12_piece 69 (.getfield 26) 3 72 := And.intro (by decide +kernel) rfl
theorem d_X12_piece_72 : dk me_X12_piece 72 (.iload_n 1) 1 73 := And.intro (by decide +kernel) rfl
theorem d_X12_piece_73 : dk me_X12_piece 73 (.iaload) 1 74 := And.intro (by decide +kernel) rfl
theorem d_X12_piece_74 : dk me_X12_piece 74 (.ireturn) 1 75 := And.intro (by decide +kernel) rfl
theorem ms_X12_piece {fx : FX} {m : MM} {l0 : Nat} {l1 : Int} {l2 : Int} : MS fx me_X12_piece [aR (some (12, l0)), aI l1, aI l2] m (f_X12_piece m l0 l1 l2) := by
  refine ms_of rfl mf_X12_piece (b8 rfl) ?_
  refine s_top ?_
  show Sim fx me_X12_piece 0 [(0, aR (some (12, l0))), (1, aI l1), (2, aI l2)] [] m _
  unfold f_X12_piece
  have hj_X12_piece_0_33 : ∀ (m_33 : MM) (l0_33 : Nat) (l1_33 : Int) (l2_33 : Int) (s0_33 : Nat) (s1_33 : Int), Sim fx me_X12_piece 33 [(0, aR (some (12, l0_33))), (1, aI l1_33), (2, aI l2_33)] [aI s1_33, aR (some (12, s0_33))] m_33 ((j_X12_piece_0_33 m_33 l0_33 l1_33 l2_33 s0_33 s1_33).bind (fun z => some z)) := by
    intro m_33 l0_33 l1_33 l2_33 s0_33 s1_33
    unfold j_X12_piece_0_33
    refine s_cI (r_V d_X12_piece_33 k_X12_holds w_1668 rfl rfl) ms_X12_holds (b8 rfl) rfl rfl rfl (fun _ _ _ => rfl) (fun _ _ => Or.inl rfl) fun v4 m3 => (s_if_ne (tgt := 41) d_X12_piece_36 rfl ?_ ?_)
    · refine s_iload_n d_X12_piece_41 m2_ (s_if_ne (tgt := 54) d_X12_piece_42 rfl ?_ ?_)
      · refine s_iload_n d_X12_piece_54 m2_ (s_iconst d_X12_piece_55 n_1 (s_icmp_ne (tgt := 68) d_X12_piece_56 rfl ?_ ?_))
        · exact s_aload_n d_X12_piece_68 m0_ (s_getR cf d_X12_piece_69 fl_X12_26 (s_nk fun i5 => (s_iload_n d_X12_piece_72 m1_ (s_ldN d_X12_piece_73 ka_64 rfl fun v6 => (s_iret d_X12_piece_74 rfl rfl)))))
        refine s_aload_n d_X12_piece_59 m0_ (s_getR cf d_X12_piece_60 fl_X12_23 (s_nk fun i7 => (s_iload_n d_X12_piece_63 m1_ (s_ldN d_X12_piece_64 ka_63 rfl fun v8 => (s_goto (tgt := 74) d_X12_piece_65 rfl ?_)))))
        exact s_iret d_X12_piece_74 rfl rfl
      refine s_aload_n d_X12_piece_45 m0_ (s_getR cf d_X12_piece_46 fl_X12_20 (s_nk fun i9 => (s_iload_n d_X12_piece_49 m1_ (s_ldN d_X12_piece_50 ka_62 rfl fun v10 => (s_goto (tgt := 74) d_X12_piece_51 rfl ?_)))))
      exact s_iret d_X12_piece_74 rfl rfl
    exact s_iconst d_X12_piece_39 n_0 (s_iret d_X12_piece_40 rfl rfl)
  refine s_aload_n d_X12_piece_0 m0_ (s_iload_n d_X12_piece_1 m1_ (s_iconst d_X12_piece_2 n_0 (s_aload_n d_X12_piece_3 m0_ (s_getN cf d_X12_piece_4 fl_X12_291 (s_iconst d_X12_piece_7 n_1 ?_)))))
  refine s_isub d_X12_piece_8 rfl rfl (s_ck (s_pI (r_S d_X12_piece_9 k_X12_isIn w_1664 rfl rfl) ms_X12_isIn (b8 rfl) rfl rfl rfl fun v1 => (s_if_ne (tgt := 19) d_X12_piece_12 rfl ?_ ?_)))
  · refine s_iload_n d_X12_piece_19 m2_ (s_iconst d_X12_piece_20 n_0 (s_iconst d_X12_piece_21 n_2 (s_pI (r_S d_X12_piece_22 k_X12_isIn w_1664 rfl rfl) ms_X12_isIn (b8 rfl) rfl rfl rfl fun v2 => (s_if_eq (tgt := 32) d_X12_piece_25 rfl ?_ ?_))))
    · exact s_iconst d_X12_piece_32 n_2 (s_sub (subc m0_ (subc m1_ (subc m2_ sub0))) (hj_X12_piece_0_33 m l0 l1 l2 l0 2))
    exact s_iconst d_X12_piece_28 n_0 (s_goto (tgt := 33) d_X12_piece_29 rfl (s_sub (subc m0_ (subc m1_ (subc m2_ sub0))) (hj_X12_piece_0_33 m l0 l1 l2 l0 0)))
  exact s_iconst d_X12_piece_15 n_1 (s_goto (tgt := 33) d_X12_piece_16 rfl (s_sub (subc m0_ (subc m1_ (subc m2_ sub0))) (hj_X12_piece_0_33 m l0 l1 l2 l0 1)))
theorem d_X12_place_0 : dk me_X12_place 0 (.aload_n 0) 1 1 := And.intro (by decide +kernel) rfl
theorem d_X12_place_1 : dk me_X12_place 1 (.aload_n 0) 1 2 := And.intro (by decide +kernel) rfl
theorem d_X12_place_2 : dk me_X12_place 2 (.iload_n 1) 1 3 := And.intro (by decide +kernel) rfl
theorem d_X12_place_3 : dk me_X12_place 3 (.iload_n 2) 1 4 := And.intro (by decide +kernel) rfl
theorem d_X12_place_4 : dk me_X12_place 4 (.invokevirtual 333) 3 7 := And.intro (by decide +kernel) rfl
theorem d_X12_place_7 : dk me_X12_place 7 (.ifCond .eq 7) 3 10 := And.intro (by decide +kernel) rfl
theorem d_X12_place_10 : dk me_X12_place 10 (.iload_n 3) 1 11 := And.intro (by decide +kernel) rfl
theorem d_X12_place_11 : dk me_X12_place 11 (.ifCond .ge 7) 3 14 := And.intro (by decide +kernel) rfl
theorem d_X12_place_14 : dk me_X12_place 14 (.iconst 1) 1 15 := And.intro (by decide +kernel) rfl
theorem d_X12_place_15 : dk me_X12_place 15 (.goto 18) 3 18 := And.intro (by decide +kernel) rfl
theorem d_X12_place_18 : dk me_X12_place 18 (.iload 4) 2 20 := And.intro (by decide +kernel) rfl
theorem d_X12_place_20 : dk me_X12_place 20 (.iconst 0) 1 21 := And.intro (by decide +kernel) rfl
theorem d_X12_place_21 : dk me_X12_place 21 (.iconst 2) 1 22 := And.intro (by decide +kernel) rfl
theorem d_X12_place_22 : dk me_X12_place 22 (.invokestatic 235) 3 25 := And.intro (by decide +kernel) rfl
theorem d_X12_place_25 : dk me_X12_place 25 (.ifCond .eq 7) 3 28 := And.intro (by decide +kernel) rfl
theorem d_X12_place_28 : dk me_X12_place 28 (.iconst 0) 1 29 := And.intro (by decide +kernel) rfl
theorem d_X12_place_29 : dk me_X12_place 29 (.goto 4) 3 32 := And.intro (by decide +kernel) rfl
theorem d_X12_place_32 : dk me_X12_place 32 (.iconst 2) 1 33 := And.intro (by decide +kernel) rfl
theorem d_X12_place_33 : dk me_X12_place 33 (.invokevirtual 260) 3 36 := And.intro (by decide +kernel) rfl
theorem d_X12_place_36 : dk me_X12_place 36 (.ifCond .ne 5) 3 39 := And.intro (by decide +kernel) rfl
theorem d_X12_place_39 : dk me_X12_place 39 (.iconst 0) 1 40 := And.intro (by decide +kernel) rfl
theorem d_X12_place_40 : dk me_X12_place 40 (.ireturn) 1 41 := And.intro (by decide +kernel) rfl
theorem d_X12_place_41 : dk me_X12_place 41 (.bipush 16) 2 43 := And.intro (by decide +kernel) rfl
theorem d_X12_place_43 : dk me_X12_place 43 (.iload_n 1) 1 44 := And.intro (by decide +kernel) rfl
theorem d_X12_place_44 : dk me_X12_place 44 (.imul) 1 45 := And.intro (by decide +kernel) rfl
theorem d_X12_place_45 : dk me_X12_place 45 (.iload_n 2) 1 46 := And.intro (by decide +kernel) rfl
theorem d_X12_place_46 : dk me_X12_place 46 (.iadd) 1 47 := And.intro (by decide +kernel) rfl
theorem d_X12_place_47 : dk me_X12_place 47 (.istore 5) 2 49 := And.intro (by decide +kernel) rfl
theorem d_X12_place_49 : dk me_X12_place 49 (.aload_n 0) 1 50 := And.intro (by decide +kernel) rfl
theorem d_X12_place_50 : dk me_X12_place 50 (.getfield 84) 3 53 := And.intro (by decide +kernel) rfl
theorem d_X12_place_53 : dk me_X12_place 53 (.iload 5) 2 55 := And.intro (by decide +kernel) rfl
theorem d_X12_place_55 : dk me_X12_place 55 (.baload) 1 56 := And.intro (by decide +kernel) rfl
theorem d_X12_place_56 : dk me_X12_place 56 (.ifCond .eq 14) 3 59 := And.intro (by decide +kernel) rfl
theorem d_X12_place_59 : dk me_X12_place 59 (.iload_n 3) 1 60 := And.intro (by decide +kernel) rfl
theorem d_X12_place_60 : dk me_X12_place 60 (.aload_n 0) 1 61 := And.intro (by decide +kernel) rfl
theorem d_X12_place_61 : dk me_X12_place 61 (.getfield 105) 3 64 := And.intro (by decide +kernel) rfl
theorem d_X12_place_64 : dk me_X12_place 64 (.iload 5) 2 66 := And.intro (by decide +kernel) rfl
theorem d_X12_place_66 : dk me_X12_place 66 (.iaload) 1 67 := And.intro (by decide +kernel) rfl
theorem d_X12_place_67 : dk me_X12_place 67 (.if_icmp .lt 5) 3 70 := And.intro (by decide +kernel) rfl
theorem d_X12_place_70 : dk me_X12_place 70 (.iconst (-1)) 1 71 := And.intro (by decide +kernel) rfl
theorem d_X12_place_71 : dk me_X12_place 71 (.ireturn) 1 72 := And.intro (by decide +kernel) rfl
theorem d_X12_place_72 : dk me_X12_place 72 (.sipush 150) 3 75 := And.intro (by decide +kernel) rfl
theorem d_X12_place_75 : dk me_X12_place 75 (.iload 5) 2 77 := And.intro (by decide +kernel) rfl
theorem d_X12_place_77 : dk me_X12_place 77 (.imul) 1 78 := And.intro (by decide +kernel) rfl
theorem d_X12_place_78 : dk me_X12_place 78 (.iload_n 3) 1 79 := And.intro (by decide +kernel) rfl
theorem d_X12_place_79 : dk me_X12_place 79 (.iadd) 1 80 := And.intro (by decide +kernel) rfl
theorem d_X12_place_80 : dk me_X12_place 80 (.istore 6) 2 82 := And.intro (by decide +kernel) rfl
theorem d_X12_place_82 : dk me_X12_place 82 (.iload 4) 2 84 := And.intro (by decide +kernel) rfl
theorem d_X12_place_84 : dk me_X12_place 84 (.ifCond .ne 13) 3 87 := And.intro (by decide +kernel) rfl
theorem d_X12_place_87 : dk me_X12_place 87 (.aload_n 0) 1 88 := And.intro (by decide +kernel) rfl
theorem d_X12_place_88 : dk me_X12_place 88 (.getfield 135) 3 91 := And.intro (by decide +kernel) rfl
theorem d_X12_place_91 : dk me_X12_place 91 (.iload 6) 2 93 := And.intro (by decide +kernel) rfl
theorem d_X12_place_93 : dk me_X12_place 93 (.iaload) 1 94 := And.intro (by decide +kernel) rfl
theorem d_X12_place_94 : dk me_X12_place 94 (.goto 26) 3 97 := And.intro (by decide +kernel) rfl
theorem d_X12_place_97 : dk me_X12_place 97 (.iload 4) 2 99 := And.intro (by decide +kernel) rfl
theorem d_X12_place_99 : dk me_X12_place 99 (.iconst 1) 1 100 := And.intro (by decide +kernel) rfl
theorem d_X12_place_100 : dk me_X12_place 100 (.if_icmp .ne 13) 3 103 := And.intro (by decide +kernel) rfl
theorem d_X12_place_103 : dk me_X12_place 103 (.aload_n 0) 1 104 := And.intro (by decide +kernel) rfl
theorem d_X12_place_104 : dk me_X12_place 104 (.getfield 132) 3 107 := And.intro (by decide +kernel) rfl
theorem d_X12_place_107 : dk me_X12_place 107 (.iload 6) 2 109 := And.intro (by decide +kernel) rfl
theorem d_X12_place_109 : dk me_X12_place 109 (.iaload) 1 110 := And.intro (by decide +kernel) rfl
theorem d_X12_place_110 : dk me_X12_place 110 (.goto 10) 3 113 := And.intro (by decide +kernel) rfl
theorem d_X12_place_113 : dk me_X12_place 113 (.aload_n 0) 1 114 := And.intro (by decide +kernel) rfl
theorem d_X12_place_114 : dk me_X12_place 114 (.getfield 138) 3 117 := And.intro (by decide +kernel) rfl
theorem d_X12_place_117 : dk me_X12_place 117 (.iload 6) 2 119 := And.intro (by decide +kernel) rfl
theorem d_X12_place_119 : dk me_X12_place 119 (.iaload) 1 120 := And.intro (by decide +kernel) rfl
theorem d_X12_place_120 : dk me_X12_place 120 (.ireturn) 1 121 := And.intro (by decide +kernel) rfl
theorem ms_X12_place {fx : FX} {m : MM} {l0 : Nat} {l1 : Int} {l2 : Int} {l3 : Int} {l4 : Int} : MS fx me_X12_place [aR (some (12, l0)), aI l1, aI l2, aI l3, aI l4] m (f_X12_place m l0 l1 l2 l3 l4) := by
  refine ms_of rfl mf_X12_place (b8 rfl) ?_
  refine s_top ?_
  show Sim fx me_X12_place 0 [(0, aR (some (12, l0))), (1, aI l1), (2, aI l2), (3, aI l3), (4, aI l4)] [] m _
  unfold f_X12_place
  have hj_X12_place_0_33 : ∀ (m_33 : MM) (l0_33 : Nat) (l1_33 : Int) (l2_33 : Int) (l3_33 : Int) (l4_33 : Int) (s0_33 : Nat) (s1_33 : Int), Sim fx me_X12_place 33 [(0, aR (some (12, l0_33))), (1, aI l1_33), (2, aI l2_33), (3, aI l3_33), (4, aI l4_33)] [aI s1_33, aR (some (12, s0_33))] m_33 ((j_X12_place_0_33 m_33 l0_33 l1_33 l2_33 l3_33 l4_33 s0_33 s1_33).bind (fun z => some z)) := by
    intro m_33 l0_33 l1_33 l2_33 l3_33 l4_33 s0_33 s1_33
    unfold j_X12_place_0_33
    refine s_cI (r_V d_X12_place_33 k_X12_holds w_1668 rfl rfl) ms_X12_holds (b8 rfl) rfl rfl rfl (fun _ _ _ => rfl) (fun _ _ => Or.inl rfl) fun v4 m3 => (s_if_ne (tgt := 41) d_X12_place_36 rfl ?_ ?_)
    · refine s_bipush d_X12_place_41 n_16 rfl (s_iload_n d_X12_place_43 m1_ (s_imul d_X12_place_44 rfl rfl (s_iload_n d_X12_place_45 m2_ (s_iadd d_X12_place_46 rfl rfl (s_ck ?_)))))
      refine s_istore (L' := [(5, aI ((16 * l1_33) + l2_33)), (0, aR (some (12, l0_33))), (1, aI l1_33), (2, aI l2_33), (3, aI l3_33), (4, aI l4_33)]) d_X12_place_47 (b8 rfl) rfl (s_aload_n d_X12_place_49 m1_ (s_getR cf d_X12_place_50 fl_X12_84 (s_nk fun i5 => (s_iload d_X12_place_53 m0_ (s_ldB d_X12_place_55 ka_83 rfl fun v6 => ?_)))))
      refine s_if_eq (tgt := 70) d_X12_place_56 rfl ?_ ?_
      · exact s_iconst d_X12_place_70 n_m1 (s_iret d_X12_place_71 rfl rfl)
      refine s_iload_n d_X12_place_59 m4_ (s_aload_n d_X12_place_60 m1_ (s_getR cf d_X12_place_61 fl_X12_105 (s_nk fun i7 => (s_iload d_X12_place_64 m0_ (s_ldN d_X12_place_66 ka_90 rfl fun v8 => ?_)))))
      refine s_icmp_lt (tgt := 72) d_X12_place_67 rfl ?_ ?_
      · refine s_sipush d_X12_place_72 n_150 rfl (s_iload d_X12_place_75 m0_ (s_imul d_X12_place_77 rfl rfl (s_iload_n d_X12_place_78 m4_ (s_iadd d_X12_place_79 rfl rfl (s_ck ?_)))))
        refine s_let fun v9 => (s_istore (L' := [(6, aI v9), (5, aI ((16 * l1_33) + l2_33)), (0, aR (some (12, l0_33))), (1, aI l1_33), (2, aI l2_33), (3, aI l3_33), (4, aI l4_33)]) d_X12_place_80 (b8 rfl) rfl (s_iload d_X12_place_82 m6_ (s_if_ne (tgt := 97) d_X12_place_84 rfl ?_ ?_)))
        · refine s_iload d_X12_place_97 m6_ (s_iconst d_X12_place_99 n_1 (s_icmp_ne (tgt := 113) d_X12_place_100 rfl ?_ ?_))
          · exact s_aload_n d_X12_place_113 m2_ (s_getR cf d_X12_place_114 fl_X12_138 (s_nk fun i10 => (s_iload d_X12_place_117 m0_ (s_ldN d_X12_place_119 ka_101 rfl fun v11 => (s_iret d_X12_place_120 rfl rfl)))))
          refine s_aload_n d_X12_place_103 m2_ (s_getR cf d_X12_place_104 fl_X12_132 (s_nk fun i12 => (s_iload d_X12_place_107 m0_ (s_ldN d_X12_place_109 ka_99 rfl fun v13 => (s_goto (tgt := 120) d_X12_place_110 rfl ?_)))))
          exact s_iret d_X12_place_120 rfl rfl
        refine s_aload_n d_X12_place_87 m2_ (s_getR cf d_X12_place_88 fl_X12_135 (s_nk fun i14 => (s_iload d_X12_place_91 m0_ (s_ldN d_X12_place_93 ka_100 rfl fun v15 => (s_goto (tgt := 120) d_X12_place_94 rfl ?_)))))
        exact s_iret d_X12_place_120 rfl rfl
      exact s_iconst d_X12_place_70 n_m1 (s_iret d_X12_place_71 rfl rfl)
    exact s_iconst d_X12_place_39 n_0 (s_iret d_X12_place_40 rfl rfl)
  have hj_X12_place_0_14 : ∀ (m_14 : MM) (l0_14 : Nat) (l1_14 : Int) (l2_14 : Int) (l3_14 : Int) (l4_14 : Int) (s0_14 : Nat), Sim fx me_X12_place 14 [(0, aR (some (12, l0_14))), (1, aI l1_14), (2, aI l2_14), (3, aI l3_14), (4, aI l4_14)] [aR (some (12, s0_14))] m_14 ((j_X12_place_0_14 m_14 l0_14 l1_14 l2_14 l3_14 l4_14 s0_14).bind (fun z => some z)) := by
    intro m_14 l0_14 l1_14 l2_14 l3_14 l4_14 s0_14
    unfold j_X12_place_0_14
    exact s_iconst d_X12_place_14 n_1 (s_goto (tgt := 33) d_X12_place_15 rfl (s_sub (subc m0_ (subc m1_ (subc m2_ (subc m3_ (subc m4_ sub0))))) (hj_X12_place_0_33 m_14 l0_14 l1_14 l2_14 l3_14 l4_14 s0_14 1)))
  refine s_aload_n d_X12_place_0 m0_ (s_aload_n d_X12_place_1 m0_ (s_iload_n d_X12_place_2 m1_ (s_iload_n d_X12_place_3 m2_ (s_pI (r_V d_X12_place_4 k_X12_isPage w_1779 rfl rfl) ms_X12_isPage (b8 rfl) rfl rfl rfl fun v1 => (s_if_eq (tgt := 14) d_X12_place_7 rfl ?_ ?_)))))
  · exact s_sub (subc m0_ (subc m1_ (subc m2_ (subc m3_ (subc m4_ sub0))))) (hj_X12_place_0_14 m l0 l1 l2 l3 l4 l0)
  refine s_iload_n d_X12_place_10 m3_ (s_if_ge (tgt := 18) d_X12_place_11 rfl ?_ ?_)
  · refine s_iload d_X12_place_18 m4_ (s_iconst d_X12_place_20 n_0 (s_iconst d_X12_place_21 n_2 (s_pI (r_S d_X12_place_22 k_X12_isIn w_1664 rfl rfl) ms_X12_isIn (b8 rfl) rfl rfl rfl fun v2 => (s_if_eq (tgt := 32) d_X12_place_25 rfl ?_ ?_))))
    · exact s_iconst d_X12_place_32 n_2 (s_sub (subc m0_ (subc m1_ (subc m2_ (subc m3_ (subc m4_ sub0))))) (hj_X12_place_0_33 m l0 l1 l2 l3 l4 l0 2))
    exact s_iconst d_X12_place_28 n_0 (s_goto (tgt := 33) d_X12_place_29 rfl (s_sub (subc m0_ (subc m1_ (subc m2_ (subc m3_ (subc m4_ sub0))))) (hj_X12_place_0_33 m l0 l1 l2 l3 l4 l0 0)))
  exact s_sub (subc m0_ (subc m1_ (subc m2_ (subc m3_ (subc m4_ sub0))))) (hj_X12_place_0_14 m l0 l1 l2 l3 l4 l0)
theorem d_X12_presses_0 : dk me_X12_presses 0 (.aload_n 0) 1 1 := And.intro (by decide +kernel) rfl
theorem d_X12_presses_1 : dk me_X12_presses 1 (.aload_n 0) 1 2 := And.intro (by decide +kernel) rfl
theorem d_X12_presses_2 : dk me_X12_presses 2 (.iload_n 1) 1 3 := And.intro (by decide +kernel) rfl
theorem d_X12_presses_3 : dk me_X12_presses 3 (.invokevirtual 239) 3 6 := And.intro (by decide +kernel) rfl
theorem d_X12_presses_6 : dk me_X12_presses 6 (.ifCond .eq 7) 3 9 := And.intro (by decide +kernel) rfl
theorem d_X12_presses_9 : dk me_X12_presses 9 (.iconst 0) 1 10 := And.intro (by decide +kernel) rfl
theorem d_X12_presses_10 : dk me_X12_presses 10 (.goto 4) 3 13 := And.intro (by decide +kernel) rfl
theorem d_X12_presses_13 : dk me_X12_presses 13 (.iconst 1) 1 14 := And.intro (by decide +kernel) rfl
theorem d_X12_presses_14 : dk me_X12_presses 14 (.invokevirtual 260) 3 17 := And.intro (by decide +kernel) rfl
theorem d_X12_presses_17 : dk me_X12_presses 17 (.ifCond .ne 5) 3 20 := And.intro (by decide +kernel) rfl
theorem d_X12_presses_20 : dk me_X12_presses 20 (.iconst 0) 1 21 := And.intro (by decide +kernel) rfl
theorem d_X12_presses_21 : dk me_X12_presses 21 (.ireturn) 1 22 := And.intro (by decide +kernel) rfl
theorem d_X12_presses_22 : dk me_X12_presses 22 (.iconst 0) 1 23 := And.intro (by decide +kernel) rfl
theorem d_X12_presses_23 : dk me_X12_presses 23 (.istore_n 2) 1 24 := And.intro (by decide +kernel) rfl
theorem d_X12_presses_24 : dk me_X12_presses 24 (.sipush 5000) 3 27 := And.intro (by decide +kernel) rfl
theorem d_X12_presses_27 : dk me_X12_presses 27 (.istore_n 3) 1 28 := And.intro (by decide +kernel) rfl
theorem d_X12_presses_28 : dk me_X12_presses 28 (.iconst (-1)) 1 29 := And.intro (by decide +kernel) rfl
theorem d_X12_presses_29 : dk me_X12_presses 29 (.istore 4) 2 31 := And.intro (by decide +kernel) rfl
theorem d_X12_presses_31 : dk me_X12_presses 31 (.iconst 0) 1 32 := And.intro (by decide +kernel) rfl
theorem d_X12_presses_32 : dk me_X12_presses 32 (.istore 5) 2 34 := And.intro (by decide +kernel) rfl
theorem d_X12_presses_34 : dk me_X12_presses 34 (.iload 5) 2 36 := And.intro (by decide +kernel) rfl
theorem d_X12_presses_36 : dk me_X12_presses 36 (.iconst 2) 1 37 := And.intro (by decide +kernel) rfl
theorem d_X12_presses_37 : dk me_X12_presses 37 (.aload_n 0) 1 38 := And.intro (by decide +kernel) rfl
theorem d_X12_presses_38 : dk me_X12_presses 38 (.getfield 56) 3 41 := And.intro (by decide +kernel) rfl
theorem d_X12_presses_41 : dk me_X12_presses 41 (.iload_n 1) 1 42 := And.intro (by decide +kernel) rfl
theorem d_X12_presses_42 : dk me_X12_presses 42 (.iaload) 1 43 := And.intro (by decide +kernel) rfl
theorem d_X12_presses_43 : dk me_X12_presses 43 (.imul) 1 44 := And.intro (by decide +kernel) rfl
theorem d_X12_presses_44 : dk me_X12_presses 44 (.if_icmp .ge 93) 3 47 := And.intro (by decide +kernel) rfl
theorem d_X12_presses_47 : dk me_X12_presses 47 (.bipush 8) 2 49 := And.intro (by decide +kernel) rfl
theorem d_X12_presses_49 : dk me_X12_presses 49 (.iload_n 1) 1 50 := And.intro (by decide +kernel) rfl
theorem d_X12_presses_50 : dk me_X12_presses 50 (.imul) 1 51 := And.intro (by decide +kernel) rfl
theorem d_X12_presses_51 : dk me_X12_presses 51 (.iload 5) 2 53 := And.intro (by decide +kernel) rfl
theorem d_X12_presses_53 : dk me_X12_presses 53 (.iadd) 1 54 := And.intro (by decide +kernel) rfl
theorem d_X12_presses_54 : dk me_X12_presses 54 (.istore 6) 2 56 := And.intro (by decide +kernel) rfl
theorem d_X12_presses_56 : dk me_X12_presses 56 (.aload_n 0) 1 57 := And.intro (by decide +kernel) rfl
theorem d_X12_presses_57 : dk me_X12_presses 57 (.getfield 159) 3 60 := And.intro (by decide +kernel) rfl
theorem d_X12_presses_60 : dk me_X12_presses 60 (.iload 6) 2 62 := And.intro (by decide +kernel) rfl
theorem d_X12_presses_62 : dk me_X12_presses 62 (.iaload) 1 63 := And.intro (by decide +kernel) rfl
theorem d_X12_presses_63 : dk me_X12_presses 63 (.iconst 3) 1 64 := And.intro (by decide +kernel) rfl
theorem d_X12_presses_64 : dk me_X12_presses 64 (.if_icmp .lt 67) 3 67 := And.intro (by decide +kernel) rfl
theorem d_X12_presses_67 : dk me_X12_presses 67 (.iload_n 2) 1 68 := And.intro (by decide +kernel) rfl
theorem d_X12_presses_68 : dk me_X12_presses 68 (.iconst 1) 1 69 := And.intro (by decide +kernel) rfl
theorem d_X12_presses_69 : dk me_X12_presses 69 (.aload_n 0) 1 70 := And.intro (by decide +kernel) rfl
theorem d_X12_presses_70 : dk me_X12_presses 70 (.getfield 65) 3 73 := And.intro (by decide +kernel) rfl
theorem d_X12_presses_73 : dk me_X12_presses 73 (.iload_n 1) 1 74 := And.intro (by decide +kernel) rfl
theorem d_X12_presses_74 : dk me_X12_presses 74 (.iaload) 1 75 := And.intro (by decide +kernel) rfl
theorem d_X12_presses_75 : dk me_X12_presses 75 (.iconst 1) 1 76 := And.intro (by decide +kernel) rfl
theorem d_X12_presses_76 : dk me_X12_presses 76 (.iadd) 1 77 := And.intro (by decide +kernel) rfl
theorem d_X12_presses_77 : dk me_X12_presses 77 (.iconst 2) 1 78 := And.intro (by decide +kernel) rfl
theorem d_X12_presses_78 : dk me_X12_presses 78 (.idiv) 1 79 := And.intro (by decide +kernel) rfl
theorem d_X12_presses_79 : dk me_X12_presses 79 (.iadd) 1 80 := And.intro (by decide +kernel) rfl
theorem d_X12_presses_80 : dk me_X12_presses 80 (.iadd) 1 81 := And.intro (by decide +kernel) rfl
theorem d_X12_presses_81 : dk me_X12_presses 81 (.istore_n 2) 1 82 := And.intro (by decide +kernel) rfl
theorem d_X12_presses_82 : dk me_X12_presses 82 (.aload_n 0) 1 83 := And.intro (by decide +kernel) rfl
theorem d_X12_presses_83 : dk me_X12_presses 83 (.getfield 174) 3 86 := And.intro (by decide +kernel) rfl
theorem d_X12_presses_86 : dk me_X12_presses 86 (.iload 6) 2 88 := And.intro (by decide +kernel) rfl
theorem d_X12_presses_88 : dk me_X12_presses 88 (.iaload) 1 89 := And.intro (by decide +kernel) rfl
theorem d_X12_presses_89 : dk me_X12_presses 89 (.iload_n 3) 1 90 := And.intro (by decide +kernel) rfl
theorem d_X12_presses_90 : dk me_X12_presses 90 (.if_icmp .ge 13) 3 93 := And.intro (by decide +kernel) rfl
theorem d_X12_presses_93 : dk me_X12_presses 93 (.aload_n 0) 1 94 := And.intro (by decide +kernel) rfl
theorem d_X12_presses_94 : dk me_X12_presses 94 (.getfield 174) 3 97 := And.intro (by decide +kernel) rfl
theorem d_X12_presses_97 : dk me_X12_presses 97 (.iload 6) 2 99 := And.intro (by decide +kernel) rfl
theorem d_X12_presses_99 : dk me_X12_presses 99 (.iaload) 1 100 := And.intro (by decide +kernel) rfl
theorem d_X12_presses_100 : dk me_X12_presses 100 (.goto 4) 3 103 := And.intro (by decide +kernel) rfl
theorem d_X12_presses_103 : dk me_X12_presses 103 (.iload_n 3) 1 104 := And.intro (by decide +kernel) rfl
theorem d_X12_presses_104 : dk me_X12_presses 104 (.istore_n 3) 1 105 := And.intro (by decide +kernel) rfl
theorem d_X12_presses_105 : dk me_X12_presses 105 (.aload_n 0) 1 106 := And.intro (by decide +kernel) rfl
theorem d_X12_presses_106 : dk me_X12_presses 106 (.getfield 177) 3 109 := And.intro (by decide +kernel) rfl
theorem d_X12_presses_109 : dk me_X12_presses 109 (.iload 6) 2 111 := And.intro (by decide +kernel) rfl
theorem d_X12_presses_111 : dk me_X12_presses 111 (.iaload) 1 112 := And.intro (by decide +kernel) rfl
theorem d_X12_presses_112 : dk me_X12_presses 112 (.iload 4) 2 114 := And.intro (by decide +kernel) rfl
theorem d_X12_presses_114 : dk me_X12_presses 114 (.if_icmp .le 13) 3 117 := And.intro (by decide +kernel) rfl
theorem d_X12_presses_117 : dk me_X12_presses 117 (.aload_n 0) 1 118 := And.intro (by decide +kernel) rfl
theorem d_X12_presses_118 : dk me_X12_presses 118 (.getfield 177) 3 121 := And.intro (by decide +kernel) rfl
theorem d_X12_presses_121 : dk me_X12_presses 121 (.iload 6) 2 123 := And.intro (by decide +kernel) rfl
theorem d_X12_presses_123 : dk me_X12_presses 123 (.iaload) 1 124 := And.intro (by decide +kernel) rfl
theorem d_X12_presses_124 : dk me_X12_presses 124 (.goto 5) 3 127 := And.intro (by decide +kernel) rfl
theorem d_X12_presses_127 : dk me_X12_presses 127 (.iload 4) 2 129 := And.intro (by decide +kernel) rfl
theorem d_X12_presses_129 : dk me_X12_presses 129 (.istore 4) 2 131 := And.intro (by decide +kernel) rfl
theorem d_X12_presses_131 : dk me_X12_presses 131 (.iinc 5 1) 3 134 := And.intro (by decide +kernel) rfl
theorem d_X12_presses_134 : dk me_X12_presses 134 (.goto (-100)) 3 137 := And.intro (by decide +kernel) rfl
theorem d_X12_presses_137 : dk me_X12_presses 137 (.iconst 0) 1 138 := And.intro (by decide +kernel) rfl
theorem d_X12_presses_138 : dk me_X12_presses 138 (.istore 5) 2 140 := And.intro (by decide +kernel) rfl
theorem d_X12_presses_140 : dk me_X12_presses 140 (.iload_n 3) 1 141 := And.intro (by decide +kernel) rfl
theorem d_X12_presses_141 : dk me_X12_presses 141 (.istore 6) 2 143 := And.intro (by decide +kernel) rfl
theorem d_X12_presses_143 : dk me_X12_presses 143 (.iload 6) 2 145 := And.intro (by decide +kernel) rfl
theorem d_X12_presses_145 : dk me_X12_presses 145 (.iload 4) 2 147 := And.intro (by decide +kernel) rfl
theorem d_X12_presses_147 : dk me_X12_presses 147 (.if_icmp .gt 27) 3 150 := And.intro (by decide +kernel) rfl
theorem d_X12_presses_150 : dk me_X12_presses 150 (.iload 5) 2 152 := And.intro (by decide +kernel) rfl
theorem d_X12_presses_152 : dk me_X12_presses 152 (.iload 6) 2 154 := And.intro (by decide +kernel) rfl
theorem d_X12_presses_154 : dk me_X12_presses 154 (.invokestatic 388) 3 157 := And.intro (by decide +kernel) rfl
theorem d_X12_presses_157 : dk me_X12_presses 157 (.ifCond .eq 7) 3 160 := And.intro (by decide +kernel) rfl
theorem d_X12_presses_160 : dk me_X12_presses 160 (.iconst 0) 1 161 := And.intro (by decide +kernel) rfl
theorem d_X12_presses_161 : dk me_X12_presses 161 (.goto 4) 3 164 := And.intro (by decide +kernel) rfl
theorem d_X12_presses_164 : dk me_X12_presses 164 (.iconst 1) 1 165 := And.intro (by decide +kernel) rfl
theorem d_X12_presses_165 : dk me_X12_presses 165 (.iadd) 1 166 := And.intro (by decide +kernel) rfl
theorem d_X12_presses_166 : dk me_X12_presses 166 (.istore 5) 2 168 := And.intro (by decide +kernel) rfl
theorem d_X12_presses_168 : dk me_X12_presses 168 (.iinc 6 1) 3 171 := And.intro (by decide +kernel) rfl
theorem d_X12_presses_171 : dk me_X12_presses 171 (.goto (-28)) 3 174 := And.intro (by decide +kernel) rfl
theorem d_X12_presses_174 : dk me_X12_presses 174 (.iload_n 2) 1 175 := And.intro (by decide +kernel) rfl
theorem d_X12_presses_175 : dk me_X12_presses 175 (.ifCond .ne 7) 3 178 := And.intro (by decide +kernel) rfl
theorem d_X12_presses_178 : dk me_X12_presses 178 (.iconst 0) 1 179 := And.intro (by decide +kernel) rfl
theorem d_X12_presses_179 : dk me_X12_presses 179 (.goto 12) 3 182 := And.intro (by decide +kernel) rfl
theorem d_X12_presses_182 : dk me_X12_presses 182 (.iload_n 2) 1 183 := And.intro (by decide +kernel) rfl
theorem d_X12_presses_183 : dk me_X12_presses 183 (.iload 5) 2 185 := And.intro (by decide +kernel) rfl
theorem d_X12_presses_185 : dk me_X12_presses 185 (.iadd) 1 186 := And.intro (by decide +kernel) rfl
theorem d_X12_presses_186 : dk me_X12_presses 186 (.iconst 1) 1 187 := And.intro (by decide +kernel) rfl
theorem d_X12_presses_187 : dk me_X12_presses 187 (.isub) 1 188 := And.intro (by decide +kernel) rfl
theorem d_X12_presses_188 : dk me_X12_presses 188 (.iload 5) 2 190 := And.intro (by decide +kernel) rfl
theorem d_X12_presses_190 : dk me_X12_presses 190 (.idiv) 1 191 := And.intro (by decide +kernel) rfl
theorem d_X12_presses_191 : dk me_X12_presses 191 (.ireturn) 1 192 := And.intro (by decide +kernel) rfl
theorem ms_X12_presses {fx : FX} {m : MM} {l0 : Nat} {l1 : Int} : MS fx me_X12_presses [aR (some (12, l0)), aI l1] m (f_X12_presses m l0 l1) := by
  refine ms_of rfl mf_X12_presses (b8 rfl) ?_
  refine s_top ?_
  show Sim fx me_X12_presses 0 [(0, aR (some (12, l0))), (1, aI l1)] [] m _
  unfold f_X12_presses
  have hj_X12_presses_0_174 : ∀ (m_174 : MM) (l2_174 : Int) (l5_174 : Int), Sim fx me_X12_presses 174 [(2, aI l2_174), (5, aI l5_174)] [] m_174 ((j_X12_presses_0_174 m_174 l2_174 l5_174).bind (fun z => some z)) := by
    intro m_174 l2_174 l5_174
    unfold j_X12_presses_0_174
    refine s_iload_n d_X12_presses_174 m0_ (s_if_ne (tgt := 182) d_X12_presses_175 rfl ?_ ?_)
    · refine s_iload_n d_X12_presses_182 m0_ (s_iload d_X12_presses_183 m1_ (s_iadd d_X12_presses_185 rfl rfl (s_iconst d_X12_presses_186 n_1 (s_isub d_X12_presses_187 rfl rfl (s_iload d_X12_presses_188 m1_ ?_)))))
      exact s_ck1 (s_idiv d_X12_presses_190 (s_iret d_X12_presses_191 rfl rfl))
    exact s_iconst d_X12_presses_178 n_0 (s_goto (tgt := 191) d_X12_presses_179 rfl (s_iret d_X12_presses_191 rfl rfl))
  have hj_X12_presses_0_137 : ∀ (m_137 : MM) (l2_137 : Int) (l3_137 : Int) (l4_137 : Int), Sim fx me_X12_presses 137 [(2, aI l2_137), (3, aI l3_137), (4, aI l4_137)] [] m_137 ((j_X12_presses_0_137 m_137 l2_137 l3_137 l4_137).bind (fun z => some z)) := by
    intro m_137 l2_137 l3_137 l4_137
    unfold j_X12_presses_0_137
    refine s_iconst d_X12_presses_137 n_0 (s_istore (L' := [(5, aI 0), (2, aI l2_137), (3, aI l3_137), (4, aI l4_137)]) d_X12_presses_138 (b8 rfl) rfl (s_iload_n d_X12_presses_140 m2_ (s_istore (L' := [(6, aI l3_137), (5, aI 0), (2, aI l2_137), (3, aI l3_137), (4, aI l4_137)]) d_X12_presses_141 (b8 rfl) rfl (s_sub (subc m1_ (subc m0_ (subc m2_ (subc m4_ sub0)))) (s_lp2 (fun s => [(5, aI (s.1)), (6, aI (s.2)), (2, aI l2_137), (4, aI l4_137)]) (fun s => m_137) (0, l3_137) fun k143 hx143 s ih0 => ?_)))))
    obtain ⟨l5_143, l6_143⟩ := s
    have ih143 := ih0
    clear ih0
    try dsimp only
    unfold b_X12_presses_143
    refine s_iload d_X12_presses_143 m1_ (s_iload d_X12_presses_145 m3_ (s_icmp_gt (tgt := 174) d_X12_presses_147 rfl ?_ ?_))
    · exact s_exit (hx143 _) (s_sub (subc m2_ (subc m0_ sub0)) (hj_X12_presses_0_174 m_137 l2_137 l5_143))
    refine s_iload d_X12_presses_150 m0_ (s_iload d_X12_presses_152 m1_ (s_pI (r_S d_X12_presses_154 k_X12_isHoliday w_1890 rfl rfl) ms_X12_isHoliday (b8 rfl) rfl rfl rfl fun v19 => (s_if_eq (tgt := 164) d_X12_presses_157 rfl ?_ ?_)))
    · refine s_iconst d_X12_presses_164 n_1 (s_iadd d_X12_presses_165 rfl rfl (s_ck (s_istore (L' := [(5, aI (l5_143 + 1)), (6, aI l6_143), (2, aI l2_137), (4, aI l4_137)]) d_X12_presses_166 (b8 rfl) rfl (s_iinc (L' := [(6, aI (l6_143 + 1)), (5, aI (l5_143 + 1)), (2, aI l2_137), (4, aI l4_137)]) d_X12_presses_168 m1_ (b8 rfl) rfl (s_goto (tgt := 143) d_X12_presses_171 rfl ?_)))))
      exact s_sub (subc m1_ (subc m0_ (subc m2_ (subc m3_ sub0)))) (s_back (ih143 ((l5_143 + 1), (l6_143 + 1))))
    refine s_iconst d_X12_presses_160 n_0 (s_goto (tgt := 165) d_X12_presses_161 rfl (s_iadd d_X12_presses_165 rfl rfl (s_ck (s_istore (L' := [(5, aI (l5_143 + 0)), (6, aI l6_143), (2, aI l2_137), (4, aI l4_137)]) d_X12_presses_166 (b8 rfl) rfl (s_iinc (L' := [(6, aI (l6_143 + 1)), (5, aI (l5_143 + 0)), (2, aI l2_137), (4, aI l4_137)]) d_X12_presses_168 m1_ (b8 rfl) rfl ?_)))))
    exact s_goto (tgt := 143) d_X12_presses_171 rfl (s_sub (subc m1_ (subc m0_ (subc m2_ (subc m3_ sub0)))) (s_back (ih143 ((l5_143 + 0), (l6_143 + 1)))))
  have hj_X12_presses_0_14 : ∀ (m_14 : MM) (l0_14 : Nat) (l1_14 : Int) (s0_14 : Nat) (s1_14 : Int), Sim fx me_X12_presses 14 [(0, aR (some (12, l0_14))), (1, aI l1_14)] [aI s1_14, aR (some (12, s0_14))] m_14 ((j_X12_presses_0_14 m_14 l0_14 l1_14 s0_14 s1_14).bind (fun z => some z)) := by
    intro m_14 l0_14 l1_14 s0_14 s1_14
    unfold j_X12_presses_0_14
    refine s_cI (r_V d_X12_presses_14 k_X12_holds w_1668 rfl rfl) ms_X12_holds (b8 rfl) rfl rfl rfl (fun _ _ _ => rfl) (fun _ _ => Or.inl rfl) fun v3 m2 => (s_if_ne (tgt := 22) d_X12_presses_17 rfl ?_ ?_)
    · refine s_iconst d_X12_presses_22 n_0 (s_istore_n (L' := [(2, aI 0), (0, aR (some (12, l0_14))), (1, aI l1_14)]) d_X12_presses_23 (b8 rfl) rfl (s_sipush d_X12_presses_24 n_5000 rfl (s_istore_n (L' := [(3, aI 5000), (2, aI 0), (0, aR (some (12, l0_14))), (1, aI l1_14)]) d_X12_presses_27 (b8 rfl) rfl (s_iconst d_X12_presses_28 n_m1 (s_istore (L' := [(4, aI (-1)), (3, aI 5000), (2, aI 0), (0, aR (some (12, l0_14))), (1, aI l1_14)]) d_X12_presses_29 (b8 rfl) rfl ?_)))))
      refine s_iconst d_X12_presses_31 n_0 (s_istore (L' := [(5, aI 0), (4, aI (-1)), (3, aI 5000), (2, aI 0), (0, aR (some (12, l0_14))), (1, aI l1_14)]) d_X12_presses_32 (b8 rfl) rfl (s_sub (subc m3_ (subc m2_ (subc m1_ (subc m0_ (subc m4_ (subc m5_ sub0)))))) (s_lp2 (fun s => [(2, aI (s.1)), (3, aI (s.2.1)), (4, aI (s.2.2.1)), (5, aI (s.2.2.2)), (0, aR (some (12, l0_14))), (1, aI l1_14)]) (fun s => m2) (0, 5000, (-1), 0) fun k34 hx34 s ih0 => ?_)))
      obtain ⟨l2_34, l3_34, l4_34, l5_34⟩ := s
      have ih34 := ih0
      clear ih0
      try dsimp only
      unfold b_X12_presses_34
      have hj_X12_presses_34_104 : ∀ (l2_104 : Int) (l4_104 : Int) (l5_104 : Int) (l6_104 : Int) (s0_104 : Int), Sim fx me_X12_presses 104 [(0, aR (some (12, l0_14))), (1, aI l1_14), (2, aI l2_104), (4, aI l4_104), (5, aI l5_104), (6, aI l6_104)] [aI s0_104] m2 ((j_X12_presses_34_104 m2 l0_14 l1_14 l2_104 l4_104 l5_104 l6_104 s0_104).bind k34) := by
        intro l2_104 l4_104 l5_104 l6_104 s0_104
        unfold j_X12_presses_34_104
        refine s_istore_n (L' := [(3, aI s0_104), (0, aR (some (12, l0_14))), (1, aI l1_14), (2, aI l2_104), (4, aI l4_104), (5, aI l5_104), (6, aI l6_104)]) d_X12_presses_104 (b8 rfl) rfl (s_aload_n d_X12_presses_105 m1_ (s_getR cf d_X12_presses_106 fl_X12_177 (s_nk fun i15 => (s_iload d_X12_presses_109 m6_ (s_ldN d_X12_presses_111 ka_114 rfl fun v16 => ?_)))))
        refine s_iload d_X12_presses_112 m4_ (s_icmp_le (tgt := 127) d_X12_presses_114 rfl ?_ ?_)
        · exact s_iload d_X12_presses_127 m4_ (s_istore (L' := [(4, aI l4_104), (3, aI s0_104), (0, aR (some (12, l0_14))), (1, aI l1_14), (2, aI l2_104), (5, aI l5_104), (6, aI l6_104)]) d_X12_presses_129 (b8 rfl) rfl (s_iinc (L' := [(5, aI (l5_104 + 1)), (4, aI l4_104), (3, aI s0_104), (0, aR (some (12, l0_14))), (1, aI l1_14), (2, aI l2_104), (6, aI l6_104)]) d_X12_presses_131 m5_ (b8 rfl) rfl (s_goto (tgt := 34) d_X12_presses_134 rfl (s_sub (subc m5_ (subc m2_ (subc m1_ (subc m0_ (subc m3_ (subc m4_ sub0)))))) (s_back (ih34 (l2_104, s0_104, l4_104, (l5_104 + 1))))))))
        refine s_aload_n d_X12_presses_117 m1_ (s_getR cf d_X12_presses_118 fl_X12_177 (s_nk fun i17 => (s_iload d_X12_presses_121 m6_ (s_ldN d_X12_presses_123 ka_114 rfl fun v18 => (s_goto (tgt := 129) d_X12_presses_124 rfl ?_)))))
        exact s_istore (L' := [(4, aI v18), (3, aI s0_104), (0, aR (some (12, l0_14))), (1, aI l1_14), (2, aI l2_104), (5, aI l5_104), (6, aI l6_104)]) d_X12_presses_129 (b8 rfl) rfl (s_iinc (L' := [(5, aI (l5_104 + 1)), (4, aI v18), (3, aI s0_104), (0, aR (some (12, l0_14))), (1, aI l1_14), (2, aI l2_104), (6, aI l6_104)]) d_X12_presses_131 m5_ (b8 rfl) rfl (s_goto (tgt := 34) d_X12_presses_134 rfl (s_sub (subc m5_ (subc m2_ (subc m1_ (subc m0_ (subc m3_ (subc m4_ sub0)))))) (s_back (ih34 (l2_104, s0_104, v18, (l5_104 + 1)))))))
      refine s_iload d_X12_presses_34 m3_ (s_iconst d_X12_presses_36 n_2 (s_aload_n d_X12_presses_37 m4_ (s_getR cf d_X12_presses_38 fl_X12_56 (s_nk fun i4 => (s_iload_n d_X12_presses_41 m5_ ?_)))))
      refine s_ldN d_X12_presses_42 ka_74 rfl fun v5 => (s_imul d_X12_presses_43 rfl rfl (s_ck (s_icmp_ge (tgt := 137) d_X12_presses_44 rfl ?_ ?_)))
      · exact s_exit (hx34 _) (s_sub (subc m0_ (subc m1_ (subc m2_ sub0))) (hj_X12_presses_0_137 m2 l2_34 l3_34 l4_34))
      refine s_bipush d_X12_presses_47 n_8 rfl (s_iload_n d_X12_presses_49 m5_ (s_imul d_X12_presses_50 rfl rfl (s_iload d_X12_presses_51 m3_ (s_iadd d_X12_presses_53 rfl rfl (s_ck ?_)))))
      refine s_istore (L' := [(6, aI ((8 * l1_14) + l5_34)), (2, aI l2_34), (3, aI l3_34), (4, aI l4_34), (5, aI l5_34), (0, aR (some (12, l0_14))), (1, aI l1_14)]) d_X12_presses_54 (b8 rfl) rfl (s_aload_n d_X12_presses_56 m5_ (s_getR cf d_X12_presses_57 fl_X12_159 (s_nk fun i6 => (s_iload d_X12_presses_60 m0_ (s_ldN d_X12_presses_62 ka_108 rfl fun v7 => ?_)))))
      refine s_iconst d_X12_presses_63 n_3 (s_icmp_lt (tgt := 131) d_X12_presses_64 rfl ?_ ?_)
      · exact s_iinc (L' := [(5, aI (l5_34 + 1)), (6, aI ((8 * l1_14) + l5_34)), (2, aI l2_34), (3, aI l3_34), (4, aI l4_34), (0, aR (some (12, l0_14))), (1, aI l1_14)]) d_X12_presses_131 m4_ (b8 rfl) rfl (s_goto (tgt := 34) d_X12_presses_134 rfl (s_sub (subc m2_ (subc m3_ (subc m4_ (subc m0_ (subc m5_ (subc m6_ sub0)))))) (s_back (ih34 (l2_34, l3_34, l4_34, (l5_34 + 1))))))
      refine s_iload_n d_X12_presses_67 m1_ (s_iconst d_X12_presses_68 n_1 (s_aload_n d_X12_presses_69 m5_ (s_getR cf d_X12_presses_70 fl_X12_65 (s_nk fun i8 => (s_iload_n d_X12_presses_73 m6_ ?_)))))
      refine s_ldN d_X12_presses_74 ka_77 rfl fun v9 => (s_iconst d_X12_presses_75 n_1 (s_iadd d_X12_presses_76 rfl rfl (s_iconst d_X12_presses_77 n_2 (s_ck1 (s_idiv d_X12_presses_78 ?_)))))
      refine s_iadd d_X12_presses_79 rfl rfl (s_iadd d_X12_presses_80 rfl rfl (s_ck (s_let fun v10 => (s_istore_n (L' := [(2, aI v10), (6, aI ((8 * l1_14) + l5_34)), (3, aI l3_34), (4, aI l4_34), (5, aI l5_34), (0, aR (some (12, l0_14))), (1, aI l1_14)]) d_X12_presses_81 (b8 rfl) rfl (s_aload_n d_X12_presses_82 m5_ ?_)))))
      refine s_getR cf d_X12_presses_83 fl_X12_174 (s_nk fun i11 => (s_iload d_X12_presses_86 m1_ (s_ldN d_X12_presses_88 ka_113 rfl fun v12 => (s_iload_n d_X12_presses_89 m2_ (s_icmp_ge (tgt := 103) d_X12_presses_90 rfl ?_ ?_)))))
      · exact s_iload_n d_X12_presses_103 m2_ (s_sub (subc m5_ (subc m6_ (subc m0_ (subc m3_ (subc m4_ (subc m1_ sub0)))))) (hj_X12_presses_34_104 v10 l4_34 l5_34 ((8 * l1_14) + l5_34) l3_34))
      refine s_aload_n d_X12_presses_93 m5_ (s_getR cf d_X12_presses_94 fl_X12_174 (s_nk fun i13 => (s_iload d_X12_presses_97 m1_ (s_ldN d_X12_presses_99 ka_113 rfl fun v14 => (s_goto (tgt := 104) d_X12_presses_100 rfl ?_)))))
      exact s_sub (subc m5_ (subc m6_ (subc m0_ (subc m3_ (subc m4_ (subc m1_ sub0)))))) (hj_X12_presses_34_104 v10 l4_34 l5_34 ((8 * l1_14) + l5_34) v14)
    exact s_iconst d_X12_presses_20 n_0 (s_iret d_X12_presses_21 rfl rfl)
  refine s_aload_n d_X12_presses_0 m0_ (s_aload_n d_X12_presses_1 m0_ (s_iload_n d_X12_presses_2 m1_ (s_pI (r_V d_X12_presses_3 k_X12_isBook w_1747 rfl rfl) ms_X12_isBook (b8 rfl) rfl rfl rfl fun v1 => (s_if_eq (tgt := 13) d_X12_presses_6 rfl ?_ ?_))))
  · exact s_iconst d_X12_presses_13 n_1 (s_sub (subc m0_ (subc m1_ sub0)) (hj_X12_presses_0_14 m l0 l1 l0 1))
  exact s_iconst d_X12_presses_9 n_0 (s_goto (tgt := 14) d_X12_presses_10 rfl (s_sub (subc m0_ (subc m1_ sub0)) (hj_X12_presses_0_14 m l0 l1 l0 0)))
theorem d_X12_print_0 : dk me_X12_print 0 (.iload_n 1) 1 1 := And.intro (by decide +kernel) rfl
theorem d_X12_print_1 : dk me_X12_print 1 (.iconst 0) 1 2 := And.intro (by decide +kernel) rfl
theorem d_X12_print_2 : dk me_X12_print 2 (.iconst 2) 1 3 := And.intro (by decide +kernel) rfl
theorem d_X12_print_3 : dk me_X12_print 3 (.invokestatic 235) 3 6 := And.intro (by decide +kernel) rfl
theorem d_X12_print_6 : dk me_X12_print 6 (.ifCond .eq 16) 3 9 := And.intro (by decide +kernel) rfl
theorem d_X12_print_9 : dk me_X12_print 9 (.aload_n 0) 1 10 := And.intro (by decide +kernel) rfl
theorem d_X12_print_10 : dk me_X12_print 10 (.iload_n 2) 1 11 := And.intro (by decide +kernel) rfl
theorem d_X12_print_11 : dk me_X12_print 11 (.iload_n 3) 1 12 := And.intro (by decide +kernel) rfl
theorem d_X12_print_12 : dk me_X12_print 12 (.invokevirtual 370) 3 15 := And.intro (by decide +kernel) rfl
theorem d_X12_print_15 : dk me_X12_print 15 (.ifCond .eq 7) 3 18 := And.intro (by decide +kernel) rfl
theorem d_X12_print_18 : dk me_X12_print 18 (.iconst 1) 1 19 := And.intro (by decide +kernel) rfl
theorem d_X12_print_19 : dk me_X12_print 19 (.goto 4) 3 22 := And.intro (by decide +kernel) rfl
theorem d_X12_print_22 : dk me_X12_print 22 (.iconst 0) 1 23 := And.intro (by decide +kernel) rfl
theorem d_X12_print_23 : dk me_X12_print 23 (.istore 4) 2 25 := And.intro (by decide +kernel) rfl
theorem d_X12_print_25 : dk me_X12_print 25 (.iload 4) 2 27 := And.intro (by decide +kernel) rfl
theorem d_X12_print_27 : dk me_X12_print 27 (.ifCond .eq 12) 3 30 := And.intro (by decide +kernel) rfl
theorem d_X12_print_30 : dk me_X12_print 30 (.bipush 8) 2 32 := And.intro (by decide +kernel) rfl
theorem d_X12_print_32 : dk me_X12_print 32 (.iload_n 2) 1 33 := And.intro (by decide +kernel) rfl
theorem d_X12_print_33 : dk me_X12_print 33 (.imul) 1 34 := And.intro (by decide +kernel) rfl
theorem d_X12_print_34 : dk me_X12_print 34 (.iload_n 3) 1 35 := And.intro (by decide +kernel) rfl
theorem d_X12_print_35 : dk me_X12_print 35 (.iadd) 1 36 := And.intro (by decide +kernel) rfl
theorem d_X12_print_36 : dk me_X12_print 36 (.goto 4) 3 39 := And.intro (by decide +kernel) rfl
theorem d_X12_print_39 : dk me_X12_print 39 (.iconst 0) 1 40 := And.intro (by decide +kernel) rfl
theorem d_X12_print_40 : dk me_X12_print 40 (.istore 5) 2 42 := And.intro (by decide +kernel) rfl
theorem d_X12_print_42 : dk me_X12_print 42 (.aload_n 0) 1 43 := And.intro (by decide +kernel) rfl
theorem d_X12_print_43 : dk me_X12_print 43 (.iload 4) 2 45 := And.intro (by decide +kernel) rfl
theorem d_X12_print_45 : dk me_X12_print 45 (.ifCond .ne 7) 3 48 := And.intro (by decide +kernel) rfl
theorem d_X12_print_48 : dk me_X12_print 48 (.iconst 1) 1 49 := And.intro (by decide +kernel) rfl
theorem d_X12_print_49 : dk me_X12_print 49 (.goto 42) 3 52 := And.intro (by decide +kernel) rfl
theorem d_X12_print_52 : dk me_X12_print 52 (.aload_n 0) 1 53 := And.intro (by decide +kernel) rfl
theorem d_X12_print_53 : dk me_X12_print 53 (.getfield 201) 3 56 := And.intro (by decide +kernel) rfl
theorem d_X12_print_56 : dk me_X12_print 56 (.iload_n 1) 1 57 := And.intro (by decide +kernel) rfl
theorem d_X12_print_57 : dk me_X12_print 57 (.iaload) 1 58 := And.intro (by decide +kernel) rfl
theorem d_X12_print_58 : dk me_X12_print 58 (.iconst (-1)) 1 59 := And.intro (by decide +kernel) rfl
theorem d_X12_print_59 : dk me_X12_print 59 (.if_icmp .ne 27) 3 62 := And.intro (by decide +kernel) rfl
theorem d_X12_print_62 : dk me_X12_print 62 (.aload_n 0) 1 63 := And.intro (by decide +kernel) rfl
theorem d_X12_print_63 : dk me_X12_print 63 (.getfield 159) 3 66 := And.intro (by decide +kernel) rfl
theorem d_X12_print_66 : dk me_X12_print 66 (.iload 5) 2 68 := And.intro (by decide +kernel) rfl
theorem d_X12_print_68 : dk me_X12_print 68 (.iaload) 1 69 := And.intro (by decide +kernel) rfl
theorem d_X12_print_69 : dk me_X12_print 69 (.iconst 1) 1 70 := And.intro (by decide +kernel) rfl
theorem d_X12_print_70 : dk me_X12_print 70 (.if_icmp .ne 16) 3 73 := And.intro (by decide +kernel) rfl
theorem d_X12_print_73 : dk me_X12_print 73 (.aload_n 0) 1 74 := And.intro (by decide +kernel) rfl
theorem d_X12_print_74 : dk me_X12_print 74 (.getfield 159) 3 77 := And.intro (by decide +kernel) rfl
theorem d_X12_print_77 : dk me_X12_print 77 (.iload 5) 2 79 := And.intro (by decide +kernel) rfl
theorem d_X12_print_79 : dk me_X12_print 79 (.iconst 1) 1 80 := And.intro (by decide +kernel) rfl
theorem d_X12_print_80 : dk me_X12_print 80 (.ixor) 1 81 := And.intro (by decide +kernel) rfl
theorem d_X12_print_81 : dk me_X12_print 81 (.iaload) 1 82 := And.intro (by decide +kernel) rfl
theorem d_X12_print_82 : dk me_X12_print 82 (.iconst 2) 1 83 := And.intro (by decide +kernel) rfl
theorem d_X12_print_83 : dk me_X12_print 83 (.if_icmp .ne 7) 3 86 := And.intro (by decide +kernel) rfl
theorem d_X12_print_86 : dk me_X12_print 86 (.iconst 2) 1 87 := And.intro (by decide +kernel) rfl
theorem d_X12_print_87 : dk me_X12_print 87 (.goto 4) 3 90 := And.intro (by decide +kernel) rfl
theorem d_X12_print_90 : dk me_X12_print 90 (.iconst 0) 1 91 := And.intro (by decide +kernel) rfl
theorem d_X12_print_91 : dk me_X12_print 91 (.invokevirtual 260) 3 94 := And.intro (by decide +kernel) rfl
theorem d_X12_print_94 : dk me_X12_print 94 (.ifCond .ne 4) 3 97 := And.intro (by decide +kernel) rfl
theorem d_X12_print_97 : dk me_X12_print 97 (.return_) 1 98 := And.intro (by decide +kernel) rfl
theorem d_X12_print_98 : dk me_X12_print 98 (.aload_n 0) 1 99 := And.intro (by decide +kernel) rfl
theorem d_X12_print_99 : dk me_X12_print 99 (.getfield 159) 3 102 := And.intro (by decide +kernel) rfl
theorem d_X12_print_102 : dk me_X12_print 102 (.iload 5) 2 104 := And.intro (by decide +kernel) rfl
theorem d_X12_print_104 : dk me_X12_print 104 (.iconst 2) 1 105 := And.intro (by decide +kernel) rfl
theorem d_X12_print_105 : dk me_X12_print 105 (.iastore) 1 106 := And.intro (by decide +kernel) rfl
theorem d_X12_print_106 : dk me_X12_print 106 (.aload_n 0) 1 107 := And.intro (by decide +kernel) rfl
theorem d_X12_print_107 : dk me_X12_print 107 (.getfield 180) 3 110 := And.intro (by decide +kernel) rfl
theorem d_X12_print_110 : dk me_X12_print 110 (.iload 5) 2 112 := And.intro (by decide +kernel) rfl
theorem d_X12_print_112 : dk me_X12_print 112 (.iconst 0) 1 113 := And.intro (by decide +kernel) rfl
theorem d_X12_print_113 : dk me_X12_print 113 (.bastore) 1 114 := And.intro (by decide +kernel) rfl
theorem d_X12_print_114 : dk me_X12_print 114 (.aload_n 0) 1 115 := And.intro (by decide +kernel) rfl
theorem d_X12_print_115 : dk me_X12_print 115 (.getfield 174) 3 118 := And.intro (by decide +kernel) rfl
theorem d_X12_print_118 : dk me_X12_print 118 (.iload 5) 2 120 := And.intro (by decide +kernel) rfl
theorem d_X12_print_120 : dk me_X12_print 120 (.aload_n 0) 1 121 := And.intro (by decide +kernel) rfl
theorem d_X12_print_121 : dk me_X12_print 121 (.getfield 379) 3 124 := And.intro (by decide +kernel) rfl
theorem d_X12_print_124 : dk me_X12_print 124 (.iastore) 1 125 := And.intro (by decide +kernel) rfl
theorem d_X12_print_125 : dk me_X12_print 125 (.aload_n 0) 1 126 := And.intro (by decide +kernel) rfl
theorem d_X12_print_126 : dk me_X12_print 126 (.getfield 201) 3 129 := And.intro (by decide +kernel) rfl
theorem d_X12_print_129 : dk me_X12_print 129 (.iload_n 1) 1 130 := And.intro (by decide +kernel) rfl
theorem d_X12_print_130 : dk me_X12_print 130 (.iload 5) 2 132 := And.intro (by decide +kernel) rfl
theorem d_X12_print_132 : dk me_X12_print 132 (.iastore) 1 133 := And.intro (by decide +kernel) rfl
theorem d_X12_print_133 : dk me_X12_print 133 (.iload 5) 2 135 := And.intro (by decide +kernel) rfl
theorem d_X12_print_135 : dk me_X12_print 135 (.iconst 2) 1 136 := And.intro (by decide +kernel) rfl
theorem d_X12_print_136 : dk me_X12_print 136 (.idiv) 1 137 := And.intro (by decide +kernel) rfl
theorem d_X12_print_137 : dk me_X12_print 137 (.istore 6) 2 139 := And.intro (by decide +kernel) rfl
theorem d_X12_print_139 : dk me_X12_print 139 (.aload_n 0) 1 140 := And.intro (by decide +kernel) rfl
theorem d_X12_print_140 : dk me_X12_print 140 (.getfield 183) 3 143 := And.intro (by decide +kernel) rfl
theorem d_X12_print_143 : dk me_X12_print 143 (.iload 5) 2 145 := And.intro (by decide +kernel) rfl
theorem d_X12_print_145 : dk me_X12_print 145 (.aload_n 0) 1 146 := And.intro (by decide +kernel) rfl
theorem d_X12_print_146 : dk me_X12_print 146 (.getfield 186) 3 149 := And.intro (by decide +kernel) rfl
theorem d_X12_print_149 : dk me_X12_print 149 (.iload 6) 2 151 := And.intro (by decide +kernel) rfl
theorem d_X12_print_151 : dk me_X12_print 151 (.baload) 1 152 := And.intro (by decide +kernel) rfl
theorem d_X12_print_152 : dk me_X12_print 152 (.ifCond .ne 7) 3 155 := And.intro (by decide +kernel) rfl
theorem d_X12_print_155 : dk me_X12_print 155 (.iconst 1) 1 156 := And.intro (by decide +kernel) rfl
theorem d_X12_print_156 : dk me_X12_print 156 (.goto 4) 3 159 := And.intro (by decide +kernel) rfl
theorem d_X12_print_159 : dk me_X12_print 159 (.iconst 0) 1 160 := And.intro (by decide +kernel) rfl
theorem d_X12_print_160 : dk me_X12_print 160 (.bastore) 1 161 := And.intro (by decide +kernel) rfl
theorem d_X12_print_161 : dk me_X12_print 161 (.aload_n 0) 1 162 := And.intro (by decide +kernel) rfl
theorem d_X12_print_162 : dk me_X12_print 162 (.getfield 186) 3 165 := And.intro (by decide +kernel) rfl
theorem d_X12_print_165 : dk me_X12_print 165 (.iload 6) 2 167 := And.intro (by decide +kernel) rfl
theorem d_X12_print_167 : dk me_X12_print 167 (.baload) 1 168 := And.intro (by decide +kernel) rfl
theorem d_X12_print_168 : dk me_X12_print 168 (.ifCond .ne 56) 3 171 := And.intro (by decide +kernel) rfl
theorem d_X12_print_171 : dk me_X12_print 171 (.aload_n 0) 1 172 := And.intro (by decide +kernel) rfl
theorem d_X12_print_172 : dk me_X12_print 172 (.getfield 186) 3 175 := And.intro (by decide +kernel) rfl
theorem d_X12_print_175 : dk me_X12_print 175 (.iload 6) 2 177 := And.intro (by decide +kernel) rfl
theorem d_X12_print_177 : dk me_X12_print 177 (.iconst 1) 1 178 := And.intro (by decide +kernel) rfl
theorem d_X12_print_178 : dk me_X12_print 178 (.bastore) 1 179 := And.intro (by decide +kernel) rfl
theorem d_X12_print_179 : dk me_X12_print 179 (.aload_n 0) 1 180 := And.intro (by decide +kernel) rfl
theorem d_X12_print_180 : dk me_X12_print 180 (.getfield 189) 3 183 := And.intro (by decide +kernel) rfl
theorem d_X12_print_183 : dk me_X12_print 183 (.iload 6) 2 185 := And.intro (by decide +kernel) rfl
theorem d_X12_print_185 : dk me_X12_print 185 (.aload_n 0) 1 186 := And.intro (by decide +kernel) rfl
theorem d_X12_print_186 : dk me_X12_print 186 (.getfield 382) 3 189 := And.intro (by decide +kernel) rfl
theorem d_X12_print_189 : dk me_X12_print 189 (.iastore) 1 190 := And.intro (by decide +kernel) rfl
theorem d_X12_print_190 : dk me_X12_print 190 (.aload_n 0) 1 191 := And.intro (by decide +kernel) rfl
theorem d_X12_print_191 : dk me_X12_print 191 (.getfield 192) 3 194 := And.intro (by decide +kernel) rfl
theorem d_X12_print_194 : dk me_X12_print 194 (.iload 6) 2 196 := And.intro (by decide +kernel) rfl
theorem d_X12_print_196 : dk me_X12_print 196 (.aload_n 0) 1 197 := And.intro (by decide +kernel) rfl
theorem d_X12_print_197 : dk me_X12_print 197 (.getfield 210) 3 200 := And.intro (by decide +kernel) rfl
theorem d_X12_print_200 : dk me_X12_print 200 (.aload_n 0) 1 201 := And.intro (by decide +kernel) rfl
theorem d_X12_print_201 : dk me_X12_print 201 (.getfield 382) 3 204 := And.intro (by decide +kernel) rfl
theorem d_X12_print_204 : dk me_X12_print 204 (.iaload) 1 205 := And.intro (by decide +kernel) rfl
theorem d_X12_print_205 : dk me_X12_print 205 (.iastore) 1 206 := And.intro (by decide +kernel) rfl
theorem d_X12_print_206 : dk me_X12_print 206 (.aload_n 0) 1 207 := And.intro (by decide +kernel) rfl
theorem d_X12_print_207 : dk me_X12_print 207 (.getfield 210) 3 210 := And.intro (by decide +kernel) rfl
theorem d_X12_print_210 : dk me_X12_print 210 (.aload_n 0) 1 211 := And.intro (by decide +kernel) rfl
theorem d_X12_print_211 : dk me_X12_print 211 (.getfield 382) 3 214 := And.intro (by decide +kernel) rfl
theorem d_X12_print_214 : dk me_X12_print 214 (.dup2) 1 215 := And.intro (by decide +kernel) rfl
theorem d_X12_print_215 : dk me_X12_print 215 (.iaload) 1 216 := And.intro (by decide +kernel) rfl
theorem d_X12_print_216 : dk me_X12_print 216 (.aload_n 0) 1 217 := And.intro (by decide +kernel) rfl
theorem d_X12_print_217 : dk me_X12_print 217 (.getfield 65) 3 220 := And.intro (by decide +kernel) rfl
theorem d_X12_print_220 : dk me_X12_print 220 (.iload_n 2) 1 221 := And.intro (by decide +kernel) rfl
theorem d_X12_print_221 : dk me_X12_print 221 (.iaload) 1 222 := And.intro (by decide +kernel) rfl
theorem d_X12_print_222 : dk me_X12_print 222 (.iadd) 1 223 := And.intro (by decide +kernel) rfl
theorem d_X12_print_223 : dk me_X12_print 223 (.iastore) 1 224 := And.intro (by decide +kernel) rfl
theorem d_X12_print_224 : dk me_X12_print 224 (.return_) 1 225 := And.intro (by decide +kernel) rfl
theorem ms_X12_print {fx : FX} {m : MM} {l0 : Nat} {l1 : Int} {l2 : Int} {l3 : Int} : MS fx me_X12_print [aR (some (12, l0)), aI l1, aI l2, aI l3] m (f_X12_print m l0 l1 l2 l3) := by
  refine ms_of rfl mf_X12_print (b8 rfl) ?_
  refine s_top ?_
  show Sim fx me_X12_print 0 [(0, aR (some (12, l0))), (1, aI l1), (2, aI l2), (3, aI l3)] [] m _
  unfold f_X12_print
  have hj_X12_print_0_160 : ∀ (m_160 : MM) (l0_160 : Nat) (l2_160 : Int) (l6_160 : Int) (s0_160 : Nat) (s1_160 : Int) (s2_160 : Int), Sim fx me_X12_print 160 [(0, aR (some (12, l0_160))), (2, aI l2_160), (6, aI l6_160)] [aI s2_160, aI s1_160, aR (some (116, s0_160))] m_160 ((j_X12_print_0_160 m_160 l0_160 l2_160 l6_160 s0_160 s1_160 s2_160).bind (fun z => some z)) := by
    intro m_160 l0_160 l2_160 l6_160 s0_160 s1_160 s2_160
    unfold j_X12_print_0_160
    refine s_stB d_X12_print_160 ka_116 rfl fun m22 => (s_aload_n d_X12_print_161 m0_ (s_getR cf d_X12_print_162 fl_X12_186 (s_nk fun i23 => (s_iload d_X12_print_165 m2_ (s_ldB d_X12_print_167 ka_117 rfl fun v24 => ?_)))))
    refine s_if_ne (tgt := 224) d_X12_print_168 rfl ?_ ?_
    · exact s_vret d_X12_print_224 rfl rfl
    refine s_aload_n d_X12_print_171 m0_ (s_getR cf d_X12_print_172 fl_X12_186 (s_nk fun i25 => (s_iload d_X12_print_175 m2_ (s_iconst d_X12_print_177 n_1 (s_stBl d_X12_print_178 ka_117 rfl (by decide) fun m26 => ?_)))))
    refine s_aload_n d_X12_print_179 m0_ (s_getR cf d_X12_print_180 fl_X12_189 (s_nk fun i27 => (s_iload d_X12_print_183 m2_ (s_aload_n d_X12_print_185 m0_ (s_getN cf d_X12_print_186 fl_X12_382 ?_)))))
    refine s_stN d_X12_print_189 ka_118 rfl fun m28 => (s_aload_n d_X12_print_190 m0_ (s_getR cf d_X12_print_191 fl_X12_192 (s_nk fun i29 => (s_iload d_X12_print_194 m2_ (s_aload_n d_X12_print_196 m0_ ?_)))))
    refine s_getR cf d_X12_print_197 fl_X12_210 (s_nk fun i30 => (s_aload_n d_X12_print_200 m0_ (s_getN cf d_X12_print_201 fl_X12_382 (s_ldN d_X12_print_204 ka_125 rfl fun v31 => (s_stN d_X12_print_205 ka_119 rfl fun m32 => ?_)))))
    refine s_aload_n d_X12_print_206 m0_ (s_getR cf d_X12_print_207 fl_X12_210 (s_nk fun i33 => (s_aload_n d_X12_print_210 m0_ (s_getN cf d_X12_print_211 fl_X12_382 (s_dup2 d_X12_print_214 rfl rfl ?_)))))
    refine s_ldN d_X12_print_215 ka_125 rfl fun v34 => (s_aload_n d_X12_print_216 m0_ (s_getR cf d_X12_print_217 fl_X12_65 (s_nk fun i35 => (s_iload_n d_X12_print_220 m1_ (s_ldN d_X12_print_221 ka_77 rfl fun v36 => ?_)))))
    exact s_iadd d_X12_print_222 rfl rfl (s_ck (s_stN d_X12_print_223 ka_125 rfl fun m37 => (s_vret d_X12_print_224 rfl rfl)))
  have hj_X12_print_0_91 : ∀ (m_91 : MM) (l0_91 : Nat) (l1_91 : Int) (l2_91 : Int) (l5_91 : Int) (s0_91 : Nat) (s1_91 : Int), Sim fx me_X12_print 91 [(0, aR (some (12, l0_91))), (1, aI l1_91), (2, aI l2_91), (5, aI l5_91)] [aI s1_91, aR (some (12, s0_91))] m_91 ((j_X12_print_0_91 m_91 l0_91 l1_91 l2_91 l5_91 s0_91 s1_91).bind (fun z => some z)) := by
    intro m_91 l0_91 l1_91 l2_91 l5_91 s0_91 s1_91
    unfold j_X12_print_0_91
    refine s_cI (r_V d_X12_print_91 k_X12_holds w_1668 rfl rfl) ms_X12_holds (b8 rfl) rfl rfl rfl (fun _ _ _ => rfl) (fun _ _ => Or.inl rfl) fun v10 m9 => (s_if_ne (tgt := 98) d_X12_print_94 rfl ?_ ?_)
    · refine s_aload_n d_X12_print_98 m0_ (s_getR cf d_X12_print_99 fl_X12_159 (s_nk fun i11 => (s_iload d_X12_print_102 m3_ (s_iconst d_X12_print_104 n_2 (s_stN d_X12_print_105 ka_108 rfl fun m12 => ?_)))))
      refine s_aload_n d_X12_print_106 m0_ (s_getR cf d_X12_print_107 fl_X12_180 (s_nk fun i13 => (s_iload d_X12_print_110 m3_ (s_iconst d_X12_print_112 n_0 (s_stBl d_X12_print_113 ka_115 rfl (by decide) fun m14 => ?_)))))
      refine s_aload_n d_X12_print_114 m0_ (s_getR cf d_X12_print_115 fl_X12_174 (s_nk fun i15 => (s_iload d_X12_print_118 m3_ (s_aload_n d_X12_print_120 m0_ (s_getN cf d_X12_print_121 fl_X12_379 ?_)))))
      refine s_stN d_X12_print_124 ka_113 rfl fun m16 => (s_aload_n d_X12_print_125 m0_ (s_getR cf d_X12_print_126 fl_X12_201 (s_nk fun i17 => (s_iload_n d_X12_print_129 m1_ (s_iload d_X12_print_130 m3_ ?_)))))
      refine s_stN d_X12_print_132 ka_122 rfl fun m18 => (s_iload d_X12_print_133 m3_ (s_iconst d_X12_print_135 n_2 (s_idiv d_X12_print_136 (s_istore (L' := [(6, aI (l5_91 / 2)), (0, aR (some (12, l0_91))), (1, aI l1_91), (2, aI l2_91), (5, aI l5_91)]) d_X12_print_137 (b8 rfl) rfl (s_aload_n d_X12_print_139 m1_ ?_)))))
      refine s_getR cf d_X12_print_140 fl_X12_183 (s_nk fun i19 => (s_iload d_X12_print_143 m4_ (s_aload_n d_X12_print_145 m1_ (s_getR cf d_X12_print_146 fl_X12_186 (s_nk fun i20 => ?_)))))
      refine s_iload d_X12_print_149 m0_ (s_ldB d_X12_print_151 ka_117 rfl fun v21 => (s_if_ne (tgt := 159) d_X12_print_152 rfl ?_ ?_))
      · exact s_iconst d_X12_print_159 n_0 (s_sub (subc m1_ (subc m3_ (subc m0_ sub0))) (hj_X12_print_0_160 m18 l0_91 l2_91 (l5_91 / 2) i19 l5_91 0))
      exact s_iconst d_X12_print_155 n_1 (s_goto (tgt := 160) d_X12_print_156 rfl (s_sub (subc m1_ (subc m3_ (subc m0_ sub0))) (hj_X12_print_0_160 m18 l0_91 l2_91 (l5_91 / 2) i19 l5_91 1)))
    exact s_vret d_X12_print_97 rfl rfl
  have hj_X12_print_0_86 : ∀ (m_86 : MM) (l0_86 : Nat) (l1_86 : Int) (l2_86 : Int) (l5_86 : Int) (s0_86 : Nat), Sim fx me_X12_print 86 [(0, aR (some (12, l0_86))), (1, aI l1_86), (2, aI l2_86), (5, aI l5_86)] [aR (some (12, s0_86))] m_86 ((j_X12_print_0_86 m_86 l0_86 l1_86 l2_86 l5_86 s0_86).bind (fun z => some z)) := by
    intro m_86 l0_86 l1_86 l2_86 l5_86 s0_86
    unfold j_X12_print_0_86
    exact s_iconst d_X12_print_86 n_2 (s_goto (tgt := 91) d_X12_print_87 rfl (s_sub (subc m0_ (subc m1_ (subc m2_ (subc m3_ sub0)))) (hj_X12_print_0_91 m_86 l0_86 l1_86 l2_86 l5_86 s0_86 2)))
  have hj_X12_print_0_40 : ∀ (m_40 : MM) (l0_40 : Nat) (l1_40 : Int) (l2_40 : Int) (l4_40 : Int) (s0_40 : Int), Sim fx me_X12_print 40 [(0, aR (some (12, l0_40))), (1, aI l1_40), (2, aI l2_40), (4, aI l4_40)] [aI s0_40] m_40 ((j_X12_print_0_40 m_40 l0_40 l1_40 l2_40 l4_40 s0_40).bind (fun z => some z)) := by
    intro m_40 l0_40 l1_40 l2_40 l4_40 s0_40
    unfold j_X12_print_0_40
    refine s_istore (L' := [(5, aI s0_40), (0, aR (some (12, l0_40))), (1, aI l1_40), (2, aI l2_40), (4, aI l4_40)]) d_X12_print_40 (b8 rfl) rfl (s_aload_n d_X12_print_42 m1_ (s_iload d_X12_print_43 m4_ (s_if_ne (tgt := 52) d_X12_print_45 rfl ?_ ?_)))
    · refine s_aload_n d_X12_print_52 m1_ (s_getR cf d_X12_print_53 fl_X12_201 (s_nk fun i3 => (s_iload_n d_X12_print_56 m2_ (s_ldN d_X12_print_57 ka_122 rfl fun v4 => (s_iconst d_X12_print_58 n_m1 ?_)))))
      refine s_icmp_ne (tgt := 86) d_X12_print_59 rfl ?_ ?_
      · exact s_sub (subc m1_ (subc m2_ (subc m3_ (subc m0_ sub0)))) (hj_X12_print_0_86 m_40 l0_40 l1_40 l2_40 s0_40 l0_40)
      refine s_aload_n d_X12_print_62 m1_ (s_getR cf d_X12_print_63 fl_X12_159 (s_nk fun i5 => (s_iload d_X12_print_66 m0_ (s_ldN d_X12_print_68 ka_108 rfl fun v6 => (s_iconst d_X12_print_69 n_1 ?_)))))
      refine s_icmp_ne (tgt := 86) d_X12_print_70 rfl ?_ ?_
      · exact s_sub (subc m1_ (subc m2_ (subc m3_ (subc m0_ sub0)))) (hj_X12_print_0_86 m_40 l0_40 l1_40 l2_40 s0_40 l0_40)
      refine s_aload_n d_X12_print_73 m1_ (s_getR cf d_X12_print_74 fl_X12_159 (s_nk fun i7 => (s_iload d_X12_print_77 m0_ (s_iconst d_X12_print_79 n_1 (s_ixor d_X12_print_80 ?_)))))
      refine s_ldN d_X12_print_81 ka_108 rfl fun v8 => (s_iconst d_X12_print_82 n_2 (s_icmp_ne (tgt := 90) d_X12_print_83 rfl ?_ ?_))
      · exact s_iconst d_X12_print_90 n_0 (s_sub (subc m1_ (subc m2_ (subc m3_ (subc m0_ sub0)))) (hj_X12_print_0_91 m_40 l0_40 l1_40 l2_40 s0_40 l0_40 0))
      exact s_sub (subc m1_ (subc m2_ (subc m3_ (subc m0_ sub0)))) (hj_X12_print_0_86 m_40 l0_40 l1_40 l2_40 s0_40 l0_40)
    exact s_iconst d_X12_print_48 n_1 (s_goto (tgt := 91) d_X12_print_49 rfl (s_sub (subc m1_ (subc m2_ (subc m3_ (subc m0_ sub0)))) (hj_X12_print_0_91 m_40 l0_40 l1_40 l2_40 s0_40 l0_40 1)))
  have hj_X12_print_0_23 : ∀ (m_23 : MM) (l0_23 : Nat) (l1_23 : Int) (l2_23 : Int) (l3_23 : Int) (s0_23 : Int), Sim fx me_X12_print 23 [(0, aR (some (12, l0_23))), (1, aI l1_23), (2, aI l2_23), (3, aI l3_23)] [aI s0_23] m_23 ((j_X12_print_0_23 m_23 l0_23 l1_23 l2_23 l3_23 s0_23).bind (fun z => some z)) := by
    intro m_23 l0_23 l1_23 l2_23 l3_23 s0_23
    unfold j_X12_print_0_23
    refine s_istore (L' := [(4, aI s0_23), (0, aR (some (12, l0_23))), (1, aI l1_23), (2, aI l2_23), (3, aI l3_23)]) d_X12_print_23 (b8 rfl) rfl (s_iload d_X12_print_25 m0_ (s_if_eq (tgt := 39) d_X12_print_27 rfl ?_ ?_))
    · exact s_iconst d_X12_print_39 n_0 (s_sub (subc m1_ (subc m2_ (subc m3_ (subc m0_ sub0)))) (hj_X12_print_0_40 m_23 l0_23 l1_23 l2_23 s0_23 0))
    refine s_bipush d_X12_print_30 n_8 rfl (s_iload_n d_X12_print_32 m3_ (s_imul d_X12_print_33 rfl rfl (s_iload_n d_X12_print_34 m4_ (s_iadd d_X12_print_35 rfl rfl (s_goto (tgt := 40) d_X12_print_36 rfl ?_)))))
    exact s_ck (s_sub (subc m1_ (subc m2_ (subc m3_ (subc m0_ sub0)))) (hj_X12_print_0_40 m_23 l0_23 l1_23 l2_23 s0_23 ((8 * l2_23) + l3_23)))
  have hj_X12_print_0_22 : ∀ (m_22 : MM) (l0_22 : Nat) (l1_22 : Int) (l2_22 : Int) (l3_22 : Int), Sim fx me_X12_print 22 [(0, aR (some (12, l0_22))), (1, aI l1_22), (2, aI l2_22), (3, aI l3_22)] [] m_22 ((j_X12_print_0_22 m_22 l0_22 l1_22 l2_22 l3_22).bind (fun z => some z)) := by
    intro m_22 l0_22 l1_22 l2_22 l3_22
    unfold j_X12_print_0_22
    exact s_iconst d_X12_print_22 n_0 (s_sub (subc m0_ (subc m1_ (subc m2_ (subc m3_ sub0)))) (hj_X12_print_0_23 m_22 l0_22 l1_22 l2_22 l3_22 0))
  refine s_iload_n d_X12_print_0 m1_ (s_iconst d_X12_print_1 n_0 (s_iconst d_X12_print_2 n_2 (s_pI (r_S d_X12_print_3 k_X12_isIn w_1664 rfl rfl) ms_X12_isIn (b8 rfl) rfl rfl rfl fun v1 => (s_if_eq (tgt := 22) d_X12_print_6 rfl ?_ ?_))))
  · exact s_sub (subc m0_ (subc m1_ (subc m2_ (subc m3_ sub0)))) (hj_X12_print_0_22 m l0 l1 l2 l3)
  refine s_aload_n d_X12_print_9 m0_ (s_iload_n d_X12_print_10 m2_ (s_iload_n d_X12_print_11 m3_ (s_pI (r_V d_X12_print_12 k_X12_isForme w_1866 rfl rfl) ms_X12_isForme (b8 rfl) rfl rfl rfl fun v2 => (s_if_eq (tgt := 22) d_X12_print_15 rfl ?_ ?_))))
  · exact s_sub (subc m0_ (subc m1_ (subc m2_ (subc m3_ sub0)))) (hj_X12_print_0_22 m l0 l1 l2 l3)
  exact s_iconst d_X12_print_18 n_1 (s_goto (tgt := 23) d_X12_print_19 rfl (s_sub (subc m0_ (subc m1_ (subc m2_ (subc m3_ sub0)))) (hj_X12_print_0_23 m l0 l1 l2 l3 1)))
theorem d_X12_putAway_0 : dk me_X12_putAway 0 (.aload_n 0) 1 1 := And.intro (by decide +kernel) rfl
theorem d_X12_putAway_1 : dk me_X12_putAway 1 (.iload_n 1) 1 2 := And.intro (by decide +kernel) rfl
theorem d_X12_putAway_2 : dk me_X12_putAway 2 (.iload_n 2) 1 3 := And.intro (by decide +kernel) rfl
theorem d_X12_putAway_3 : dk me_X12_putAway 3 (.invokevirtual 370) 3 6 := And.intro (by decide +kernel) rfl
theorem d_X12_putAway_6 : dk me_X12_putAway 6 (.ifCond .eq 15) 3 9 := And.intro (by decide +kernel) rfl
theorem d_X12_putAway_9 : dk me_X12_putAway 9 (.aload_n 0) 1 10 := And.intro (by decide +kernel) rfl
theorem d_X12_putAway_10 : dk me_X12_putAway 10 (.iload_n 3) 1 11 := And.intro (by decide +kernel) rfl
theorem d_X12_putAway_11 : dk me_X12_putAway 11 (.invokevirtual 337) 3 14 := And.intro (by decide +kernel) rfl
theorem d_X12_putAway_14 : dk me_X12_putAway 14 (.ifCond .eq 7) 3 17 := And.intro (by decide +kernel) rfl
theorem d_X12_putAway_17 : dk me_X12_putAway 17 (.iconst 1) 1 18 := And.intro (by decide +kernel) rfl
theorem d_X12_putAway_18 : dk me_X12_putAway 18 (.goto 4) 3 21 := And.intro (by decide +kernel) rfl
theorem d_X12_putAway_21 : dk me_X12_putAway 21 (.iconst 0) 1 22 := And.intro (by decide +kernel) rfl
theorem d_X12_putAway_22 : dk me_X12_putAway 22 (.istore 4) 2 24 := And.intro (by decide +kernel) rfl
theorem d_X12_putAway_24 : dk me_X12_putAway 24 (.iload 4) 2 26 := And.intro (by decide +kernel) rfl
theorem d_X12_putAway_26 : dk me_X12_putAway 26 (.ifCond .eq 12) 3 29 := And.intro (by decide +kernel) rfl
theorem d_X12_putAway_29 : dk me_X12_putAway 29 (.bipush 8) 2 31 := And.intro (by decide +kernel) rfl
theorem d_X12_putAway_31 : dk me_X12_putAway 31 (.iload_n 1) 1 32 := And.intro (by decide +kernel) rfl
theorem d_X12_putAway_32 : dk me_X12_putAway 32 (.imul) 1 33 := And.intro (by decide +kernel) rfl
theorem d_X12_putAway_33 : dk me_X12_putAway 33 (.iload_n 2) 1 34 := And.intro (by decide +kernel) rfl
theorem d_X12_putAway_34 : dk me_X12_putAway 34 (.iadd) 1 35 := And.intro (by decide +kernel) rfl
theorem d_X12_putAway_35 : dk me_X12_putAway 35 (.goto 4) 3 38 := And.intro (by decide +kernel) rfl
theorem d_X12_putAway_38 : dk me_X12_putAway 38 (.iconst 0) 1 39 := And.intro (by decide +kernel) rfl
theorem d_X12_putAway_39 : dk me_X12_putAway 39 (.istore 5) 2 41 := And.intro (by decide +kernel) rfl
theorem d_X12_putAway_41 : dk me_X12_putAway 41 (.aload_n 0) 1 42 := And.intro (by decide +kernel) rfl
theorem d_X12_putAway_42 : dk me_X12_putAway 42 (.iload 4) 2 44 := And.intro (by decide +kernel) rfl
theorem d_X12_putAway_44 : dk me_X12_putAway 44 (.ifCond .ne 7) 3 47 := And.intro (by decide +kernel) rfl
theorem d_X12_putAway_47 : dk me_X12_putAway 47 (.iconst 1) 1 48 := And.intro (by decide +kernel) rfl
theorem d_X12_putAway_48 : dk me_X12_putAway 48 (.goto 19) 3 51 := And.intro (by decide +kernel) rfl
theorem d_X12_putAway_51 : dk me_X12_putAway 51 (.aload_n 0) 1 52 := And.intro (by decide +kernel) rfl
theorem d_X12_putAway_52 : dk me_X12_putAway 52 (.getfield 159) 3 55 := And.intro (by decide +kernel) rfl
theorem d_X12_putAway_55 : dk me_X12_putAway 55 (.iload 5) 2 57 := And.intro (by decide +kernel) rfl
theorem d_X12_putAway_57 : dk me_X12_putAway 57 (.iaload) 1 58 := And.intro (by decide +kernel) rfl
theorem d_X12_putAway_58 : dk me_X12_putAway 58 (.iconst 3) 1 59 := And.intro (by decide +kernel) rfl
theorem d_X12_putAway_59 : dk me_X12_putAway 59 (.if_icmp .ne 7) 3 62 := And.intro (by decide +kernel) rfl
theorem d_X12_putAway_62 : dk me_X12_putAway 62 (.iconst 0) 1 63 := And.intro (by decide +kernel) rfl
theorem d_X12_putAway_63 : dk me_X12_putAway 63 (.goto 4) 3 66 := And.intro (by decide +kernel) rfl
theorem d_X12_putAway_66 : dk me_X12_putAway 66 (.iconst 2) 1 67 := And.intro (by decide +kernel) rfl
theorem d_X12_putAway_67 : dk me_X12_putAway 67 (.invokevirtual 260) 3 70 := And.intro (by decide +kernel) rfl
theorem d_X12_putAway_70 : dk me_X12_putAway 70 (.ifCond .ne 5) 3 73 := And.intro (by decide +kernel) rfl
theorem d_X12_putAway_73 : dk me_X12_putAway 73 (.iconst 0) 1 74 := And.intro (by decide +kernel) rfl
theorem d_X12_putAway_74 : dk me_X12_putAway 74 (.ireturn) 1 75 := And.intro (by decide +kernel) rfl
theorem d_X12_putAway_75 : dk me_X12_putAway 75 (.iconst 0) 1 76 := And.intro (by decide +kernel) rfl
theorem d_X12_putAway_76 : dk me_X12_putAway 76 (.istore 6) 2 78 := And.intro (by decide +kernel) rfl
theorem d_X12_putAway_78 : dk me_X12_putAway 78 (.iconst 0) 1 79 := And.intro (by decide +kernel) rfl
theorem d_X12_putAway_79 : dk me_X12_putAway 79 (.istore 7) 2 81 := And.intro (by decide +kernel) rfl
theorem d_X12_putAway_81 : dk me_X12_putAway 81 (.iload 7) 2 83 := And.intro (by decide +kernel) rfl
theorem d_X12_putAway_83 : dk me_X12_putAway 83 (.aload_n 0) 1 84 := And.intro (by decide +kernel) rfl
theorem d_X12_putAway_84 : dk me_X12_putAway 84 (.iload_n 1) 1 85 := And.intro (by decide +kernel) rfl
theorem d_X12_putAway_85 : dk me_X12_putAway 85 (.invokevirtual 243) 3 88 := And.intro (by decide +kernel) rfl
theorem d_X12_putAway_88 : dk me_X12_putAway 88 (.if_icmp .ge 182) 3 91 := And.intro (by decide +kernel) rfl
theorem d_X12_putAway_91 : dk me_X12_putAway 91 (.bipush 16) 2 93 := And.intro (by decide +kernel) rfl
theorem d_X12_putAway_93 : dk me_X12_putAway 93 (.iload_n 1) 1 94 := And.intro (by decide +kernel) rfl
theorem d_X12_putAway_94 : dk me_X12_putAway 94 (.imul) 1 95 := And.intro (by decide +kernel) rfl
theorem d_X12_putAway_95 : dk me_X12_putAway 95 (.iload 7) 2 97 := And.intro (by decide +kernel) rfl
theorem d_X12_putAway_97 : dk me_X12_putAway 97 (.iadd) 1 98 := And.intro (by decide +kernel) rfl
theorem d_X12_putAway_98 : dk me_X12_putAway 98 (.istore 8) 2 100 := And.intro (by decide +kernel) rfl
theorem d_X12_putAway_100 : dk me_X12_putAway 100 (.sipush 150) 3 103 := And.intro (by decide +kernel) rfl
theorem d_X12_putAway_103 : dk me_X12_putAway 103 (.iload 8) 2 105 := And.intro (by decide +kernel) rfl
theorem d_X12_putAway_105 : dk me_X12_putAway 105 (.imul) 1 106 := And.intro (by decide +kernel) rfl
theorem d_X12_putAway_106 : dk me_X12_putAway 106 (.istore 9) 2 108 := And.intro (by decide +kernel) rfl
theorem d_X12_putAway_108 : dk me_X12_putAway 108 (.iload 9) 2 110 := And.intro (by decide +kernel) rfl
theorem d_X12_putAway_110 : dk me_X12_putAway 110 (.sipush 150) 3 113 := And.intro (by decide +kernel) rfl
theorem d_X12_putAway_113 : dk me_X12_putAway 113 (.iload 8) 2 115 := And.intro (by decide +kernel) rfl
theorem d_X12_putAway_115 : dk me_X12_putAway 115 (.imul) 1 116 := And.intro (by decide +kernel) rfl
theorem d_X12_putAway_116 : dk me_X12_putAway 116 (.aload_n 0) 1 117 := And.intro (by decide +kernel) rfl
theorem d_X12_putAway_117 : dk me_X12_putAway 117 (.getfield 105) 3 120 := And.intro (by decide +kernel) rfl
theorem d_X12_putAway_120 : dk me_X12_putAway 120 (.iload 8) 2 122 := And.intro (by decide +kernel) rfl
theorem d_X12_putAway_122 : dk me_X12_putAway 122 (.iaload) 1 123 := And.intro (by decide +kernel) rfl
theorem d_X12_putAway_123 : dk me_X12_putAway 123 (.iadd) 1 124 := And.intro (by decide +kernel) rfl
theorem d_X12_putAway_124 : dk me_X12_putAway 124 (.if_icmp .ge 140) 3 127 := And.intro (by decide +kernel) rfl
theorem d_X12_putAway_127 : dk me_X12_putAway 127 (.aload_n 0) 1 128 := And.intro (by decide +kernel) rfl
theorem d_X12_putAway_128 : dk me_X12_putAway 128 (.iload_n 1) 1 129 := And.intro (by decide +kernel) rfl
theorem d_X12_putAway_129 : dk me_X12_putAway 129 (.iload 7) 2 131 := And.intro (by decide +kernel) rfl
theorem d_X12_putAway_131 : dk me_X12_putAway 131 (.invokevirtual 360) 3 134 := And.intro (by decide +kernel) rfl
theorem d_X12_putAway_134 : dk me_X12_putAway 134 (.iload_n 2) 1 135 := And.intro (by decide +kernel) rfl
theorem d_X12_putAway_135 : dk me_X12_putAway 135 (.if_icmp .ne 129) 3 138 := And.intro (by decide +kernel) rfl
theorem d_X12_putAway_138 : dk me_X12_putAway 138 (.aload_n 0) 1 139 := And.intro (by decide +kernel) rfl
theorem d_X12_putAway_139 : dk me_X12_putAway 139 (.getfield 135) 3 142 := And.intro (by decide +kernel) rfl
theorem d_X12_putAway_142 : dk me_X12_putAway 142 (.iload 9) 2 144 := And.intro (by decide +kernel) rfl
theorem d_X12_putAway_144 : dk me_X12_putAway 144 (.iaload) 1 145 := And.intro (by decide +kernel) rfl
theorem d_X12_putAway_145 : dk me_X12_putAway 145 (.iconst (-1)) 1 146 := And.intro (by decide +kernel) rfl
theorem d_X12_putAway_146 : dk me_X12_putAway 146 (.if_icmp .eq 112) 3 149 := And.intro (by decide +kernel) rfl
theorem d_X12_putAway_149 : dk me_X12_putAway 149 (.iinc 6 1) 3 152 := And.intro (by decide +kernel) rfl
theorem d_X12_putAway_152 : dk me_X12_putAway 152 (.aload_n 0) 1 153 := And.intro (by decide +kernel) rfl
theorem d_X12_putAway_153 : dk me_X12_putAway 153 (.getfield 50) 3 156 := And.intro (by decide +kernel) rfl
theorem d_X12_putAway_156 : dk me_X12_putAway 156 (.iload_n 3) 1 157 := And.intro (by decide +kernel) rfl
theorem d_X12_putAway_157 : dk me_X12_putAway 157 (.dup2) 1 158 := And.intro (by decide +kernel) rfl
theorem d_X12_putAway_158 : dk me_X12_putAway 158 (.iaload) 1 159 := And.intro (by decide +kernel) rfl
theorem d_X12_putAway_159 : dk me_X12_putAway 159 (.iconst 1) 1 160 := And.intro (by decide +kernel) rfl
theorem d_X12_putAway_160 : dk me_X12_putAway 160 (.iadd) 1 161 := And.intro (by decide +kernel) rfl
theorem d_X12_putAway_161 : dk me_X12_putAway 161 (.iastore) 1 162 := And.intro (by decide +kernel) rfl
theorem d_X12_putAway_162 : dk me_X12_putAway 162 (.aload_n 0) 1 163 := And.intro (by decide +kernel) rfl
theorem d_X12_putAway_163 : dk me_X12_putAway 163 (.getfield 38) 3 166 := And.intro (by decide +kernel) rfl
theorem d_X12_putAway_166 : dk me_X12_putAway 166 (.iload_n 3) 1 167 := And.intro (by decide +kernel) rfl
theorem d_X12_putAway_167 : dk me_X12_putAway 167 (.iaload) 1 168 := And.intro (by decide +kernel) rfl
theorem d_X12_putAway_168 : dk me_X12_putAway 168 (.ifCond .le 23) 3 171 := And.intro (by decide +kernel) rfl
theorem d_X12_putAway_171 : dk me_X12_putAway 171 (.aload_n 0) 1 172 := And.intro (by decide +kernel) rfl
theorem d_X12_putAway_172 : dk me_X12_putAway 172 (.getfield 50) 3 175 := And.intro (by decide +kernel) rfl
theorem d_X12_putAway_175 : dk me_X12_putAway 175 (.iload_n 3) 1 176 := And.intro (by decide +kernel) rfl
theorem d_X12_putAway_176 : dk me_X12_putAway 176 (.iaload) 1 177 := And.intro (by decide +kernel) rfl
theorem d_X12_putAway_177 : dk me_X12_putAway 177 (.aload_n 0) 1 178 := And.intro (by decide +kernel) rfl
theorem d_X12_putAway_178 : dk me_X12_putAway 178 (.getfield 38) 3 181 := And.intro (by decide +kernel) rfl
theorem d_X12_putAway_181 : dk me_X12_putAway 181 (.iload_n 3) 1 182 := And.intro (by decide +kernel) rfl
theorem d_X12_putAway_182 : dk me_X12_putAway 182 (.iaload) 1 183 := And.intro (by decide +kernel) rfl
theorem d_X12_putAway_183 : dk me_X12_putAway 183 (.irem) 1 184 := And.intro (by decide +kernel) rfl
theorem d_X12_putAway_184 : dk me_X12_putAway 184 (.ifCond .ne 7) 3 187 := And.intro (by decide +kernel) rfl
theorem d_X12_putAway_187 : dk me_X12_putAway 187 (.iconst 1) 1 188 := And.intro (by decide +kernel) rfl
theorem d_X12_putAway_188 : dk me_X12_putAway 188 (.goto 4) 3 191 := And.intro (by decide +kernel) rfl
theorem d_X12_putAway_191 : dk me_X12_putAway 191 (.iconst 0) 1 192 := And.intro (by decide +kernel) rfl
theorem d_X12_putAway_192 : dk me_X12_putAway 192 (.istore 10) 2 194 := And.intro (by decide +kernel) rfl
theorem d_X12_putAway_194 : dk me_X12_putAway 194 (.aload_n 0) 1 195 := And.intro (by decide +kernel) rfl
theorem d_X12_putAway_195 : dk me_X12_putAway 195 (.iload 10) 2 197 := And.intro (by decide +kernel) rfl
theorem d_X12_putAway_197 : dk me_X12_putAway 197 (.ifCond .eq 23) 3 200 := And.intro (by decide +kernel) rfl
theorem d_X12_putAway_200 : dk me_X12_putAway 200 (.aload_n 0) 1 201 := And.intro (by decide +kernel) rfl
theorem d_X12_putAway_201 : dk me_X12_putAway 201 (.getfield 20) 3 204 := And.intro (by decide +kernel) rfl
theorem d_X12_putAway_204 : dk me_X12_putAway 204 (.aload_n 0) 1 205 := And.intro (by decide +kernel) rfl
theorem d_X12_putAway_205 : dk me_X12_putAway 205 (.getfield 135) 3 208 := And.intro (by decide +kernel) rfl
theorem d_X12_putAway_208 : dk me_X12_putAway 208 (.iload 9) 2 210 := And.intro (by decide +kernel) rfl
theorem d_X12_putAway_210 : dk me_X12_putAway 210 (.iaload) 1 211 := And.intro (by decide +kernel) rfl
theorem d_X12_putAway_211 : dk me_X12_putAway 211 (.iaload) 1 212 := And.intro (by decide +kernel) rfl
theorem d_X12_putAway_212 : dk me_X12_putAway 212 (.iconst 1) 1 213 := And.intro (by decide +kernel) rfl
theorem d_X12_putAway_213 : dk me_X12_putAway 213 (.iadd) 1 214 := And.intro (by decide +kernel) rfl
theorem d_X12_putAway_214 : dk me_X12_putAway 214 (.bipush 28) 2 216 := And.intro (by decide +kernel) rfl
theorem d_X12_putAway_216 : dk me_X12_putAway 216 (.irem) 1 217 := And.intro (by decide +kernel) rfl
theorem d_X12_putAway_217 : dk me_X12_putAway 217 (.goto 15) 3 220 := And.intro (by decide +kernel) rfl
theorem d_X12_putAway_220 : dk me_X12_putAway 220 (.aload_n 0) 1 221 := And.intro (by decide +kernel) rfl
theorem d_X12_putAway_221 : dk me_X12_putAway 221 (.getfield 20) 3 224 := And.intro (by decide +kernel) rfl
theorem d_X12_putAway_224 : dk me_X12_putAway 224 (.aload_n 0) 1 225 := And.intro (by decide +kernel) rfl
theorem d_X12_putAway_225 : dk me_X12_putAway 225 (.getfield 135) 3 228 := And.intro (by decide +kernel) rfl
theorem d_X12_putAway_228 : dk me_X12_putAway 228 (.iload 9) 2 230 := And.intro (by decide +kernel) rfl
theorem d_X12_putAway_230 : dk me_X12_putAway 230 (.iaload) 1 231 := And.intro (by decide +kernel) rfl
theorem d_X12_putAway_231 : dk me_X12_putAway 231 (.iaload) 1 232 := And.intro (by decide +kernel) rfl
theorem d_X12_putAway_232 : dk me_X12_putAway 232 (.aload_n 0) 1 233 := And.intro (by decide +kernel) rfl
theorem d_X12_putAway_233 : dk me_X12_putAway 233 (.getfield 135) 3 236 := And.intro (by decide +kernel) rfl
theorem d_X12_putAway_236 : dk me_X12_putAway 236 (.iload 9) 2 238 := And.intro (by decide +kernel) rfl
theorem d_X12_putAway_238 : dk me_X12_putAway 238 (.iaload) 1 239 := And.intro (by decide +kernel) rfl
theorem d_X12_putAway_239 : dk me_X12_putAway 239 (.invokevirtual 294) 3 242 := And.intro (by decide +kernel) rfl
theorem d_X12_putAway_242 : dk me_X12_putAway 242 (.aload_n 0) 1 243 := And.intro (by decide +kernel) rfl
theorem d_X12_putAway_243 : dk me_X12_putAway 243 (.getfield 135) 3 246 := And.intro (by decide +kernel) rfl
theorem d_X12_putAway_246 : dk me_X12_putAway 246 (.iload 9) 2 248 := And.intro (by decide +kernel) rfl
theorem d_X12_putAway_248 : dk me_X12_putAway 248 (.iconst (-1)) 1 249 := And.intro (by decide +kernel) rfl
theorem d_X12_putAway_249 : dk me_X12_putAway 249 (.iastore) 1 250 := And.intro (by decide +kernel) rfl
theorem d_X12_putAway_250 : dk me_X12_putAway 250 (.aload_n 0) 1 251 := And.intro (by decide +kernel) rfl
theorem d_X12_putAway_251 : dk me_X12_putAway 251 (.getfield 138) 3 254 := And.intro (by decide +kernel) rfl
theorem d_X12_putAway_254 : dk me_X12_putAway 254 (.iload 9) 2 256 := And.intro (by decide +kernel) rfl
theorem d_X12_putAway_256 : dk me_X12_putAway 256 (.iconst 0) 1 257 := And.intro (by decide +kernel) rfl
theorem d_X12_putAway_257 : dk me_X12_putAway 257 (.iastore) 1 258 := And.intro (by decide +kernel) rfl
theorem d_X12_putAway_258 : dk me_X12_putAway 258 (.iinc 9 1) 3 261 := And.intro (by decide +kernel) rfl
theorem d_X12_putAway_261 : dk me_X12_putAway 261 (.goto (-153)) 3 264 := And.intro (by decide +kernel) rfl
theorem d_X12_putAway_264 : dk me_X12_putAway 264 (.iinc 7 1) 3 267 := And.intro (by decide +kernel) rfl
theorem d_X12_putAway_267 : dk me_X12_putAway 267 (.goto (-186)) 3 270 := And.intro (by decide +kernel) rfl
theorem d_X12_putAway_270 : dk me_X12_putAway 270 (.aload_n 0) 1 271 := And.intro (by decide +kernel) rfl
theorem d_X12_putAway_271 : dk me_X12_putAway 271 (.getfield 159) 3 274 := And.intro (by decide +kernel) rfl
theorem d_X12_putAway_274 : dk me_X12_putAway 274 (.iload 5) 2 276 := And.intro (by decide +kernel) rfl
theorem d_X12_putAway_276 : dk me_X12_putAway 276 (.iconst 4) 1 277 := And.intro (by decide +kernel) rfl
theorem d_X12_putAway_277 : dk me_X12_putAway 277 (.iastore) 1 278 := And.intro (by decide +kernel) rfl
theorem d_X12_putAway_278 : dk me_X12_putAway 278 (.iload 6) 2 280 := And.intro (by decide +kernel) rfl
theorem d_X12_putAway_280 : dk me_X12_putAway 280 (.ireturn) 1 281 := And.intro (by decide +kernel) rfl
theorem ms_X12_putAway {fx : FX} {m : MM} {l0 : Nat} {l1 : Int} {l2 : Int} {l3 : Int} : MS fx me_X12_putAway [aR (some (12, l0)), aI l1, aI l2, aI l3] m (f_X12_putAway m l0 l1 l2 l3) := by
  refine ms_of rfl mf_X12_putAway (b8 rfl) ?_
  refine s_top ?_
  show Sim fx me_X12_putAway 0 [(0, aR (some (12, l0))), (1, aI l1), (2, aI l2), (3, aI l3)] [] m _
  unfold f_X12_putAway
  have hj_X12_putAway_0_270 : ∀ (m_270 : MM) (l0_270 : Nat) (l5_270 : Int) (l6_270 : Int), Sim fx me_X12_putAway 270 [(0, aR (some (12, l0_270))), (5, aI l5_270), (6, aI l6_270)] [] m_270 ((j_X12_putAway_0_270 m_270 l0_270 l5_270 l6_270).bind (fun z => some z)) := by
    intro m_270 l0_270 l5_270 l6_270
    unfold j_X12_putAway_0_270
    refine s_aload_n d_X12_putAway_270 m0_ (s_getR cf d_X12_putAway_271 fl_X12_159 (s_nk fun i38 => (s_iload d_X12_putAway_274 m1_ (s_iconst d_X12_putAway_276 n_4 (s_stN d_X12_putAway_277 ka_108 rfl fun m39 => ?_)))))
    exact s_iload d_X12_putAway_278 m2_ (s_iret d_X12_putAway_280 rfl rfl)
  have hj_X12_putAway_0_67 : ∀ (m_67 : MM) (l0_67 : Nat) (l1_67 : Int) (l2_67 : Int) (l3_67 : Int) (l5_67 : Int) (s0_67 : Nat) (s1_67 : Int), Sim fx me_X12_putAway 67 [(0, aR (some (12, l0_67))), (1, aI l1_67), (2, aI l2_67), (3, aI l3_67), (5, aI l5_67)] [aI s1_67, aR (some (12, s0_67))] m_67 ((j_X12_putAway_0_67 m_67 l0_67 l1_67 l2_67 l3_67 l5_67 s0_67 s1_67).bind (fun z => some z)) := by
    intro m_67 l0_67 l1_67 l2_67 l3_67 l5_67 s0_67 s1_67
    unfold j_X12_putAway_0_67
    refine s_cI (r_V d_X12_putAway_67 k_X12_holds w_1668 rfl rfl) ms_X12_holds (b8 rfl) rfl rfl rfl (fun _ _ _ => rfl) (fun _ _ => Or.inl rfl) fun v6 m5 => (s_if_ne (tgt := 75) d_X12_putAway_70 rfl ?_ ?_)
    · refine s_iconst d_X12_putAway_75 n_0 (s_istore (L' := [(6, aI 0), (0, aR (some (12, l0_67))), (1, aI l1_67), (2, aI l2_67), (3, aI l3_67), (5, aI l5_67)]) d_X12_putAway_76 (b8 rfl) rfl (s_iconst d_X12_putAway_78 n_0 (s_istore (L' := [(7, aI 0), (6, aI 0), (0, aR (some (12, l0_67))), (1, aI l1_67), (2, aI l2_67), (3, aI l3_67), (5, aI l5_67)]) d_X12_putAway_79 (b8 rfl) rfl (s_sub (subc m1_ (subc m0_ (subc m2_ (subc m3_ (subc m4_ (subc m5_ (subc m6_ sub0))))))) (s_lp2 (fun s => [(6, aI (s.1)), (7, aI (s.2.1)), (0, aR (some (12, l0_67))), (1, aI l1_67), (2, aI l2_67), (3, aI l3_67), (5, aI l5_67)]) (fun s => s.2.2) (0, 0, m5) fun k81 hx81 s ih0 => ?_)))))
      obtain ⟨l6_81, l7_81, mm_81⟩ := s
      have ih81 := ih0
      clear ih0
      try dsimp only
      unfold b_X12_putAway_81
      have hj_X12_putAway_81_264 : ∀ (m_264 : MM) (l6_264 : Int) (l7_264 : Int), Sim fx me_X12_putAway 264 [(0, aR (some (12, l0_67))), (1, aI l1_67), (2, aI l2_67), (3, aI l3_67), (5, aI l5_67), (6, aI l6_264), (7, aI l7_264)] [] m_264 ((j_X12_putAway_81_264 m_264 l0_67 l1_67 l2_67 l3_67 l5_67 l6_264 l7_264).bind k81) := by
        intro m_264 l6_264 l7_264
        unfold j_X12_putAway_81_264
        exact s_iinc (L' := [(7, aI (l7_264 + 1)), (0, aR (some (12, l0_67))), (1, aI l1_67), (2, aI l2_67), (3, aI l3_67), (5, aI l5_67), (6, aI l6_264)]) d_X12_putAway_264 m6_ (b8 rfl) rfl (s_goto (tgt := 81) d_X12_putAway_267 rfl (s_sub (subc m6_ (subc m0_ (subc m1_ (subc m2_ (subc m3_ (subc m4_ (subc m5_ sub0))))))) (s_back (ih81 (l6_264, (l7_264 + 1), m_264)))))
      refine s_iload d_X12_putAway_81 m1_ (s_aload_n d_X12_putAway_83 m2_ (s_iload_n d_X12_putAway_84 m3_ (s_pI (r_V d_X12_putAway_85 k_X12_pagesOf w_1755 rfl rfl) ms_X12_pagesOf (b8 rfl) rfl rfl rfl fun v7 => (s_icmp_ge (tgt := 270) d_X12_putAway_88 rfl ?_ ?_))))
      · exact s_exit (hx81 _) (s_sub (subc m2_ (subc m6_ (subc m0_ sub0))) (hj_X12_putAway_0_270 mm_81 l0_67 l5_67 l6_81))
      refine s_bipush d_X12_putAway_91 n_16 rfl (s_iload_n d_X12_putAway_93 m3_ (s_imul d_X12_putAway_94 rfl rfl (s_iload d_X12_putAway_95 m1_ (s_iadd d_X12_putAway_97 rfl rfl (s_ck ?_)))))
      refine s_istore (L' := [(8, aI ((16 * l1_67) + l7_81)), (6, aI l6_81), (7, aI l7_81), (0, aR (some (12, l0_67))), (1, aI l1_67), (2, aI l2_67), (3, aI l3_67), (5, aI l5_67)]) d_X12_putAway_98 (b8 rfl) rfl (s_sipush d_X12_putAway_100 n_150 rfl (s_iload d_X12_putAway_103 m0_ (s_imul d_X12_putAway_105 rfl rfl (s_ck (s_istore (L' := [(9, aI (150 * ((16 * l1_67) + l7_81))), (8, aI ((16 * l1_67) + l7_81)), (6, aI l6_81), (7, aI l7_81), (0, aR (some (12, l0_67))), (1, aI l1_67), (2, aI l2_67), (3, aI l3_67), (5, aI l5_67)]) d_X12_putAway_106 (b8 rfl) rfl ?_)))))
      refine s_sub (subc m2_ (subc m0_ (subc m4_ (subc m5_ (subc m6_ (subc m7_ (subc m8_ (subc m3_ (subc m1_ sub0))))))))) (s_lp2 (fun s => [(6, aI (s.1)), (9, aI (s.2.1)), (0, aR (some (12, l0_67))), (1, aI l1_67), (2, aI l2_67), (3, aI l3_67), (5, aI l5_67), (7, aI l7_81), (8, aI ((16 * l1_67) + l7_81))]) (fun s => s.2.2) (l6_81, (150 * ((16 * l1_67) + l7_81)), mm_81) fun k108 hx108 s ih0 => ?_)
      obtain ⟨l6_108, l9_108, mm_108⟩ := s
      have ih108 := ih0
      clear ih0
      try dsimp only
      unfold b_X12_putAway_108
      have hj_X12_putAway_108_232 : ∀ (m_232 : MM) (l6_232 : Int) (l9_232 : Int) (s0_232 : Nat) (s1_232 : Int), Sim fx me_X12_putAway 232 [(0, aR (some (12, l0_67))), (1, aI l1_67), (2, aI l2_67), (3, aI l3_67), (5, aI l5_67), (6, aI l6_232), (7, aI l7_81), (8, aI ((16 * l1_67) + l7_81)), (9, aI l9_232)] [aI s1_232, aR (some (12, s0_232))] m_232 ((j_X12_putAway_108_232 m_232 l0_67 l1_67 l2_67 l3_67 l5_67 l6_232 l7_81 ((16 * l1_67) + l7_81) l9_232 s0_232 s1_232).bind k108) := by
        intro m_232 l6_232 l9_232 s0_232 s1_232
        unfold j_X12_putAway_108_232
        refine s_aload_n d_X12_putAway_232 m0_ (s_getR cf d_X12_putAway_233 fl_X12_135 (s_nk fun i30 => (s_iload d_X12_putAway_236 m8_ (s_ldN d_X12_putAway_238 ka_100 rfl fun v31 => (s_cV (r_V d_X12_putAway_239 k_X12_puts w_1719 rfl rfl) ms_X12_puts (b8 rfl) rfl rfl rfl (fun _ _ _ => rfl) (fun _ _ => Or.inl rfl) fun m32 => ?_)))))
        refine s_aload_n d_X12_putAway_242 m0_ (s_getR cf d_X12_putAway_243 fl_X12_135 (s_nk fun i34 => (s_iload d_X12_putAway_246 m8_ (s_iconst d_X12_putAway_248 n_m1 (s_stN d_X12_putAway_249 ka_100 rfl fun m35 => ?_)))))
        refine s_aload_n d_X12_putAway_250 m0_ (s_getR cf d_X12_putAway_251 fl_X12_138 (s_nk fun i36 => (s_iload d_X12_putAway_254 m8_ (s_iconst d_X12_putAway_256 n_0 (s_stN d_X12_putAway_257 ka_101 rfl fun m37 => ?_)))))
        exact s_iinc (L' := [(9, aI (l9_232 + 1)), (0, aR (some (12, l0_67))), (1, aI l1_67), (2, aI l2_67), (3, aI l3_67), (5, aI l5_67), (6, aI l6_232), (7, aI l7_81), (8, aI ((16 * l1_67) + l7_81))]) d_X12_putAway_258 m8_ (b8 rfl) rfl (s_goto (tgt := 108) d_X12_putAway_261 rfl (s_sub (subc m6_ (subc m0_ (subc m1_ (subc m2_ (subc m3_ (subc m4_ (subc m5_ (subc m7_ (subc m8_ sub0))))))))) (s_back (ih108 (l6_232, (l9_232 + 1), m37)))))
      have hj_X12_putAway_108_192 : ∀ (m_192 : MM) (l6_192 : Int) (l9_192 : Int) (s0_192 : Int), Sim fx me_X12_putAway 192 [(0, aR (some (12, l0_67))), (1, aI l1_67), (2, aI l2_67), (3, aI l3_67), (5, aI l5_67), (6, aI l6_192), (7, aI l7_81), (8, aI ((16 * l1_67) + l7_81)), (9, aI l9_192)] [aI s0_192] m_192 ((j_X12_putAway_108_192 m_192 l0_67 l1_67 l2_67 l3_67 l5_67 l6_192 l7_81 ((16 * l1_67) + l7_81) l9_192 s0_192).bind k108) := by
        intro m_192 l6_192 l9_192 s0_192
        unfold j_X12_putAway_108_192
        refine s_istore (L' := [(10, aI s0_192), (0, aR (some (12, l0_67))), (1, aI l1_67), (2, aI l2_67), (3, aI l3_67), (5, aI l5_67), (6, aI l6_192), (7, aI l7_81), (8, aI ((16 * l1_67) + l7_81)), (9, aI l9_192)]) d_X12_putAway_192 (b8 rfl) rfl (s_aload_n d_X12_putAway_194 m1_ (s_iload d_X12_putAway_195 m0_ (s_if_eq (tgt := 220) d_X12_putAway_197 rfl ?_ ?_)))
        · refine s_aload_n d_X12_putAway_220 m1_ (s_getR cf d_X12_putAway_221 fl_X12_20 (s_nk fun i22 => (s_aload_n d_X12_putAway_224 m1_ (s_getR cf d_X12_putAway_225 fl_X12_135 (s_nk fun i23 => ?_)))))
          exact s_iload d_X12_putAway_228 m9_ (s_ldN d_X12_putAway_230 ka_100 rfl fun v24 => (s_ldN d_X12_putAway_231 ka_62 rfl fun v25 => (s_sub (subc m1_ (subc m2_ (subc m3_ (subc m4_ (subc m5_ (subc m6_ (subc m7_ (subc m8_ (subc m9_ sub0))))))))) (hj_X12_putAway_108_232 m_192 l6_192 l9_192 l0_67 v25))))
        refine s_aload_n d_X12_putAway_200 m1_ (s_getR cf d_X12_putAway_201 fl_X12_20 (s_nk fun i26 => (s_aload_n d_X12_putAway_204 m1_ (s_getR cf d_X12_putAway_205 fl_X12_135 (s_nk fun i27 => ?_)))))
        refine s_iload d_X12_putAway_208 m9_ (s_ldN d_X12_putAway_210 ka_100 rfl fun v28 => (s_ldN d_X12_putAway_211 ka_62 rfl fun v29 => (s_iconst d_X12_putAway_212 n_1 (s_iadd d_X12_putAway_213 rfl rfl (s_bipush d_X12_putAway_214 n_28 rfl ?_)))))
        exact s_ck1 (s_irem d_X12_putAway_216 (s_goto (tgt := 232) d_X12_putAway_217 rfl (s_sub (subc m1_ (subc m2_ (subc m3_ (subc m4_ (subc m5_ (subc m6_ (subc m7_ (subc m8_ (subc m9_ sub0))))))))) (hj_X12_putAway_108_232 m_192 l6_192 l9_192 l0_67 ((v29 + 1) % 28)))))
      have hj_X12_putAway_108_191 : ∀ (m_191 : MM) (l6_191 : Int) (l9_191 : Int), Sim fx me_X12_putAway 191 [(0, aR (some (12, l0_67))), (1, aI l1_67), (2, aI l2_67), (3, aI l3_67), (5, aI l5_67), (6, aI l6_191), (7, aI l7_81), (8, aI ((16 * l1_67) + l7_81)), (9, aI l9_191)] [] m_191 ((j_X12_putAway_108_191 m_191 l0_67 l1_67 l2_67 l3_67 l5_67 l6_191 l7_81 ((16 * l1_67) + l7_81) l9_191).bind k108) := by
        intro m_191 l6_191 l9_191
        unfold j_X12_putAway_108_191
        exact s_iconst d_X12_putAway_191 n_0 (s_sub (subc m0_ (subc m1_ (subc m2_ (subc m3_ (subc m4_ (subc m5_ (subc m6_ (subc m7_ (subc m8_ sub0))))))))) (hj_X12_putAway_108_192 m_191 l6_191 l9_191 0))
      refine s_iload d_X12_putAway_108 m1_ (s_sipush d_X12_putAway_110 n_150 rfl (s_iload d_X12_putAway_113 m8_ (s_imul d_X12_putAway_115 rfl rfl (s_aload_n d_X12_putAway_116 m2_ (s_getR cf d_X12_putAway_117 fl_X12_105 ?_)))))
      refine s_nk fun i8 => (s_iload d_X12_putAway_120 m8_ (s_ldN d_X12_putAway_122 ka_90 rfl fun v9 => (s_iadd d_X12_putAway_123 rfl rfl (s_ck (s_icmp_ge (tgt := 264) d_X12_putAway_124 rfl ?_ ?_)))))
      · exact s_exit (hx108 _) (s_sub (subc m2_ (subc m3_ (subc m4_ (subc m5_ (subc m6_ (subc m0_ (subc m7_ sub0))))))) (hj_X12_putAway_81_264 mm_108 l6_108 l7_81))
      refine s_aload_n d_X12_putAway_127 m2_ (s_iload_n d_X12_putAway_128 m3_ (s_iload d_X12_putAway_129 m7_ (s_pI (r_V d_X12_putAway_131 k_X12_formeOf w_1842 rfl rfl) ms_X12_formeOf (b8 rfl) rfl rfl rfl fun v10 => (s_iload_n d_X12_putAway_134 m4_ (s_icmp_ne (tgt := 264) d_X12_putAway_135 rfl ?_ ?_)))))
      · exact s_exit (hx108 _) (s_sub (subc m2_ (subc m3_ (subc m4_ (subc m5_ (subc m6_ (subc m0_ (subc m7_ sub0))))))) (hj_X12_putAway_81_264 mm_108 l6_108 l7_81))
      refine s_aload_n d_X12_putAway_138 m2_ (s_getR cf d_X12_putAway_139 fl_X12_135 (s_nk fun i11 => (s_iload d_X12_putAway_142 m1_ (s_ldN d_X12_putAway_144 ka_100 rfl fun v12 => (s_iconst d_X12_putAway_145 n_m1 ?_)))))
      refine s_icmp_eq (tgt := 258) d_X12_putAway_146 rfl ?_ ?_
      · exact s_iinc (L' := [(9, aI (l9_108 + 1)), (6, aI l6_108), (0, aR (some (12, l0_67))), (1, aI l1_67), (2, aI l2_67), (3, aI l3_67), (5, aI l5_67), (7, aI l7_81), (8, aI ((16 * l1_67) + l7_81))]) d_X12_putAway_258 m1_ (b8 rfl) rfl (s_goto (tgt := 108) d_X12_putAway_261 rfl (s_sub (subc m1_ (subc m0_ (subc m2_ (subc m3_ (subc m4_ (subc m5_ (subc m6_ (subc m7_ (subc m8_ sub0))))))))) (s_back (ih108 (l6_108, (l9_108 + 1), mm_108)))))
      refine s_iinc (L' := [(6, aI (l6_108 + 1)), (9, aI l9_108), (0, aR (some (12, l0_67))), (1, aI l1_67), (2, aI l2_67), (3, aI l3_67), (5, aI l5_67), (7, aI l7_81), (8, aI ((16 * l1_67) + l7_81))]) d_X12_putAway_149 m0_ (b8 rfl) rfl (s_aload_n d_X12_putAway_152 m2_ (s_getR cf d_X12_putAway_153 fl_X12_50 (s_nk fun i13 => (s_iload_n d_X12_putAway_156 m5_ (s_dup2 d_X12_putAway_157 rfl rfl ?_)))))
      refine s_ldN d_X12_putAway_158 ka_72 rfl fun v14 => (s_iconst d_X12_putAway_159 n_1 (s_iadd d_X12_putAway_160 rfl rfl (s_ck (s_stN d_X12_putAway_161 ka_72 rfl fun m15 => (s_aload_n d_X12_putAway_162 m2_ ?_)))))
      refine s_getR cf d_X12_putAway_163 fl_X12_38 (s_nk fun i16 => (s_iload_n d_X12_putAway_166 m5_ (s_ldN d_X12_putAway_167 ka_68 rfl fun v17 => (s_if_le (tgt := 191) d_X12_putAway_168 rfl ?_ ?_))))
      · exact s_sub (subc m2_ (subc m3_ (subc m4_ (subc m5_ (subc m6_ (subc m0_ (subc m7_ (subc m8_ (subc m1_ sub0))))))))) (hj_X12_putAway_108_191 m15 (l6_108 + 1) l9_108)
      refine s_aload_n d_X12_putAway_171 m2_ (s_getR cf d_X12_putAway_172 fl_X12_50 (s_nk fun i18 => (s_iload_n d_X12_putAway_175 m5_ (s_ldN d_X12_putAway_176 ka_72 rfl fun v19 => (s_aload_n d_X12_putAway_177 m2_ ?_)))))
      refine s_getR cf d_X12_putAway_178 fl_X12_38 (s_nk fun i20 => (s_iload_n d_X12_putAway_181 m5_ (s_ldN d_X12_putAway_182 ka_68 rfl fun v21 => (s_irem d_X12_putAway_183 (s_if_ne (tgt := 191) d_X12_putAway_184 rfl ?_ ?_)))))
      · exact s_sub (subc m2_ (subc m3_ (subc m4_ (subc m5_ (subc m6_ (subc m0_ (subc m7_ (subc m8_ (subc m1_ sub0))))))))) (hj_X12_putAway_108_191 m15 (l6_108 + 1) l9_108)
      exact s_iconst d_X12_putAway_187 n_1 (s_goto (tgt := 192) d_X12_putAway_188 rfl (s_sub (subc m2_ (subc m3_ (subc m4_ (subc m5_ (subc m6_ (subc m0_ (subc m7_ (subc m8_ (subc m1_ sub0))))))))) (hj_X12_putAway_108_192 m15 (l6_108 + 1) l9_108 1)))
    exact s_iconst d_X12_putAway_73 n_0 (s_iret d_X12_putAway_74 rfl rfl)
  have hj_X12_putAway_0_39 : ∀ (m_39 : MM) (l0_39 : Nat) (l1_39 : Int) (l2_39 : Int) (l3_39 : Int) (l4_39 : Int) (s0_39 : Int), Sim fx me_X12_putAway 39 [(0, aR (some (12, l0_39))), (1, aI l1_39), (2, aI l2_39), (3, aI l3_39), (4, aI l4_39)] [aI s0_39] m_39 ((j_X12_putAway_0_39 m_39 l0_39 l1_39 l2_39 l3_39 l4_39 s0_39).bind (fun z => some z)) := by
    intro m_39 l0_39 l1_39 l2_39 l3_39 l4_39 s0_39
    unfold j_X12_putAway_0_39
    refine s_istore (L' := [(5, aI s0_39), (0, aR (some (12, l0_39))), (1, aI l1_39), (2, aI l2_39), (3, aI l3_39), (4, aI l4_39)]) d_X12_putAway_39 (b8 rfl) rfl (s_aload_n d_X12_putAway_41 m1_ (s_iload d_X12_putAway_42 m5_ (s_if_ne (tgt := 51) d_X12_putAway_44 rfl ?_ ?_)))
    · refine s_aload_n d_X12_putAway_51 m1_ (s_getR cf d_X12_putAway_52 fl_X12_159 (s_nk fun i3 => (s_iload d_X12_putAway_55 m0_ (s_ldN d_X12_putAway_57 ka_108 rfl fun v4 => (s_iconst d_X12_putAway_58 n_3 ?_)))))
      refine s_icmp_ne (tgt := 66) d_X12_putAway_59 rfl ?_ ?_
      · exact s_iconst d_X12_putAway_66 n_2 (s_sub (subc m1_ (subc m2_ (subc m3_ (subc m4_ (subc m0_ sub0))))) (hj_X12_putAway_0_67 m_39 l0_39 l1_39 l2_39 l3_39 s0_39 l0_39 2))
      exact s_iconst d_X12_putAway_62 n_0 (s_goto (tgt := 67) d_X12_putAway_63 rfl (s_sub (subc m1_ (subc m2_ (subc m3_ (subc m4_ (subc m0_ sub0))))) (hj_X12_putAway_0_67 m_39 l0_39 l1_39 l2_39 l3_39 s0_39 l0_39 0)))
    exact s_iconst d_X12_putAway_47 n_1 (s_goto (tgt := 67) d_X12_putAway_48 rfl (s_sub (subc m1_ (subc m2_ (subc m3_ (subc m4_ (subc m0_ sub0))))) (hj_X12_putAway_0_67 m_39 l0_39 l1_39 l2_39 l3_39 s0_39 l0_39 1)))
  have hj_X12_putAway_0_22 : ∀ (m_22 : MM) (l0_22 : Nat) (l1_22 : Int) (l2_22 : Int) (l3_22 : Int) (s0_22 : Int), Sim fx me_X12_putAway 22 [(0, aR (some (12, l0_22))), (1, aI l1_22), (2, aI l2_22), (3, aI l3_22)] [aI s0_22] m_22 ((j_X12_putAway_0_22 m_22 l0_22 l1_22 l2_22 l3_22 s0_22).bind (fun z => some z)) := by
    intro m_22 l0_22 l1_22 l2_22 l3_22 s0_22
    unfold j_X12_putAway_0_22
    refine s_istore (L' := [(4, aI s0_22), (0, aR (some (12, l0_22))), (1, aI l1_22), (2, aI l2_22), (3, aI l3_22)]) d_X12_putAway_22 (b8 rfl) rfl (s_iload d_X12_putAway_24 m0_ (s_if_eq (tgt := 38) d_X12_putAway_26 rfl ?_ ?_))
    · exact s_iconst d_X12_putAway_38 n_0 (s_sub (subc m1_ (subc m2_ (subc m3_ (subc m4_ (subc m0_ sub0))))) (hj_X12_putAway_0_39 m_22 l0_22 l1_22 l2_22 l3_22 s0_22 0))
    refine s_bipush d_X12_putAway_29 n_8 rfl (s_iload_n d_X12_putAway_31 m2_ (s_imul d_X12_putAway_32 rfl rfl (s_iload_n d_X12_putAway_33 m3_ (s_iadd d_X12_putAway_34 rfl rfl (s_goto (tgt := 39) d_X12_putAway_35 rfl ?_)))))
    exact s_ck (s_sub (subc m1_ (subc m2_ (subc m3_ (subc m4_ (subc m0_ sub0))))) (hj_X12_putAway_0_39 m_22 l0_22 l1_22 l2_22 l3_22 s0_22 ((8 * l1_22) + l2_22)))
  have hj_X12_putAway_0_21 : ∀ (m_21 : MM) (l0_21 : Nat) (l1_21 : Int) (l2_21 : Int) (l3_21 : Int), Sim fx me_X12_putAway 21 [(0, aR (some (12, l0_21))), (1, aI l1_21), (2, aI l2_21), (3, aI l3_21)] [] m_21 ((j_X12_putAway_0_21 m_21 l0_21 l1_21 l2_21 l3_21).bind (fun z => some z)) := by
    intro m_21 l0_21 l1_21 l2_21 l3_21
    unfold j_X12_putAway_0_21
    exact s_iconst d_X12_putAway_21 n_0 (s_sub (subc m0_ (subc m1_ (subc m2_ (subc m3_ sub0)))) (hj_X12_putAway_0_22 m_21 l0_21 l1_21 l2_21 l3_21 0))
  refine s_aload_n d_X12_putAway_0 m0_ (s_iload_n d_X12_putAway_1 m1_ (s_iload_n d_X12_putAway_2 m2_ (s_pI (r_V d_X12_putAway_3 k_X12_isForme w_1866 rfl rfl) ms_X12_isForme (b8 rfl) rfl rfl rfl fun v1 => (s_if_eq (tgt := 21) d_X12_putAway_6 rfl ?_ ?_))))
  · exact s_sub (subc m0_ (subc m1_ (subc m2_ (subc m3_ sub0)))) (hj_X12_putAway_0_21 m l0 l1 l2 l3)
  refine s_aload_n d_X12_putAway_9 m0_ (s_iload_n d_X12_putAway_10 m3_ (s_pI (r_V d_X12_putAway_11 k_X12_isHand w_1783 rfl rfl) ms_X12_isHand (b8 rfl) rfl rfl rfl fun v2 => (s_if_eq (tgt := 21) d_X12_putAway_14 rfl ?_ ?_)))
  · exact s_sub (subc m0_ (subc m1_ (subc m2_ (subc m3_ sub0)))) (hj_X12_putAway_0_21 m l0 l1 l2 l3)
  exact s_iconst d_X12_putAway_17 n_1 (s_goto (tgt := 22) d_X12_putAway_18 rfl (s_sub (subc m0_ (subc m1_ (subc m2_ (subc m3_ sub0)))) (hj_X12_putAway_0_22 m l0 l1 l2 l3 1)))
theorem d_X12_fillsOut_0 : dk me_X12_fillsOut 0 (.bipush 60) 2 2 := And.intro (by decide +kernel) rfl
theorem d_X12_fillsOut_2 : dk me_X12_fillsOut 2 (.iload_n 1) 1 3 := And.intro (by decide +kernel) rfl
theorem d_X12_fillsOut_3 : dk me_X12_fillsOut 3 (.imul) 1 4 := And.intro (by decide +kernel) rfl
theorem d_X12_fillsOut_4 : dk me_X12_fillsOut 4 (.aload_n 0) 1 5 := And.intro (by decide +kernel) rfl
theorem d_X12_fillsOut_5 : dk me_X12_fillsOut 5 (.getfield 108) 3 8 := And.intro (by decide +kernel) rfl
theorem d_X12_fillsOut_8 : dk me_X12_fillsOut 8 (.iload_n 2) 1 9 := And.intro (by decide +kernel) rfl
theorem d_X12_fillsOut_9 : dk me_X12_fillsOut 9 (.iaload) 1 10 := And.intro (by decide +kernel) rfl
theorem d_X12_fillsOut_10 : dk me_X12_fillsOut 10 (.iadd) 1 11 := And.intro (by decide +kernel) rfl
theorem d_X12_fillsOut_11 : dk me_X12_fillsOut 11 (.istore 4) 2 13 := And.intro (by decide +kernel) rfl
theorem d_X12_fillsOut_13 : dk me_X12_fillsOut 13 (.iload 4) 2 15 := And.intro (by decide +kernel) rfl
theorem d_X12_fillsOut_15 : dk me_X12_fillsOut 15 (.aload_n 0) 1 16 := And.intro (by decide +kernel) rfl
theorem d_X12_fillsOut_16 : dk me_X12_fillsOut 16 (.getfield 111) 3 19 := And.intro (by decide +kernel) rfl
theorem d_X12_fillsOut_19 : dk me_X12_fillsOut 19 (.iload_n 2) 1 20 := And.intro (by decide +kernel) rfl
theorem d_X12_fillsOut_20 : dk me_X12_fillsOut 20 (.iaload) 1 21 := And.intro (by decide +kernel) rfl
theorem d_X12_fillsOut_21 : dk me_X12_fillsOut 21 (.iadd) 1 22 := And.intro (by decide +kernel) rfl
theorem d_X12_fillsOut_22 : dk me_X12_fillsOut 22 (.istore 5) 2 24 := And.intro (by decide +kernel) rfl
theorem d_X12_fillsOut_24 : dk me_X12_fillsOut 24 (.iconst 2) 1 25 := And.intro (by decide +kernel) rfl
theorem d_X12_fillsOut_25 : dk me_X12_fillsOut 25 (.istore 6) 2 27 := And.intro (by decide +kernel) rfl
theorem d_X12_fillsOut_27 : dk me_X12_fillsOut 27 (.iload 6) 2 29 := And.intro (by decide +kernel) rfl
theorem d_X12_fillsOut_29 : dk me_X12_fillsOut 29 (.iconst 3) 1 30 := And.intro (by decide +kernel) rfl
theorem d_X12_fillsOut_30 : dk me_X12_fillsOut 30 (.if_icmp .gt 56) 3 33 := And.intro (by decide +kernel) rfl
theorem d_X12_fillsOut_33 : dk me_X12_fillsOut 33 (.iload 4) 2 35 := And.intro (by decide +kernel) rfl
theorem d_X12_fillsOut_35 : dk me_X12_fillsOut 35 (.iconst 1) 1 36 := And.intro (by decide +kernel) rfl
theorem d_X12_fillsOut_36 : dk me_X12_fillsOut 36 (.iadd) 1 37 := And.intro (by decide +kernel) rfl
theorem d_X12_fillsOut_37 : dk me_X12_fillsOut 37 (.istore 7) 2 39 := And.intro (by decide +kernel) rfl
theorem d_X12_fillsOut_39 : dk me_X12_fillsOut 39 (.iload 7) 2 41 := And.intro (by decide +kernel) rfl
theorem d_X12_fillsOut_41 : dk me_X12_fillsOut 41 (.iload 5) 2 43 := And.intro (by decide +kernel) rfl
theorem d_X12_fillsOut_43 : dk me_X12_fillsOut 43 (.if_icmp .ge 37) 3 46 := And.intro (by decide +kernel) rfl
theorem d_X12_fillsOut_46 : dk me_X12_fillsOut 46 (.aload_n 0) 1 47 := And.intro (by decide +kernel) rfl
theorem d_X12_fillsOut_47 : dk me_X12_fillsOut 47 (.getfield 114) 3 50 := And.intro (by decide +kernel) rfl
theorem d_X12_fillsOut_50 : dk me_X12_fillsOut 50 (.iload_n 2) 1 51 := And.intro (by decide +kernel) rfl
theorem d_X12_fillsOut_51 : dk me_X12_fillsOut 51 (.iaload) 1 52 := And.intro (by decide +kernel) rfl
theorem d_X12_fillsOut_52 : dk me_X12_fillsOut 52 (.ifCond .le 22) 3 55 := And.intro (by decide +kernel) rfl
theorem d_X12_fillsOut_55 : dk me_X12_fillsOut 55 (.aload_n 0) 1 56 := And.intro (by decide +kernel) rfl
theorem d_X12_fillsOut_56 : dk me_X12_fillsOut 56 (.getfield 126) 3 59 := And.intro (by decide +kernel) rfl
theorem d_X12_fillsOut_59 : dk me_X12_fillsOut 59 (.iload 7) 2 61 := And.intro (by decide +kernel) rfl
theorem d_X12_fillsOut_61 : dk me_X12_fillsOut 61 (.iload 6) 2 63 := And.intro (by decide +kernel) rfl
theorem d_X12_fillsOut_63 : dk me_X12_fillsOut 63 (.iastore) 1 64 := And.intro (by decide +kernel) rfl
theorem d_X12_fillsOut_64 : dk me_X12_fillsOut 64 (.aload_n 0) 1 65 := And.intro (by decide +kernel) rfl
theorem d_X12_fillsOut_65 : dk me_X12_fillsOut 65 (.getfield 114) 3 68 := And.intro (by decide +kernel) rfl
theorem d_X12_fillsOut_68 : dk me_X12_fillsOut 68 (.iload_n 2) 1 69 := And.intro (by decide +kernel) rfl
theorem d_X12_fillsOut_69 : dk me_X12_fillsOut 69 (.dup2) 1 70 := And.intro (by decide +kernel) rfl
theorem d_X12_fillsOut_70 : dk me_X12_fillsOut 70 (.iaload) 1 71 := And.intro (by decide +kernel) rfl
theorem d_X12_fillsOut_71 : dk me_X12_fillsOut 71 (.iconst 1) 1 72 := And.intro (by decide +kernel) rfl
theorem d_X12_fillsOut_72 : dk me_X12_fillsOut 72 (.isub) 1 73 := And.intro (by decide +kernel) rfl
theorem d_X12_fillsOut_73 : dk me_X12_fillsOut 73 (.iastore) 1 74 := And.intro (by decide +kernel) rfl
theorem d_X12_fillsOut_74 : dk me_X12_fillsOut 74 (.iinc 7 1) 3 77 := And.intro (by decide +kernel) rfl
theorem d_X12_fillsOut_77 : dk me_X12_fillsOut 77 (.goto (-38)) 3 80 := And.intro (by decide +kernel) rfl
theorem d_X12_fillsOut_80 : dk me_X12_fillsOut 80 (.iinc 6 1) 3 83 := And.intro (by decide +kernel) rfl
theorem d_X12_fillsOut_83 : dk me_X12_fillsOut 83 (.goto (-56)) 3 86 := And.intro (by decide +kernel) rfl
theorem d_X12_fillsOut_86 : dk me_X12_fillsOut 86 (.iload 4) 2 88 := And.intro (by decide +kernel) rfl
theorem d_X12_fillsOut_88 : dk me_X12_fillsOut 88 (.istore 6) 2 90 := And.intro (by decide +kernel) rfl
theorem d_X12_fillsOut_90 : dk me_X12_fillsOut 90 (.iload 6) 2 92 := And.intro (by decide +kernel) rfl
theorem d_X12_fillsOut_92 : dk me_X12_fillsOut 92 (.iload 5) 2 94 := And.intro (by decide +kernel) rfl
theorem d_X12_fillsOut_94 : dk me_X12_fillsOut 94 (.if_icmp .ge 109) 3 97 := And.intro (by decide +kernel) rfl
theorem d_X12_fillsOut_97 : dk me_X12_fillsOut 97 (.iload_n 3) 1 98 := And.intro (by decide +kernel) rfl
theorem d_X12_fillsOut_98 : dk me_X12_fillsOut 98 (.ifCond .ne 105) 3 101 := And.intro (by decide +kernel) rfl
theorem d_X12_fillsOut_101 : dk me_X12_fillsOut 101 (.aload_n 0) 1 102 := And.intro (by decide +kernel) rfl
theorem d_X12_fillsOut_102 : dk me_X12_fillsOut 102 (.aload_n 0) 1 103 := And.intro (by decide +kernel) rfl
theorem d_X12_fillsOut_103 : dk me_X12_fillsOut 103 (.getfield 123) 3 106 := And.intro (by decide +kernel) rfl
theorem d_X12_fillsOut_106 : dk me_X12_fillsOut 106 (.iload 6) 2 108 := And.intro (by decide +kernel) rfl
theorem d_X12_fillsOut_108 : dk me_X12_fillsOut 108 (.laload) 1 109 := And.intro (by decide +kernel) rfl
theorem d_X12_fillsOut_109 : dk me_X12_fillsOut 109 (.invokevirtual 284) 3 112 := And.intro (by decide +kernel) rfl
theorem d_X12_fillsOut_112 : dk me_X12_fillsOut 112 (.istore 7) 2 114 := And.intro (by decide +kernel) rfl
theorem d_X12_fillsOut_114 : dk me_X12_fillsOut 114 (.iload 7) 2 116 := And.intro (by decide +kernel) rfl
theorem d_X12_fillsOut_116 : dk me_X12_fillsOut 116 (.iconst (-1)) 1 117 := And.intro (by decide +kernel) rfl
theorem d_X12_fillsOut_117 : dk me_X12_fillsOut 117 (.if_icmp .eq 80) 3 120 := And.intro (by decide +kernel) rfl
theorem d_X12_fillsOut_120 : dk me_X12_fillsOut 120 (.aload_n 0) 1 121 := And.intro (by decide +kernel) rfl
theorem d_X12_fillsOut_121 : dk me_X12_fillsOut 121 (.getfield 123) 3 124 := And.intro (by decide +kernel) rfl
theorem d_X12_fillsOut_124 : dk me_X12_fillsOut 124 (.iload 6) 2 126 := And.intro (by decide +kernel) rfl
theorem d_X12_fillsOut_126 : dk me_X12_fillsOut 126 (.laload) 1 127 := And.intro (by decide +kernel) rfl
theorem d_X12_fillsOut_127 : dk me_X12_fillsOut 127 (.aload_n 0) 1 128 := And.intro (by decide +kernel) rfl
theorem d_X12_fillsOut_128 : dk me_X12_fillsOut 128 (.getfield 13) 3 131 := And.intro (by decide +kernel) rfl
theorem d_X12_fillsOut_131 : dk me_X12_fillsOut 131 (.iload 7) 2 133 := And.intro (by decide +kernel) rfl
theorem d_X12_fillsOut_133 : dk me_X12_fillsOut 133 (.laload) 1 134 := And.intro (by decide +kernel) rfl
theorem d_X12_fillsOut_134 : dk me_X12_fillsOut 134 (.lcmp) 1 135 := And.intro (by decide +kernel) rfl
theorem d_X12_fillsOut_135 : dk me_X12_fillsOut 135 (.ifCond .ne 62) 3 138 := And.intro (by decide +kernel) rfl
theorem d_X12_fillsOut_138 : dk me_X12_fillsOut 138 (.aload_n 0) 1 139 := And.intro (by decide +kernel) rfl
theorem d_X12_fillsOut_139 : dk me_X12_fillsOut 139 (.getfield 17) 3 142 := And.intro (by decide +kernel) rfl
theorem d_X12_fillsOut_142 : dk me_X12_fillsOut 142 (.iload 7) 2 144 := And.intro (by decide +kernel) rfl
theorem d_X12_fillsOut_144 : dk me_X12_fillsOut 144 (.laload) 1 145 := And.intro (by decide +kernel) rfl
theorem d_X12_fillsOut_145 : dk me_X12_fillsOut 145 (.invokestatic 280) 3 148 := And.intro (by decide +kernel) rfl
theorem d_X12_fillsOut_148 : dk me_X12_fillsOut 148 (.aload_n 0) 1 149 := And.intro (by decide +kernel) rfl
theorem d_X12_fillsOut_149 : dk me_X12_fillsOut 149 (.getfield 13) 3 152 := And.intro (by decide +kernel) rfl
theorem d_X12_fillsOut_152 : dk me_X12_fillsOut 152 (.iload 7) 2 154 := And.intro (by decide +kernel) rfl
theorem d_X12_fillsOut_154 : dk me_X12_fillsOut 154 (.laload) 1 155 := And.intro (by decide +kernel) rfl
theorem d_X12_fillsOut_155 : dk me_X12_fillsOut 155 (.invokestatic 280) 3 158 := And.intro (by decide +kernel) rfl
theorem d_X12_fillsOut_158 : dk me_X12_fillsOut 158 (.isub) 1 159 := And.intro (by decide +kernel) rfl
theorem d_X12_fillsOut_159 : dk me_X12_fillsOut 159 (.istore 8) 2 161 := And.intro (by decide +kernel) rfl
theorem d_X12_fillsOut_161 : dk me_X12_fillsOut 161 (.iload 8) 2 163 := And.intro (by decide +kernel) rfl
theorem d_X12_fillsOut_163 : dk me_X12_fillsOut 163 (.aload_n 0) 1 164 := And.intro (by decide +kernel) rfl
theorem d_X12_fillsOut_164 : dk me_X12_fillsOut 164 (.getfield 114) 3 167 := And.intro (by decide +kernel) rfl
theorem d_X12_fillsOut_167 : dk me_X12_fillsOut 167 (.iload_n 2) 1 168 := And.intro (by decide +kernel) rfl
theorem d_X12_fillsOut_168 : dk me_X12_fillsOut 168 (.iaload) 1 169 := And.intro (by decide +kernel) rfl
theorem d_X12_fillsOut_169 : dk me_X12_fillsOut 169 (.if_icmp .gt 28) 3 172 := And.intro (by decide +kernel) rfl
theorem d_X12_fillsOut_172 : dk me_X12_fillsOut 172 (.aload_n 0) 1 173 := And.intro (by decide +kernel) rfl
theorem d_X12_fillsOut_173 : dk me_X12_fillsOut 173 (.getfield 123) 3 176 := And.intro (by decide +kernel) rfl
theorem d_X12_fillsOut_176 : dk me_X12_fillsOut 176 (.iload 6) 2 178 := And.intro (by decide +kernel) rfl
theorem d_X12_fillsOut_178 : dk me_X12_fillsOut 178 (.aload_n 0) 1 179 := And.intro (by decide +kernel) rfl
theorem d_X12_fillsOut_179 : dk me_X12_fillsOut 179 (.getfield 17) 3 182 := And.intro (by decide +kernel) rfl
theorem d_X12_fillsOut_182 : dk me_X12_fillsOut 182 (.iload 7) 2 184 := And.intro (by decide +kernel) rfl
theorem d_X12_fillsOut_184 : dk me_X12_fillsOut 184 (.laload) 1 185 := And.intro (by decide +kernel) rfl
theorem d_X12_fillsOut_185 : dk me_X12_fillsOut 185 (.lastore) 1 186 := And.intro (by decide +kernel) rfl
theorem d_X12_fillsOut_186 : dk me_X12_fillsOut 186 (.aload_n 0) 1 187 := And.intro (by decide +kernel) rfl
theorem d_X12_fillsOut_187 : dk me_X12_fillsOut 187 (.getfield 114) 3 190 := And.intro (by decide +kernel) rfl
theorem d_X12_fillsOut_190 : dk me_X12_fillsOut 190 (.iload_n 2) 1 191 := And.intro (by decide +kernel) rfl
theorem d_X12_fillsOut_191 : dk me_X12_fillsOut 191 (.dup2) 1 192 := And.intro (by decide +kernel) rfl
theorem d_X12_fillsOut_192 : dk me_X12_fillsOut 192 (.iaload) 1 193 := And.intro (by decide +kernel) rfl
theorem d_X12_fillsOut_193 : dk me_X12_fillsOut 193 (.iload 8) 2 195 := And.intro (by decide +kernel) rfl
theorem d_X12_fillsOut_195 : dk me_X12_fillsOut 195 (.isub) 1 196 := And.intro (by decide +kernel) rfl
theorem d_X12_fillsOut_196 : dk me_X12_fillsOut 196 (.iastore) 1 197 := And.intro (by decide +kernel) rfl
theorem d_X12_fillsOut_197 : dk me_X12_fillsOut 197 (.iinc 6 1) 3 200 := And.intro (by decide +kernel) rfl
theorem d_X12_fillsOut_200 : dk me_X12_fillsOut 200 (.goto (-110)) 3 203 := And.intro (by decide +kernel) rfl
theorem d_X12_fillsOut_203 : dk me_X12_fillsOut 203 (.return_) 1 204 := And.intro (by decide +kernel) rfl
theorem ms_X12_fillsOut {fx : FX} {m : MM} {l0 : Nat} {l1 : Int} {l2 : Int} {l3 : Int} : MS fx me_X12_fillsOut [aR (some (12, l0)), aI l1, aI l2, aI l3] m (f_X12_fillsOut m l0 l1 l2 l3) := by
  refine ms_of rfl mf_X12_fillsOut (b8 rfl) ?_
  refine s_top ?_
  show Sim fx me_X12_fillsOut 0 [(0, aR (some (12, l0))), (1, aI l1), (2, aI l2), (3, aI l3)] [] m _
  unfold f_X12_fillsOut
  have hj_X12_fillsOut_0_203 : ∀ (m_203 : MM), Sim fx me_X12_fillsOut 203 [] [] m_203 ((j_X12_fillsOut_0_203 m_203).bind (fun z => some z)) := by
    intro m_203
    unfold j_X12_fillsOut_0_203
    exact s_vret d_X12_fillsOut_203 rfl rfl
  have hj_X12_fillsOut_0_86 : ∀ (m_86 : MM) (l0_86 : Nat) (l2_86 : Int) (l3_86 : Int) (l4_86 : Int) (l5_86 : Int), Sim fx me_X12_fillsOut 86 [(0, aR (some (12, l0_86))), (2, aI l2_86), (3, aI l3_86), (4, aI l4_86), (5, aI l5_86)] [] m_86 ((j_X12_fillsOut_0_86 m_86 l0_86 l2_86 l3_86 l4_86 l5_86).bind (fun z => some z)) := by
    intro m_86 l0_86 l2_86 l3_86 l4_86 l5_86
    unfold j_X12_fillsOut_0_86
    refine s_iload d_X12_fillsOut_86 m3_ (s_istore (L' := [(6, aI l4_86), (0, aR (some (12, l0_86))), (2, aI l2_86), (3, aI l3_86), (4, aI l4_86), (5, aI l5_86)]) d_X12_fillsOut_88 (b8 rfl) rfl (s_sub (subc m0_ (subc m1_ (subc m2_ (subc m3_ (subc m5_ sub0))))) (s_lp2 (fun s => [(6, aI (s.1)), (0, aR (some (12, l0_86))), (2, aI l2_86), (3, aI l3_86), (5, aI l5_86)]) (fun s => s.2) (l4_86, m_86) fun k90 hx90 s ih0 => ?_)))
    obtain ⟨l6_90, mm_90⟩ := s
    have ih90 := ih0
    clear ih0
    try dsimp only
    unfold b_X12_fillsOut_90
    refine s_iload d_X12_fillsOut_90 m0_ (s_iload d_X12_fillsOut_92 m4_ (s_icmp_ge (tgt := 203) d_X12_fillsOut_94 rfl ?_ ?_))
    · exact s_exit (hx90 _) (s_sub (sub0) (hj_X12_fillsOut_0_203 mm_90))
    refine s_iload_n d_X12_fillsOut_97 m3_ (s_if_ne (tgt := 203) d_X12_fillsOut_98 rfl ?_ ?_)
    · exact s_exit (hx90 _) (s_sub (sub0) (hj_X12_fillsOut_0_203 mm_90))
    refine s_aload_n d_X12_fillsOut_101 m1_ (s_aload_n d_X12_fillsOut_102 m1_ (s_getR cf d_X12_fillsOut_103 fl_X12_123 (s_nk fun i12 => (s_iload d_X12_fillsOut_106 m0_ (s_ldL d_X12_fillsOut_108 ka_96 rfl fun v13 => ?_)))))
    refine s_pI (r_V d_X12_fillsOut_109 k_X12_spellingOf w_1711 rfl rfl) ms_X12_spellingOf (b8 rfl) rfl rfl rfl fun v14 => (s_istore (L' := [(7, aI v14), (6, aI l6_90), (0, aR (some (12, l0_86))), (2, aI l2_86), (3, aI l3_86), (5, aI l5_86)]) d_X12_fillsOut_112 (b8 rfl) rfl (s_iload d_X12_fillsOut_114 m0_ (s_iconst d_X12_fillsOut_116 n_m1 (s_icmp_eq (tgt := 197) d_X12_fillsOut_117 rfl ?_ ?_))))
    · exact s_iinc (L' := [(6, aI (l6_90 + 1)), (7, aI v14), (0, aR (some (12, l0_86))), (2, aI l2_86), (3, aI l3_86), (5, aI l5_86)]) d_X12_fillsOut_197 m1_ (b8 rfl) rfl (s_goto (tgt := 90) d_X12_fillsOut_200 rfl (s_sub (subc m0_ (subc m2_ (subc m3_ (subc m4_ (subc m5_ sub0))))) (s_back (ih90 ((l6_90 + 1), mm_90)))))
    refine s_aload_n d_X12_fillsOut_120 m2_ (s_getR cf d_X12_fillsOut_121 fl_X12_123 (s_nk fun i15 => (s_iload d_X12_fillsOut_124 m1_ (s_ldL d_X12_fillsOut_126 ka_96 rfl fun v16 => (s_aload_n d_X12_fillsOut_127 m2_ ?_)))))
    refine s_getR cf d_X12_fillsOut_128 fl_X12_13 (s_nk fun i17 => (s_iload d_X12_fillsOut_131 m0_ (s_ldL d_X12_fillsOut_133 ka_60 rfl fun v18 => (s_lcmp d_X12_fillsOut_134 (s_if_ne (tgt := 197) d_X12_fillsOut_135 rfl ?_ ?_)))))
    · exact s_iinc (L' := [(6, aI (l6_90 + 1)), (7, aI v14), (0, aR (some (12, l0_86))), (2, aI l2_86), (3, aI l3_86), (5, aI l5_86)]) d_X12_fillsOut_197 m1_ (b8 rfl) rfl (s_goto (tgt := 90) d_X12_fillsOut_200 rfl (s_sub (subc m0_ (subc m2_ (subc m3_ (subc m4_ (subc m5_ sub0))))) (s_back (ih90 ((l6_90 + 1), mm_90)))))
    refine s_aload_n d_X12_fillsOut_138 m2_ (s_getR cf d_X12_fillsOut_139 fl_X12_17 (s_nk fun i19 => (s_iload d_X12_fillsOut_142 m0_ (s_ldL d_X12_fillsOut_144 ka_61 rfl fun v20 => (s_pI (r_S d_X12_fillsOut_145 k_X12_letters w_1708 rfl rfl) ms_X12_letters (b8 rfl) rfl rfl rfl fun v21 => ?_)))))
    refine s_aload_n d_X12_fillsOut_148 m2_ (s_getR cf d_X12_fillsOut_149 fl_X12_13 (s_nk fun i22 => (s_iload d_X12_fillsOut_152 m0_ (s_ldL d_X12_fillsOut_154 ka_60 rfl fun v23 => (s_pI (r_S d_X12_fillsOut_155 k_X12_letters w_1708 rfl rfl) ms_X12_letters (b8 rfl) rfl rfl rfl fun v24 => ?_)))))
    refine s_isub d_X12_fillsOut_158 rfl rfl (s_ck (s_istore (L' := [(8, aI (v21 - v24)), (7, aI v14), (6, aI l6_90), (0, aR (some (12, l0_86))), (2, aI l2_86), (3, aI l3_86), (5, aI l5_86)]) d_X12_fillsOut_159 (b8 rfl) rfl (s_iload d_X12_fillsOut_161 m0_ (s_aload_n d_X12_fillsOut_163 m3_ (s_getR cf d_X12_fillsOut_164 fl_X12_114 ?_)))))
    refine s_nk fun i25 => (s_iload_n d_X12_fillsOut_167 m4_ (s_ldN d_X12_fillsOut_168 ka_93 rfl fun v26 => (s_icmp_gt (tgt := 197) d_X12_fillsOut_169 rfl ?_ ?_)))
    · exact s_iinc (L' := [(6, aI (l6_90 + 1)), (8, aI (v21 - v24)), (7, aI v14), (0, aR (some (12, l0_86))), (2, aI l2_86), (3, aI l3_86), (5, aI l5_86)]) d_X12_fillsOut_197 m2_ (b8 rfl) rfl (s_goto (tgt := 90) d_X12_fillsOut_200 rfl (s_sub (subc m0_ (subc m3_ (subc m4_ (subc m5_ (subc m6_ sub0))))) (s_back (ih90 ((l6_90 + 1), mm_90)))))
    refine s_aload_n d_X12_fillsOut_172 m3_ (s_getR cf d_X12_fillsOut_173 fl_X12_123 (s_nk fun i27 => (s_iload d_X12_fillsOut_176 m2_ (s_aload_n d_X12_fillsOut_178 m3_ (s_getR cf d_X12_fillsOut_179 fl_X12_17 ?_)))))
    refine s_nk fun i28 => (s_iload d_X12_fillsOut_182 m1_ (s_ldL d_X12_fillsOut_184 ka_61 rfl fun v29 => (s_stL d_X12_fillsOut_185 ka_96 rfl fun m30 => (s_aload_n d_X12_fillsOut_186 m3_ (s_getR cf d_X12_fillsOut_187 fl_X12_114 ?_)))))
    refine s_nk fun i31 => (s_iload_n d_X12_fillsOut_190 m4_ (s_dup2 d_X12_fillsOut_191 rfl rfl (s_ldN d_X12_fillsOut_192 ka_93 rfl fun v32 => (s_iload d_X12_fillsOut_193 m0_ (s_isub d_X12_fillsOut_195 rfl rfl ?_)))))
    exact s_ck (s_stN d_X12_fillsOut_196 ka_93 rfl fun m33 => (s_iinc (L' := [(6, aI (l6_90 + 1)), (8, aI (v21 - v24)), (7, aI v14), (0, aR (some (12, l0_86))), (2, aI l2_86), (3, aI l3_86), (5, aI l5_86)]) d_X12_fillsOut_197 m2_ (b8 rfl) rfl (s_goto (tgt := 90) d_X12_fillsOut_200 rfl (s_sub (subc m0_ (subc m3_ (subc m4_ (subc m5_ (subc m6_ sub0))))) (s_back (ih90 ((l6_90 + 1), m33)))))))
  refine s_bipush d_X12_fillsOut_0 n_60 rfl (s_iload_n d_X12_fillsOut_2 m1_ (s_imul d_X12_fillsOut_3 rfl rfl (s_aload_n d_X12_fillsOut_4 m0_ (s_getR cf d_X12_fillsOut_5 fl_X12_108 (s_nk fun i1 => ?_)))))
  refine s_iload_n d_X12_fillsOut_8 m2_ (s_ldN d_X12_fillsOut_9 ka_91 rfl fun v2 => (s_iadd d_X12_fillsOut_10 rfl rfl (s_ck (s_istore (L' := [(4, aI ((60 * l1) + v2)), (0, aR (some (12, l0))), (1, aI l1), (2, aI l2), (3, aI l3)]) d_X12_fillsOut_11 (b8 rfl) rfl (s_iload d_X12_fillsOut_13 m0_ ?_)))))
  refine s_aload_n d_X12_fillsOut_15 m1_ (s_getR cf d_X12_fillsOut_16 fl_X12_111 (s_nk fun i3 => (s_iload_n d_X12_fillsOut_19 m3_ (s_ldN d_X12_fillsOut_20 ka_92 rfl fun v4 => (s_iadd d_X12_fillsOut_21 rfl rfl ?_)))))
  refine s_ck (s_istore (L' := [(5, aI (((60 * l1) + v2) + v4)), (4, aI ((60 * l1) + v2)), (0, aR (some (12, l0))), (1, aI l1), (2, aI l2), (3, aI l3)]) d_X12_fillsOut_22 (b8 rfl) rfl (s_iconst d_X12_fillsOut_24 n_2 (s_istore (L' := [(6, aI 2), (5, aI (((60 * l1) + v2) + v4)), (4, aI ((60 * l1) + v2)), (0, aR (some (12, l0))), (1, aI l1), (2, aI l2), (3, aI l3)]) d_X12_fillsOut_25 (b8 rfl) rfl (s_sub (subc m0_ (subc m3_ (subc m5_ (subc m6_ (subc m2_ (subc m1_ sub0)))))) (s_lp2 (fun s => [(6, aI (s.1)), (0, aR (some (12, l0))), (2, aI l2), (3, aI l3), (4, aI ((60 * l1) + v2)), (5, aI (((60 * l1) + v2) + v4))]) (fun s => s.2) (2, m) fun k27 hx27 s ih0 => ?_)))))
  obtain ⟨l6_27, mm_27⟩ := s
  have ih27 := ih0
  clear ih0
  try dsimp only
  unfold b_X12_fillsOut_27
  have hj_X12_fillsOut_27_80 : ∀ (m_80 : MM) (l6_80 : Int), Sim fx me_X12_fillsOut 80 [(0, aR (some (12, l0))), (2, aI l2), (3, aI l3), (4, aI ((60 * l1) + v2)), (5, aI (((60 * l1) + v2) + v4)), (6, aI l6_80)] [] m_80 ((j_X12_fillsOut_27_80 m_80 l0 l2 l3 ((60 * l1) + v2) (((60 * l1) + v2) + v4) l6_80).bind k27) := by
    intro m_80 l6_80
    unfold j_X12_fillsOut_27_80
    exact s_iinc (L' := [(6, aI (l6_80 + 1)), (0, aR (some (12, l0))), (2, aI l2), (3, aI l3), (4, aI ((60 * l1) + v2)), (5, aI (((60 * l1) + v2) + v4))]) d_X12_fillsOut_80 m5_ (b8 rfl) rfl (s_goto (tgt := 27) d_X12_fillsOut_83 rfl (s_sub (subc m0_ (subc m1_ (subc m2_ (subc m3_ (subc m4_ (subc m5_ sub0)))))) (s_back (ih27 ((l6_80 + 1), m_80)))))
  refine s_iload d_X12_fillsOut_27 m0_ (s_iconst d_X12_fillsOut_29 n_3 (s_icmp_gt (tgt := 86) d_X12_fillsOut_30 rfl ?_ ?_))
  · exact s_exit (hx27 _) (s_sub (subc m1_ (subc m2_ (subc m3_ (subc m4_ (subc m5_ sub0))))) (hj_X12_fillsOut_0_86 mm_27 l0 l2 l3 ((60 * l1) + v2) (((60 * l1) + v2) + v4)))
  refine s_iload d_X12_fillsOut_33 m4_ (s_iconst d_X12_fillsOut_35 n_1 (s_iadd d_X12_fillsOut_36 rfl rfl (s_ck (s_istore (L' := [(7, aI (((60 * l1) + v2) + 1)), (6, aI l6_27), (0, aR (some (12, l0))), (2, aI l2), (3, aI l3), (4, aI ((60 * l1) + v2)), (5, aI (((60 * l1) + v2) + v4))]) d_X12_fillsOut_37 (b8 rfl) rfl (s_sub (subc m0_ (subc m2_ (subc m3_ (subc m4_ (subc m5_ (subc m6_ (subc m1_ sub0))))))) (s_lp2 (fun s => [(7, aI (s.1)), (0, aR (some (12, l0))), (2, aI l2), (3, aI l3), (4, aI ((60 * l1) + v2)), (5, aI (((60 * l1) + v2) + v4)), (6, aI l6_27)]) (fun s => s.2) ((((60 * l1) + v2) + 1), mm_27) fun k39 hx39 s ih0 => ?_))))))
  obtain ⟨l7_39, mm_39⟩ := s
  have ih39 := ih0
  clear ih0
  try dsimp only
  unfold b_X12_fillsOut_39
  refine s_iload d_X12_fillsOut_39 m0_ (s_iload d_X12_fillsOut_41 m5_ (s_icmp_ge (tgt := 80) d_X12_fillsOut_43 rfl ?_ ?_))
  · exact s_exit (hx39 _) (s_sub (subc m1_ (subc m2_ (subc m3_ (subc m4_ (subc m5_ (subc m6_ sub0)))))) (hj_X12_fillsOut_27_80 mm_39 l6_27))
  refine s_aload_n d_X12_fillsOut_46 m1_ (s_getR cf d_X12_fillsOut_47 fl_X12_114 (s_nk fun i5 => (s_iload_n d_X12_fillsOut_50 m2_ (s_ldN d_X12_fillsOut_51 ka_93 rfl fun v6 => (s_if_le (tgt := 74) d_X12_fillsOut_52 rfl ?_ ?_)))))
  · exact s_iinc (L' := [(7, aI (l7_39 + 1)), (0, aR (some (12, l0))), (2, aI l2), (3, aI l3), (4, aI ((60 * l1) + v2)), (5, aI (((60 * l1) + v2) + v4)), (6, aI l6_27)]) d_X12_fillsOut_74 m0_ (b8 rfl) rfl (s_goto (tgt := 39) d_X12_fillsOut_77 rfl (s_sub (subc m0_ (subc m1_ (subc m2_ (subc m3_ (subc m4_ (subc m5_ (subc m6_ sub0))))))) (s_back (ih39 ((l7_39 + 1), mm_39)))))
  refine s_aload_n d_X12_fillsOut_55 m1_ (s_getR cf d_X12_fillsOut_56 fl_X12_126 (s_nk fun i7 => (s_iload d_X12_fillsOut_59 m0_ (s_iload d_X12_fillsOut_61 m6_ (s_stN d_X12_fillsOut_63 ka_97 rfl fun m8 => ?_)))))
  refine s_aload_n d_X12_fillsOut_64 m1_ (s_getR cf d_X12_fillsOut_65 fl_X12_114 (s_nk fun i9 => (s_iload_n d_X12_fillsOut_68 m2_ (s_dup2 d_X12_fillsOut_69 rfl rfl (s_ldN d_X12_fillsOut_70 ka_93 rfl fun v10 => ?_)))))
  refine s_iconst d_X12_fillsOut_71 n_1 (s_isub d_X12_fillsOut_72 rfl rfl (s_ck (s_stN d_X12_fillsOut_73 ka_93 rfl fun m11 => (s_iinc (L' := [(7, aI (l7_39 + 1)), (0, aR (some (12, l0))), (2, aI l2), (3, aI l3), (4, aI ((60 * l1) + v2)), (5, aI (((60 * l1) + v2) + v4)), (6, aI l6_27)]) d_X12_fillsOut_74 m0_ (b8 rfl) rfl (s_goto (tgt := 39) d_X12_fillsOut_77 rfl ?_)))))
  exact s_sub (subc m0_ (subc m1_ (subc m2_ (subc m3_ (subc m4_ (subc m5_ (subc m6_ sub0))))))) (s_back (ih39 ((l7_39 + 1), m11)))
theorem d_X12_fills_0 : dk me_X12_fills 0 (.bipush 16) 2 2 := And.intro (by decide +kernel) rfl
theorem d_X12_fills_2 : dk me_X12_fills 2 (.iload_n 1) 1 3 := And.intro (by decide +kernel) rfl
theorem d_X12_fills_3 : dk me_X12_fills 3 (.imul) 1 4 := And.intro (by decide +kernel) rfl
theorem d_X12_fills_4 : dk me_X12_fills 4 (.iload_n 2) 1 5 := And.intro (by decide +kernel) rfl
theorem d_X12_fills_5 : dk me_X12_fills 5 (.iadd) 1 6 := And.intro (by decide +kernel) rfl
theorem d_X12_fills_6 : dk me_X12_fills 6 (.istore 5) 2 8 := And.intro (by decide +kernel) rfl
theorem d_X12_fills_8 : dk me_X12_fills 8 (.sipush 150) 3 11 := And.intro (by decide +kernel) rfl
theorem d_X12_fills_11 : dk me_X12_fills 11 (.iload 5) 2 13 := And.intro (by decide +kernel) rfl
theorem d_X12_fills_13 : dk me_X12_fills 13 (.imul) 1 14 := And.intro (by decide +kernel) rfl
theorem d_X12_fills_14 : dk me_X12_fills 14 (.aload_n 0) 1 15 := And.intro (by decide +kernel) rfl
theorem d_X12_fills_15 : dk me_X12_fills 15 (.getfield 105) 3 18 := And.intro (by decide +kernel) rfl
theorem d_X12_fills_18 : dk me_X12_fills 18 (.iload 5) 2 20 := And.intro (by decide +kernel) rfl
theorem d_X12_fills_20 : dk me_X12_fills 20 (.iaload) 1 21 := And.intro (by decide +kernel) rfl
theorem d_X12_fills_21 : dk me_X12_fills 21 (.iadd) 1 22 := And.intro (by decide +kernel) rfl
theorem d_X12_fills_22 : dk me_X12_fills 22 (.istore 6) 2 24 := And.intro (by decide +kernel) rfl
theorem d_X12_fills_24 : dk me_X12_fills 24 (.aload_n 0) 1 25 := And.intro (by decide +kernel) rfl
theorem d_X12_fills_25 : dk me_X12_fills 25 (.getfield 105) 3 28 := And.intro (by decide +kernel) rfl
theorem d_X12_fills_28 : dk me_X12_fills 28 (.iload 5) 2 30 := And.intro (by decide +kernel) rfl
theorem d_X12_fills_30 : dk me_X12_fills 30 (.dup2) 1 31 := And.intro (by decide +kernel) rfl
theorem d_X12_fills_31 : dk me_X12_fills 31 (.iaload) 1 32 := And.intro (by decide +kernel) rfl
theorem d_X12_fills_32 : dk me_X12_fills 32 (.iconst 1) 1 33 := And.intro (by decide +kernel) rfl
theorem d_X12_fills_33 : dk me_X12_fills 33 (.iadd) 1 34 := And.intro (by decide +kernel) rfl
theorem d_X12_fills_34 : dk me_X12_fills 34 (.iastore) 1 35 := And.intro (by decide +kernel) rfl
theorem d_X12_fills_35 : dk me_X12_fills 35 (.aload_n 0) 1 36 := And.intro (by decide +kernel) rfl
theorem d_X12_fills_36 : dk me_X12_fills 36 (.getfield 132) 3 39 := And.intro (by decide +kernel) rfl
theorem d_X12_fills_39 : dk me_X12_fills 39 (.iload 6) 2 41 := And.intro (by decide +kernel) rfl
theorem d_X12_fills_41 : dk me_X12_fills 41 (.iload 4) 2 43 := And.intro (by decide +kernel) rfl
theorem d_X12_fills_43 : dk me_X12_fills 43 (.iastore) 1 44 := And.intro (by decide +kernel) rfl
theorem d_X12_fills_44 : dk me_X12_fills 44 (.aload_n 0) 1 45 := And.intro (by decide +kernel) rfl
theorem d_X12_fills_45 : dk me_X12_fills 45 (.getfield 135) 3 48 := And.intro (by decide +kernel) rfl
theorem d_X12_fills_48 : dk me_X12_fills 48 (.iload 6) 2 50 := And.intro (by decide +kernel) rfl
theorem d_X12_fills_50 : dk me_X12_fills 50 (.iconst (-1)) 1 51 := And.intro (by decide +kernel) rfl
theorem d_X12_fills_51 : dk me_X12_fills 51 (.iastore) 1 52 := And.intro (by decide +kernel) rfl
theorem d_X12_fills_52 : dk me_X12_fills 52 (.aload_n 0) 1 53 := And.intro (by decide +kernel) rfl
theorem d_X12_fills_53 : dk me_X12_fills 53 (.getfield 138) 3 56 := And.intro (by decide +kernel) rfl
theorem d_X12_fills_56 : dk me_X12_fills 56 (.iload 6) 2 58 := And.intro (by decide +kernel) rfl
theorem d_X12_fills_58 : dk me_X12_fills 58 (.iconst 0) 1 59 := And.intro (by decide +kernel) rfl
theorem d_X12_fills_59 : dk me_X12_fills 59 (.iastore) 1 60 := And.intro (by decide +kernel) rfl
theorem d_X12_fills_60 : dk me_X12_fills 60 (.aload_n 0) 1 61 := And.intro (by decide +kernel) rfl
theorem d_X12_fills_61 : dk me_X12_fills 61 (.getfield 32) 3 64 := And.intro (by decide +kernel) rfl
theorem d_X12_fills_64 : dk me_X12_fills 64 (.iload 4) 2 66 := And.intro (by decide +kernel) rfl
theorem d_X12_fills_66 : dk me_X12_fills 66 (.iaload) 1 67 := And.intro (by decide +kernel) rfl
theorem d_X12_fills_67 : dk me_X12_fills 67 (.iconst (-1)) 1 68 := And.intro (by decide +kernel) rfl
theorem d_X12_fills_68 : dk me_X12_fills 68 (.if_icmp .eq 19) 3 71 := And.intro (by decide +kernel) rfl
theorem d_X12_fills_71 : dk me_X12_fills 71 (.aload_n 0) 1 72 := And.intro (by decide +kernel) rfl
theorem d_X12_fills_72 : dk me_X12_fills 72 (.getfield 135) 3 75 := And.intro (by decide +kernel) rfl
theorem d_X12_fills_75 : dk me_X12_fills 75 (.iload 6) 2 77 := And.intro (by decide +kernel) rfl
theorem d_X12_fills_77 : dk me_X12_fills 77 (.aload_n 0) 1 78 := And.intro (by decide +kernel) rfl
theorem d_X12_fills_78 : dk me_X12_fills 78 (.iload 4) 2 80 := And.intro (by decide +kernel) rfl
theorem d_X12_fills_80 : dk me_X12_fills 80 (.invokevirtual 319) 3 83 := And.intro (by decide +kernel) rfl
theorem d_X12_fills_83 : dk me_X12_fills 83 (.iastore) 1 84 := And.intro (by decide +kernel) rfl
theorem d_X12_fills_84 : dk me_X12_fills 84 (.goto 50) 3 87 := And.intro (by decide +kernel) rfl
theorem d_X12_fills_87 : dk me_X12_fills 87 (.iload 4) 2 89 := And.intro (by decide +kernel) rfl
theorem d_X12_fills_89 : dk me_X12_fills 89 (.invokestatic 316) 3 92 := And.intro (by decide +kernel) rfl
theorem d_X12_fills_92 : dk me_X12_fills 92 (.iconst (-1)) 1 93 := And.intro (by decide +kernel) rfl
theorem d_X12_fills_93 : dk me_X12_fills 93 (.if_icmp .eq 41) 3 96 := And.intro (by decide +kernel) rfl
theorem d_X12_fills_96 : dk me_X12_fills 96 (.aload_n 0) 1 97 := And.intro (by decide +kernel) rfl
theorem d_X12_fills_97 : dk me_X12_fills 97 (.getfield 32) 3 100 := And.intro (by decide +kernel) rfl
theorem d_X12_fills_100 : dk me_X12_fills 100 (.iload 4) 2 102 := And.intro (by decide +kernel) rfl
theorem d_X12_fills_102 : dk me_X12_fills 102 (.invokestatic 316) 3 105 := And.intro (by decide +kernel) rfl
theorem d_X12_fills_105 : dk me_X12_fills 105 (.iaload) 1 106 := And.intro (by decide +kernel) rfl
theorem d_X12_fills_106 : dk me_X12_fills 106 (.iconst (-1)) 1 107 := And.intro (by decide +kernel) rfl
theorem d_X12_fills_107 : dk me_X12_fills 107 (.if_icmp .eq 27) 3 110 := And.intro (by decide +kernel) rfl
theorem d_X12_fills_110 : dk me_X12_fills 110 (.aload_n 0) 1 111 := And.intro (by decide +kernel) rfl
theorem d_X12_fills_111 : dk me_X12_fills 111 (.getfield 135) 3 114 := And.intro (by decide +kernel) rfl
theorem d_X12_fills_114 : dk me_X12_fills 114 (.iload 6) 2 116 := And.intro (by decide +kernel) rfl
theorem d_X12_fills_116 : dk me_X12_fills 116 (.aload_n 0) 1 117 := And.intro (by decide +kernel) rfl
theorem d_X12_fills_117 : dk me_X12_fills 117 (.iload 4) 2 119 := And.intro (by decide +kernel) rfl
theorem d_X12_fills_119 : dk me_X12_fills 119 (.invokestatic 316) 3 122 := And.intro (by decide +kernel) rfl
theorem d_X12_fills_122 : dk me_X12_fills 122 (.invokevirtual 319) 3 125 := And.intro (by decide +kernel) rfl
theorem d_X12_fills_125 : dk me_X12_fills 125 (.iastore) 1 126 := And.intro (by decide +kernel) rfl
theorem d_X12_fills_126 : dk me_X12_fills 126 (.aload_n 0) 1 127 := And.intro (by decide +kernel) rfl
theorem d_X12_fills_127 : dk me_X12_fills 127 (.getfield 138) 3 130 := And.intro (by decide +kernel) rfl
theorem d_X12_fills_130 : dk me_X12_fills 130 (.iload 6) 2 132 := And.intro (by decide +kernel) rfl
theorem d_X12_fills_132 : dk me_X12_fills 132 (.iconst 1) 1 133 := And.intro (by decide +kernel) rfl
theorem d_X12_fills_133 : dk me_X12_fills 133 (.iastore) 1 134 := And.intro (by decide +kernel) rfl
theorem d_X12_fills_134 : dk me_X12_fills 134 (.aload_n 0) 1 135 := And.intro (by decide +kernel) rfl
theorem d_X12_fills_135 : dk me_X12_fills 135 (.getfield 141) 3 138 := And.intro (by decide +kernel) rfl
theorem d_X12_fills_138 : dk me_X12_fills 138 (.iload 6) 2 140 := And.intro (by decide +kernel) rfl
theorem d_X12_fills_140 : dk me_X12_fills 140 (.aload_n 0) 1 141 := And.intro (by decide +kernel) rfl
theorem d_X12_fills_141 : dk me_X12_fills 141 (.aload_n 0) 1 142 := And.intro (by decide +kernel) rfl
theorem d_X12_fills_142 : dk me_X12_fills 142 (.getfield 135) 3 145 := And.intro (by decide +kernel) rfl
theorem d_X12_fills_145 : dk me_X12_fills 145 (.iload 6) 2 147 := And.intro (by decide +kernel) rfl
theorem d_X12_fills_147 : dk me_X12_fills 147 (.iaload) 1 148 := And.intro (by decide +kernel) rfl
theorem d_X12_fills_148 : dk me_X12_fills 148 (.iload 4) 2 150 := And.intro (by decide +kernel) rfl
theorem d_X12_fills_150 : dk me_X12_fills 150 (.aload_n 0) 1 151 := And.intro (by decide +kernel) rfl
theorem d_X12_fills_151 : dk me_X12_fills 151 (.getfield 138) 3 154 := And.intro (by decide +kernel) rfl
theorem d_X12_fills_154 : dk me_X12_fills 154 (.iload 6) 2 156 := And.intro (by decide +kernel) rfl
theorem d_X12_fills_156 : dk me_X12_fills 156 (.iaload) 1 157 := And.intro (by decide +kernel) rfl
theorem d_X12_fills_157 : dk me_X12_fills 157 (.invokevirtual 322) 3 160 := And.intro (by decide +kernel) rfl
theorem d_X12_fills_160 : dk me_X12_fills 160 (.iastore) 1 161 := And.intro (by decide +kernel) rfl
theorem d_X12_fills_161 : dk me_X12_fills 161 (.aload_n 0) 1 162 := And.intro (by decide +kernel) rfl
theorem d_X12_fills_162 : dk me_X12_fills 162 (.getfield 135) 3 165 := And.intro (by decide +kernel) rfl
theorem d_X12_fills_165 : dk me_X12_fills 165 (.iload 6) 2 167 := And.intro (by decide +kernel) rfl
theorem d_X12_fills_167 : dk me_X12_fills 167 (.iaload) 1 168 := And.intro (by decide +kernel) rfl
theorem d_X12_fills_168 : dk me_X12_fills 168 (.iconst (-1)) 1 169 := And.intro (by decide +kernel) rfl
theorem d_X12_fills_169 : dk me_X12_fills 169 (.if_icmp .ne 5) 3 172 := And.intro (by decide +kernel) rfl
theorem d_X12_fills_172 : dk me_X12_fills 172 (.iconst 1) 1 173 := And.intro (by decide +kernel) rfl
theorem d_X12_fills_173 : dk me_X12_fills 173 (.ireturn) 1 174 := And.intro (by decide +kernel) rfl
theorem d_X12_fills_174 : dk me_X12_fills 174 (.aload_n 0) 1 175 := And.intro (by decide +kernel) rfl
theorem d_X12_fills_175 : dk me_X12_fills 175 (.getfield 26) 3 178 := And.intro (by decide +kernel) rfl
theorem d_X12_fills_178 : dk me_X12_fills 178 (.aload_n 0) 1 179 := And.intro (by decide +kernel) rfl
theorem d_X12_fills_179 : dk me_X12_fills 179 (.getfield 135) 3 182 := And.intro (by decide +kernel) rfl
theorem d_X12_fills_182 : dk me_X12_fills 182 (.iload 6) 2 184 := And.intro (by decide +kernel) rfl
theorem d_X12_fills_184 : dk me_X12_fills 184 (.iaload) 1 185 := And.intro (by decide +kernel) rfl
theorem d_X12_fills_185 : dk me_X12_fills 185 (.bipush 100) 2 187 := And.intro (by decide +kernel) rfl
theorem d_X12_fills_187 : dk me_X12_fills 187 (.bipush 100) 2 189 := And.intro (by decide +kernel) rfl
theorem d_X12_fills_189 : dk me_X12_fills 189 (.iload_n 1) 1 190 := And.intro (by decide +kernel) rfl
theorem d_X12_fills_190 : dk me_X12_fills 190 (.imul) 1 191 := And.intro (by decide +kernel) rfl
theorem d_X12_fills_191 : dk me_X12_fills 191 (.iadd) 1 192 := And.intro (by decide +kernel) rfl
theorem d_X12_fills_192 : dk me_X12_fills 192 (.iload_n 2) 1 193 := And.intro (by decide +kernel) rfl
theorem d_X12_fills_193 : dk me_X12_fills 193 (.iadd) 1 194 := And.intro (by decide +kernel) rfl
theorem d_X12_fills_194 : dk me_X12_fills 194 (.iastore) 1 195 := And.intro (by decide +kernel) rfl
theorem d_X12_fills_195 : dk me_X12_fills 195 (.aload_n 0) 1 196 := And.intro (by decide +kernel) rfl
theorem d_X12_fills_196 : dk me_X12_fills 196 (.getfield 47) 3 199 := And.intro (by decide +kernel) rfl
theorem d_X12_fills_199 : dk me_X12_fills 199 (.iload_n 3) 1 200 := And.intro (by decide +kernel) rfl
theorem d_X12_fills_200 : dk me_X12_fills 200 (.dup2) 1 201 := And.intro (by decide +kernel) rfl
theorem d_X12_fills_201 : dk me_X12_fills 201 (.iaload) 1 202 := And.intro (by decide +kernel) rfl
theorem d_X12_fills_202 : dk me_X12_fills 202 (.iconst 1) 1 203 := And.intro (by decide +kernel) rfl
theorem d_X12_fills_203 : dk me_X12_fills 203 (.iadd) 1 204 := And.intro (by decide +kernel) rfl
theorem d_X12_fills_204 : dk me_X12_fills 204 (.iastore) 1 205 := And.intro (by decide +kernel) rfl
theorem d_X12_fills_205 : dk me_X12_fills 205 (.iconst 0) 1 206 := And.intro (by decide +kernel) rfl
theorem d_X12_fills_206 : dk me_X12_fills 206 (.ireturn) 1 207 := And.intro (by decide +kernel) rfl
theorem ms_X12_fills {fx : FX} {m : MM} {l0 : Nat} {l1 : Int} {l2 : Int} {l3 : Int} {l4 : Int} : MS fx me_X12_fills [aR (some (12, l0)), aI l1, aI l2, aI l3, aI l4] m (f_X12_fills m l0 l1 l2 l3 l4) := by
  refine ms_of rfl mf_X12_fills (b8 rfl) ?_
  refine s_top ?_
  show Sim fx me_X12_fills 0 [(0, aR (some (12, l0))), (1, aI l1), (2, aI l2), (3, aI l3), (4, aI l4)] [] m _
  unfold f_X12_fills
  have hj_X12_fills_0_134 : ∀ (m_134 : MM) (l0_134 : Nat) (l1_134 : Int) (l2_134 : Int) (l3_134 : Int) (l4_134 : Int) (l6_134 : Int), Sim fx me_X12_fills 134 [(0, aR (some (12, l0_134))), (1, aI l1_134), (2, aI l2_134), (3, aI l3_134), (4, aI l4_134), (6, aI l6_134)] [] m_134 ((j_X12_fills_0_134 m_134 l0_134 l1_134 l2_134 l3_134 l4_134 l6_134).bind (fun z => some z)) := by
    intro m_134 l0_134 l1_134 l2_134 l3_134 l4_134 l6_134
    unfold j_X12_fills_0_134
    refine s_aload_n d_X12_fills_134 m0_ (s_getR cf d_X12_fills_135 fl_X12_141 (s_nk fun i30 => (s_iload d_X12_fills_138 m5_ (s_aload_n d_X12_fills_140 m0_ (s_aload_n d_X12_fills_141 m0_ ?_)))))
    refine s_getR cf d_X12_fills_142 fl_X12_135 (s_nk fun i31 => (s_iload d_X12_fills_145 m5_ (s_ldN d_X12_fills_147 ka_100 rfl fun v32 => (s_iload d_X12_fills_148 m4_ (s_aload_n d_X12_fills_150 m0_ ?_)))))
    refine s_getR cf d_X12_fills_151 fl_X12_138 (s_nk fun i33 => (s_iload d_X12_fills_154 m5_ (s_ldN d_X12_fills_156 ka_101 rfl fun v34 => (s_pI (r_V d_X12_fills_157 k_X12_printOf w_1834 rfl rfl) ms_X12_printOf (b8 rfl) rfl rfl rfl fun v35 => (s_stN d_X12_fills_160 ka_102 rfl fun m36 => ?_)))))
    refine s_aload_n d_X12_fills_161 m0_ (s_getR cf d_X12_fills_162 fl_X12_135 (s_nk fun i37 => (s_iload d_X12_fills_165 m5_ (s_ldN d_X12_fills_167 ka_100 rfl fun v38 => (s_iconst d_X12_fills_168 n_m1 ?_)))))
    refine s_icmp_ne (tgt := 174) d_X12_fills_169 rfl ?_ ?_
    · refine s_aload_n d_X12_fills_174 m0_ (s_getR cf d_X12_fills_175 fl_X12_26 (s_nk fun i39 => (s_aload_n d_X12_fills_178 m0_ (s_getR cf d_X12_fills_179 fl_X12_135 (s_nk fun i40 => ?_)))))
      refine s_iload d_X12_fills_182 m5_ (s_ldN d_X12_fills_184 ka_100 rfl fun v41 => (s_bipush d_X12_fills_185 n_100 rfl (s_bipush d_X12_fills_187 n_100 rfl (s_iload_n d_X12_fills_189 m1_ (s_imul d_X12_fills_190 rfl rfl ?_)))))
      refine s_iadd d_X12_fills_191 rfl rfl (s_iload_n d_X12_fills_192 m2_ (s_iadd d_X12_fills_193 rfl rfl (s_ck (s_stN d_X12_fills_194 ka_64 rfl fun m42 => (s_aload_n d_X12_fills_195 m0_ ?_)))))
      refine s_getR cf d_X12_fills_196 fl_X12_47 (s_nk fun i43 => (s_iload_n d_X12_fills_199 m3_ (s_dup2 d_X12_fills_200 rfl rfl (s_ldN d_X12_fills_201 ka_71 rfl fun v44 => (s_iconst d_X12_fills_202 n_1 ?_)))))
      exact s_iadd d_X12_fills_203 rfl rfl (s_ck (s_stN d_X12_fills_204 ka_71 rfl fun m45 => (s_iconst d_X12_fills_205 n_0 (s_iret d_X12_fills_206 rfl rfl))))
    exact s_iconst d_X12_fills_172 n_1 (s_iret d_X12_fills_173 rfl rfl)
  refine s_bipush d_X12_fills_0 n_16 rfl (s_iload_n d_X12_fills_2 m1_ (s_imul d_X12_fills_3 rfl rfl (s_iload_n d_X12_fills_4 m2_ (s_iadd d_X12_fills_5 rfl rfl (s_ck ?_)))))
  refine s_istore (L' := [(5, aI ((16 * l1) + l2)), (0, aR (some (12, l0))), (1, aI l1), (2, aI l2), (3, aI l3), (4, aI l4)]) d_X12_fills_6 (b8 rfl) rfl (s_sipush d_X12_fills_8 n_150 rfl (s_iload d_X12_fills_11 m0_ (s_imul d_X12_fills_13 rfl rfl (s_aload_n d_X12_fills_14 m1_ (s_getR cf d_X12_fills_15 fl_X12_105 ?_)))))
  refine s_nk fun i1 => (s_iload d_X12_fills_18 m0_ (s_ldN d_X12_fills_20 ka_90 rfl fun v2 => (s_iadd d_X12_fills_21 rfl rfl (s_ck (s_let fun v3 => ?_)))))
  refine s_istore (L' := [(6, aI v3), (5, aI ((16 * l1) + l2)), (0, aR (some (12, l0))), (1, aI l1), (2, aI l2), (3, aI l3), (4, aI l4)]) d_X12_fills_22 (b8 rfl) rfl (s_aload_n d_X12_fills_24 m2_ (s_getR cf d_X12_fills_25 fl_X12_105 (s_nk fun i4 => (s_iload d_X12_fills_28 m1_ (s_dup2 d_X12_fills_30 rfl rfl ?_)))))
  refine s_ldN d_X12_fills_31 ka_90 rfl fun v5 => (s_iconst d_X12_fills_32 n_1 (s_iadd d_X12_fills_33 rfl rfl (s_ck (s_stN d_X12_fills_34 ka_90 rfl fun m6 => (s_aload_n d_X12_fills_35 m2_ ?_)))))
  refine s_getR cf d_X12_fills_36 fl_X12_132 (s_nk fun i7 => (s_iload d_X12_fills_39 m0_ (s_iload d_X12_fills_41 m6_ (s_stN d_X12_fills_43 ka_99 rfl fun m8 => (s_aload_n d_X12_fills_44 m2_ ?_)))))
  refine s_getR cf d_X12_fills_45 fl_X12_135 (s_nk fun i9 => (s_iload d_X12_fills_48 m0_ (s_iconst d_X12_fills_50 n_m1 (s_stN d_X12_fills_51 ka_100 rfl fun m10 => (s_aload_n d_X12_fills_52 m2_ ?_)))))
  refine s_getR cf d_X12_fills_53 fl_X12_138 (s_nk fun i11 => (s_iload d_X12_fills_56 m0_ (s_iconst d_X12_fills_58 n_0 (s_stN d_X12_fills_59 ka_101 rfl fun m12 => (s_aload_n d_X12_fills_60 m2_ ?_)))))
  refine s_getR cf d_X12_fills_61 fl_X12_32 (s_nk fun i13 => (s_iload d_X12_fills_64 m6_ (s_ldN d_X12_fills_66 ka_66 rfl fun v14 => (s_iconst d_X12_fills_67 n_m1 (s_icmp_eq (tgt := 87) d_X12_fills_68 rfl ?_ ?_)))))
  · refine s_iload d_X12_fills_87 m6_ (s_pI (r_S d_X12_fills_89 k_X12_turnedOf w_1831 rfl rfl) ms_X12_turnedOf (b8 rfl) rfl rfl rfl fun v15 => (s_iconst d_X12_fills_92 n_m1 (s_icmp_eq (tgt := 134) d_X12_fills_93 rfl ?_ ?_)))
    · exact s_sub (subc m2_ (subc m3_ (subc m4_ (subc m5_ (subc m6_ (subc m0_ sub0)))))) (hj_X12_fills_0_134 m12 l0 l1 l2 l3 l4 v3)
    refine s_aload_n d_X12_fills_96 m2_ (s_getR cf d_X12_fills_97 fl_X12_32 (s_nk fun i16 => (s_iload d_X12_fills_100 m6_ (s_pI (r_S d_X12_fills_102 k_X12_turnedOf w_1831 rfl rfl) ms_X12_turnedOf (b8 rfl) rfl rfl rfl fun v17 => (s_ldN d_X12_fills_105 ka_66 rfl fun v18 => ?_)))))
    refine s_iconst d_X12_fills_106 n_m1 (s_icmp_eq (tgt := 134) d_X12_fills_107 rfl ?_ ?_)
    · exact s_sub (subc m2_ (subc m3_ (subc m4_ (subc m5_ (subc m6_ (subc m0_ sub0)))))) (hj_X12_fills_0_134 m12 l0 l1 l2 l3 l4 v3)
    refine s_aload_n d_X12_fills_110 m2_ (s_getR cf d_X12_fills_111 fl_X12_135 (s_nk fun i19 => (s_iload d_X12_fills_114 m0_ (s_aload_n d_X12_fills_116 m2_ (s_iload d_X12_fills_117 m6_ ?_)))))
    refine s_pI (r_S d_X12_fills_119 k_X12_turnedOf w_1831 rfl rfl) ms_X12_turnedOf (b8 rfl) rfl rfl rfl fun v20 => (s_cI (r_V d_X12_fills_122 k_X12_takes w_1827 rfl rfl) ms_X12_takes (b8 rfl) rfl rfl rfl (fun _ _ _ => rfl) (fun _ _ => Or.inl rfl) fun v22 m21 => (s_stN d_X12_fills_125 ka_100 rfl fun m23 => (s_aload_n d_X12_fills_126 m2_ (s_getR cf d_X12_fills_127 fl_X12_138 (s_nk fun i24 => ?_)))))
    exact s_iload d_X12_fills_130 m0_ (s_iconst d_X12_fills_132 n_1 (s_stN d_X12_fills_133 ka_101 rfl fun m25 => (s_sub (subc m2_ (subc m3_ (subc m4_ (subc m5_ (subc m6_ (subc m0_ sub0)))))) (hj_X12_fills_0_134 m25 l0 l1 l2 l3 l4 v3))))
  refine s_aload_n d_X12_fills_71 m2_ (s_getR cf d_X12_fills_72 fl_X12_135 (s_nk fun i26 => (s_iload d_X12_fills_75 m0_ (s_aload_n d_X12_fills_77 m2_ (s_iload d_X12_fills_78 m6_ ?_)))))
  exact s_cI (r_V d_X12_fills_80 k_X12_takes w_1827 rfl rfl) ms_X12_takes (b8 rfl) rfl rfl rfl (fun _ _ _ => rfl) (fun _ _ => Or.inl rfl) fun v28 m27 => (s_stN d_X12_fills_83 ka_100 rfl fun m29 => (s_goto (tgt := 134) d_X12_fills_84 rfl (s_sub (subc m2_ (subc m3_ (subc m4_ (subc m5_ (subc m6_ (subc m0_ sub0)))))) (hj_X12_fills_0_134 m29 l0 l1 l2 l3 l4 v3))))
theorem d_X12_letter_0 : dk me_X12_letter 0 (.lload_n 0) 1 1 := And.intro (by decide +kernel) rfl
theorem d_X12_letter_1 : dk me_X12_letter 1 (.iconst 5) 1 2 := And.intro (by decide +kernel) rfl
theorem d_X12_letter_2 : dk me_X12_letter 2 (.iload_n 2) 1 3 := And.intro (by decide +kernel) rfl
theorem d_X12_letter_3 : dk me_X12_letter 3 (.imul) 1 4 := And.intro (by decide +kernel) rfl
theorem d_X12_letter_4 : dk me_X12_letter 4 (.lshr) 1 5 := And.intro (by decide +kernel) rfl
theorem d_X12_letter_5 : dk me_X12_letter 5 (.ldc2_w 250) 3 8 := And.intro (by decide +kernel) rfl
theorem d_X12_letter_8 : dk me_X12_letter 8 (.land) 1 9 := And.intro (by decide +kernel) rfl
theorem d_X12_letter_9 : dk me_X12_letter 9 (.l2i) 1 10 := And.intro (by decide +kernel) rfl
theorem d_X12_letter_10 : dk me_X12_letter 10 (.iconst 1) 1 11 := And.intro (by decide +kernel) rfl
theorem d_X12_letter_11 : dk me_X12_letter 11 (.isub) 1 12 := And.intro (by decide +kernel) rfl
theorem d_X12_letter_12 : dk me_X12_letter 12 (.ireturn) 1 13 := And.intro (by decide +kernel) rfl
theorem ms_X12_letter {fx : FX} {m : MM} {l0 : Int64} {l2 : Int} : MS fx me_X12_letter [aL l0, aI l2] m ((f_X12_letter m l0 l2).bind fun v => some (.inl (some (aI v)), m)) := by
  refine ms_of rfl mf_X12_letter (b8 rfl) ?_
  show Sim fx me_X12_letter 0 [(0, aL l0), (2, aI l2)] [] m _
  unfold f_X12_letter
  refine s_lload_n d_X12_letter_0 m0_ (s_iconst d_X12_letter_1 n_5 (s_iload_n d_X12_letter_2 m1_ (s_imul d_X12_letter_3 rfl rfl (s_ck (s_lshr d_X12_letter_4 ?_)))))
  refine s_ldc2 d_X12_letter_5 w_1822 (s_land d_X12_letter_8 (s_l2i d_X12_letter_9 (s_iconst d_X12_letter_10 n_1 (s_isub d_X12_letter_11 rfl rfl (s_ck ?_)))))
  exact s_iret d_X12_letter_12 rfl rfl
theorem d_X12_fillsPlaces_0 : dk me_X12_fillsPlaces 0 (.bipush 16) 2 2 := And.intro (by decide +kernel) rfl
theorem d_X12_fillsPlaces_2 : dk me_X12_fillsPlaces 2 (.iload_n 1) 1 3 := And.intro (by decide +kernel) rfl
theorem d_X12_fillsPlaces_3 : dk me_X12_fillsPlaces 3 (.imul) 1 4 := And.intro (by decide +kernel) rfl
theorem d_X12_fillsPlaces_4 : dk me_X12_fillsPlaces 4 (.iload_n 2) 1 5 := And.intro (by decide +kernel) rfl
theorem d_X12_fillsPlaces_5 : dk me_X12_fillsPlaces 5 (.iadd) 1 6 := And.intro (by decide +kernel) rfl
theorem d_X12_fillsPlaces_6 : dk me_X12_fillsPlaces 6 (.istore 4) 2 8 := And.intro (by decide +kernel) rfl
theorem d_X12_fillsPlaces_8 : dk me_X12_fillsPlaces 8 (.iconst 0) 1 9 := And.intro (by decide +kernel) rfl
theorem d_X12_fillsPlaces_9 : dk me_X12_fillsPlaces 9 (.istore 5) 2 11 := And.intro (by decide +kernel) rfl
theorem d_X12_fillsPlaces_11 : dk me_X12_fillsPlaces 11 (.aload_n 0) 1 12 := And.intro (by decide +kernel) rfl
theorem d_X12_fillsPlaces_12 : dk me_X12_fillsPlaces 12 (.getfield 105) 3 15 := And.intro (by decide +kernel) rfl
theorem d_X12_fillsPlaces_15 : dk me_X12_fillsPlaces 15 (.iload 4) 2 17 := And.intro (by decide +kernel) rfl
theorem d_X12_fillsPlaces_17 : dk me_X12_fillsPlaces 17 (.iconst 0) 1 18 := And.intro (by decide +kernel) rfl
theorem d_X12_fillsPlaces_18 : dk me_X12_fillsPlaces 18 (.iastore) 1 19 := And.intro (by decide +kernel) rfl
theorem d_X12_fillsPlaces_19 : dk me_X12_fillsPlaces 19 (.bipush 60) 2 21 := And.intro (by decide +kernel) rfl
theorem d_X12_fillsPlaces_21 : dk me_X12_fillsPlaces 21 (.iload 4) 2 23 := And.intro (by decide +kernel) rfl
theorem d_X12_fillsPlaces_23 : dk me_X12_fillsPlaces 23 (.imul) 1 24 := And.intro (by decide +kernel) rfl
theorem d_X12_fillsPlaces_24 : dk me_X12_fillsPlaces 24 (.istore 6) 2 26 := And.intro (by decide +kernel) rfl
theorem d_X12_fillsPlaces_26 : dk me_X12_fillsPlaces 26 (.iload 6) 2 28 := And.intro (by decide +kernel) rfl
theorem d_X12_fillsPlaces_28 : dk me_X12_fillsPlaces 28 (.bipush 60) 2 30 := And.intro (by decide +kernel) rfl
theorem d_X12_fillsPlaces_30 : dk me_X12_fillsPlaces 30 (.iload 4) 2 32 := And.intro (by decide +kernel) rfl
theorem d_X12_fillsPlaces_32 : dk me_X12_fillsPlaces 32 (.imul) 1 33 := And.intro (by decide +kernel) rfl
theorem d_X12_fillsPlaces_33 : dk me_X12_fillsPlaces 33 (.aload_n 0) 1 34 := And.intro (by decide +kernel) rfl
theorem d_X12_fillsPlaces_34 : dk me_X12_fillsPlaces 34 (.getfield 102) 3 37 := And.intro (by decide +kernel) rfl
theorem d_X12_fillsPlaces_37 : dk me_X12_fillsPlaces 37 (.iload 4) 2 39 := And.intro (by decide +kernel) rfl
theorem d_X12_fillsPlaces_39 : dk me_X12_fillsPlaces 39 (.iaload) 1 40 := And.intro (by decide +kernel) rfl
theorem d_X12_fillsPlaces_40 : dk me_X12_fillsPlaces 40 (.iadd) 1 41 := And.intro (by decide +kernel) rfl
theorem d_X12_fillsPlaces_41 : dk me_X12_fillsPlaces 41 (.if_icmp .ge 191) 3 44 := And.intro (by decide +kernel) rfl
theorem d_X12_fillsPlaces_44 : dk me_X12_fillsPlaces 44 (.aload_n 0) 1 45 := And.intro (by decide +kernel) rfl
theorem d_X12_fillsPlaces_45 : dk me_X12_fillsPlaces 45 (.getfield 129) 3 48 := And.intro (by decide +kernel) rfl
theorem d_X12_fillsPlaces_48 : dk me_X12_fillsPlaces 48 (.iload 6) 2 50 := And.intro (by decide +kernel) rfl
theorem d_X12_fillsPlaces_50 : dk me_X12_fillsPlaces 50 (.aload_n 0) 1 51 := And.intro (by decide +kernel) rfl
theorem d_X12_fillsPlaces_51 : dk me_X12_fillsPlaces 51 (.getfield 105) 3 54 := And.intro (by decide +kernel) rfl
theorem d_X12_fillsPlaces_54 : dk me_X12_fillsPlaces 54 (.iload 4) 2 56 := And.intro (by decide +kernel) rfl
theorem d_X12_fillsPlaces_56 : dk me_X12_fillsPlaces 56 (.iaload) 1 57 := And.intro (by decide +kernel) rfl
theorem d_X12_fillsPlaces_57 : dk me_X12_fillsPlaces 57 (.iastore) 1 58 := And.intro (by decide +kernel) rfl
theorem d_X12_fillsPlaces_58 : dk me_X12_fillsPlaces 58 (.aload_n 0) 1 59 := And.intro (by decide +kernel) rfl
theorem d_X12_fillsPlaces_59 : dk me_X12_fillsPlaces 59 (.getfield 123) 3 62 := And.intro (by decide +kernel) rfl
theorem d_X12_fillsPlaces_62 : dk me_X12_fillsPlaces 62 (.iload 6) 2 64 := And.intro (by decide +kernel) rfl
theorem d_X12_fillsPlaces_64 : dk me_X12_fillsPlaces 64 (.laload) 1 65 := And.intro (by decide +kernel) rfl
theorem d_X12_fillsPlaces_65 : dk me_X12_fillsPlaces 65 (.invokestatic 280) 3 68 := And.intro (by decide +kernel) rfl
theorem d_X12_fillsPlaces_68 : dk me_X12_fillsPlaces 68 (.istore 7) 2 70 := And.intro (by decide +kernel) rfl
theorem d_X12_fillsPlaces_70 : dk me_X12_fillsPlaces 70 (.iconst 0) 1 71 := And.intro (by decide +kernel) rfl
theorem d_X12_fillsPlaces_71 : dk me_X12_fillsPlaces 71 (.istore 8) 2 73 := And.intro (by decide +kernel) rfl
theorem d_X12_fillsPlaces_73 : dk me_X12_fillsPlaces 73 (.iload 8) 2 75 := And.intro (by decide +kernel) rfl
theorem d_X12_fillsPlaces_75 : dk me_X12_fillsPlaces 75 (.iload 7) 2 77 := And.intro (by decide +kernel) rfl
theorem d_X12_fillsPlaces_77 : dk me_X12_fillsPlaces 77 (.if_icmp .ge 149) 3 80 := And.intro (by decide +kernel) rfl
theorem d_X12_fillsPlaces_80 : dk me_X12_fillsPlaces 80 (.aload_n 0) 1 81 := And.intro (by decide +kernel) rfl
theorem d_X12_fillsPlaces_81 : dk me_X12_fillsPlaces 81 (.getfield 123) 3 84 := And.intro (by decide +kernel) rfl
theorem d_X12_fillsPlaces_84 : dk me_X12_fillsPlaces 84 (.iload 6) 2 86 := And.intro (by decide +kernel) rfl
theorem d_X12_fillsPlaces_86 : dk me_X12_fillsPlaces 86 (.laload) 1 87 := And.intro (by decide +kernel) rfl
theorem d_X12_fillsPlaces_87 : dk me_X12_fillsPlaces 87 (.iload 8) 2 89 := And.intro (by decide +kernel) rfl
theorem d_X12_fillsPlaces_89 : dk me_X12_fillsPlaces 89 (.invokestatic 325) 3 92 := And.intro (by decide +kernel) rfl
theorem d_X12_fillsPlaces_92 : dk me_X12_fillsPlaces 92 (.istore 9) 2 94 := And.intro (by decide +kernel) rfl
theorem d_X12_fillsPlaces_94 : dk me_X12_fillsPlaces 94 (.iload 8) 2 96 := And.intro (by decide +kernel) rfl
theorem d_X12_fillsPlaces_96 : dk me_X12_fillsPlaces 96 (.iconst 1) 1 97 := And.intro (by decide +kernel) rfl
theorem d_X12_fillsPlaces_97 : dk me_X12_fillsPlaces 97 (.iadd) 1 98 := And.intro (by decide +kernel) rfl
theorem d_X12_fillsPlaces_98 : dk me_X12_fillsPlaces 98 (.iload 7) 2 100 := And.intro (by decide +kernel) rfl
theorem d_X12_fillsPlaces_100 : dk me_X12_fillsPlaces 100 (.if_icmp .ge 20) 3 103 := And.intro (by decide +kernel) rfl
theorem d_X12_fillsPlaces_103 : dk me_X12_fillsPlaces 103 (.aload_n 0) 1 104 := And.intro (by decide +kernel) rfl
theorem d_X12_fillsPlaces_104 : dk me_X12_fillsPlaces 104 (.getfield 123) 3 107 := And.intro (by decide +kernel) rfl
theorem d_X12_fillsPlaces_107 : dk me_X12_fillsPlaces 107 (.iload 6) 2 109 := And.intro (by decide +kernel) rfl
theorem d_X12_fillsPlaces_109 : dk me_X12_fillsPlaces 109 (.laload) 1 110 := And.intro (by decide +kernel) rfl
theorem d_X12_fillsPlaces_110 : dk me_X12_fillsPlaces 110 (.iload 8) 2 112 := And.intro (by decide +kernel) rfl
theorem d_X12_fillsPlaces_112 : dk me_X12_fillsPlaces 112 (.iconst 1) 1 113 := And.intro (by decide +kernel) rfl
theorem d_X12_fillsPlaces_113 : dk me_X12_fillsPlaces 113 (.iadd) 1 114 := And.intro (by decide +kernel) rfl
theorem d_X12_fillsPlaces_114 : dk me_X12_fillsPlaces 114 (.invokestatic 325) 3 117 := And.intro (by decide +kernel) rfl
theorem d_X12_fillsPlaces_117 : dk me_X12_fillsPlaces 117 (.goto 4) 3 120 := And.intro (by decide +kernel) rfl
theorem d_X12_fillsPlaces_120 : dk me_X12_fillsPlaces 120 (.iconst (-1)) 1 121 := And.intro (by decide +kernel) rfl
theorem d_X12_fillsPlaces_121 : dk me_X12_fillsPlaces 121 (.istore 10) 2 123 := And.intro (by decide +kernel) rfl
theorem d_X12_fillsPlaces_123 : dk me_X12_fillsPlaces 123 (.iload 9) 2 125 := And.intro (by decide +kernel) rfl
theorem d_X12_fillsPlaces_125 : dk me_X12_fillsPlaces 125 (.iconst 5) 1 126 := And.intro (by decide +kernel) rfl
theorem d_X12_fillsPlaces_126 : dk me_X12_fillsPlaces 126 (.if_icmp .eq 7) 3 129 := And.intro (by decide +kernel) rfl
theorem d_X12_fillsPlaces_129 : dk me_X12_fillsPlaces 129 (.iconst (-1)) 1 130 := And.intro (by decide +kernel) rfl
theorem d_X12_fillsPlaces_130 : dk me_X12_fillsPlaces 130 (.goto 28) 3 133 := And.intro (by decide +kernel) rfl
theorem d_X12_fillsPlaces_133 : dk me_X12_fillsPlaces 133 (.iload 10) 2 135 := And.intro (by decide +kernel) rfl
theorem d_X12_fillsPlaces_135 : dk me_X12_fillsPlaces 135 (.bipush 8) 2 137 := And.intro (by decide +kernel) rfl
theorem d_X12_fillsPlaces_137 : dk me_X12_fillsPlaces 137 (.if_icmp .ne 8) 3 140 := And.intro (by decide +kernel) rfl
theorem d_X12_fillsPlaces_140 : dk me_X12_fillsPlaces 140 (.bipush 26) 2 142 := And.intro (by decide +kernel) rfl
theorem d_X12_fillsPlaces_142 : dk me_X12_fillsPlaces 142 (.goto 16) 3 145 := And.intro (by decide +kernel) rfl
theorem d_X12_fillsPlaces_145 : dk me_X12_fillsPlaces 145 (.iload 10) 2 147 := And.intro (by decide +kernel) rfl
theorem d_X12_fillsPlaces_147 : dk me_X12_fillsPlaces 147 (.bipush 11) 2 149 := And.intro (by decide +kernel) rfl
theorem d_X12_fillsPlaces_149 : dk me_X12_fillsPlaces 149 (.if_icmp .ne 8) 3 152 := And.intro (by decide +kernel) rfl
theorem d_X12_fillsPlaces_152 : dk me_X12_fillsPlaces 152 (.bipush 27) 2 154 := And.intro (by decide +kernel) rfl
theorem d_X12_fillsPlaces_154 : dk me_X12_fillsPlaces 154 (.goto 4) 3 157 := And.intro (by decide +kernel) rfl
theorem d_X12_fillsPlaces_157 : dk me_X12_fillsPlaces 157 (.iconst (-1)) 1 158 := And.intro (by decide +kernel) rfl
theorem d_X12_fillsPlaces_158 : dk me_X12_fillsPlaces 158 (.istore 11) 2 160 := And.intro (by decide +kernel) rfl
theorem d_X12_fillsPlaces_160 : dk me_X12_fillsPlaces 160 (.iload 11) 2 162 := And.intro (by decide +kernel) rfl
theorem d_X12_fillsPlaces_162 : dk me_X12_fillsPlaces 162 (.iconst (-1)) 1 163 := And.intro (by decide +kernel) rfl
theorem d_X12_fillsPlaces_163 : dk me_X12_fillsPlaces 163 (.if_icmp .eq 18) 3 166 := And.intro (by decide +kernel) rfl
theorem d_X12_fillsPlaces_166 : dk me_X12_fillsPlaces 166 (.aload_n 0) 1 167 := And.intro (by decide +kernel) rfl
theorem d_X12_fillsPlaces_167 : dk me_X12_fillsPlaces 167 (.getfield 32) 3 170 := And.intro (by decide +kernel) rfl
theorem d_X12_fillsPlaces_170 : dk me_X12_fillsPlaces 170 (.iload 11) 2 172 := And.intro (by decide +kernel) rfl
theorem d_X12_fillsPlaces_172 : dk me_X12_fillsPlaces 172 (.iaload) 1 173 := And.intro (by decide +kernel) rfl
theorem d_X12_fillsPlaces_173 : dk me_X12_fillsPlaces 173 (.iconst (-1)) 1 174 := And.intro (by decide +kernel) rfl
theorem d_X12_fillsPlaces_174 : dk me_X12_fillsPlaces 174 (.if_icmp .eq 7) 3 177 := And.intro (by decide +kernel) rfl
theorem d_X12_fillsPlaces_177 : dk me_X12_fillsPlaces 177 (.iconst 1) 1 178 := And.intro (by decide +kernel) rfl
theorem d_X12_fillsPlaces_178 : dk me_X12_fillsPlaces 178 (.goto 4) 3 181 := And.intro (by decide +kernel) rfl
theorem d_X12_fillsPlaces_181 : dk me_X12_fillsPlaces 181 (.iconst 0) 1 182 := And.intro (by decide +kernel) rfl
theorem d_X12_fillsPlaces_182 : dk me_X12_fillsPlaces 182 (.istore 12) 2 184 := And.intro (by decide +kernel) rfl
theorem d_X12_fillsPlaces_184 : dk me_X12_fillsPlaces 184 (.iload 5) 2 186 := And.intro (by decide +kernel) rfl
theorem d_X12_fillsPlaces_186 : dk me_X12_fillsPlaces 186 (.aload_n 0) 1 187 := And.intro (by decide +kernel) rfl
theorem d_X12_fillsPlaces_187 : dk me_X12_fillsPlaces 187 (.iload_n 1) 1 188 := And.intro (by decide +kernel) rfl
theorem d_X12_fillsPlaces_188 : dk me_X12_fillsPlaces 188 (.iload_n 2) 1 189 := And.intro (by decide +kernel) rfl
theorem d_X12_fillsPlaces_189 : dk me_X12_fillsPlaces 189 (.iload_n 3) 1 190 := And.intro (by decide +kernel) rfl
theorem d_X12_fillsPlaces_190 : dk me_X12_fillsPlaces 190 (.iload 12) 2 192 := And.intro (by decide +kernel) rfl
theorem d_X12_fillsPlaces_192 : dk me_X12_fillsPlaces 192 (.ifCond .eq 8) 3 195 := And.intro (by decide +kernel) rfl
theorem d_X12_fillsPlaces_195 : dk me_X12_fillsPlaces 195 (.iload 11) 2 197 := And.intro (by decide +kernel) rfl
theorem d_X12_fillsPlaces_197 : dk me_X12_fillsPlaces 197 (.goto 5) 3 200 := And.intro (by decide +kernel) rfl
theorem d_X12_fillsPlaces_200 : dk me_X12_fillsPlaces 200 (.iload 9) 2 202 := And.intro (by decide +kernel) rfl
theorem d_X12_fillsPlaces_202 : dk me_X12_fillsPlaces 202 (.invokevirtual 329) 3 205 := And.intro (by decide +kernel) rfl
theorem d_X12_fillsPlaces_205 : dk me_X12_fillsPlaces 205 (.iadd) 1 206 := And.intro (by decide +kernel) rfl
theorem d_X12_fillsPlaces_206 : dk me_X12_fillsPlaces 206 (.istore 5) 2 208 := And.intro (by decide +kernel) rfl
theorem d_X12_fillsPlaces_208 : dk me_X12_fillsPlaces 208 (.iload 8) 2 210 := And.intro (by decide +kernel) rfl
theorem d_X12_fillsPlaces_210 : dk me_X12_fillsPlaces 210 (.iload 12) 2 212 := And.intro (by decide +kernel) rfl
theorem d_X12_fillsPlaces_212 : dk me_X12_fillsPlaces 212 (.ifCond .eq 7) 3 215 := And.intro (by decide +kernel) rfl
theorem d_X12_fillsPlaces_215 : dk me_X12_fillsPlaces 215 (.iconst 2) 1 216 := And.intro (by decide +kernel) rfl
theorem d_X12_fillsPlaces_216 : dk me_X12_fillsPlaces 216 (.goto 4) 3 219 := And.intro (by decide +kernel) rfl
theorem d_X12_fillsPlaces_219 : dk me_X12_fillsPlaces 219 (.iconst 1) 1 220 := And.intro (by decide +kernel) rfl
theorem d_X12_fillsPlaces_220 : dk me_X12_fillsPlaces 220 (.iadd) 1 221 := And.intro (by decide +kernel) rfl
theorem d_X12_fillsPlaces_221 : dk me_X12_fillsPlaces 221 (.istore 8) 2 223 := And.intro (by decide +kernel) rfl
theorem d_X12_fillsPlaces_223 : dk me_X12_fillsPlaces 223 (.goto (-150)) 3 226 := And.intro (by decide +kernel) rfl
theorem d_X12_fillsPlaces_226 : dk me_X12_fillsPlaces 226 (.iinc 6 1) 3 229 := And.intro (by decide +kernel) rfl
theorem d_X12_fillsPlaces_229 : dk me_X12_fillsPlaces 229 (.goto (-203)) 3 232 := And.intro (by decide +kernel) rfl
theorem d_X12_fillsPlaces_232 : dk me_X12_fillsPlaces 232 (.iload 5) 2 234 := And.intro (by decide +kernel) rfl
theorem d_X12_fillsPlaces_234 : dk me_X12_fillsPlaces 234 (.ireturn) 1 235 := And.intro (by decide +kernel) rfl
theorem ms_X12_fillsPlaces {fx : FX} {m : MM} {l0 : Nat} {l1 : Int} {l2 : Int} {l3 : Int} : MS fx me_X12_fillsPlaces [aR (some (12, l0)), aI l1, aI l2, aI l3] m (f_X12_fillsPlaces m l0 l1 l2 l3) := by
  refine ms_of rfl mf_X12_fillsPlaces (b8 rfl) ?_
  refine s_top ?_
  show Sim fx me_X12_fillsPlaces 0 [(0, aR (some (12, l0))), (1, aI l1), (2, aI l2), (3, aI l3)] [] m _
  unfold f_X12_fillsPlaces
  have hj_X12_fillsPlaces_0_232 : ∀ (m_232 : MM) (l5_232 : Int), Sim fx me_X12_fillsPlaces 232 [(5, aI l5_232)] [] m_232 ((j_X12_fillsPlaces_0_232 m_232 l5_232).bind (fun z => some z)) := by
    intro m_232 l5_232
    unfold j_X12_fillsPlaces_0_232
    exact s_iload d_X12_fillsPlaces_232 m0_ (s_iret d_X12_fillsPlaces_234 rfl rfl)
  refine s_bipush d_X12_fillsPlaces_0 n_16 rfl (s_iload_n d_X12_fillsPlaces_2 m1_ (s_imul d_X12_fillsPlaces_3 rfl rfl (s_iload_n d_X12_fillsPlaces_4 m2_ (s_iadd d_X12_fillsPlaces_5 rfl rfl (s_ck ?_)))))
  refine s_istore (L' := [(4, aI ((16 * l1) + l2)), (0, aR (some (12, l0))), (1, aI l1), (2, aI l2), (3, aI l3)]) d_X12_fillsPlaces_6 (b8 rfl) rfl (s_iconst d_X12_fillsPlaces_8 n_0 (s_istore (L' := [(5, aI 0), (4, aI ((16 * l1) + l2)), (0, aR (some (12, l0))), (1, aI l1), (2, aI l2), (3, aI l3)]) d_X12_fillsPlaces_9 (b8 rfl) rfl (s_aload_n d_X12_fillsPlaces_11 m2_ (s_getR cf d_X12_fillsPlaces_12 fl_X12_105 (s_nk fun i1 => ?_)))))
  refine s_iload d_X12_fillsPlaces_15 m1_ (s_iconst d_X12_fillsPlaces_17 n_0 (s_stN d_X12_fillsPlaces_18 ka_90 rfl fun m2 => (s_bipush d_X12_fillsPlaces_19 n_60 rfl (s_iload d_X12_fillsPlaces_21 m1_ (s_imul d_X12_fillsPlaces_23 rfl rfl ?_)))))
  refine s_ck (s_istore (L' := [(6, aI (60 * ((16 * l1) + l2))), (5, aI 0), (4, aI ((16 * l1) + l2)), (0, aR (some (12, l0))), (1, aI l1), (2, aI l2), (3, aI l3)]) d_X12_fillsPlaces_24 (b8 rfl) rfl (s_sub (subc m1_ (subc m0_ (subc m3_ (subc m4_ (subc m5_ (subc m6_ (subc m2_ sub0))))))) (s_lp2 (fun s => [(5, aI (s.1)), (6, aI (s.2.1)), (0, aR (some (12, l0))), (1, aI l1), (2, aI l2), (3, aI l3), (4, aI ((16 * l1) + l2))]) (fun s => s.2.2) (0, (60 * ((16 * l1) + l2)), m2) fun k26 hx26 s ih0 => ?_)))
  obtain ⟨l5_26, l6_26, mm_26⟩ := s
  have ih26 := ih0
  clear ih0
  try dsimp only
  unfold b_X12_fillsPlaces_26
  have hj_X12_fillsPlaces_26_226 : ∀ (m_226 : MM) (l5_226 : Int) (l6_226 : Int), Sim fx me_X12_fillsPlaces 226 [(0, aR (some (12, l0))), (1, aI l1), (2, aI l2), (3, aI l3), (4, aI ((16 * l1) + l2)), (5, aI l5_226), (6, aI l6_226)] [] m_226 ((j_X12_fillsPlaces_26_226 m_226 l0 l1 l2 l3 ((16 * l1) + l2) l5_226 l6_226).bind k26) := by
    intro m_226 l5_226 l6_226
    unfold j_X12_fillsPlaces_26_226
    exact s_iinc (L' := [(6, aI (l6_226 + 1)), (0, aR (some (12, l0))), (1, aI l1), (2, aI l2), (3, aI l3), (4, aI ((16 * l1) + l2)), (5, aI l5_226)]) d_X12_fillsPlaces_226 m6_ (b8 rfl) rfl (s_goto (tgt := 26) d_X12_fillsPlaces_229 rfl (s_sub (subc m6_ (subc m0_ (subc m1_ (subc m2_ (subc m3_ (subc m4_ (subc m5_ sub0))))))) (s_back (ih26 (l5_226, (l6_226 + 1), m_226)))))
  refine s_iload d_X12_fillsPlaces_26 m1_ (s_bipush d_X12_fillsPlaces_28 n_60 rfl (s_iload d_X12_fillsPlaces_30 m6_ (s_imul d_X12_fillsPlaces_32 rfl rfl (s_aload_n d_X12_fillsPlaces_33 m2_ (s_getR cf d_X12_fillsPlaces_34 fl_X12_102 ?_)))))
  refine s_nk fun i3 => (s_iload d_X12_fillsPlaces_37 m6_ (s_ldN d_X12_fillsPlaces_39 ka_89 rfl fun v4 => (s_iadd d_X12_fillsPlaces_40 rfl rfl (s_ck (s_icmp_ge (tgt := 232) d_X12_fillsPlaces_41 rfl ?_ ?_)))))
  · exact s_exit (hx26 _) (s_sub (subc m0_ sub0) (hj_X12_fillsPlaces_0_232 mm_26 l5_26))
  refine s_aload_n d_X12_fillsPlaces_44 m2_ (s_getR cf d_X12_fillsPlaces_45 fl_X12_129 (s_nk fun i5 => (s_iload d_X12_fillsPlaces_48 m1_ (s_aload_n d_X12_fillsPlaces_50 m2_ (s_getR cf d_X12_fillsPlaces_51 fl_X12_105 ?_)))))
  refine s_nk fun i6 => (s_iload d_X12_fillsPlaces_54 m6_ (s_ldN d_X12_fillsPlaces_56 ka_90 rfl fun v7 => (s_stN d_X12_fillsPlaces_57 ka_98 rfl fun m8 => (s_aload_n d_X12_fillsPlaces_58 m2_ (s_getR cf d_X12_fillsPlaces_59 fl_X12_123 ?_)))))
  refine s_nk fun i9 => (s_iload d_X12_fillsPlaces_62 m1_ (s_ldL d_X12_fillsPlaces_64 ka_96 rfl fun v10 => (s_pI (r_S d_X12_fillsPlaces_65 k_X12_letters w_1708 rfl rfl) ms_X12_letters (b8 rfl) rfl rfl rfl fun v11 => (s_istore (L' := [(7, aI v11), (5, aI l5_26), (6, aI l6_26), (0, aR (some (12, l0))), (1, aI l1), (2, aI l2), (3, aI l3), (4, aI ((16 * l1) + l2))]) d_X12_fillsPlaces_68 (b8 rfl) rfl (s_iconst d_X12_fillsPlaces_70 n_0 ?_)))))
  refine s_istore (L' := [(8, aI 0), (7, aI v11), (5, aI l5_26), (6, aI l6_26), (0, aR (some (12, l0))), (1, aI l1), (2, aI l2), (3, aI l3), (4, aI ((16 * l1) + l2))]) d_X12_fillsPlaces_71 (b8 rfl) rfl (s_sub (subc m2_ (subc m0_ (subc m4_ (subc m5_ (subc m6_ (subc m7_ (subc m8_ (subc m3_ (subc m1_ sub0))))))))) (s_lp2 (fun s => [(5, aI (s.1)), (8, aI (s.2.1)), (0, aR (some (12, l0))), (1, aI l1), (2, aI l2), (3, aI l3), (4, aI ((16 * l1) + l2)), (6, aI l6_26), (7, aI v11)]) (fun s => s.2.2) (l5_26, 0, m8) fun k73 hx73 s ih0 => ?_))
  obtain ⟨l5_73, l8_73, mm_73⟩ := s
  have ih73 := ih0
  clear ih0
  try dsimp only
  unfold b_X12_fillsPlaces_73
  have hj_X12_fillsPlaces_73_202 : ∀ (m_202 : MM) (l8_202 : Int) (l12_202 : Int) (s0_202 : Int) (s1_202 : Nat) (s2_202 : Int) (s3_202 : Int) (s4_202 : Int) (s5_202 : Int), Sim fx me_X12_fillsPlaces 202 [(0, aR (some (12, l0))), (1, aI l1), (2, aI l2), (3, aI l3), (4, aI ((16 * l1) + l2)), (6, aI l6_26), (7, aI v11), (8, aI l8_202), (12, aI l12_202)] [aI s5_202, aI s4_202, aI s3_202, aI s2_202, aR (some (12, s1_202)), aI s0_202] m_202 ((j_X12_fillsPlaces_73_202 m_202 l0 l1 l2 l3 ((16 * l1) + l2) l6_26 v11 l8_202 l12_202 s0_202 s1_202 s2_202 s3_202 s4_202 s5_202).bind k73) := by
    intro m_202 l8_202 l12_202 s0_202 s1_202 s2_202 s3_202 s4_202 s5_202
    unfold j_X12_fillsPlaces_73_202
    refine s_cI (r_V d_X12_fillsPlaces_202 k_X12_fills w_1823 rfl rfl) ms_X12_fills (b8 rfl) rfl rfl rfl (fun _ _ _ => rfl) (fun _ _ => Or.inl rfl) fun v21 m20 => (s_iadd d_X12_fillsPlaces_205 rfl rfl (s_ck (s_istore (L' := [(5, aI (s0_202 + v21)), (0, aR (some (12, l0))), (1, aI l1), (2, aI l2), (3, aI l3), (4, aI ((16 * l1) + l2)), (6, aI l6_26), (7, aI v11), (8, aI l8_202), (12, aI l12_202)]) d_X12_fillsPlaces_206 (b8 rfl) rfl (s_iload d_X12_fillsPlaces_208 m8_ (s_iload d_X12_fillsPlaces_210 m9_ ?_)))))
    refine s_if_eq (tgt := 219) d_X12_fillsPlaces_212 rfl ?_ ?_
    · exact s_iconst d_X12_fillsPlaces_219 n_1 (s_iadd d_X12_fillsPlaces_220 rfl rfl (s_ck (s_istore (L' := [(8, aI (l8_202 + 1)), (5, aI (s0_202 + v21)), (0, aR (some (12, l0))), (1, aI l1), (2, aI l2), (3, aI l3), (4, aI ((16 * l1) + l2)), (6, aI l6_26), (7, aI v11), (12, aI l12_202)]) d_X12_fillsPlaces_221 (b8 rfl) rfl (s_goto (tgt := 73) d_X12_fillsPlaces_223 rfl (s_sub (subc m1_ (subc m0_ (subc m2_ (subc m3_ (subc m4_ (subc m5_ (subc m6_ (subc m7_ (subc m8_ sub0))))))))) (s_back (ih73 ((s0_202 + v21), (l8_202 + 1), m20))))))))
    refine s_iconst d_X12_fillsPlaces_215 n_2 (s_goto (tgt := 220) d_X12_fillsPlaces_216 rfl (s_iadd d_X12_fillsPlaces_220 rfl rfl (s_ck (s_istore (L' := [(8, aI (l8_202 + 2)), (5, aI (s0_202 + v21)), (0, aR (some (12, l0))), (1, aI l1), (2, aI l2), (3, aI l3), (4, aI ((16 * l1) + l2)), (6, aI l6_26), (7, aI v11), (12, aI l12_202)]) d_X12_fillsPlaces_221 (b8 rfl) rfl (s_goto (tgt := 73) d_X12_fillsPlaces_223 rfl ?_)))))
    exact s_sub (subc m1_ (subc m0_ (subc m2_ (subc m3_ (subc m4_ (subc m5_ (subc m6_ (subc m7_ (subc m8_ sub0))))))))) (s_back (ih73 ((s0_202 + v21), (l8_202 + 2), m20)))
  have hj_X12_fillsPlaces_73_182 : ∀ (m_182 : MM) (l5_182 : Int) (l8_182 : Int) (l9_182 : Int) (l11_182 : Int) (s0_182 : Int), Sim fx me_X12_fillsPlaces 182 [(0, aR (some (12, l0))), (1, aI l1), (2, aI l2), (3, aI l3), (4, aI ((16 * l1) + l2)), (5, aI l5_182), (6, aI l6_26), (7, aI v11), (8, aI l8_182), (9, aI l9_182), (11, aI l11_182)] [aI s0_182] m_182 ((j_X12_fillsPlaces_73_182 m_182 l0 l1 l2 l3 ((16 * l1) + l2) l5_182 l6_26 v11 l8_182 l9_182 l11_182 s0_182).bind k73) := by
    intro m_182 l5_182 l8_182 l9_182 l11_182 s0_182
    unfold j_X12_fillsPlaces_73_182
    refine s_istore (L' := [(12, aI s0_182), (0, aR (some (12, l0))), (1, aI l1), (2, aI l2), (3, aI l3), (4, aI ((16 * l1) + l2)), (5, aI l5_182), (6, aI l6_26), (7, aI v11), (8, aI l8_182), (9, aI l9_182), (11, aI l11_182)]) d_X12_fillsPlaces_182 (b8 rfl) rfl (s_iload d_X12_fillsPlaces_184 m6_ (s_aload_n d_X12_fillsPlaces_186 m1_ (s_iload_n d_X12_fillsPlaces_187 m2_ (s_iload_n d_X12_fillsPlaces_188 m3_ (s_iload_n d_X12_fillsPlaces_189 m4_ ?_)))))
    refine s_iload d_X12_fillsPlaces_190 m0_ (s_if_eq (tgt := 200) d_X12_fillsPlaces_192 rfl ?_ ?_)
    · exact s_iload d_X12_fillsPlaces_200 m10_ (s_sub (subc m1_ (subc m2_ (subc m3_ (subc m4_ (subc m5_ (subc m7_ (subc m8_ (subc m9_ (subc m0_ sub0))))))))) (hj_X12_fillsPlaces_73_202 m_182 l8_182 s0_182 l5_182 l0 l1 l2 l3 l9_182))
    exact s_iload d_X12_fillsPlaces_195 m11_ (s_goto (tgt := 202) d_X12_fillsPlaces_197 rfl (s_sub (subc m1_ (subc m2_ (subc m3_ (subc m4_ (subc m5_ (subc m7_ (subc m8_ (subc m9_ (subc m0_ sub0))))))))) (hj_X12_fillsPlaces_73_202 m_182 l8_182 s0_182 l5_182 l0 l1 l2 l3 l11_182)))
  have hj_X12_fillsPlaces_73_181 : ∀ (m_181 : MM) (l5_181 : Int) (l8_181 : Int) (l9_181 : Int) (l11_181 : Int), Sim fx me_X12_fillsPlaces 181 [(0, aR (some (12, l0))), (1, aI l1), (2, aI l2), (3, aI l3), (4, aI ((16 * l1) + l2)), (5, aI l5_181), (6, aI l6_26), (7, aI v11), (8, aI l8_181), (9, aI l9_181), (11, aI l11_181)] [] m_181 ((j_X12_fillsPlaces_73_181 m_181 l0 l1 l2 l3 ((16 * l1) + l2) l5_181 l6_26 v11 l8_181 l9_181 l11_181).bind k73) := by
    intro m_181 l5_181 l8_181 l9_181 l11_181
    unfold j_X12_fillsPlaces_73_181
    exact s_iconst d_X12_fillsPlaces_181 n_0 (s_sub (subc m0_ (subc m1_ (subc m2_ (subc m3_ (subc m4_ (subc m5_ (subc m6_ (subc m7_ (subc m8_ (subc m9_ (subc m10_ sub0))))))))))) (hj_X12_fillsPlaces_73_182 m_181 l5_181 l8_181 l9_181 l11_181 0))
  have hj_X12_fillsPlaces_73_158 : ∀ (m_158 : MM) (l5_158 : Int) (l8_158 : Int) (l9_158 : Int) (s0_158 : Int), Sim fx me_X12_fillsPlaces 158 [(0, aR (some (12, l0))), (1, aI l1), (2, aI l2), (3, aI l3), (4, aI ((16 * l1) + l2)), (5, aI l5_158), (6, aI l6_26), (7, aI v11), (8, aI l8_158), (9, aI l9_158)] [aI s0_158] m_158 ((j_X12_fillsPlaces_73_158 m_158 l0 l1 l2 l3 ((16 * l1) + l2) l5_158 l6_26 v11 l8_158 l9_158 s0_158).bind k73) := by
    intro m_158 l5_158 l8_158 l9_158 s0_158
    unfold j_X12_fillsPlaces_73_158
    refine s_istore (L' := [(11, aI s0_158), (0, aR (some (12, l0))), (1, aI l1), (2, aI l2), (3, aI l3), (4, aI ((16 * l1) + l2)), (5, aI l5_158), (6, aI l6_26), (7, aI v11), (8, aI l8_158), (9, aI l9_158)]) d_X12_fillsPlaces_158 (b8 rfl) rfl (s_iload d_X12_fillsPlaces_160 m0_ (s_iconst d_X12_fillsPlaces_162 n_m1 (s_icmp_eq (tgt := 181) d_X12_fillsPlaces_163 rfl ?_ ?_)))
    · exact s_sub (subc m1_ (subc m2_ (subc m3_ (subc m4_ (subc m5_ (subc m6_ (subc m7_ (subc m8_ (subc m9_ (subc m10_ (subc m0_ sub0))))))))))) (hj_X12_fillsPlaces_73_181 m_158 l5_158 l8_158 l9_158 s0_158)
    refine s_aload_n d_X12_fillsPlaces_166 m1_ (s_getR cf d_X12_fillsPlaces_167 fl_X12_32 (s_nk fun i18 => (s_iload d_X12_fillsPlaces_170 m0_ (s_ldN d_X12_fillsPlaces_172 ka_66 rfl fun v19 => (s_iconst d_X12_fillsPlaces_173 n_m1 ?_)))))
    refine s_icmp_eq (tgt := 181) d_X12_fillsPlaces_174 rfl ?_ ?_
    · exact s_sub (subc m1_ (subc m2_ (subc m3_ (subc m4_ (subc m5_ (subc m6_ (subc m7_ (subc m8_ (subc m9_ (subc m10_ (subc m0_ sub0))))))))))) (hj_X12_fillsPlaces_73_181 m_158 l5_158 l8_158 l9_158 s0_158)
    exact s_iconst d_X12_fillsPlaces_177 n_1 (s_goto (tgt := 182) d_X12_fillsPlaces_178 rfl (s_sub (subc m1_ (subc m2_ (subc m3_ (subc m4_ (subc m5_ (subc m6_ (subc m7_ (subc m8_ (subc m9_ (subc m10_ (subc m0_ sub0))))))))))) (hj_X12_fillsPlaces_73_182 m_158 l5_158 l8_158 l9_158 s0_158 1)))
  have hj_X12_fillsPlaces_73_121 : ∀ (m_121 : MM) (l5_121 : Int) (l8_121 : Int) (l9_121 : Int) (s0_121 : Int), Sim fx me_X12_fillsPlaces 121 [(0, aR (some (12, l0))), (1, aI l1), (2, aI l2), (3, aI l3), (4, aI ((16 * l1) + l2)), (5, aI l5_121), (6, aI l6_26), (7, aI v11), (8, aI l8_121), (9, aI l9_121)] [aI s0_121] m_121 ((j_X12_fillsPlaces_73_121 m_121 l0 l1 l2 l3 ((16 * l1) + l2) l5_121 l6_26 v11 l8_121 l9_121 s0_121).bind k73) := by
    intro m_121 l5_121 l8_121 l9_121 s0_121
    unfold j_X12_fillsPlaces_73_121
    refine s_istore (L' := [(10, aI s0_121), (0, aR (some (12, l0))), (1, aI l1), (2, aI l2), (3, aI l3), (4, aI ((16 * l1) + l2)), (5, aI l5_121), (6, aI l6_26), (7, aI v11), (8, aI l8_121), (9, aI l9_121)]) d_X12_fillsPlaces_121 (b8 rfl) rfl (s_iload d_X12_fillsPlaces_123 m10_ (s_iconst d_X12_fillsPlaces_125 n_5 (s_icmp_eq (tgt := 133) d_X12_fillsPlaces_126 rfl ?_ ?_)))
    · refine s_iload d_X12_fillsPlaces_133 m0_ (s_bipush d_X12_fillsPlaces_135 n_8 rfl (s_icmp_ne (tgt := 145) d_X12_fillsPlaces_137 rfl ?_ ?_))
      · refine s_iload d_X12_fillsPlaces_145 m0_ (s_bipush d_X12_fillsPlaces_147 n_11 rfl (s_icmp_ne (tgt := 157) d_X12_fillsPlaces_149 rfl ?_ ?_))
        · exact s_iconst d_X12_fillsPlaces_157 n_m1 (s_sub (subc m1_ (subc m2_ (subc m3_ (subc m4_ (subc m5_ (subc m6_ (subc m7_ (subc m8_ (subc m9_ (subc m10_ sub0)))))))))) (hj_X12_fillsPlaces_73_158 m_121 l5_121 l8_121 l9_121 (-1)))
        exact s_bipush d_X12_fillsPlaces_152 n_27 rfl (s_goto (tgt := 158) d_X12_fillsPlaces_154 rfl (s_sub (subc m1_ (subc m2_ (subc m3_ (subc m4_ (subc m5_ (subc m6_ (subc m7_ (subc m8_ (subc m9_ (subc m10_ sub0)))))))))) (hj_X12_fillsPlaces_73_158 m_121 l5_121 l8_121 l9_121 27)))
      exact s_bipush d_X12_fillsPlaces_140 n_26 rfl (s_goto (tgt := 158) d_X12_fillsPlaces_142 rfl (s_sub (subc m1_ (subc m2_ (subc m3_ (subc m4_ (subc m5_ (subc m6_ (subc m7_ (subc m8_ (subc m9_ (subc m10_ sub0)))))))))) (hj_X12_fillsPlaces_73_158 m_121 l5_121 l8_121 l9_121 26)))
    exact s_iconst d_X12_fillsPlaces_129 n_m1 (s_goto (tgt := 158) d_X12_fillsPlaces_130 rfl (s_sub (subc m1_ (subc m2_ (subc m3_ (subc m4_ (subc m5_ (subc m6_ (subc m7_ (subc m8_ (subc m9_ (subc m10_ sub0)))))))))) (hj_X12_fillsPlaces_73_158 m_121 l5_121 l8_121 l9_121 (-1))))
  refine s_iload d_X12_fillsPlaces_73 m1_ (s_iload d_X12_fillsPlaces_75 m8_ (s_icmp_ge (tgt := 226) d_X12_fillsPlaces_77 rfl ?_ ?_))
  · exact s_exit (hx73 _) (s_sub (subc m2_ (subc m3_ (subc m4_ (subc m5_ (subc m6_ (subc m0_ (subc m7_ sub0))))))) (hj_X12_fillsPlaces_26_226 mm_73 l5_73 l6_26))
  refine s_aload_n d_X12_fillsPlaces_80 m2_ (s_getR cf d_X12_fillsPlaces_81 fl_X12_123 (s_nk fun i12 => (s_iload d_X12_fillsPlaces_84 m7_ (s_ldL d_X12_fillsPlaces_86 ka_96 rfl fun v13 => (s_iload d_X12_fillsPlaces_87 m1_ ?_)))))
  refine s_pI (r_S d_X12_fillsPlaces_89 k_X12_letter w_1819 rfl rfl) ms_X12_letter (b8 rfl) rfl rfl rfl fun v14 => (s_istore (L' := [(9, aI v14), (5, aI l5_73), (8, aI l8_73), (0, aR (some (12, l0))), (1, aI l1), (2, aI l2), (3, aI l3), (4, aI ((16 * l1) + l2)), (6, aI l6_26), (7, aI v11)]) d_X12_fillsPlaces_92 (b8 rfl) rfl (s_iload d_X12_fillsPlaces_94 m2_ (s_iconst d_X12_fillsPlaces_96 n_1 (s_iadd d_X12_fillsPlaces_97 rfl rfl (s_iload d_X12_fillsPlaces_98 m9_ ?_)))))
  refine s_ck1 (s_icmp_ge (tgt := 120) d_X12_fillsPlaces_100 rfl ?_ ?_)
  · exact s_iconst d_X12_fillsPlaces_120 n_m1 (s_sub (subc m3_ (subc m4_ (subc m5_ (subc m6_ (subc m7_ (subc m1_ (subc m8_ (subc m9_ (subc m2_ (subc m0_ sub0)))))))))) (hj_X12_fillsPlaces_73_121 mm_73 l5_73 l8_73 v14 (-1)))
  refine s_aload_n d_X12_fillsPlaces_103 m3_ (s_getR cf d_X12_fillsPlaces_104 fl_X12_123 (s_nk fun i15 => (s_iload d_X12_fillsPlaces_107 m8_ (s_ldL d_X12_fillsPlaces_109 ka_96 rfl fun v16 => (s_iload d_X12_fillsPlaces_110 m2_ ?_)))))
  exact s_iconst d_X12_fillsPlaces_112 n_1 (s_iadd d_X12_fillsPlaces_113 rfl rfl (s_ck (s_pI (r_S d_X12_fillsPlaces_114 k_X12_letter w_1819 rfl rfl) ms_X12_letter (b8 rfl) rfl rfl rfl fun v17 => (s_goto (tgt := 121) d_X12_fillsPlaces_117 rfl (s_sub (subc m3_ (subc m4_ (subc m5_ (subc m6_ (subc m7_ (subc m1_ (subc m8_ (subc m9_ (subc m2_ (subc m0_ sub0)))))))))) (hj_X12_fillsPlaces_73_121 mm_73 l5_73 l8_73 v14 v17))))))
