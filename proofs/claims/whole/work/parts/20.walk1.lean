set_option maxRecDepth 8000
theorem d_X10_spellingOf_0 : dk me_X10_spellingOf 0 (.iconst 0) 1 1 := And.intro (by decide +kernel) rfl
theorem d_X10_spellingOf_1 : dk me_X10_spellingOf 1 (.istore_n 3) 1 2 := And.intro (by decide +kernel) rfl
theorem d_X10_spellingOf_2 : dk me_X10_spellingOf 2 (.iload_n 3) 1 3 := And.intro (by decide +kernel) rfl
theorem d_X10_spellingOf_3 : dk me_X10_spellingOf 3 (.aload_n 0) 1 4 := And.intro (by decide +kernel) rfl
theorem d_X10_spellingOf_4 : dk me_X10_spellingOf 4 (.getfield 48) 3 7 := And.intro (by decide +kernel) rfl
theorem d_X10_spellingOf_7 : dk me_X10_spellingOf 7 (.if_icmp .ge 33) 3 10 := And.intro (by decide +kernel) rfl
theorem d_X10_spellingOf_10 : dk me_X10_spellingOf 10 (.aload_n 0) 1 11 := And.intro (by decide +kernel) rfl
theorem d_X10_spellingOf_11 : dk me_X10_spellingOf 11 (.getfield 23) 3 14 := And.intro (by decide +kernel) rfl
theorem d_X10_spellingOf_14 : dk me_X10_spellingOf 14 (.iload_n 3) 1 15 := And.intro (by decide +kernel) rfl
theorem d_X10_spellingOf_15 : dk me_X10_spellingOf 15 (.laload) 1 16 := And.intro (by decide +kernel) rfl
theorem d_X10_spellingOf_16 : dk me_X10_spellingOf 16 (.lload_n 1) 1 17 := And.intro (by decide +kernel) rfl
theorem d_X10_spellingOf_17 : dk me_X10_spellingOf 17 (.lcmp) 1 18 := And.intro (by decide +kernel) rfl
theorem d_X10_spellingOf_18 : dk me_X10_spellingOf 18 (.ifCond .eq 14) 3 21 := And.intro (by decide +kernel) rfl
theorem d_X10_spellingOf_21 : dk me_X10_spellingOf 21 (.aload_n 0) 1 22 := And.intro (by decide +kernel) rfl
theorem d_X10_spellingOf_22 : dk me_X10_spellingOf 22 (.getfield 26) 3 25 := And.intro (by decide +kernel) rfl
theorem d_X10_spellingOf_25 : dk me_X10_spellingOf 25 (.iload_n 3) 1 26 := And.intro (by decide +kernel) rfl
theorem d_X10_spellingOf_26 : dk me_X10_spellingOf 26 (.laload) 1 27 := And.intro (by decide +kernel) rfl
theorem d_X10_spellingOf_27 : dk me_X10_spellingOf 27 (.lload_n 1) 1 28 := And.intro (by decide +kernel) rfl
theorem d_X10_spellingOf_28 : dk me_X10_spellingOf 28 (.lcmp) 1 29 := And.intro (by decide +kernel) rfl
theorem d_X10_spellingOf_29 : dk me_X10_spellingOf 29 (.ifCond .ne 5) 3 32 := And.intro (by decide +kernel) rfl
theorem d_X10_spellingOf_32 : dk me_X10_spellingOf 32 (.iload_n 3) 1 33 := And.intro (by decide +kernel) rfl
theorem d_X10_spellingOf_33 : dk me_X10_spellingOf 33 (.ireturn) 1 34 := And.intro (by decide +kernel) rfl
theorem d_X10_spellingOf_34 : dk me_X10_spellingOf 34 (.iinc 3 1) 3 37 := And.intro (by decide +kernel) rfl
theorem d_X10_spellingOf_37 : dk me_X10_spellingOf 37 (.goto (-35)) 3 40 := And.intro (by decide +kernel) rfl
theorem d_X10_spellingOf_40 : dk me_X10_spellingOf 40 (.iconst (-1)) 1 41 := And.intro (by decide +kernel) rfl
theorem d_X10_spellingOf_41 : dk me_X10_spellingOf 41 (.ireturn) 1 42 := And.intro (by decide +kernel) rfl
theorem ms_X10_spellingOf {fx : FX} {m : MM} {l0 : Nat} {l1 : Int64} : MS fx me_X10_spellingOf [aR (some (10, l0)), aL l1] m ((f_X10_spellingOf m l0 l1).bind fun v => some (.inl (some (aI v)), m)) := by
  refine ms_of rfl mf_X10_spellingOf (b8 rfl) ?_
  show Sim fx me_X10_spellingOf 0 [(0, aR (some (10, l0))), (1, aL l1)] [] m _
  unfold f_X10_spellingOf
  have hj_X10_spellingOf_0_40 : Sim fx me_X10_spellingOf 40 [] [] m ((j_X10_spellingOf_0_40 m).bind (fun v => some (.inl (some (aI v)), m))) := by
    unfold j_X10_spellingOf_0_40
    exact s_iconst d_X10_spellingOf_40 n_m1 (s_iret d_X10_spellingOf_41 rfl rfl)
  refine s_iconst d_X10_spellingOf_0 n_0 (s_istore_n (L' := [(3, aI 0), (0, aR (some (10, l0))), (1, aL l1)]) d_X10_spellingOf_1 (b8 rfl) rfl (s_sub (subc m0_ (subc m1_ (subc m2_ sub0))) (s_lp2 (fun s => [(3, aI s), (0, aR (some (10, l0))), (1, aL l1)]) (fun s => m) 0 fun k2 hx2 s ih0 => ?_)))
  obtain ⟨l3_2, rfl⟩ : ∃ q, q = s := ⟨s, rfl⟩
  have ih2 := ih0
  clear ih0
  try dsimp only
  unfold b_X10_spellingOf_2
  refine s_iload_n d_X10_spellingOf_2 m0_ (s_aload_n d_X10_spellingOf_3 m1_ (s_getN cf d_X10_spellingOf_4 fl_X10_48 (s_icmp_ge (tgt := 40) d_X10_spellingOf_7 rfl ?_ ?_)))
  · exact s_exit (hx2 _) (s_sub (sub0) (hj_X10_spellingOf_0_40 ))
  refine s_aload_n d_X10_spellingOf_10 m1_ (s_getR cf d_X10_spellingOf_11 fl_X10_23 (s_nk fun i1 => (s_iload_n d_X10_spellingOf_14 m0_ (s_ldL d_X10_spellingOf_15 ka_53 rfl fun v2 => (s_lload_n d_X10_spellingOf_16 m2_ ?_)))))
  refine s_lcmp d_X10_spellingOf_17 (s_if_eq (tgt := 32) d_X10_spellingOf_18 rfl ?_ ?_)
  · exact s_iload_n d_X10_spellingOf_32 m0_ (s_iret d_X10_spellingOf_33 rfl ((hx2 _).trans rfl))
  refine s_aload_n d_X10_spellingOf_21 m1_ (s_getR cf d_X10_spellingOf_22 fl_X10_26 (s_nk fun i3 => (s_iload_n d_X10_spellingOf_25 m0_ (s_ldL d_X10_spellingOf_26 ka_54 rfl fun v4 => (s_lload_n d_X10_spellingOf_27 m2_ ?_)))))
  refine s_lcmp d_X10_spellingOf_28 (s_if_ne (tgt := 34) d_X10_spellingOf_29 rfl ?_ ?_)
  · exact s_iinc (L' := [(3, aI (l3_2 + 1)), (0, aR (some (10, l0))), (1, aL l1)]) d_X10_spellingOf_34 m0_ (b8 rfl) rfl (s_goto (tgt := 2) d_X10_spellingOf_37 rfl (s_sub (subc m0_ (subc m1_ (subc m2_ sub0))) (s_back (ih2 (l3_2 + 1)))))
  exact s_iload_n d_X10_spellingOf_32 m0_ (s_iret d_X10_spellingOf_33 rfl ((hx2 _).trans rfl))
theorem d_X9_add_0 : dk me_X9_add 0 (.aload_n 0) 1 1 := And.intro (by decide +kernel) rfl
theorem d_X9_add_1 : dk me_X9_add 1 (.getfield 29) 3 4 := And.intro (by decide +kernel) rfl
theorem d_X9_add_4 : dk me_X9_add 4 (.bipush 60) 2 6 := And.intro (by decide +kernel) rfl
theorem d_X9_add_6 : dk me_X9_add 6 (.if_icmp .lt 4) 3 9 := And.intro (by decide +kernel) rfl
theorem d_X9_add_9 : dk me_X9_add 9 (.return_) 1 10 := And.intro (by decide +kernel) rfl
theorem d_X9_add_10 : dk me_X9_add 10 (.aload 4) 2 12 := And.intro (by decide +kernel) rfl
theorem d_X9_add_12 : dk me_X9_add 12 (.lload_n 1) 1 13 := And.intro (by decide +kernel) rfl
theorem d_X9_add_13 : dk me_X9_add 13 (.invokevirtual 33) 3 16 := And.intro (by decide +kernel) rfl
theorem d_X9_add_16 : dk me_X9_add 16 (.istore 5) 2 18 := And.intro (by decide +kernel) rfl
theorem d_X9_add_18 : dk me_X9_add 18 (.aload_n 0) 1 19 := And.intro (by decide +kernel) rfl
theorem d_X9_add_19 : dk me_X9_add 19 (.getfield 9) 3 22 := And.intro (by decide +kernel) rfl
theorem d_X9_add_22 : dk me_X9_add 22 (.aload_n 0) 1 23 := And.intro (by decide +kernel) rfl
theorem d_X9_add_23 : dk me_X9_add 23 (.getfield 29) 3 26 := And.intro (by decide +kernel) rfl
theorem d_X9_add_26 : dk me_X9_add 26 (.lload_n 1) 1 27 := And.intro (by decide +kernel) rfl
theorem d_X9_add_27 : dk me_X9_add 27 (.lastore) 1 28 := And.intro (by decide +kernel) rfl
theorem d_X9_add_28 : dk me_X9_add 28 (.aload_n 0) 1 29 := And.intro (by decide +kernel) rfl
theorem d_X9_add_29 : dk me_X9_add 29 (.getfield 21) 3 32 := And.intro (by decide +kernel) rfl
theorem d_X9_add_32 : dk me_X9_add 32 (.aload_n 0) 1 33 := And.intro (by decide +kernel) rfl
theorem d_X9_add_33 : dk me_X9_add 33 (.getfield 29) 3 36 := And.intro (by decide +kernel) rfl
theorem d_X9_add_36 : dk me_X9_add 36 (.iload 5) 2 38 := And.intro (by decide +kernel) rfl
theorem d_X9_add_38 : dk me_X9_add 38 (.iastore) 1 39 := And.intro (by decide +kernel) rfl
theorem d_X9_add_39 : dk me_X9_add 39 (.aload_n 0) 1 40 := And.intro (by decide +kernel) rfl
theorem d_X9_add_40 : dk me_X9_add 40 (.getfield 15) 3 43 := And.intro (by decide +kernel) rfl
theorem d_X9_add_43 : dk me_X9_add 43 (.aload_n 0) 1 44 := And.intro (by decide +kernel) rfl
theorem d_X9_add_44 : dk me_X9_add 44 (.getfield 29) 3 47 := And.intro (by decide +kernel) rfl
theorem d_X9_add_47 : dk me_X9_add 47 (.iload 5) 2 49 := And.intro (by decide +kernel) rfl
theorem d_X9_add_49 : dk me_X9_add 49 (.iconst (-1)) 1 50 := And.intro (by decide +kernel) rfl
theorem d_X9_add_50 : dk me_X9_add 50 (.if_icmp .ne 7) 3 53 := And.intro (by decide +kernel) rfl
theorem d_X9_add_53 : dk me_X9_add 53 (.lload_n 1) 1 54 := And.intro (by decide +kernel) rfl
theorem d_X9_add_54 : dk me_X9_add 54 (.goto 11) 3 57 := And.intro (by decide +kernel) rfl
theorem d_X9_add_57 : dk me_X9_add 57 (.aload 4) 2 59 := And.intro (by decide +kernel) rfl
theorem d_X9_add_59 : dk me_X9_add 59 (.getfield 39) 3 62 := And.intro (by decide +kernel) rfl
theorem d_X9_add_62 : dk me_X9_add 62 (.iload 5) 2 64 := And.intro (by decide +kernel) rfl
theorem d_X9_add_64 : dk me_X9_add 64 (.laload) 1 65 := And.intro (by decide +kernel) rfl
theorem d_X9_add_65 : dk me_X9_add 65 (.lastore) 1 66 := And.intro (by decide +kernel) rfl
theorem d_X9_add_66 : dk me_X9_add 66 (.aload_n 0) 1 67 := And.intro (by decide +kernel) rfl
theorem d_X9_add_67 : dk me_X9_add 67 (.getfield 18) 3 70 := And.intro (by decide +kernel) rfl
theorem d_X9_add_70 : dk me_X9_add 70 (.aload_n 0) 1 71 := And.intro (by decide +kernel) rfl
theorem d_X9_add_71 : dk me_X9_add 71 (.getfield 29) 3 74 := And.intro (by decide +kernel) rfl
theorem d_X9_add_74 : dk me_X9_add 74 (.iload 5) 2 76 := And.intro (by decide +kernel) rfl
theorem d_X9_add_76 : dk me_X9_add 76 (.iconst (-1)) 1 77 := And.intro (by decide +kernel) rfl
theorem d_X9_add_77 : dk me_X9_add 77 (.if_icmp .ne 7) 3 80 := And.intro (by decide +kernel) rfl
theorem d_X9_add_80 : dk me_X9_add 80 (.lload_n 1) 1 81 := And.intro (by decide +kernel) rfl
theorem d_X9_add_81 : dk me_X9_add 81 (.goto 11) 3 84 := And.intro (by decide +kernel) rfl
theorem d_X9_add_84 : dk me_X9_add 84 (.aload 4) 2 86 := And.intro (by decide +kernel) rfl
theorem d_X9_add_86 : dk me_X9_add 86 (.getfield 40) 3 89 := And.intro (by decide +kernel) rfl
theorem d_X9_add_89 : dk me_X9_add 89 (.iload 5) 2 91 := And.intro (by decide +kernel) rfl
theorem d_X9_add_91 : dk me_X9_add 91 (.laload) 1 92 := And.intro (by decide +kernel) rfl
theorem d_X9_add_92 : dk me_X9_add 92 (.lastore) 1 93 := And.intro (by decide +kernel) rfl
theorem d_X9_add_93 : dk me_X9_add 93 (.aload_n 0) 1 94 := And.intro (by decide +kernel) rfl
theorem d_X9_add_94 : dk me_X9_add 94 (.getfield 25) 3 97 := And.intro (by decide +kernel) rfl
theorem d_X9_add_97 : dk me_X9_add 97 (.aload_n 0) 1 98 := And.intro (by decide +kernel) rfl
theorem d_X9_add_98 : dk me_X9_add 98 (.getfield 29) 3 101 := And.intro (by decide +kernel) rfl
theorem d_X9_add_101 : dk me_X9_add 101 (.iload_n 3) 1 102 := And.intro (by decide +kernel) rfl
theorem d_X9_add_102 : dk me_X9_add 102 (.bastore) 1 103 := And.intro (by decide +kernel) rfl
theorem d_X9_add_103 : dk me_X9_add 103 (.aload_n 0) 1 104 := And.intro (by decide +kernel) rfl
theorem d_X9_add_104 : dk me_X9_add 104 (.dup) 1 105 := And.intro (by decide +kernel) rfl
theorem d_X9_add_105 : dk me_X9_add 105 (.getfield 29) 3 108 := And.intro (by decide +kernel) rfl
theorem d_X9_add_108 : dk me_X9_add 108 (.iconst 1) 1 109 := And.intro (by decide +kernel) rfl
theorem d_X9_add_109 : dk me_X9_add 109 (.iadd) 1 110 := And.intro (by decide +kernel) rfl
theorem d_X9_add_110 : dk me_X9_add 110 (.putfield 29) 3 113 := And.intro (by decide +kernel) rfl
theorem d_X9_add_113 : dk me_X9_add 113 (.return_) 1 114 := And.intro (by decide +kernel) rfl
theorem ms_X9_add {fx : FX} {m : MM} {l0 : Nat} {l1 : Int64} {l3 : Int} {l4 : Nat} : MS fx me_X9_add [aR (some (9, l0)), aL l1, aI l3, aR (some (10, l4))] m (f_X9_add m l0 l1 l3 l4) := by
  refine ms_of rfl mf_X9_add (b8 rfl) ?_
  refine s_top ?_
  show Sim fx me_X9_add 0 [(0, aR (some (9, l0))), (1, aL l1), (3, aI l3), (4, aR (some (10, l4)))] [] m _
  unfold f_X9_add
  have hj_X9_add_0_92 : ∀ (m_92 : MM) (l0_92 : Nat) (l3_92 : Int) (s0_92 : Nat) (s1_92 : Int) (s2_92 : Int64), Sim fx me_X9_add 92 [(0, aR (some (9, l0_92))), (3, aI l3_92)] [aL s2_92, aI s1_92, aR (some (47, s0_92))] m_92 ((j_X9_add_0_92 m_92 l0_92 l3_92 s0_92 s1_92 s2_92).bind (fun z => some z)) := by
    intro m_92 l0_92 l3_92 s0_92 s1_92 s2_92
    unfold j_X9_add_0_92
    refine s_stL d_X9_add_92 ka_47 rfl fun m13 => (s_aload_n d_X9_add_93 m0_ (s_getR cf d_X9_add_94 fl_X9_25 (s_nk fun i14 => (s_aload_n d_X9_add_97 m0_ (s_getN cf d_X9_add_98 fl_X9_29 ?_)))))
    refine s_iload_n d_X9_add_101 m1_ (s_stB d_X9_add_102 ka_49 rfl fun m15 => (s_aload_n d_X9_add_103 m0_ (s_dup d_X9_add_104 rfl (s_getN cf d_X9_add_105 fl_X9_29 (s_iconst d_X9_add_108 n_1 ?_)))))
    exact s_iadd d_X9_add_109 rfl rfl (s_ck (s_putN cf d_X9_add_110 fl_X9_29 (fun h => by cases h) fun m16 => (s_vret d_X9_add_113 rfl rfl)))
  have hj_X9_add_0_65 : ∀ (m_65 : MM) (l0_65 : Nat) (l1_65 : Int64) (l3_65 : Int) (l4_65 : Nat) (l5_65 : Int) (s0_65 : Nat) (s1_65 : Int) (s2_65 : Int64), Sim fx me_X9_add 65 [(0, aR (some (9, l0_65))), (1, aL l1_65), (3, aI l3_65), (4, aR (some (10, l4_65))), (5, aI l5_65)] [aL s2_65, aI s1_65, aR (some (46, s0_65))] m_65 ((j_X9_add_0_65 m_65 l0_65 l1_65 l3_65 l4_65 l5_65 s0_65 s1_65 s2_65).bind (fun z => some z)) := by
    intro m_65 l0_65 l1_65 l3_65 l4_65 l5_65 s0_65 s1_65 s2_65
    unfold j_X9_add_0_65
    refine s_stL d_X9_add_65 ka_46 rfl fun m9 => (s_aload_n d_X9_add_66 m0_ (s_getR cf d_X9_add_67 fl_X9_18 (s_nk fun i10 => (s_aload_n d_X9_add_70 m0_ (s_getN cf d_X9_add_71 fl_X9_29 ?_)))))
    refine s_iload d_X9_add_74 m4_ (s_iconst d_X9_add_76 n_m1 (s_icmp_ne (tgt := 84) d_X9_add_77 rfl ?_ ?_))
    · exact s_aload d_X9_add_84 m3_ (s_getR cf d_X9_add_86 fl_X9_40 (s_nk fun i11 => (s_iload d_X9_add_89 m4_ (s_ldL d_X9_add_91 ka_54 rfl fun v12 => (s_sub (subc m0_ (subc m2_ sub0)) (hj_X9_add_0_92 m9 l0_65 l3_65 i10 (gN m9 9 l0_65 5) v12))))))
    exact s_lload_n d_X9_add_80 m1_ (s_goto (tgt := 92) d_X9_add_81 rfl (s_sub (subc m0_ (subc m2_ sub0)) (hj_X9_add_0_92 m9 l0_65 l3_65 i10 (gN m9 9 l0_65 5) l1_65)))
  refine s_aload_n d_X9_add_0 m0_ (s_getN cf d_X9_add_1 fl_X9_29 (s_bipush d_X9_add_4 n_60 rfl (s_icmp_lt (tgt := 10) d_X9_add_6 rfl ?_ ?_)))
  · refine s_aload d_X9_add_10 m3_ (s_lload_n d_X9_add_12 m1_ (s_pI (r_V d_X9_add_13 k_X10_spellingOf w_833 rfl rfl) ms_X10_spellingOf (b8 rfl) rfl rfl rfl fun v1 => (s_istore (L' := [(5, aI v1), (0, aR (some (9, l0))), (1, aL l1), (3, aI l3), (4, aR (some (10, l4)))]) d_X9_add_16 (b8 rfl) rfl (s_aload_n d_X9_add_18 m1_ (s_getR cf d_X9_add_19 fl_X9_9 ?_)))))
    refine s_nk fun i2 => (s_aload_n d_X9_add_22 m1_ (s_getN cf d_X9_add_23 fl_X9_29 (s_lload_n d_X9_add_26 m2_ (s_stL d_X9_add_27 ka_45 rfl fun m3 => (s_aload_n d_X9_add_28 m1_ ?_)))))
    refine s_getR cf d_X9_add_29 fl_X9_21 (s_nk fun i4 => (s_aload_n d_X9_add_32 m1_ (s_getN cf d_X9_add_33 fl_X9_29 (s_iload d_X9_add_36 m0_ (s_stN d_X9_add_38 ka_48 rfl fun m5 => ?_)))))
    refine s_aload_n d_X9_add_39 m1_ (s_getR cf d_X9_add_40 fl_X9_15 (s_nk fun i6 => (s_aload_n d_X9_add_43 m1_ (s_getN cf d_X9_add_44 fl_X9_29 (s_iload d_X9_add_47 m0_ ?_)))))
    refine s_iconst d_X9_add_49 n_m1 (s_icmp_ne (tgt := 57) d_X9_add_50 rfl ?_ ?_)
    · exact s_aload d_X9_add_57 m4_ (s_getR cf d_X9_add_59 fl_X9_39 (s_nk fun i7 => (s_iload d_X9_add_62 m0_ (s_ldL d_X9_add_64 ka_53 rfl fun v8 => (s_sub (subc m1_ (subc m2_ (subc m3_ (subc m4_ (subc m0_ sub0))))) (hj_X9_add_0_65 m5 l0 l1 l3 l4 v1 i6 (gN m5 9 l0 5) v8))))))
    exact s_lload_n d_X9_add_53 m2_ (s_goto (tgt := 65) d_X9_add_54 rfl (s_sub (subc m1_ (subc m2_ (subc m3_ (subc m4_ (subc m0_ sub0))))) (hj_X9_add_0_65 m5 l0 l1 l3 l4 v1 i6 (gN m5 9 l0 5) l1)))
  exact s_vret d_X9_add_9 rfl rfl
theorem d_X11_copy_0 : dk me_X11_copy 0 (.aload_n 0) 1 1 := And.intro (by decide +kernel) rfl
theorem d_X11_copy_1 : dk me_X11_copy 1 (.iload_n 1) 1 2 := And.intro (by decide +kernel) rfl
theorem d_X11_copy_2 : dk me_X11_copy 2 (.invokevirtual 143) 3 5 := And.intro (by decide +kernel) rfl
theorem d_X11_copy_5 : dk me_X11_copy 5 (.astore_n 2) 1 6 := And.intro (by decide +kernel) rfl
theorem d_X11_copy_6 : dk me_X11_copy 6 (.aload_n 0) 1 7 := And.intro (by decide +kernel) rfl
theorem d_X11_copy_7 : dk me_X11_copy 7 (.getfield 10) 3 10 := And.intro (by decide +kernel) rfl
theorem d_X11_copy_10 : dk me_X11_copy 10 (.invokevirtual 147) 3 13 := And.intro (by decide +kernel) rfl
theorem d_X11_copy_13 : dk me_X11_copy 13 (.invokestatic 53) 3 16 := And.intro (by decide +kernel) rfl
theorem d_X11_copy_16 : dk me_X11_copy 16 (.aload_n 0) 1 17 := And.intro (by decide +kernel) rfl
theorem d_X11_copy_17 : dk me_X11_copy 17 (.getfield 10) 3 20 := And.intro (by decide +kernel) rfl
theorem d_X11_copy_20 : dk me_X11_copy 20 (.invokevirtual 150) 3 23 := And.intro (by decide +kernel) rfl
theorem d_X11_copy_23 : dk me_X11_copy 23 (.istore_n 3) 1 24 := And.intro (by decide +kernel) rfl
theorem d_X11_copy_24 : dk me_X11_copy 24 (.aload_n 2) 1 25 := And.intro (by decide +kernel) rfl
theorem d_X11_copy_25 : dk me_X11_copy 25 (.getfield 153) 3 28 := And.intro (by decide +kernel) rfl
theorem d_X11_copy_28 : dk me_X11_copy 28 (.getfield 157) 3 31 := And.intro (by decide +kernel) rfl
theorem d_X11_copy_31 : dk me_X11_copy 31 (.iload_n 3) 1 32 := And.intro (by decide +kernel) rfl
theorem d_X11_copy_32 : dk me_X11_copy 32 (.iadd) 1 33 := And.intro (by decide +kernel) rfl
theorem d_X11_copy_33 : dk me_X11_copy 33 (.bipush 60) 2 35 := And.intro (by decide +kernel) rfl
theorem d_X11_copy_35 : dk me_X11_copy 35 (.if_icmp .gt 21) 3 38 := And.intro (by decide +kernel) rfl
theorem d_X11_copy_38 : dk me_X11_copy 38 (.aload_n 2) 1 39 := And.intro (by decide +kernel) rfl
theorem d_X11_copy_39 : dk me_X11_copy 39 (.getfield 160) 3 42 := And.intro (by decide +kernel) rfl
theorem d_X11_copy_42 : dk me_X11_copy 42 (.ifCond .ne 14) 3 45 := And.intro (by decide +kernel) rfl
theorem d_X11_copy_45 : dk me_X11_copy 45 (.aload_n 2) 1 46 := And.intro (by decide +kernel) rfl
theorem d_X11_copy_46 : dk me_X11_copy 46 (.invokevirtual 164) 3 49 := And.intro (by decide +kernel) rfl
theorem d_X11_copy_49 : dk me_X11_copy 49 (.ifCond .ne 7) 3 52 := And.intro (by decide +kernel) rfl
theorem d_X11_copy_52 : dk me_X11_copy 52 (.iconst 1) 1 53 := And.intro (by decide +kernel) rfl
theorem d_X11_copy_53 : dk me_X11_copy 53 (.goto 4) 3 56 := And.intro (by decide +kernel) rfl
theorem d_X11_copy_56 : dk me_X11_copy 56 (.iconst 0) 1 57 := And.intro (by decide +kernel) rfl
theorem d_X11_copy_57 : dk me_X11_copy 57 (.invokestatic 69) 3 60 := And.intro (by decide +kernel) rfl
theorem d_X11_copy_60 : dk me_X11_copy 60 (.iconst 0) 1 61 := And.intro (by decide +kernel) rfl
theorem d_X11_copy_61 : dk me_X11_copy 61 (.istore 4) 2 63 := And.intro (by decide +kernel) rfl
theorem d_X11_copy_63 : dk me_X11_copy 63 (.iload 4) 2 65 := And.intro (by decide +kernel) rfl
theorem d_X11_copy_65 : dk me_X11_copy 65 (.iload_n 3) 1 66 := And.intro (by decide +kernel) rfl
theorem d_X11_copy_66 : dk me_X11_copy 66 (.if_icmp .ge 40) 3 69 := And.intro (by decide +kernel) rfl
theorem d_X11_copy_69 : dk me_X11_copy 69 (.aload_n 2) 1 70 := And.intro (by decide +kernel) rfl
theorem d_X11_copy_70 : dk me_X11_copy 70 (.getfield 153) 3 73 := And.intro (by decide +kernel) rfl
theorem d_X11_copy_73 : dk me_X11_copy 73 (.aload_n 0) 1 74 := And.intro (by decide +kernel) rfl
theorem d_X11_copy_74 : dk me_X11_copy 74 (.getfield 10) 3 77 := And.intro (by decide +kernel) rfl
theorem d_X11_copy_77 : dk me_X11_copy 77 (.getfield 84) 3 80 := And.intro (by decide +kernel) rfl
theorem d_X11_copy_80 : dk me_X11_copy 80 (.iload 4) 2 82 := And.intro (by decide +kernel) rfl
theorem d_X11_copy_82 : dk me_X11_copy 82 (.laload) 1 83 := And.intro (by decide +kernel) rfl
theorem d_X11_copy_83 : dk me_X11_copy 83 (.aload_n 0) 1 84 := And.intro (by decide +kernel) rfl
theorem d_X11_copy_84 : dk me_X11_copy 84 (.getfield 10) 3 87 := And.intro (by decide +kernel) rfl
theorem d_X11_copy_87 : dk me_X11_copy 87 (.getfield 167) 3 90 := And.intro (by decide +kernel) rfl
theorem d_X11_copy_90 : dk me_X11_copy 90 (.iload 4) 2 92 := And.intro (by decide +kernel) rfl
theorem d_X11_copy_92 : dk me_X11_copy 92 (.baload) 1 93 := And.intro (by decide +kernel) rfl
theorem d_X11_copy_93 : dk me_X11_copy 93 (.aload_n 0) 1 94 := And.intro (by decide +kernel) rfl
theorem d_X11_copy_94 : dk me_X11_copy 94 (.getfield 10) 3 97 := And.intro (by decide +kernel) rfl
theorem d_X11_copy_97 : dk me_X11_copy 97 (.invokevirtual 171) 3 100 := And.intro (by decide +kernel) rfl
theorem d_X11_copy_100 : dk me_X11_copy 100 (.iinc 4 1) 3 103 := And.intro (by decide +kernel) rfl
theorem d_X11_copy_103 : dk me_X11_copy 103 (.goto (-40)) 3 106 := And.intro (by decide +kernel) rfl
theorem d_X11_copy_106 : dk me_X11_copy 106 (.aload_n 0) 1 107 := And.intro (by decide +kernel) rfl
theorem d_X11_copy_107 : dk me_X11_copy 107 (.getfield 10) 3 110 := And.intro (by decide +kernel) rfl
theorem d_X11_copy_110 : dk me_X11_copy 110 (.iconst 0) 1 111 := And.intro (by decide +kernel) rfl
theorem d_X11_copy_111 : dk me_X11_copy 111 (.putfield 65) 3 114 := And.intro (by decide +kernel) rfl
theorem d_X11_copy_114 : dk me_X11_copy 114 (.aload_n 2) 1 115 := And.intro (by decide +kernel) rfl
theorem d_X11_copy_115 : dk me_X11_copy 115 (.getfield 153) 3 118 := And.intro (by decide +kernel) rfl
theorem d_X11_copy_118 : dk me_X11_copy 118 (.getfield 157) 3 121 := And.intro (by decide +kernel) rfl
theorem d_X11_copy_121 : dk me_X11_copy 121 (.ireturn) 1 122 := And.intro (by decide +kernel) rfl
theorem ms_X11_copy {fx : FX} {m : MM} {l0 : Nat} {l1 : Int} : MS fx me_X11_copy [aR (some (11, l0)), aI l1] m (f_X11_copy m l0 l1) := by
  refine ms_of rfl mf_X11_copy (b8 rfl) ?_
  refine s_top ?_
  show Sim fx me_X11_copy 0 [(0, aR (some (11, l0))), (1, aI l1)] [] m _
  unfold f_X11_copy
  have hj_X11_copy_0_106 : ∀ (m_106 : MM) (l0_106 : Nat) (l2_106 : Nat), Sim fx me_X11_copy 106 [(0, aR (some (11, l0_106))), (2, aR (some (0, l2_106)))] [] m_106 ((j_X11_copy_0_106 m_106 l0_106 l2_106).bind (fun z => some z)) := by
    intro m_106 l0_106 l2_106
    unfold j_X11_copy_0_106
    refine s_aload_n d_X11_copy_106 m0_ (s_getR cf d_X11_copy_107 fl_X11_10 (s_nk fun i25 => (s_iconst d_X11_copy_110 n_0 (s_putN cf d_X11_copy_111 fl_X11_65 (fun h => by cases h) fun m26 => (s_aload_n d_X11_copy_114 m1_ ?_)))))
    exact s_getR cf d_X11_copy_115 fl_X11_153 (s_nk fun i27 => (s_getN cf d_X11_copy_118 fl_X11_157 (s_iret d_X11_copy_121 rfl rfl)))
  have hj_X11_copy_0_57 : ∀ (m_57 : MM) (l0_57 : Nat) (l2_57 : Nat) (l3_57 : Int) (s0_57 : Int), Sim fx me_X11_copy 57 [(0, aR (some (11, l0_57))), (2, aR (some (0, l2_57))), (3, aI l3_57)] [aI s0_57] m_57 ((j_X11_copy_0_57 m_57 l0_57 l2_57 l3_57 s0_57).bind (fun z => some z)) := by
    intro m_57 l0_57 l2_57 l3_57 s0_57
    unfold j_X11_copy_0_57
    refine s_cV (r_S d_X11_copy_57 k_X11_requireState w_363 rfl rfl) ms_X11_requireState (b8 rfl) rfl rfl rfl (fun h => by cases h) (fun _ _ => Or.inr rfl) fun m13 => (s_iconst d_X11_copy_60 n_0 (s_istore (L' := [(4, aI 0), (0, aR (some (11, l0_57))), (2, aR (some (0, l2_57))), (3, aI l3_57)]) d_X11_copy_61 (b8 rfl) rfl (s_sub (subc m0_ (subc m1_ (subc m2_ (subc m3_ sub0)))) (s_lp2 (fun s => [(4, aI (s.1)), (0, aR (some (11, l0_57))), (2, aR (some (0, l2_57))), (3, aI l3_57)]) (fun s => s.2) (0, m13) fun k63 hx63 s ih0 => ?_))))
    obtain ⟨l4_63, mm_63⟩ := s
    have ih63 := ih0
    clear ih0
    try dsimp only
    unfold b_X11_copy_63
    refine s_iload d_X11_copy_63 m0_ (s_iload_n d_X11_copy_65 m3_ (s_icmp_ge (tgt := 106) d_X11_copy_66 rfl ?_ ?_))
    · exact s_exit (hx63 _) (s_sub (subc m1_ (subc m2_ sub0)) (hj_X11_copy_0_106 mm_63 l0_57 l2_57))
    refine s_aload_n d_X11_copy_69 m2_ (s_getR cf d_X11_copy_70 fl_X11_153 (s_nk fun i15 => (s_aload_n d_X11_copy_73 m1_ (s_getR cf d_X11_copy_74 fl_X11_10 (s_nk fun i16 => ?_)))))
    refine s_getR cf d_X11_copy_77 fl_X11_84 (s_nk fun i17 => (s_iload d_X11_copy_80 m0_ (s_ldL d_X11_copy_82 ka_51 rfl fun v18 => (s_aload_n d_X11_copy_83 m1_ (s_getR cf d_X11_copy_84 fl_X11_10 ?_)))))
    refine s_nk fun i19 => (s_getR cf d_X11_copy_87 fl_X11_167 (s_nk fun i20 => (s_iload d_X11_copy_90 m0_ (s_ldB d_X11_copy_92 ka_52 rfl fun v21 => (s_aload_n d_X11_copy_93 m1_ ?_)))))
    exact s_getR cf d_X11_copy_94 fl_X11_10 (s_nk fun i22 => (s_cV (r_V d_X11_copy_97 k_X9_add w_829 rfl rfl) ms_X9_add (b8 rfl) rfl rfl rfl (fun _ _ _ => rfl) (fun _ _ => Or.inl rfl) fun m23 => (s_iinc (L' := [(4, aI (l4_63 + 1)), (0, aR (some (11, l0_57))), (2, aR (some (0, l2_57))), (3, aI l3_57)]) d_X11_copy_100 m0_ (b8 rfl) rfl (s_goto (tgt := 63) d_X11_copy_103 rfl (s_sub (subc m0_ (subc m1_ (subc m2_ (subc m3_ sub0)))) (s_back (ih63 ((l4_63 + 1), m23))))))))
  have hj_X11_copy_0_56 : ∀ (m_56 : MM) (l0_56 : Nat) (l2_56 : Nat) (l3_56 : Int), Sim fx me_X11_copy 56 [(0, aR (some (11, l0_56))), (2, aR (some (0, l2_56))), (3, aI l3_56)] [] m_56 ((j_X11_copy_0_56 m_56 l0_56 l2_56 l3_56).bind (fun z => some z)) := by
    intro m_56 l0_56 l2_56 l3_56
    unfold j_X11_copy_0_56
    exact s_iconst d_X11_copy_56 n_0 (s_sub (subc m0_ (subc m1_ (subc m2_ sub0))) (hj_X11_copy_0_57 m_56 l0_56 l2_56 l3_56 0))
  refine s_aload_n d_X11_copy_0 m0_ (s_iload_n d_X11_copy_1 m1_ (s_cR (r_V d_X11_copy_2 k_X11_bookAt w_814 rfl rfl) ms_X11_bookAt (b8 rfl) rfl rfl rfl (fun h => by cases h) (fun _ _ => Or.inr rfl) fun r2 m1 => (s_nk fun i3 => (s_astore_n (L' := [(2, aR (some (0, i3))), (0, aR (some (11, l0))), (1, aI l1)]) d_X11_copy_5 (b8 rfl) rfl (s_aload_n d_X11_copy_6 m1_ ?_)))))
  refine s_getR cf d_X11_copy_7 fl_X11_10 (s_nk fun i4 => (s_pI (r_V d_X11_copy_10 k_X10_isText w_819 rfl rfl) ms_X10_isText (b8 rfl) rfl rfl rfl fun v5 => (s_cV (r_S d_X11_copy_13 k_X11_requireArgument w_284 rfl rfl) ms_X11_requireArgument (b8 rfl) rfl rfl rfl (fun h => by cases h) (fun _ _ => Or.inr rfl) fun m6 => (s_aload_n d_X11_copy_16 m1_ (s_getR cf d_X11_copy_17 fl_X11_10 ?_)))))
  refine s_nk fun i8 => (s_cI (r_V d_X11_copy_20 k_X10_splitText w_820 rfl rfl) ms_X10_splitText (b8 rfl) rfl rfl rfl (fun _ _ _ => rfl) (fun _ _ => Or.inl rfl) fun v10 m9 => (s_istore_n (L' := [(3, aI v10), (2, aR (some (0, i3))), (0, aR (some (11, l0))), (1, aI l1)]) d_X11_copy_23 (b8 rfl) rfl (s_aload_n d_X11_copy_24 m1_ (s_getR cf d_X11_copy_25 fl_X11_153 (s_nk fun i11 => ?_)))))
  refine s_getN cf d_X11_copy_28 fl_X11_157 (s_iload_n d_X11_copy_31 m0_ (s_iadd d_X11_copy_32 rfl rfl (s_bipush d_X11_copy_33 n_60 rfl (s_ck1 (s_icmp_gt (tgt := 56) d_X11_copy_35 rfl ?_ ?_)))))
  · exact s_sub (subc m2_ (subc m1_ (subc m0_ sub0))) (hj_X11_copy_0_56 m9 l0 i3 v10)
  refine s_aload_n d_X11_copy_38 m1_ (s_getB cf d_X11_copy_39 fl_X11_160 (s_if_ne (tgt := 56) d_X11_copy_42 rfl ?_ ?_))
  · exact s_sub (subc m2_ (subc m1_ (subc m0_ sub0))) (hj_X11_copy_0_56 m9 l0 i3 v10)
  refine s_aload_n d_X11_copy_45 m1_ (s_pI (r_V d_X11_copy_46 k_X0_hasSetPage w_821 rfl rfl) ms_X0_hasSetPage (b8 rfl) rfl rfl rfl fun v12 => (s_if_ne (tgt := 56) d_X11_copy_49 rfl ?_ ?_))
  · exact s_sub (subc m2_ (subc m1_ (subc m0_ sub0))) (hj_X11_copy_0_56 m9 l0 i3 v10)
  exact s_iconst d_X11_copy_52 n_1 (s_goto (tgt := 57) d_X11_copy_53 rfl (s_sub (subc m2_ (subc m1_ (subc m0_ sub0))) (hj_X11_copy_0_57 m9 l0 i3 v10 1)))
theorem d_L_copy_0 : dk me_L_copy 0 (.aload_n 2) 1 1 := And.intro (by decide +kernel) rfl
theorem d_L_copy_1 : dk me_L_copy 1 (.iconst 0) 1 2 := And.intro (by decide +kernel) rfl
theorem d_L_copy_2 : dk me_L_copy 2 (.aload_n 0) 1 3 := And.intro (by decide +kernel) rfl
theorem d_L_copy_3 : dk me_L_copy 3 (.iload_n 1) 1 4 := And.intro (by decide +kernel) rfl
theorem d_L_copy_4 : dk me_L_copy 4 (.invokevirtual 45) 3 7 := And.intro (by decide +kernel) rfl
theorem d_L_copy_7 : dk me_L_copy 7 (.i2l) 1 8 := And.intro (by decide +kernel) rfl
theorem d_L_copy_8 : dk me_L_copy 8 (.lastore) 1 9 := And.intro (by decide +kernel) rfl
theorem d_L_copy_9 : dk me_L_copy 9 (.goto 12) 3 12 := And.intro (by decide +kernel) rfl
theorem d_L_copy_12 : dk me_L_copy 12 (.astore_n 3) 1 13 := And.intro (by decide +kernel) rfl
theorem d_L_copy_13 : dk me_L_copy 13 (.iconst 1) 1 14 := And.intro (by decide +kernel) rfl
theorem d_L_copy_14 : dk me_L_copy 14 (.ireturn) 1 15 := And.intro (by decide +kernel) rfl
theorem d_L_copy_15 : dk me_L_copy 15 (.astore_n 3) 1 16 := And.intro (by decide +kernel) rfl
theorem d_L_copy_16 : dk me_L_copy 16 (.iconst 2) 1 17 := And.intro (by decide +kernel) rfl
theorem d_L_copy_17 : dk me_L_copy 17 (.ireturn) 1 18 := And.intro (by decide +kernel) rfl
theorem d_L_copy_18 : dk me_L_copy 18 (.astore_n 3) 1 19 := And.intro (by decide +kernel) rfl
theorem d_L_copy_19 : dk me_L_copy 19 (.iconst 3) 1 20 := And.intro (by decide +kernel) rfl
theorem d_L_copy_20 : dk me_L_copy 20 (.ireturn) 1 21 := And.intro (by decide +kernel) rfl
theorem d_L_copy_21 : dk me_L_copy 21 (.iconst 0) 1 22 := And.intro (by decide +kernel) rfl
theorem d_L_copy_22 : dk me_L_copy 22 (.ireturn) 1 23 := And.intro (by decide +kernel) rfl
theorem ms_L_copy {fx : FX} {m : MM} {l0 : Nat} {l1 : Int} {l2 : Nat} : MS fx me_L_copy [aR (some (11, l0)), aI l1, aR (some (131, l2))] m (f_L_copy m l0 l1 l2) := by
  refine ms_ofH rfl mf_L_copy (b8 rfl) ?_
  refine s_top ?_
  show Sim fx me_L_copy 0 [(0, aR (some (11, l0))), (1, aI l1), (2, aR (some (131, l2)))] [] m _
  unfold f_L_copy
  refine s_aload_n d_L_copy_0 m2_ (s_iconst d_L_copy_1 n_0 (s_aload_n d_L_copy_2 m0_ (s_iload_n d_L_copy_3 m1_ (s_cIC (r_V d_L_copy_4 k_X11_copy w_810 rfl rfl) ms_X11_copy (b8 rfl) rfl rfl ?_ ?_ ?_ fun v2 m1 => ?_))))
  · refine fun mx => Or.inr ⟨12, ⟨rfl, by decide, 0, wx_29_0, Or.inl ⟨rfl, rfl⟩⟩, fun qx => ?_⟩
    exact s_astoreV_n (L' := [(3, aV (.ref qx)), (0, aR (some (11, l0))), (1, aI l1), (2, aR (some (131, l2)))]) d_L_copy_12 (b8 rfl) rfl (s_iconst d_L_copy_13 n_1 (s_iret d_L_copy_14 rfl rfl))
  · refine fun mx => Or.inr ⟨15, ⟨rfl, by decide, 0, wx_29_0, Or.inr ⟨by decide, ⟨rfl, by decide, 1, wx_13_1, Or.inl ⟨rfl, rfl⟩⟩⟩⟩, fun qx => ?_⟩
    exact s_astoreV_n (L' := [(3, aV (.ref qx)), (0, aR (some (11, l0))), (1, aI l1), (2, aR (some (131, l2)))]) d_L_copy_15 (b8 rfl) rfl (s_iconst d_L_copy_16 n_2 (s_iret d_L_copy_17 rfl rfl))
  · refine fun mx => Or.inr ⟨18, ⟨rfl, by decide, 0, wx_29_0, Or.inr ⟨by decide, ⟨rfl, by decide, 1, wx_13_1, Or.inr ⟨by decide, ⟨rfl, by decide, 2, wx_15_2, Or.inl ⟨rfl, rfl⟩⟩⟩⟩⟩⟩, fun qx => ?_⟩
    exact s_astoreV_n (L' := [(3, aV (.ref qx)), (0, aR (some (11, l0))), (1, aI l1), (2, aR (some (131, l2)))]) d_L_copy_18 (b8 rfl) rfl (s_iconst d_L_copy_19 n_3 (s_iret d_L_copy_20 rfl rfl))
  exact s_i2l d_L_copy_7 (s_stL d_L_copy_8 ka_131 rfl fun m3 => (s_goto (tgt := 21) d_L_copy_9 rfl (s_iconst d_L_copy_21 n_0 (s_iret d_L_copy_22 rfl rfl))))
theorem d_X11_pageOf_0 : dk me_X11_pageOf 0 (.aload_n 0) 1 1 := And.intro (by decide +kernel) rfl
theorem d_X11_pageOf_1 : dk me_X11_pageOf 1 (.iload_n 1) 1 2 := And.intro (by decide +kernel) rfl
theorem d_X11_pageOf_2 : dk me_X11_pageOf 2 (.invokevirtual 379) 3 5 := And.intro (by decide +kernel) rfl
theorem d_X11_pageOf_5 : dk me_X11_pageOf 5 (.ifCond .ne 14) 3 8 := And.intro (by decide +kernel) rfl
theorem d_X11_pageOf_8 : dk me_X11_pageOf 8 (.new 446) 3 11 := And.intro (by decide +kernel) rfl
theorem d_X11_pageOf_11 : dk me_X11_pageOf 11 (.dup) 1 12 := And.intro (by decide +kernel) rfl
theorem d_X11_pageOf_12 : dk me_X11_pageOf 12 (.ldc_w 469) 3 15 := And.intro (by decide +kernel) rfl
theorem d_X11_pageOf_15 : dk me_X11_pageOf 15 (.invokespecial 450) 3 18 := And.intro (by decide +kernel) rfl
theorem d_X11_pageOf_18 : dk me_X11_pageOf 18 (.athrow) 1 19 := And.intro (by decide +kernel) rfl
theorem d_X11_pageOf_19 : dk me_X11_pageOf 19 (.aload_n 0) 1 20 := And.intro (by decide +kernel) rfl
theorem d_X11_pageOf_20 : dk me_X11_pageOf 20 (.getfield 177) 3 23 := And.intro (by decide +kernel) rfl
theorem d_X11_pageOf_23 : dk me_X11_pageOf 23 (.iload_n 1) 1 24 := And.intro (by decide +kernel) rfl
theorem d_X11_pageOf_24 : dk me_X11_pageOf 24 (.aaload) 1 25 := And.intro (by decide +kernel) rfl
theorem d_X11_pageOf_25 : dk me_X11_pageOf 25 (.areturn) 1 26 := And.intro (by decide +kernel) rfl
theorem ms_X11_pageOf {fx : FX} {m : MM} {l0 : Nat} {l1 : Int} : MS fx me_X11_pageOf [aR (some (0, l0)), aI l1] m (f_X11_pageOf m l0 l1) := by
  refine ms_of rfl mf_X11_pageOf (b8 rfl) ?_
  refine s_top ?_
  show Sim fx me_X11_pageOf 0 [(0, aR (some (0, l0))), (1, aI l1)] [] m _
  unfold f_X11_pageOf
  refine s_aload_n d_X11_pageOf_0 m0_ (s_iload_n d_X11_pageOf_1 m1_ (s_pI (r_V d_X11_pageOf_2 k_X0_hasPage w_887 rfl rfl) ms_X0_hasPage (b8 rfl) rfl rfl rfl fun v1 => (s_if_ne (tgt := 19) d_X11_pageOf_5 rfl ?_ ?_)))
  · exact s_aload_n d_X11_pageOf_19 m0_ (s_getR cf d_X11_pageOf_20 fl_X11_177 (s_nk fun i2 => (s_iload_n d_X11_pageOf_23 m1_ (s_ldR d_X11_pageOf_24 ka_13 ta_13 rfl rfl fun r3 => (s_aret d_X11_pageOf_25 rfl (Or.inl ⟨_, rfl⟩) rfl)))))
  exact s_throw (e := 0) (text := "there is no such page") (names := ["java/lang/RuntimeException", "java/lang/Exception"]) rfl rfl (by decide +kernel) (by decide +kernel) (b8 rfl) wk_tf_446_450 wi_0 tf_446_450 gtf_446_450 (by decide) d_X11_pageOf_8 d_X11_pageOf_11 d_X11_pageOf_12 d_X11_pageOf_15 d_X11_pageOf_18 (b8 rfl) (b8 rfl) rfl
theorem d_X5_beginState_0 : dk me_X5_beginState 0 (.iload_n 1) 1 1 := And.intro (by decide +kernel) rfl
theorem d_X5_beginState_1 : dk me_X5_beginState 1 (.iconst 1) 1 2 := And.intro (by decide +kernel) rfl
theorem d_X5_beginState_2 : dk me_X5_beginState 2 (.if_icmp .lt 35) 3 5 := And.intro (by decide +kernel) rfl
theorem d_X5_beginState_5 : dk me_X5_beginState 5 (.iload_n 1) 1 6 := And.intro (by decide +kernel) rfl
theorem d_X5_beginState_6 : dk me_X5_beginState 6 (.aload_n 0) 1 7 := And.intro (by decide +kernel) rfl
theorem d_X5_beginState_7 : dk me_X5_beginState 7 (.getfield 24) 3 10 := And.intro (by decide +kernel) rfl
theorem d_X5_beginState_10 : dk me_X5_beginState 10 (.arraylength) 1 11 := And.intro (by decide +kernel) rfl
theorem d_X5_beginState_11 : dk me_X5_beginState 11 (.if_icmp .ge 26) 3 14 := And.intro (by decide +kernel) rfl
theorem d_X5_beginState_14 : dk me_X5_beginState 14 (.aload_n 0) 1 15 := And.intro (by decide +kernel) rfl
theorem d_X5_beginState_15 : dk me_X5_beginState 15 (.getfield 24) 3 18 := And.intro (by decide +kernel) rfl
theorem d_X5_beginState_18 : dk me_X5_beginState 18 (.iload_n 1) 1 19 := And.intro (by decide +kernel) rfl
theorem d_X5_beginState_19 : dk me_X5_beginState 19 (.iconst 1) 1 20 := And.intro (by decide +kernel) rfl
theorem d_X5_beginState_20 : dk me_X5_beginState 20 (.isub) 1 21 := And.intro (by decide +kernel) rfl
theorem d_X5_beginState_21 : dk me_X5_beginState 21 (.aaload) 1 22 := And.intro (by decide +kernel) rfl
theorem d_X5_beginState_22 : dk me_X5_beginState 22 (.iconst 0) 1 23 := And.intro (by decide +kernel) rfl
theorem d_X5_beginState_23 : dk me_X5_beginState 23 (.aload_n 0) 1 24 := And.intro (by decide +kernel) rfl
theorem d_X5_beginState_24 : dk me_X5_beginState 24 (.getfield 24) 3 27 := And.intro (by decide +kernel) rfl
theorem d_X5_beginState_27 : dk me_X5_beginState 27 (.iload_n 1) 1 28 := And.intro (by decide +kernel) rfl
theorem d_X5_beginState_28 : dk me_X5_beginState 28 (.aaload) 1 29 := And.intro (by decide +kernel) rfl
theorem d_X5_beginState_29 : dk me_X5_beginState 29 (.iconst 0) 1 30 := And.intro (by decide +kernel) rfl
theorem d_X5_beginState_30 : dk me_X5_beginState 30 (.aload_n 0) 1 31 := And.intro (by decide +kernel) rfl
theorem d_X5_beginState_31 : dk me_X5_beginState 31 (.getfield 27) 3 34 := And.intro (by decide +kernel) rfl
theorem d_X5_beginState_34 : dk me_X5_beginState 34 (.invokestatic 47) 3 37 := And.intro (by decide +kernel) rfl
theorem d_X5_beginState_37 : dk me_X5_beginState 37 (.return_) 1 38 := And.intro (by decide +kernel) rfl
theorem ms_X5_beginState {fx : FX} {m : MM} {l0 : Nat} {l1 : Int} : MS fx me_X5_beginState [aR (some (5, l0)), aI l1] m (f_X5_beginState m l0 l1) := by
  refine ms_of rfl mf_X5_beginState (b8 rfl) ?_
  refine s_top ?_
  show Sim fx me_X5_beginState 0 [(0, aR (some (5, l0))), (1, aI l1)] [] m _
  unfold f_X5_beginState
  refine s_iload_n d_X5_beginState_0 m1_ (s_iconst d_X5_beginState_1 n_1 (s_icmp_lt (tgt := 37) d_X5_beginState_2 rfl ?_ ?_))
  · exact s_vret d_X5_beginState_37 rfl rfl
  refine s_iload_n d_X5_beginState_5 m1_ (s_aload_n d_X5_beginState_6 m0_ (s_getR cf d_X5_beginState_7 fl_X5_24 (s_nk fun i1 => (s_len d_X5_beginState_10 ka_37 ta_37 (s_icmp_ge (tgt := 37) d_X5_beginState_11 rfl ?_ ?_)))))
  · exact s_vret d_X5_beginState_37 rfl rfl
  refine s_aload_n d_X5_beginState_14 m0_ (s_getR cf d_X5_beginState_15 fl_X5_24 (s_nk fun i2 => (s_iload_n d_X5_beginState_18 m1_ (s_iconst d_X5_beginState_19 n_1 (s_isub d_X5_beginState_20 rfl rfl ?_)))))
  refine s_ldR d_X5_beginState_21 ka_37 ta_37 rfl rfl fun r3 => (s_nk fun i4 => (s_iconst d_X5_beginState_22 n_0 (s_aload_n d_X5_beginState_23 m0_ (s_getR cf d_X5_beginState_24 fl_X5_24 (s_nk fun i5 => ?_)))))
  refine s_iload_n d_X5_beginState_27 m1_ (s_ldR d_X5_beginState_28 ka_37 ta_37 rfl rfl fun r6 => (s_nk fun i7 => (s_iconst d_X5_beginState_29 n_0 (s_aload_n d_X5_beginState_30 m0_ (s_getN cf d_X5_beginState_31 fl_X5_27 ?_)))))
  exact s_copy d_X5_beginState_34 ka_38 w_1124 wa_1 wa_2 wa_3 (b8 rfl) (b8 rfl) fun m8 => (s_vret d_X5_beginState_37 rfl rfl)
theorem d_X2_beginStateIfPrinted_0 : dk me_X2_beginStateIfPrinted 0 (.aload_n 0) 1 1 := And.intro (by decide +kernel) rfl
theorem d_X2_beginStateIfPrinted_1 : dk me_X2_beginStateIfPrinted 1 (.getfield 47) 3 4 := And.intro (by decide +kernel) rfl
theorem d_X2_beginStateIfPrinted_4 : dk me_X2_beginStateIfPrinted 4 (.aload_n 0) 1 5 := And.intro (by decide +kernel) rfl
theorem d_X2_beginStateIfPrinted_5 : dk me_X2_beginStateIfPrinted 5 (.getfield 38) 3 8 := And.intro (by decide +kernel) rfl
theorem d_X2_beginStateIfPrinted_8 : dk me_X2_beginStateIfPrinted 8 (.aload_n 0) 1 9 := And.intro (by decide +kernel) rfl
theorem d_X2_beginStateIfPrinted_9 : dk me_X2_beginStateIfPrinted 9 (.getfield 22) 3 12 := And.intro (by decide +kernel) rfl
theorem d_X2_beginStateIfPrinted_12 : dk me_X2_beginStateIfPrinted 12 (.iconst 1) 1 13 := And.intro (by decide +kernel) rfl
theorem d_X2_beginStateIfPrinted_13 : dk me_X2_beginStateIfPrinted 13 (.isub) 1 14 := And.intro (by decide +kernel) rfl
theorem d_X2_beginStateIfPrinted_14 : dk me_X2_beginStateIfPrinted 14 (.iaload) 1 15 := And.intro (by decide +kernel) rfl
theorem d_X2_beginStateIfPrinted_15 : dk me_X2_beginStateIfPrinted 15 (.if_icmp .le 15) 3 18 := And.intro (by decide +kernel) rfl
theorem d_X2_beginStateIfPrinted_18 : dk me_X2_beginStateIfPrinted 18 (.aload_n 0) 1 19 := And.intro (by decide +kernel) rfl
theorem d_X2_beginStateIfPrinted_19 : dk me_X2_beginStateIfPrinted 19 (.getfield 22) 3 22 := And.intro (by decide +kernel) rfl
theorem d_X2_beginStateIfPrinted_22 : dk me_X2_beginStateIfPrinted 22 (.aload_n 0) 1 23 := And.intro (by decide +kernel) rfl
theorem d_X2_beginStateIfPrinted_23 : dk me_X2_beginStateIfPrinted 23 (.getfield 38) 3 26 := And.intro (by decide +kernel) rfl
theorem d_X2_beginStateIfPrinted_26 : dk me_X2_beginStateIfPrinted 26 (.arraylength) 1 27 := And.intro (by decide +kernel) rfl
theorem d_X2_beginStateIfPrinted_27 : dk me_X2_beginStateIfPrinted 27 (.if_icmp .lt 4) 3 30 := And.intro (by decide +kernel) rfl
theorem d_X2_beginStateIfPrinted_30 : dk me_X2_beginStateIfPrinted 30 (.return_) 1 31 := And.intro (by decide +kernel) rfl
theorem d_X2_beginStateIfPrinted_31 : dk me_X2_beginStateIfPrinted 31 (.aload_n 0) 1 32 := And.intro (by decide +kernel) rfl
theorem d_X2_beginStateIfPrinted_32 : dk me_X2_beginStateIfPrinted 32 (.getfield 38) 3 35 := And.intro (by decide +kernel) rfl
theorem d_X2_beginStateIfPrinted_35 : dk me_X2_beginStateIfPrinted 35 (.aload_n 0) 1 36 := And.intro (by decide +kernel) rfl
theorem d_X2_beginStateIfPrinted_36 : dk me_X2_beginStateIfPrinted 36 (.getfield 22) 3 39 := And.intro (by decide +kernel) rfl
theorem d_X2_beginStateIfPrinted_39 : dk me_X2_beginStateIfPrinted 39 (.aload_n 0) 1 40 := And.intro (by decide +kernel) rfl
theorem d_X2_beginStateIfPrinted_40 : dk me_X2_beginStateIfPrinted 40 (.getfield 47) 3 43 := And.intro (by decide +kernel) rfl
theorem d_X2_beginStateIfPrinted_43 : dk me_X2_beginStateIfPrinted 43 (.iastore) 1 44 := And.intro (by decide +kernel) rfl
theorem d_X2_beginStateIfPrinted_44 : dk me_X2_beginStateIfPrinted 44 (.aload_n 0) 1 45 := And.intro (by decide +kernel) rfl
theorem d_X2_beginStateIfPrinted_45 : dk me_X2_beginStateIfPrinted 45 (.getfield 31) 3 48 := And.intro (by decide +kernel) rfl
theorem d_X2_beginStateIfPrinted_48 : dk me_X2_beginStateIfPrinted 48 (.astore_n 1) 1 49 := And.intro (by decide +kernel) rfl
theorem d_X2_beginStateIfPrinted_49 : dk me_X2_beginStateIfPrinted 49 (.aload_n 1) 1 50 := And.intro (by decide +kernel) rfl
theorem d_X2_beginStateIfPrinted_50 : dk me_X2_beginStateIfPrinted 50 (.arraylength) 1 51 := And.intro (by decide +kernel) rfl
theorem d_X2_beginStateIfPrinted_51 : dk me_X2_beginStateIfPrinted 51 (.istore_n 2) 1 52 := And.intro (by decide +kernel) rfl
theorem d_X2_beginStateIfPrinted_52 : dk me_X2_beginStateIfPrinted 52 (.iconst 0) 1 53 := And.intro (by decide +kernel) rfl
theorem d_X2_beginStateIfPrinted_53 : dk me_X2_beginStateIfPrinted 53 (.istore_n 3) 1 54 := And.intro (by decide +kernel) rfl
theorem d_X2_beginStateIfPrinted_54 : dk me_X2_beginStateIfPrinted 54 (.iload_n 3) 1 55 := And.intro (by decide +kernel) rfl
theorem d_X2_beginStateIfPrinted_55 : dk me_X2_beginStateIfPrinted 55 (.iload_n 2) 1 56 := And.intro (by decide +kernel) rfl
theorem d_X2_beginStateIfPrinted_56 : dk me_X2_beginStateIfPrinted 56 (.if_icmp .ge 26) 3 59 := And.intro (by decide +kernel) rfl
theorem d_X2_beginStateIfPrinted_59 : dk me_X2_beginStateIfPrinted 59 (.aload_n 1) 1 60 := And.intro (by decide +kernel) rfl
theorem d_X2_beginStateIfPrinted_60 : dk me_X2_beginStateIfPrinted 60 (.iload_n 3) 1 61 := And.intro (by decide +kernel) rfl
theorem d_X2_beginStateIfPrinted_61 : dk me_X2_beginStateIfPrinted 61 (.aaload) 1 62 := And.intro (by decide +kernel) rfl
theorem d_X2_beginStateIfPrinted_62 : dk me_X2_beginStateIfPrinted 62 (.astore 4) 2 64 := And.intro (by decide +kernel) rfl
theorem d_X2_beginStateIfPrinted_64 : dk me_X2_beginStateIfPrinted 64 (.aload 4) 2 66 := And.intro (by decide +kernel) rfl
theorem d_X2_beginStateIfPrinted_66 : dk me_X2_beginStateIfPrinted 66 (.getfield 50) 3 69 := And.intro (by decide +kernel) rfl
theorem d_X2_beginStateIfPrinted_69 : dk me_X2_beginStateIfPrinted 69 (.aload_n 0) 1 70 := And.intro (by decide +kernel) rfl
theorem d_X2_beginStateIfPrinted_70 : dk me_X2_beginStateIfPrinted 70 (.getfield 22) 3 73 := And.intro (by decide +kernel) rfl
theorem d_X2_beginStateIfPrinted_73 : dk me_X2_beginStateIfPrinted 73 (.invokevirtual 54) 3 76 := And.intro (by decide +kernel) rfl
theorem d_X2_beginStateIfPrinted_76 : dk me_X2_beginStateIfPrinted 76 (.iinc 3 1) 3 79 := And.intro (by decide +kernel) rfl
theorem d_X2_beginStateIfPrinted_79 : dk me_X2_beginStateIfPrinted 79 (.goto (-25)) 3 82 := And.intro (by decide +kernel) rfl
theorem d_X2_beginStateIfPrinted_82 : dk me_X2_beginStateIfPrinted 82 (.aload_n 0) 1 83 := And.intro (by decide +kernel) rfl
theorem d_X2_beginStateIfPrinted_83 : dk me_X2_beginStateIfPrinted 83 (.dup) 1 84 := And.intro (by decide +kernel) rfl
theorem d_X2_beginStateIfPrinted_84 : dk me_X2_beginStateIfPrinted 84 (.getfield 22) 3 87 := And.intro (by decide +kernel) rfl
theorem d_X2_beginStateIfPrinted_87 : dk me_X2_beginStateIfPrinted 87 (.iconst 1) 1 88 := And.intro (by decide +kernel) rfl
theorem d_X2_beginStateIfPrinted_88 : dk me_X2_beginStateIfPrinted 88 (.iadd) 1 89 := And.intro (by decide +kernel) rfl
theorem d_X2_beginStateIfPrinted_89 : dk me_X2_beginStateIfPrinted 89 (.putfield 22) 3 92 := And.intro (by decide +kernel) rfl
theorem d_X2_beginStateIfPrinted_92 : dk me_X2_beginStateIfPrinted 92 (.return_) 1 93 := And.intro (by decide +kernel) rfl
theorem ms_X2_beginStateIfPrinted {fx : FX} {m : MM} {l0 : Nat} : MS fx me_X2_beginStateIfPrinted [aR (some (2, l0))] m (f_X2_beginStateIfPrinted m l0) := by
  refine ms_of rfl mf_X2_beginStateIfPrinted (b8 rfl) ?_
  refine s_top ?_
  show Sim fx me_X2_beginStateIfPrinted 0 [(0, aR (some (2, l0)))] [] m _
  unfold f_X2_beginStateIfPrinted
  have hj_X2_beginStateIfPrinted_0_82 : ∀ (m_82 : MM) (l0_82 : Nat), Sim fx me_X2_beginStateIfPrinted 82 [(0, aR (some (2, l0_82)))] [] m_82 ((j_X2_beginStateIfPrinted_0_82 m_82 l0_82).bind (fun z => some z)) := by
    intro m_82 l0_82
    unfold j_X2_beginStateIfPrinted_0_82
    refine s_aload_n d_X2_beginStateIfPrinted_82 m0_ (s_dup d_X2_beginStateIfPrinted_83 rfl (s_getN cf d_X2_beginStateIfPrinted_84 fl_X2_22 (s_iconst d_X2_beginStateIfPrinted_87 n_1 (s_iadd d_X2_beginStateIfPrinted_88 rfl rfl (s_ck ?_)))))
    exact s_putN cf d_X2_beginStateIfPrinted_89 fl_X2_22 (fun h => by cases h) fun m12 => (s_vret d_X2_beginStateIfPrinted_92 rfl rfl)
  refine s_aload_n d_X2_beginStateIfPrinted_0 m0_ (s_getN cf d_X2_beginStateIfPrinted_1 fl_X2_47 (s_aload_n d_X2_beginStateIfPrinted_4 m0_ (s_getR cf d_X2_beginStateIfPrinted_5 fl_X2_38 (s_nk fun i1 => (s_aload_n d_X2_beginStateIfPrinted_8 m0_ ?_)))))
  refine s_getN cf d_X2_beginStateIfPrinted_9 fl_X2_22 (s_iconst d_X2_beginStateIfPrinted_12 n_1 (s_isub d_X2_beginStateIfPrinted_13 rfl rfl (s_ldN d_X2_beginStateIfPrinted_14 ka_26 rfl fun v2 => (s_icmp_le (tgt := 30) d_X2_beginStateIfPrinted_15 rfl ?_ ?_))))
  · exact s_vret d_X2_beginStateIfPrinted_30 rfl rfl
  refine s_aload_n d_X2_beginStateIfPrinted_18 m0_ (s_getN cf d_X2_beginStateIfPrinted_19 fl_X2_22 (s_aload_n d_X2_beginStateIfPrinted_22 m0_ (s_getR cf d_X2_beginStateIfPrinted_23 fl_X2_38 (s_nk fun i3 => (s_len d_X2_beginStateIfPrinted_26 ka_26 ta_26 ?_)))))
  refine s_icmp_lt (tgt := 31) d_X2_beginStateIfPrinted_27 rfl ?_ ?_
  · refine s_aload_n d_X2_beginStateIfPrinted_31 m0_ (s_getR cf d_X2_beginStateIfPrinted_32 fl_X2_38 (s_nk fun i4 => (s_aload_n d_X2_beginStateIfPrinted_35 m0_ (s_getN cf d_X2_beginStateIfPrinted_36 fl_X2_22 (s_aload_n d_X2_beginStateIfPrinted_39 m0_ ?_)))))
    refine s_getN cf d_X2_beginStateIfPrinted_40 fl_X2_47 (s_stN d_X2_beginStateIfPrinted_43 ka_26 rfl fun m5 => (s_aload_n d_X2_beginStateIfPrinted_44 m0_ (s_getR cf d_X2_beginStateIfPrinted_45 fl_X2_31 (s_nk fun i6 => (s_astore_n (L' := [(1, aR (some (19, i6))), (0, aR (some (2, l0)))]) d_X2_beginStateIfPrinted_48 (b8 rfl) rfl ?_)))))
    refine s_aload_n d_X2_beginStateIfPrinted_49 m0_ (s_len d_X2_beginStateIfPrinted_50 ka_19 ta_19 (s_istore_n (L' := [(2, aI (lenI m5 19 i6)), (1, aR (some (19, i6))), (0, aR (some (2, l0)))]) d_X2_beginStateIfPrinted_51 (b8 rfl) rfl (s_iconst d_X2_beginStateIfPrinted_52 n_0 (s_istore_n (L' := [(3, aI 0), (2, aI (lenI m5 19 i6)), (1, aR (some (19, i6))), (0, aR (some (2, l0)))]) d_X2_beginStateIfPrinted_53 (b8 rfl) rfl (s_sub (subc m0_ (subc m3_ (subc m2_ (subc m1_ sub0)))) (s_lp2 (fun s => [(3, aI (s.1)), (0, aR (some (2, l0))), (1, aR (some (19, i6))), (2, aI (lenI m5 19 i6))]) (fun s => s.2) (0, m5) fun k54 hx54 s ih0 => ?_))))))
    obtain ⟨l3_54, mm_54⟩ := s
    have ih54 := ih0
    clear ih0
    try dsimp only
    unfold b_X2_beginStateIfPrinted_54
    refine s_iload_n d_X2_beginStateIfPrinted_54 m0_ (s_iload_n d_X2_beginStateIfPrinted_55 m3_ (s_icmp_ge (tgt := 82) d_X2_beginStateIfPrinted_56 rfl ?_ ?_))
    · exact s_exit (hx54 _) (s_sub (subc m1_ sub0) (hj_X2_beginStateIfPrinted_0_82 mm_54 l0))
    refine s_aload_n d_X2_beginStateIfPrinted_59 m2_ (s_iload_n d_X2_beginStateIfPrinted_60 m0_ (s_ldR d_X2_beginStateIfPrinted_61 ka_19 ta_19 rfl rfl fun r7 => (s_nk fun i8 => (s_astore (L' := [(4, aR (some (4, i8))), (3, aI l3_54), (0, aR (some (2, l0))), (1, aR (some (19, i6))), (2, aI (lenI m5 19 i6))]) d_X2_beginStateIfPrinted_62 (b8 rfl) rfl (s_aload d_X2_beginStateIfPrinted_64 m0_ ?_)))))
    refine s_getR cf d_X2_beginStateIfPrinted_66 fl_X2_50 (s_nk fun i9 => (s_aload_n d_X2_beginStateIfPrinted_69 m2_ (s_getN cf d_X2_beginStateIfPrinted_70 fl_X2_22 (s_cV (r_V d_X2_beginStateIfPrinted_73 k_X5_beginState w_1120 rfl rfl) ms_X5_beginState (b8 rfl) rfl rfl rfl (fun _ _ _ => rfl) (fun _ _ => Or.inl rfl) fun m10 => (s_iinc (L' := [(3, aI (l3_54 + 1)), (4, aR (some (4, i8))), (0, aR (some (2, l0))), (1, aR (some (19, i6))), (2, aI (lenI m5 19 i6))]) d_X2_beginStateIfPrinted_76 m1_ (b8 rfl) rfl ?_)))))
    exact s_goto (tgt := 54) d_X2_beginStateIfPrinted_79 rfl (s_sub (subc m0_ (subc m2_ (subc m3_ (subc m4_ sub0)))) (s_back (ih54 ((l3_54 + 1), m10))))
  exact s_vret d_X2_beginStateIfPrinted_30 rfl rfl
theorem d_X1_take_0 : dk me_X1_take 0 (.aload_n 0) 1 1 := And.intro (by decide +kernel) rfl
theorem d_X1_take_1 : dk me_X1_take 1 (.getfield 24) 3 4 := And.intro (by decide +kernel) rfl
theorem d_X1_take_4 : dk me_X1_take 4 (.iload_n 1) 1 5 := And.intro (by decide +kernel) rfl
theorem d_X1_take_5 : dk me_X1_take 5 (.iaload) 1 6 := And.intro (by decide +kernel) rfl
theorem d_X1_take_6 : dk me_X1_take 6 (.istore_n 3) 1 7 := And.intro (by decide +kernel) rfl
theorem d_X1_take_7 : dk me_X1_take 7 (.iload_n 3) 1 8 := And.intro (by decide +kernel) rfl
theorem d_X1_take_8 : dk me_X1_take 8 (.iconst (-1)) 1 9 := And.intro (by decide +kernel) rfl
theorem d_X1_take_9 : dk me_X1_take 9 (.if_icmp .eq 22) 3 12 := And.intro (by decide +kernel) rfl
theorem d_X1_take_12 : dk me_X1_take 12 (.aload_n 0) 1 13 := And.intro (by decide +kernel) rfl
theorem d_X1_take_13 : dk me_X1_take 13 (.getfield 24) 3 16 := And.intro (by decide +kernel) rfl
theorem d_X1_take_16 : dk me_X1_take 16 (.iload_n 1) 1 17 := And.intro (by decide +kernel) rfl
theorem d_X1_take_17 : dk me_X1_take 17 (.aload_n 0) 1 18 := And.intro (by decide +kernel) rfl
theorem d_X1_take_18 : dk me_X1_take 18 (.getfield 21) 3 21 := And.intro (by decide +kernel) rfl
theorem d_X1_take_21 : dk me_X1_take 21 (.iload_n 3) 1 22 := And.intro (by decide +kernel) rfl
theorem d_X1_take_22 : dk me_X1_take 22 (.iaload) 1 23 := And.intro (by decide +kernel) rfl
theorem d_X1_take_23 : dk me_X1_take 23 (.iastore) 1 24 := And.intro (by decide +kernel) rfl
theorem d_X1_take_24 : dk me_X1_take 24 (.aload_n 0) 1 25 := And.intro (by decide +kernel) rfl
theorem d_X1_take_25 : dk me_X1_take 25 (.getfield 18) 3 28 := And.intro (by decide +kernel) rfl
theorem d_X1_take_28 : dk me_X1_take 28 (.iload_n 3) 1 29 := And.intro (by decide +kernel) rfl
theorem d_X1_take_29 : dk me_X1_take 29 (.iload_n 2) 1 30 := And.intro (by decide +kernel) rfl
theorem d_X1_take_30 : dk me_X1_take 30 (.iastore) 1 31 := And.intro (by decide +kernel) rfl
theorem d_X1_take_31 : dk me_X1_take 31 (.iload_n 3) 1 32 := And.intro (by decide +kernel) rfl
theorem d_X1_take_32 : dk me_X1_take 32 (.ireturn) 1 33 := And.intro (by decide +kernel) rfl
theorem ms_X1_take {fx : FX} {m : MM} {l0 : Nat} {l1 : Int} {l2 : Int} : MS fx me_X1_take [aR (some (1, l0)), aI l1, aI l2] m (f_X1_take m l0 l1 l2) := by
  refine ms_of rfl mf_X1_take (b8 rfl) ?_
  refine s_top ?_
  show Sim fx me_X1_take 0 [(0, aR (some (1, l0))), (1, aI l1), (2, aI l2)] [] m _
  unfold f_X1_take
  refine s_aload_n d_X1_take_0 m0_ (s_getR cf d_X1_take_1 fl_X1_24 (s_nk fun i1 => (s_iload_n d_X1_take_4 m1_ (s_ldN d_X1_take_5 ka_24 rfl fun v2 => (s_istore_n (L' := [(3, aI v2), (0, aR (some (1, l0))), (1, aI l1), (2, aI l2)]) d_X1_take_6 (b8 rfl) rfl ?_)))))
  refine s_iload_n d_X1_take_7 m0_ (s_iconst d_X1_take_8 n_m1 (s_icmp_eq (tgt := 31) d_X1_take_9 rfl ?_ ?_))
  · exact s_iload_n d_X1_take_31 m0_ (s_iret d_X1_take_32 rfl rfl)
  refine s_aload_n d_X1_take_12 m1_ (s_getR cf d_X1_take_13 fl_X1_24 (s_nk fun i3 => (s_iload_n d_X1_take_16 m2_ (s_aload_n d_X1_take_17 m1_ (s_getR cf d_X1_take_18 fl_X1_21 ?_)))))
  refine s_nk fun i4 => (s_iload_n d_X1_take_21 m0_ (s_ldN d_X1_take_22 ka_23 rfl fun v5 => (s_stN d_X1_take_23 ka_24 rfl fun m6 => (s_aload_n d_X1_take_24 m1_ (s_getR cf d_X1_take_25 fl_X1_18 ?_)))))
  exact s_nk fun i7 => (s_iload_n d_X1_take_28 m0_ (s_iload_n d_X1_take_29 m3_ (s_stN d_X1_take_30 ka_22 rfl fun m8 => (s_iload_n d_X1_take_31 m0_ (s_iret d_X1_take_32 rfl rfl)))))
theorem d_X5_replace_0 : dk me_X5_replace 0 (.aload_n 3) 1 1 := And.intro (by decide +kernel) rfl
theorem d_X5_replace_1 : dk me_X5_replace 1 (.aload_n 0) 1 2 := And.intro (by decide +kernel) rfl
theorem d_X5_replace_2 : dk me_X5_replace 2 (.getfield 9) 3 5 := And.intro (by decide +kernel) rfl
theorem d_X5_replace_5 : dk me_X5_replace 5 (.iload_n 1) 1 6 := And.intro (by decide +kernel) rfl
theorem d_X5_replace_6 : dk me_X5_replace 6 (.iaload) 1 7 := And.intro (by decide +kernel) rfl
theorem d_X5_replace_7 : dk me_X5_replace 7 (.iload 4) 2 9 := And.intro (by decide +kernel) rfl
theorem d_X5_replace_9 : dk me_X5_replace 9 (.invokevirtual 31) 3 12 := And.intro (by decide +kernel) rfl
theorem d_X5_replace_12 : dk me_X5_replace 12 (.istore 5) 2 14 := And.intro (by decide +kernel) rfl
theorem d_X5_replace_14 : dk me_X5_replace 14 (.aload_n 0) 1 15 := And.intro (by decide +kernel) rfl
theorem d_X5_replace_15 : dk me_X5_replace 15 (.getfield 15) 3 18 := And.intro (by decide +kernel) rfl
theorem d_X5_replace_18 : dk me_X5_replace 18 (.iload_n 1) 1 19 := And.intro (by decide +kernel) rfl
theorem d_X5_replace_19 : dk me_X5_replace 19 (.iaload) 1 20 := And.intro (by decide +kernel) rfl
theorem d_X5_replace_20 : dk me_X5_replace 20 (.istore 6) 2 22 := And.intro (by decide +kernel) rfl
theorem d_X5_replace_22 : dk me_X5_replace 22 (.iload 5) 2 24 := And.intro (by decide +kernel) rfl
theorem d_X5_replace_24 : dk me_X5_replace 24 (.iconst (-1)) 1 25 := And.intro (by decide +kernel) rfl
theorem d_X5_replace_25 : dk me_X5_replace 25 (.if_icmp .ne 4) 3 28 := And.intro (by decide +kernel) rfl
theorem d_X5_replace_28 : dk me_X5_replace 28 (.return_) 1 29 := And.intro (by decide +kernel) rfl
theorem d_X5_replace_29 : dk me_X5_replace 29 (.iload 6) 2 31 := And.intro (by decide +kernel) rfl
theorem d_X5_replace_31 : dk me_X5_replace 31 (.iconst (-1)) 1 32 := And.intro (by decide +kernel) rfl
theorem d_X5_replace_32 : dk me_X5_replace 32 (.if_icmp .eq 16) 3 35 := And.intro (by decide +kernel) rfl
theorem d_X5_replace_35 : dk me_X5_replace 35 (.aload_n 3) 1 36 := And.intro (by decide +kernel) rfl
theorem d_X5_replace_36 : dk me_X5_replace 36 (.aload_n 3) 1 37 := And.intro (by decide +kernel) rfl
theorem d_X5_replace_37 : dk me_X5_replace 37 (.getfield 44) 3 40 := And.intro (by decide +kernel) rfl
theorem d_X5_replace_40 : dk me_X5_replace 40 (.iload 6) 2 42 := And.intro (by decide +kernel) rfl
theorem d_X5_replace_42 : dk me_X5_replace 42 (.iaload) 1 43 := And.intro (by decide +kernel) rfl
theorem d_X5_replace_43 : dk me_X5_replace 43 (.iload 6) 2 45 := And.intro (by decide +kernel) rfl
theorem d_X5_replace_45 : dk me_X5_replace 45 (.invokevirtual 53) 3 48 := And.intro (by decide +kernel) rfl
theorem d_X5_replace_48 : dk me_X5_replace 48 (.aload_n 0) 1 49 := And.intro (by decide +kernel) rfl
theorem d_X5_replace_49 : dk me_X5_replace 49 (.getfield 15) 3 52 := And.intro (by decide +kernel) rfl
theorem d_X5_replace_52 : dk me_X5_replace 52 (.iload_n 1) 1 53 := And.intro (by decide +kernel) rfl
theorem d_X5_replace_53 : dk me_X5_replace 53 (.iload 5) 2 55 := And.intro (by decide +kernel) rfl
theorem d_X5_replace_55 : dk me_X5_replace 55 (.iastore) 1 56 := And.intro (by decide +kernel) rfl
theorem d_X5_replace_56 : dk me_X5_replace 56 (.aload_n 0) 1 57 := And.intro (by decide +kernel) rfl
theorem d_X5_replace_57 : dk me_X5_replace 57 (.getfield 18) 3 60 := And.intro (by decide +kernel) rfl
theorem d_X5_replace_60 : dk me_X5_replace 60 (.iload_n 1) 1 61 := And.intro (by decide +kernel) rfl
theorem d_X5_replace_61 : dk me_X5_replace 61 (.iconst 0) 1 62 := And.intro (by decide +kernel) rfl
theorem d_X5_replace_62 : dk me_X5_replace 62 (.bastore) 1 63 := And.intro (by decide +kernel) rfl
theorem d_X5_replace_63 : dk me_X5_replace 63 (.aload_n 0) 1 64 := And.intro (by decide +kernel) rfl
theorem d_X5_replace_64 : dk me_X5_replace 64 (.getfield 24) 3 67 := And.intro (by decide +kernel) rfl
theorem d_X5_replace_67 : dk me_X5_replace 67 (.iload_n 2) 1 68 := And.intro (by decide +kernel) rfl
theorem d_X5_replace_68 : dk me_X5_replace 68 (.aaload) 1 69 := And.intro (by decide +kernel) rfl
theorem d_X5_replace_69 : dk me_X5_replace 69 (.iload_n 1) 1 70 := And.intro (by decide +kernel) rfl
theorem d_X5_replace_70 : dk me_X5_replace 70 (.aload_n 3) 1 71 := And.intro (by decide +kernel) rfl
theorem d_X5_replace_71 : dk me_X5_replace 71 (.getfield 44) 3 74 := And.intro (by decide +kernel) rfl
theorem d_X5_replace_74 : dk me_X5_replace 74 (.iload 5) 2 76 := And.intro (by decide +kernel) rfl
theorem d_X5_replace_76 : dk me_X5_replace 76 (.iaload) 1 77 := And.intro (by decide +kernel) rfl
theorem d_X5_replace_77 : dk me_X5_replace 77 (.iastore) 1 78 := And.intro (by decide +kernel) rfl
theorem d_X5_replace_78 : dk me_X5_replace 78 (.return_) 1 79 := And.intro (by decide +kernel) rfl
theorem ms_X5_replace {fx : FX} {m : MM} {l0 : Nat} {l1 : Int} {l2 : Int} {l3 : Nat} {l4 : Int} : MS fx me_X5_replace [aR (some (5, l0)), aI l1, aI l2, aR (some (1, l3)), aI l4] m (f_X5_replace m l0 l1 l2 l3 l4) := by
  refine ms_of rfl mf_X5_replace (b8 rfl) ?_
  refine s_top ?_
  show Sim fx me_X5_replace 0 [(0, aR (some (5, l0))), (1, aI l1), (2, aI l2), (3, aR (some (1, l3))), (4, aI l4)] [] m _
  unfold f_X5_replace
  have hj_X5_replace_0_48 : ∀ (m_48 : MM) (l0_48 : Nat) (l1_48 : Int) (l2_48 : Int) (l3_48 : Nat) (l5_48 : Int), Sim fx me_X5_replace 48 [(0, aR (some (5, l0_48))), (1, aI l1_48), (2, aI l2_48), (3, aR (some (1, l3_48))), (5, aI l5_48)] [] m_48 ((j_X5_replace_0_48 m_48 l0_48 l1_48 l2_48 l3_48 l5_48).bind (fun z => some z)) := by
    intro m_48 l0_48 l1_48 l2_48 l3_48 l5_48
    unfold j_X5_replace_0_48
    refine s_aload_n d_X5_replace_48 m0_ (s_getR cf d_X5_replace_49 fl_X5_15 (s_nk fun i11 => (s_iload_n d_X5_replace_52 m1_ (s_iload d_X5_replace_53 m4_ (s_stN d_X5_replace_55 ka_35 rfl fun m12 => ?_)))))
    refine s_aload_n d_X5_replace_56 m0_ (s_getR cf d_X5_replace_57 fl_X5_18 (s_nk fun i13 => (s_iload_n d_X5_replace_60 m1_ (s_iconst d_X5_replace_61 n_0 (s_stBl d_X5_replace_62 ka_36 rfl (by decide) fun m14 => ?_)))))
    refine s_aload_n d_X5_replace_63 m0_ (s_getR cf d_X5_replace_64 fl_X5_24 (s_nk fun i15 => (s_iload_n d_X5_replace_67 m2_ (s_ldR d_X5_replace_68 ka_37 ta_37 rfl rfl fun r16 => (s_nk fun i17 => ?_)))))
    refine s_iload_n d_X5_replace_69 m1_ (s_aload_n d_X5_replace_70 m3_ (s_getR cf d_X5_replace_71 fl_X5_44 (s_nk fun i18 => (s_iload d_X5_replace_74 m4_ (s_ldN d_X5_replace_76 ka_20 rfl fun v19 => ?_)))))
    exact s_stN d_X5_replace_77 ka_38 rfl fun m20 => (s_vret d_X5_replace_78 rfl rfl)
  refine s_aload_n d_X5_replace_0 m3_ (s_aload_n d_X5_replace_1 m0_ (s_getR cf d_X5_replace_2 fl_X5_9 (s_nk fun i1 => (s_iload_n d_X5_replace_5 m1_ (s_ldN d_X5_replace_6 ka_34 rfl fun v2 => ?_)))))
  refine s_iload d_X5_replace_7 m4_ (s_cI (r_V d_X5_replace_9 k_X1_take w_966 rfl rfl) ms_X1_take (b8 rfl) rfl rfl rfl (fun _ _ _ => rfl) (fun _ _ => Or.inl rfl) fun v4 m3 => (s_istore (L' := [(5, aI v4), (0, aR (some (5, l0))), (1, aI l1), (2, aI l2), (3, aR (some (1, l3))), (4, aI l4)]) d_X5_replace_12 (b8 rfl) rfl (s_aload_n d_X5_replace_14 m1_ (s_getR cf d_X5_replace_15 fl_X5_15 (s_nk fun i5 => ?_)))))
  refine s_iload_n d_X5_replace_18 m2_ (s_ldN d_X5_replace_19 ka_35 rfl fun v6 => (s_istore (L' := [(6, aI v6), (5, aI v4), (0, aR (some (5, l0))), (1, aI l1), (2, aI l2), (3, aR (some (1, l3))), (4, aI l4)]) d_X5_replace_20 (b8 rfl) rfl (s_iload d_X5_replace_22 m1_ (s_iconst d_X5_replace_24 n_m1 (s_icmp_ne (tgt := 29) d_X5_replace_25 rfl ?_ ?_)))))
  · refine s_iload d_X5_replace_29 m0_ (s_iconst d_X5_replace_31 n_m1 (s_icmp_eq (tgt := 48) d_X5_replace_32 rfl ?_ ?_))
    · exact s_sub (subc m2_ (subc m3_ (subc m4_ (subc m5_ (subc m1_ sub0))))) (hj_X5_replace_0_48 m3 l0 l1 l2 l3 v4)
    refine s_aload_n d_X5_replace_35 m5_ (s_aload_n d_X5_replace_36 m5_ (s_getR cf d_X5_replace_37 fl_X5_44 (s_nk fun i7 => (s_iload d_X5_replace_40 m0_ (s_ldN d_X5_replace_42 ka_20 rfl fun v8 => ?_)))))
    exact s_iload d_X5_replace_43 m0_ (s_cV (r_V d_X5_replace_45 k_X1_putOn w_1131 rfl rfl) ms_X1_putOn (b8 rfl) rfl rfl rfl (fun _ _ _ => rfl) (fun _ _ => Or.inl rfl) fun m9 => (s_sub (subc m2_ (subc m3_ (subc m4_ (subc m5_ (subc m1_ sub0))))) (hj_X5_replace_0_48 m9 l0 l1 l2 l3 v4)))
  exact s_vret d_X5_replace_28 rfl rfl
theorem d_X11_correct_0 : dk me_X11_correct 0 (.aload_n 0) 1 1 := And.intro (by decide +kernel) rfl
theorem d_X11_correct_1 : dk me_X11_correct 1 (.iload_n 1) 1 2 := And.intro (by decide +kernel) rfl
theorem d_X11_correct_2 : dk me_X11_correct 2 (.invokevirtual 143) 3 5 := And.intro (by decide +kernel) rfl
theorem d_X11_correct_5 : dk me_X11_correct 5 (.astore 4) 2 7 := And.intro (by decide +kernel) rfl
theorem d_X11_correct_7 : dk me_X11_correct 7 (.aload 4) 2 9 := And.intro (by decide +kernel) rfl
theorem d_X11_correct_9 : dk me_X11_correct 9 (.iload_n 2) 1 10 := And.intro (by decide +kernel) rfl
theorem d_X11_correct_10 : dk me_X11_correct 10 (.invokestatic 192) 3 13 := And.intro (by decide +kernel) rfl
theorem d_X11_correct_13 : dk me_X11_correct 13 (.getfield 222) 3 16 := And.intro (by decide +kernel) rfl
theorem d_X11_correct_16 : dk me_X11_correct 16 (.astore 5) 2 18 := And.intro (by decide +kernel) rfl
theorem d_X11_correct_18 : dk me_X11_correct 18 (.iload_n 3) 1 19 := And.intro (by decide +kernel) rfl
theorem d_X11_correct_19 : dk me_X11_correct 19 (.ifCond .lt 16) 3 22 := And.intro (by decide +kernel) rfl
theorem d_X11_correct_22 : dk me_X11_correct 22 (.iload_n 3) 1 23 := And.intro (by decide +kernel) rfl
theorem d_X11_correct_23 : dk me_X11_correct 23 (.aload 5) 2 25 := And.intro (by decide +kernel) rfl
theorem d_X11_correct_25 : dk me_X11_correct 25 (.getfield 226) 3 28 := And.intro (by decide +kernel) rfl
theorem d_X11_correct_28 : dk me_X11_correct 28 (.if_icmp .ge 7) 3 31 := And.intro (by decide +kernel) rfl
theorem d_X11_correct_31 : dk me_X11_correct 31 (.iconst 1) 1 32 := And.intro (by decide +kernel) rfl
theorem d_X11_correct_32 : dk me_X11_correct 32 (.goto 4) 3 35 := And.intro (by decide +kernel) rfl
theorem d_X11_correct_35 : dk me_X11_correct 35 (.iconst 0) 1 36 := And.intro (by decide +kernel) rfl
theorem d_X11_correct_36 : dk me_X11_correct 36 (.invokestatic 115) 3 39 := And.intro (by decide +kernel) rfl
theorem d_X11_correct_39 : dk me_X11_correct 39 (.aload 4) 2 41 := And.intro (by decide +kernel) rfl
theorem d_X11_correct_41 : dk me_X11_correct 41 (.getfield 338) 3 44 := And.intro (by decide +kernel) rfl
theorem d_X11_correct_44 : dk me_X11_correct 44 (.aload 4) 2 46 := And.intro (by decide +kernel) rfl
theorem d_X11_correct_46 : dk me_X11_correct 46 (.iload_n 2) 1 47 := And.intro (by decide +kernel) rfl
theorem d_X11_correct_47 : dk me_X11_correct 47 (.invokevirtual 229) 3 50 := And.intro (by decide +kernel) rfl
theorem d_X11_correct_50 : dk me_X11_correct 50 (.aaload) 1 51 := And.intro (by decide +kernel) rfl
theorem d_X11_correct_51 : dk me_X11_correct 51 (.astore 6) 2 53 := And.intro (by decide +kernel) rfl
theorem d_X11_correct_53 : dk me_X11_correct 53 (.aload 6) 2 55 := And.intro (by decide +kernel) rfl
theorem d_X11_correct_55 : dk me_X11_correct 55 (.getfield 273) 3 58 := And.intro (by decide +kernel) rfl
theorem d_X11_correct_58 : dk me_X11_correct 58 (.iconst 1) 1 59 := And.intro (by decide +kernel) rfl
theorem d_X11_correct_59 : dk me_X11_correct 59 (.if_icmp .eq 12) 3 62 := And.intro (by decide +kernel) rfl
theorem d_X11_correct_62 : dk me_X11_correct 62 (.aload 6) 2 64 := And.intro (by decide +kernel) rfl
theorem d_X11_correct_64 : dk me_X11_correct 64 (.getfield 273) 3 67 := And.intro (by decide +kernel) rfl
theorem d_X11_correct_67 : dk me_X11_correct 67 (.iconst 2) 1 68 := And.intro (by decide +kernel) rfl
theorem d_X11_correct_68 : dk me_X11_correct 68 (.if_icmp .ne 7) 3 71 := And.intro (by decide +kernel) rfl
theorem d_X11_correct_71 : dk me_X11_correct 71 (.iconst 1) 1 72 := And.intro (by decide +kernel) rfl
theorem d_X11_correct_72 : dk me_X11_correct 72 (.goto 4) 3 75 := And.intro (by decide +kernel) rfl
theorem d_X11_correct_75 : dk me_X11_correct 75 (.iconst 0) 1 76 := And.intro (by decide +kernel) rfl
theorem d_X11_correct_76 : dk me_X11_correct 76 (.invokestatic 69) 3 79 := And.intro (by decide +kernel) rfl
theorem d_X11_correct_79 : dk me_X11_correct 79 (.aload_n 0) 1 80 := And.intro (by decide +kernel) rfl
theorem d_X11_correct_80 : dk me_X11_correct 80 (.getfield 19) 3 83 := And.intro (by decide +kernel) rfl
theorem d_X11_correct_83 : dk me_X11_correct 83 (.getfield 342) 3 86 := And.intro (by decide +kernel) rfl
theorem d_X11_correct_86 : dk me_X11_correct 86 (.aload 5) 2 88 := And.intro (by decide +kernel) rfl
theorem d_X11_correct_88 : dk me_X11_correct 88 (.getfield 263) 3 91 := And.intro (by decide +kernel) rfl
theorem d_X11_correct_91 : dk me_X11_correct 91 (.iload_n 3) 1 92 := And.intro (by decide +kernel) rfl
theorem d_X11_correct_92 : dk me_X11_correct 92 (.iaload) 1 93 := And.intro (by decide +kernel) rfl
theorem d_X11_correct_93 : dk me_X11_correct 93 (.iaload) 1 94 := And.intro (by decide +kernel) rfl
theorem d_X11_correct_94 : dk me_X11_correct 94 (.iconst (-1)) 1 95 := And.intro (by decide +kernel) rfl
theorem d_X11_correct_95 : dk me_X11_correct 95 (.if_icmp .eq 7) 3 98 := And.intro (by decide +kernel) rfl
theorem d_X11_correct_98 : dk me_X11_correct 98 (.iconst 1) 1 99 := And.intro (by decide +kernel) rfl
theorem d_X11_correct_99 : dk me_X11_correct 99 (.goto 4) 3 102 := And.intro (by decide +kernel) rfl
theorem d_X11_correct_102 : dk me_X11_correct 102 (.iconst 0) 1 103 := And.intro (by decide +kernel) rfl
theorem d_X11_correct_103 : dk me_X11_correct 103 (.invokestatic 69) 3 106 := And.intro (by decide +kernel) rfl
theorem d_X11_correct_106 : dk me_X11_correct 106 (.aload 6) 2 108 := And.intro (by decide +kernel) rfl
theorem d_X11_correct_108 : dk me_X11_correct 108 (.invokevirtual 345) 3 111 := And.intro (by decide +kernel) rfl
theorem d_X11_correct_111 : dk me_X11_correct 111 (.aload 5) 2 113 := And.intro (by decide +kernel) rfl
theorem d_X11_correct_113 : dk me_X11_correct 113 (.iload_n 3) 1 114 := And.intro (by decide +kernel) rfl
theorem d_X11_correct_114 : dk me_X11_correct 114 (.aload 6) 2 116 := And.intro (by decide +kernel) rfl
theorem d_X11_correct_116 : dk me_X11_correct 116 (.getfield 332) 3 119 := And.intro (by decide +kernel) rfl
theorem d_X11_correct_119 : dk me_X11_correct 119 (.iconst 1) 1 120 := And.intro (by decide +kernel) rfl
theorem d_X11_correct_120 : dk me_X11_correct 120 (.isub) 1 121 := And.intro (by decide +kernel) rfl
theorem d_X11_correct_121 : dk me_X11_correct 121 (.aload_n 0) 1 122 := And.intro (by decide +kernel) rfl
theorem d_X11_correct_122 : dk me_X11_correct 122 (.getfield 19) 3 125 := And.intro (by decide +kernel) rfl
theorem d_X11_correct_125 : dk me_X11_correct 125 (.bipush 100) 2 127 := And.intro (by decide +kernel) rfl
theorem d_X11_correct_127 : dk me_X11_correct 127 (.bipush 100) 2 129 := And.intro (by decide +kernel) rfl
theorem d_X11_correct_129 : dk me_X11_correct 129 (.iload_n 1) 1 130 := And.intro (by decide +kernel) rfl
theorem d_X11_correct_130 : dk me_X11_correct 130 (.imul) 1 131 := And.intro (by decide +kernel) rfl
theorem d_X11_correct_131 : dk me_X11_correct 131 (.iadd) 1 132 := And.intro (by decide +kernel) rfl
theorem d_X11_correct_132 : dk me_X11_correct 132 (.iload_n 2) 1 133 := And.intro (by decide +kernel) rfl
theorem d_X11_correct_133 : dk me_X11_correct 133 (.iadd) 1 134 := And.intro (by decide +kernel) rfl
theorem d_X11_correct_134 : dk me_X11_correct 134 (.invokevirtual 348) 3 137 := And.intro (by decide +kernel) rfl
theorem d_X11_correct_137 : dk me_X11_correct 137 (.aload 6) 2 139 := And.intro (by decide +kernel) rfl
theorem d_X11_correct_139 : dk me_X11_correct 139 (.getfield 332) 3 142 := And.intro (by decide +kernel) rfl
theorem d_X11_correct_142 : dk me_X11_correct 142 (.iconst 1) 1 143 := And.intro (by decide +kernel) rfl
theorem d_X11_correct_143 : dk me_X11_correct 143 (.isub) 1 144 := And.intro (by decide +kernel) rfl
theorem d_X11_correct_144 : dk me_X11_correct 144 (.ireturn) 1 145 := And.intro (by decide +kernel) rfl
theorem ms_X11_correct {fx : FX} {m : MM} {l0 : Nat} {l1 : Int} {l2 : Int} {l3 : Int} : MS fx me_X11_correct [aR (some (11, l0)), aI l1, aI l2, aI l3] m (f_X11_correct m l0 l1 l2 l3) := by
  refine ms_of rfl mf_X11_correct (b8 rfl) ?_
  refine s_top ?_
  show Sim fx me_X11_correct 0 [(0, aR (some (11, l0))), (1, aI l1), (2, aI l2), (3, aI l3)] [] m _
  unfold f_X11_correct
  have hj_X11_correct_0_103 : ∀ (m_103 : MM) (l0_103 : Nat) (l1_103 : Int) (l2_103 : Int) (l3_103 : Int) (l5_103 : Nat) (l6_103 : Nat) (s0_103 : Int), Sim fx me_X11_correct 103 [(0, aR (some (11, l0_103))), (1, aI l1_103), (2, aI l2_103), (3, aI l3_103), (5, aR (some (5, l5_103))), (6, aR (some (2, l6_103)))] [aI s0_103] m_103 ((j_X11_correct_0_103 m_103 l0_103 l1_103 l2_103 l3_103 l5_103 l6_103 s0_103).bind (fun z => some z)) := by
    intro m_103 l0_103 l1_103 l2_103 l3_103 l5_103 l6_103 s0_103
    unfold j_X11_correct_0_103
    refine s_cV (r_S d_X11_correct_103 k_X11_requireState w_363 rfl rfl) ms_X11_requireState (b8 rfl) rfl rfl rfl (fun h => by cases h) (fun _ _ => Or.inr rfl) fun m21 => (s_aload d_X11_correct_106 m5_ (s_cV (r_V d_X11_correct_108 k_X2_beginStateIfPrinted w_1116 rfl rfl) ms_X2_beginStateIfPrinted (b8 rfl) rfl rfl rfl (fun _ _ _ => rfl) (fun _ _ => Or.inl rfl) fun m23 => (s_aload d_X11_correct_111 m4_ (s_iload_n d_X11_correct_113 m3_ (s_aload d_X11_correct_114 m5_ ?_)))))
    refine s_getN cf d_X11_correct_116 fl_X11_332 (s_iconst d_X11_correct_119 n_1 (s_isub d_X11_correct_120 rfl rfl (s_aload_n d_X11_correct_121 m0_ (s_getR cf d_X11_correct_122 fl_X11_19 (s_nk fun i25 => ?_)))))
    refine s_bipush d_X11_correct_125 n_100 rfl (s_bipush d_X11_correct_127 n_100 rfl (s_iload_n d_X11_correct_129 m1_ (s_imul d_X11_correct_130 rfl rfl (s_iadd d_X11_correct_131 rfl rfl (s_iload_n d_X11_correct_132 m2_ ?_)))))
    refine s_iadd d_X11_correct_133 rfl rfl (s_ck2 (s_ck (s_cV (r_V d_X11_correct_134 k_X5_replace w_1127 rfl rfl) ms_X5_replace (b8 rfl) rfl rfl rfl (fun _ _ _ => rfl) (fun _ _ => Or.inl rfl) fun m26 => (s_aload d_X11_correct_137 m5_ (s_getN cf d_X11_correct_139 fl_X11_332 ?_)))))
    exact s_iconst d_X11_correct_142 n_1 (s_isub d_X11_correct_143 rfl rfl (s_ck (s_iret d_X11_correct_144 rfl rfl)))
  have hj_X11_correct_0_76 : ∀ (m_76 : MM) (l0_76 : Nat) (l1_76 : Int) (l2_76 : Int) (l3_76 : Int) (l5_76 : Nat) (l6_76 : Nat) (s0_76 : Int), Sim fx me_X11_correct 76 [(0, aR (some (11, l0_76))), (1, aI l1_76), (2, aI l2_76), (3, aI l3_76), (5, aR (some (5, l5_76))), (6, aR (some (2, l6_76)))] [aI s0_76] m_76 ((j_X11_correct_0_76 m_76 l0_76 l1_76 l2_76 l3_76 l5_76 l6_76 s0_76).bind (fun z => some z)) := by
    intro m_76 l0_76 l1_76 l2_76 l3_76 l5_76 l6_76 s0_76
    unfold j_X11_correct_0_76
    refine s_cV (r_S d_X11_correct_76 k_X11_requireState w_363 rfl rfl) ms_X11_requireState (b8 rfl) rfl rfl rfl (fun h => by cases h) (fun _ _ => Or.inr rfl) fun m14 => (s_aload_n d_X11_correct_79 m0_ (s_getR cf d_X11_correct_80 fl_X11_19 (s_nk fun i16 => (s_getR cf d_X11_correct_83 fl_X11_342 (s_nk fun i17 => ?_)))))
    refine s_aload d_X11_correct_86 m4_ (s_getR cf d_X11_correct_88 fl_X11_263 (s_nk fun i18 => (s_iload_n d_X11_correct_91 m3_ (s_ldN d_X11_correct_92 ka_34 rfl fun v19 => (s_ldN d_X11_correct_93 ka_24 rfl fun v20 => ?_)))))
    refine s_iconst d_X11_correct_94 n_m1 (s_icmp_eq (tgt := 102) d_X11_correct_95 rfl ?_ ?_)
    · exact s_iconst d_X11_correct_102 n_0 (s_sub (subc m0_ (subc m1_ (subc m2_ (subc m3_ (subc m4_ (subc m5_ sub0)))))) (hj_X11_correct_0_103 m14 l0_76 l1_76 l2_76 l3_76 l5_76 l6_76 0))
    exact s_iconst d_X11_correct_98 n_1 (s_goto (tgt := 103) d_X11_correct_99 rfl (s_sub (subc m0_ (subc m1_ (subc m2_ (subc m3_ (subc m4_ (subc m5_ sub0)))))) (hj_X11_correct_0_103 m14 l0_76 l1_76 l2_76 l3_76 l5_76 l6_76 1)))
  have hj_X11_correct_0_71 : ∀ (m_71 : MM) (l0_71 : Nat) (l1_71 : Int) (l2_71 : Int) (l3_71 : Int) (l5_71 : Nat) (l6_71 : Nat), Sim fx me_X11_correct 71 [(0, aR (some (11, l0_71))), (1, aI l1_71), (2, aI l2_71), (3, aI l3_71), (5, aR (some (5, l5_71))), (6, aR (some (2, l6_71)))] [] m_71 ((j_X11_correct_0_71 m_71 l0_71 l1_71 l2_71 l3_71 l5_71 l6_71).bind (fun z => some z)) := by
    intro m_71 l0_71 l1_71 l2_71 l3_71 l5_71 l6_71
    unfold j_X11_correct_0_71
    exact s_iconst d_X11_correct_71 n_1 (s_goto (tgt := 76) d_X11_correct_72 rfl (s_sub (subc m0_ (subc m1_ (subc m2_ (subc m3_ (subc m4_ (subc m5_ sub0)))))) (hj_X11_correct_0_76 m_71 l0_71 l1_71 l2_71 l3_71 l5_71 l6_71 1)))
  have hj_X11_correct_0_36 : ∀ (m_36 : MM) (l0_36 : Nat) (l1_36 : Int) (l2_36 : Int) (l3_36 : Int) (l4_36 : Nat) (l5_36 : Nat) (s0_36 : Int), Sim fx me_X11_correct 36 [(0, aR (some (11, l0_36))), (1, aI l1_36), (2, aI l2_36), (3, aI l3_36), (4, aR (some (0, l4_36))), (5, aR (some (5, l5_36)))] [aI s0_36] m_36 ((j_X11_correct_0_36 m_36 l0_36 l1_36 l2_36 l3_36 l4_36 l5_36 s0_36).bind (fun z => some z)) := by
    intro m_36 l0_36 l1_36 l2_36 l3_36 l4_36 l5_36 s0_36
    unfold j_X11_correct_0_36
    refine s_cV (r_S d_X11_correct_36 k_X11_requireIndex w_451 rfl rfl) ms_X11_requireIndex (b8 rfl) rfl rfl rfl (fun h => by cases h) (fun _ _ => Or.inr rfl) fun m8 => (s_aload d_X11_correct_39 m4_ (s_getR cf d_X11_correct_41 fl_X11_338 (s_nk fun i10 => (s_aload d_X11_correct_44 m4_ (s_iload_n d_X11_correct_46 m2_ ?_)))))
    refine s_pI (r_V d_X11_correct_47 k_X0_formeNumber w_980 rfl rfl) ms_X0_formeNumber (b8 rfl) rfl rfl rfl fun v11 => (s_ldR d_X11_correct_50 ka_14 ta_14 rfl rfl fun r12 => (s_nk fun i13 => (s_astore (L' := [(6, aR (some (2, i13))), (0, aR (some (11, l0_36))), (1, aI l1_36), (2, aI l2_36), (3, aI l3_36), (4, aR (some (0, l4_36))), (5, aR (some (5, l5_36)))]) d_X11_correct_51 (b8 rfl) rfl (s_aload d_X11_correct_53 m0_ (s_getN cf d_X11_correct_55 fl_X11_273 ?_)))))
    refine s_iconst d_X11_correct_58 n_1 (s_icmp_eq (tgt := 71) d_X11_correct_59 rfl ?_ ?_)
    · exact s_sub (subc m1_ (subc m2_ (subc m3_ (subc m4_ (subc m6_ (subc m0_ sub0)))))) (hj_X11_correct_0_71 m8 l0_36 l1_36 l2_36 l3_36 l5_36 i13)
    refine s_aload d_X11_correct_62 m0_ (s_getN cf d_X11_correct_64 fl_X11_273 (s_iconst d_X11_correct_67 n_2 (s_icmp_ne (tgt := 75) d_X11_correct_68 rfl ?_ ?_)))
    · exact s_iconst d_X11_correct_75 n_0 (s_sub (subc m1_ (subc m2_ (subc m3_ (subc m4_ (subc m6_ (subc m0_ sub0)))))) (hj_X11_correct_0_76 m8 l0_36 l1_36 l2_36 l3_36 l5_36 i13 0))
    exact s_sub (subc m1_ (subc m2_ (subc m3_ (subc m4_ (subc m6_ (subc m0_ sub0)))))) (hj_X11_correct_0_71 m8 l0_36 l1_36 l2_36 l3_36 l5_36 i13)
  have hj_X11_correct_0_35 : ∀ (m_35 : MM) (l0_35 : Nat) (l1_35 : Int) (l2_35 : Int) (l3_35 : Int) (l4_35 : Nat) (l5_35 : Nat), Sim fx me_X11_correct 35 [(0, aR (some (11, l0_35))), (1, aI l1_35), (2, aI l2_35), (3, aI l3_35), (4, aR (some (0, l4_35))), (5, aR (some (5, l5_35)))] [] m_35 ((j_X11_correct_0_35 m_35 l0_35 l1_35 l2_35 l3_35 l4_35 l5_35).bind (fun z => some z)) := by
    intro m_35 l0_35 l1_35 l2_35 l3_35 l4_35 l5_35
    unfold j_X11_correct_0_35
    exact s_iconst d_X11_correct_35 n_0 (s_sub (subc m0_ (subc m1_ (subc m2_ (subc m3_ (subc m4_ (subc m5_ sub0)))))) (hj_X11_correct_0_36 m_35 l0_35 l1_35 l2_35 l3_35 l4_35 l5_35 0))
  refine s_aload_n d_X11_correct_0 m0_ (s_iload_n d_X11_correct_1 m1_ (s_cR (r_V d_X11_correct_2 k_X11_bookAt w_814 rfl rfl) ms_X11_bookAt (b8 rfl) rfl rfl rfl (fun h => by cases h) (fun _ _ => Or.inr rfl) fun r2 m1 => (s_nk fun i3 => (s_astore (L' := [(4, aR (some (0, i3))), (0, aR (some (11, l0))), (1, aI l1), (2, aI l2), (3, aI l3)]) d_X11_correct_5 (b8 rfl) rfl (s_aload d_X11_correct_7 m0_ ?_)))))
  refine s_iload_n d_X11_correct_9 m3_ (s_cR (r_S d_X11_correct_10 k_X11_pageOf w_884 rfl rfl) ms_X11_pageOf (b8 rfl) rfl rfl rfl (fun h => by cases h) (fun _ _ => Or.inr rfl) fun r5 m4 => (s_nk fun i6 => (s_getR cf d_X11_correct_13 fl_X11_222 (s_nk fun i7 => (s_astore (L' := [(5, aR (some (5, i7))), (4, aR (some (0, i3))), (0, aR (some (11, l0))), (1, aI l1), (2, aI l2), (3, aI l3)]) d_X11_correct_16 (b8 rfl) rfl ?_)))))
  refine s_iload_n d_X11_correct_18 m5_ (s_if_lt (tgt := 35) d_X11_correct_19 rfl ?_ ?_)
  · exact s_sub (subc m2_ (subc m3_ (subc m4_ (subc m5_ (subc m1_ (subc m0_ sub0)))))) (hj_X11_correct_0_35 m4 l0 l1 l2 l3 i3 i7)
  refine s_iload_n d_X11_correct_22 m5_ (s_aload d_X11_correct_23 m0_ (s_getN cf d_X11_correct_25 fl_X11_226 (s_icmp_ge (tgt := 35) d_X11_correct_28 rfl ?_ ?_)))
  · exact s_sub (subc m2_ (subc m3_ (subc m4_ (subc m5_ (subc m1_ (subc m0_ sub0)))))) (hj_X11_correct_0_35 m4 l0 l1 l2 l3 i3 i7)
  exact s_iconst d_X11_correct_31 n_1 (s_goto (tgt := 36) d_X11_correct_32 rfl (s_sub (subc m2_ (subc m3_ (subc m4_ (subc m5_ (subc m1_ (subc m0_ sub0)))))) (hj_X11_correct_0_36 m4 l0 l1 l2 l3 i3 i7 1)))
theorem d_L_correct_0 : dk me_L_correct 0 (.aload 4) 2 2 := And.intro (by decide +kernel) rfl
theorem d_L_correct_2 : dk me_L_correct 2 (.iconst 0) 1 3 := And.intro (by decide +kernel) rfl
theorem d_L_correct_3 : dk me_L_correct 3 (.aload_n 0) 1 4 := And.intro (by decide +kernel) rfl
theorem d_L_correct_4 : dk me_L_correct 4 (.iload_n 1) 1 5 := And.intro (by decide +kernel) rfl
theorem d_L_correct_5 : dk me_L_correct 5 (.iload_n 2) 1 6 := And.intro (by decide +kernel) rfl
theorem d_L_correct_6 : dk me_L_correct 6 (.iload_n 3) 1 7 := And.intro (by decide +kernel) rfl
theorem d_L_correct_7 : dk me_L_correct 7 (.invokevirtual 83) 3 10 := And.intro (by decide +kernel) rfl
theorem d_L_correct_10 : dk me_L_correct 10 (.i2l) 1 11 := And.intro (by decide +kernel) rfl
theorem d_L_correct_11 : dk me_L_correct 11 (.lastore) 1 12 := And.intro (by decide +kernel) rfl
theorem d_L_correct_12 : dk me_L_correct 12 (.goto 11) 3 15 := And.intro (by decide +kernel) rfl
theorem d_L_correct_15 : dk me_L_correct 15 (.astore 5) 2 17 := And.intro (by decide +kernel) rfl
theorem d_L_correct_17 : dk me_L_correct 17 (.iconst 1) 1 18 := And.intro (by decide +kernel) rfl
theorem d_L_correct_18 : dk me_L_correct 18 (.ireturn) 1 19 := And.intro (by decide +kernel) rfl
theorem d_L_correct_19 : dk me_L_correct 19 (.astore 5) 2 21 := And.intro (by decide +kernel) rfl
theorem d_L_correct_21 : dk me_L_correct 21 (.iconst 2) 1 22 := And.intro (by decide +kernel) rfl
theorem d_L_correct_22 : dk me_L_correct 22 (.ireturn) 1 23 := And.intro (by decide +kernel) rfl
theorem d_L_correct_23 : dk me_L_correct 23 (.iconst 0) 1 24 := And.intro (by decide +kernel) rfl
theorem d_L_correct_24 : dk me_L_correct 24 (.ireturn) 1 25 := And.intro (by decide +kernel) rfl
theorem ms_L_correct {fx : FX} {m : MM} {l0 : Nat} {l1 : Int} {l2 : Int} {l3 : Int} {l4 : Nat} : MS fx me_L_correct [aR (some (11, l0)), aI l1, aI l2, aI l3, aR (some (131, l4))] m (f_L_correct m l0 l1 l2 l3 l4) := by
  refine ms_ofH rfl mf_L_correct (b8 rfl) ?_
  refine s_top ?_
  show Sim fx me_L_correct 0 [(0, aR (some (11, l0))), (1, aI l1), (2, aI l2), (3, aI l3), (4, aR (some (131, l4)))] [] m _
  unfold f_L_correct
  refine s_aload d_L_correct_0 m4_ (s_iconst d_L_correct_2 n_0 (s_aload_n d_L_correct_3 m0_ (s_iload_n d_L_correct_4 m1_ (s_iload_n d_L_correct_5 m2_ (s_iload_n d_L_correct_6 m3_ ?_)))))
  refine s_cIC (r_V d_L_correct_7 k_X11_correct w_1112 rfl rfl) ms_X11_correct (b8 rfl) rfl rfl ?_ ?_ ?_ fun v2 m1 => ?_
  · refine fun mx => Or.inr ⟨15, ⟨rfl, by decide, 0, wx_29_0, Or.inl ⟨rfl, rfl⟩⟩, fun qx => ?_⟩
    exact s_astoreV (L' := [(5, aV (.ref qx)), (0, aR (some (11, l0))), (1, aI l1), (2, aI l2), (3, aI l3), (4, aR (some (131, l4)))]) d_L_correct_15 (b8 rfl) rfl (s_iconst d_L_correct_17 n_1 (s_iret d_L_correct_18 rfl rfl))
  · exact fun _ => Or.inl rfl
  · refine fun mx => Or.inr ⟨19, ⟨rfl, by decide, 0, wx_29_0, Or.inr ⟨by decide, ⟨rfl, by decide, 2, wx_15_2, Or.inl ⟨rfl, rfl⟩⟩⟩⟩, fun qx => ?_⟩
    exact s_astoreV (L' := [(5, aV (.ref qx)), (0, aR (some (11, l0))), (1, aI l1), (2, aI l2), (3, aI l3), (4, aR (some (131, l4)))]) d_L_correct_19 (b8 rfl) rfl (s_iconst d_L_correct_21 n_2 (s_iret d_L_correct_22 rfl rfl))
  exact s_i2l d_L_correct_10 (s_stL d_L_correct_11 ka_131 rfl fun m3 => (s_goto (tgt := 23) d_L_correct_12 rfl (s_iconst d_L_correct_23 n_0 (s_iret d_L_correct_24 rfl rfl))))
theorem d_X11_exchange_0 : dk me_X11_exchange 0 (.aload_n 0) 1 1 := And.intro (by decide +kernel) rfl
theorem d_X11_exchange_1 : dk me_X11_exchange 1 (.iload_n 1) 1 2 := And.intro (by decide +kernel) rfl
theorem d_X11_exchange_2 : dk me_X11_exchange 2 (.invokevirtual 143) 3 5 := And.intro (by decide +kernel) rfl
theorem d_X11_exchange_5 : dk me_X11_exchange 5 (.astore 5) 2 7 := And.intro (by decide +kernel) rfl
theorem d_X11_exchange_7 : dk me_X11_exchange 7 (.aload 5) 2 9 := And.intro (by decide +kernel) rfl
theorem d_X11_exchange_9 : dk me_X11_exchange 9 (.iload_n 2) 1 10 := And.intro (by decide +kernel) rfl
theorem d_X11_exchange_10 : dk me_X11_exchange 10 (.invokevirtual 369) 3 13 := And.intro (by decide +kernel) rfl
theorem d_X11_exchange_13 : dk me_X11_exchange 13 (.ifCond .eq 26) 3 16 := And.intro (by decide +kernel) rfl
theorem d_X11_exchange_16 : dk me_X11_exchange 16 (.aload 5) 2 18 := And.intro (by decide +kernel) rfl
theorem d_X11_exchange_18 : dk me_X11_exchange 18 (.iload_n 3) 1 19 := And.intro (by decide +kernel) rfl
theorem d_X11_exchange_19 : dk me_X11_exchange 19 (.invokevirtual 369) 3 22 := And.intro (by decide +kernel) rfl
theorem d_X11_exchange_22 : dk me_X11_exchange 22 (.ifCond .eq 17) 3 25 := And.intro (by decide +kernel) rfl
theorem d_X11_exchange_25 : dk me_X11_exchange 25 (.aload 5) 2 27 := And.intro (by decide +kernel) rfl
theorem d_X11_exchange_27 : dk me_X11_exchange 27 (.iload 4) 2 29 := And.intro (by decide +kernel) rfl
theorem d_X11_exchange_29 : dk me_X11_exchange 29 (.invokevirtual 372) 3 32 := And.intro (by decide +kernel) rfl
theorem d_X11_exchange_32 : dk me_X11_exchange 32 (.ifCond .eq 7) 3 35 := And.intro (by decide +kernel) rfl
theorem d_X11_exchange_35 : dk me_X11_exchange 35 (.iconst 1) 1 36 := And.intro (by decide +kernel) rfl
theorem d_X11_exchange_36 : dk me_X11_exchange 36 (.goto 4) 3 39 := And.intro (by decide +kernel) rfl
theorem d_X11_exchange_39 : dk me_X11_exchange 39 (.iconst 0) 1 40 := And.intro (by decide +kernel) rfl
theorem d_X11_exchange_40 : dk me_X11_exchange 40 (.invokestatic 115) 3 43 := And.intro (by decide +kernel) rfl
theorem d_X11_exchange_43 : dk me_X11_exchange 43 (.aload 5) 2 45 := And.intro (by decide +kernel) rfl
theorem d_X11_exchange_45 : dk me_X11_exchange 45 (.getfield 357) 3 48 := And.intro (by decide +kernel) rfl
theorem d_X11_exchange_48 : dk me_X11_exchange 48 (.invokestatic 69) 3 51 := And.intro (by decide +kernel) rfl
theorem d_X11_exchange_51 : dk me_X11_exchange 51 (.aload 5) 2 53 := And.intro (by decide +kernel) rfl
theorem d_X11_exchange_53 : dk me_X11_exchange 53 (.getfield 375) 3 56 := And.intro (by decide +kernel) rfl
theorem d_X11_exchange_56 : dk me_X11_exchange 56 (.iload_n 2) 1 57 := And.intro (by decide +kernel) rfl
theorem d_X11_exchange_57 : dk me_X11_exchange 57 (.aaload) 1 58 := And.intro (by decide +kernel) rfl
theorem d_X11_exchange_58 : dk me_X11_exchange 58 (.iload 4) 2 60 := And.intro (by decide +kernel) rfl
theorem d_X11_exchange_60 : dk me_X11_exchange 60 (.iaload) 1 61 := And.intro (by decide +kernel) rfl
theorem d_X11_exchange_61 : dk me_X11_exchange 61 (.istore 6) 2 63 := And.intro (by decide +kernel) rfl
theorem d_X11_exchange_63 : dk me_X11_exchange 63 (.aload 5) 2 65 := And.intro (by decide +kernel) rfl
theorem d_X11_exchange_65 : dk me_X11_exchange 65 (.getfield 375) 3 68 := And.intro (by decide +kernel) rfl
theorem d_X11_exchange_68 : dk me_X11_exchange 68 (.iload_n 2) 1 69 := And.intro (by decide +kernel) rfl
theorem d_X11_exchange_69 : dk me_X11_exchange 69 (.aaload) 1 70 := And.intro (by decide +kernel) rfl
theorem d_X11_exchange_70 : dk me_X11_exchange 70 (.iload 4) 2 72 := And.intro (by decide +kernel) rfl
theorem d_X11_exchange_72 : dk me_X11_exchange 72 (.aload 5) 2 74 := And.intro (by decide +kernel) rfl
theorem d_X11_exchange_74 : dk me_X11_exchange 74 (.getfield 375) 3 77 := And.intro (by decide +kernel) rfl
theorem d_X11_exchange_77 : dk me_X11_exchange 77 (.iload_n 3) 1 78 := And.intro (by decide +kernel) rfl
theorem d_X11_exchange_78 : dk me_X11_exchange 78 (.aaload) 1 79 := And.intro (by decide +kernel) rfl
theorem d_X11_exchange_79 : dk me_X11_exchange 79 (.iload 4) 2 81 := And.intro (by decide +kernel) rfl
theorem d_X11_exchange_81 : dk me_X11_exchange 81 (.iaload) 1 82 := And.intro (by decide +kernel) rfl
theorem d_X11_exchange_82 : dk me_X11_exchange 82 (.iastore) 1 83 := And.intro (by decide +kernel) rfl
theorem d_X11_exchange_83 : dk me_X11_exchange 83 (.aload 5) 2 85 := And.intro (by decide +kernel) rfl
theorem d_X11_exchange_85 : dk me_X11_exchange 85 (.getfield 375) 3 88 := And.intro (by decide +kernel) rfl
theorem d_X11_exchange_88 : dk me_X11_exchange 88 (.iload_n 3) 1 89 := And.intro (by decide +kernel) rfl
theorem d_X11_exchange_89 : dk me_X11_exchange 89 (.aaload) 1 90 := And.intro (by decide +kernel) rfl
theorem d_X11_exchange_90 : dk me_X11_exchange 90 (.iload 4) 2 92 := And.intro (by decide +kernel) rfl
theorem d_X11_exchange_92 : dk me_X11_exchange 92 (.iload 6) 2 94 := And.intro (by decide +kernel) rfl
theorem d_X11_exchange_94 : dk me_X11_exchange 94 (.iastore) 1 95 := And.intro (by decide +kernel) rfl
theorem d_X11_exchange_95 : dk me_X11_exchange 95 (.return_) 1 96 := And.intro (by decide +kernel) rfl
theorem ms_X11_exchange {fx : FX} {m : MM} {l0 : Nat} {l1 : Int} {l2 : Int} {l3 : Int} {l4 : Int} : MS fx me_X11_exchange [aR (some (11, l0)), aI l1, aI l2, aI l3, aI l4] m (f_X11_exchange m l0 l1 l2 l3 l4) := by
  refine ms_of rfl mf_X11_exchange (b8 rfl) ?_
  refine s_top ?_
  show Sim fx me_X11_exchange 0 [(0, aR (some (11, l0))), (1, aI l1), (2, aI l2), (3, aI l3), (4, aI l4)] [] m _
  unfold f_X11_exchange
  have hj_X11_exchange_0_40 : ∀ (m_40 : MM) (l2_40 : Int) (l3_40 : Int) (l4_40 : Int) (l5_40 : Nat) (s0_40 : Int), Sim fx me_X11_exchange 40 [(2, aI l2_40), (3, aI l3_40), (4, aI l4_40), (5, aR (some (0, l5_40)))] [aI s0_40] m_40 ((j_X11_exchange_0_40 m_40 l2_40 l3_40 l4_40 l5_40 s0_40).bind (fun z => some z)) := by
    intro m_40 l2_40 l3_40 l4_40 l5_40 s0_40
    unfold j_X11_exchange_0_40
    refine s_cV (r_S d_X11_exchange_40 k_X11_requireIndex w_451 rfl rfl) ms_X11_requireIndex (b8 rfl) rfl rfl rfl (fun h => by cases h) (fun _ _ => Or.inr rfl) fun m7 => (s_aload d_X11_exchange_43 m3_ (s_getB cf d_X11_exchange_45 fl_X11_357 (s_cV (r_S d_X11_exchange_48 k_X11_requireState w_363 rfl rfl) ms_X11_requireState (b8 rfl) rfl rfl rfl (fun h => by cases h) (fun _ _ => Or.inr rfl) fun m9 => (s_aload d_X11_exchange_51 m3_ (s_getR cf d_X11_exchange_53 fl_X11_375 ?_)))))
    refine s_nk fun i11 => (s_iload_n d_X11_exchange_56 m0_ (s_ldR d_X11_exchange_57 ka_17 ta_17 rfl rfl fun r12 => (s_nk fun i13 => (s_iload d_X11_exchange_58 m2_ (s_ldN d_X11_exchange_60 ka_18 rfl fun v14 => ?_)))))
    refine s_istore (L' := [(6, aI v14), (2, aI l2_40), (3, aI l3_40), (4, aI l4_40), (5, aR (some (0, l5_40)))]) d_X11_exchange_61 (b8 rfl) rfl (s_aload d_X11_exchange_63 m4_ (s_getR cf d_X11_exchange_65 fl_X11_375 (s_nk fun i15 => (s_iload_n d_X11_exchange_68 m1_ (s_ldR d_X11_exchange_69 ka_17 ta_17 rfl rfl fun r16 => ?_)))))
    refine s_nk fun i17 => (s_iload d_X11_exchange_70 m3_ (s_aload d_X11_exchange_72 m4_ (s_getR cf d_X11_exchange_74 fl_X11_375 (s_nk fun i18 => (s_iload_n d_X11_exchange_77 m2_ ?_)))))
    refine s_ldR d_X11_exchange_78 ka_17 ta_17 rfl rfl fun r19 => (s_nk fun i20 => (s_iload d_X11_exchange_79 m3_ (s_ldN d_X11_exchange_81 ka_18 rfl fun v21 => (s_stN d_X11_exchange_82 ka_18 rfl fun m22 => (s_aload d_X11_exchange_83 m4_ ?_)))))
    refine s_getR cf d_X11_exchange_85 fl_X11_375 (s_nk fun i23 => (s_iload_n d_X11_exchange_88 m2_ (s_ldR d_X11_exchange_89 ka_17 ta_17 rfl rfl fun r24 => (s_nk fun i25 => (s_iload d_X11_exchange_90 m3_ ?_)))))
    exact s_iload d_X11_exchange_92 m0_ (s_stN d_X11_exchange_94 ka_18 rfl fun m26 => (s_vret d_X11_exchange_95 rfl rfl))
  have hj_X11_exchange_0_39 : ∀ (m_39 : MM) (l2_39 : Int) (l3_39 : Int) (l4_39 : Int) (l5_39 : Nat), Sim fx me_X11_exchange 39 [(2, aI l2_39), (3, aI l3_39), (4, aI l4_39), (5, aR (some (0, l5_39)))] [] m_39 ((j_X11_exchange_0_39 m_39 l2_39 l3_39 l4_39 l5_39).bind (fun z => some z)) := by
    intro m_39 l2_39 l3_39 l4_39 l5_39
    unfold j_X11_exchange_0_39
    exact s_iconst d_X11_exchange_39 n_0 (s_sub (subc m0_ (subc m1_ (subc m2_ (subc m3_ sub0)))) (hj_X11_exchange_0_40 m_39 l2_39 l3_39 l4_39 l5_39 0))
  refine s_aload_n d_X11_exchange_0 m0_ (s_iload_n d_X11_exchange_1 m1_ (s_cR (r_V d_X11_exchange_2 k_X11_bookAt w_814 rfl rfl) ms_X11_bookAt (b8 rfl) rfl rfl rfl (fun h => by cases h) (fun _ _ => Or.inr rfl) fun r2 m1 => (s_nk fun i3 => (s_astore (L' := [(5, aR (some (0, i3))), (0, aR (some (11, l0))), (1, aI l1), (2, aI l2), (3, aI l3), (4, aI l4)]) d_X11_exchange_5 (b8 rfl) rfl (s_aload d_X11_exchange_7 m0_ ?_)))))
  refine s_iload_n d_X11_exchange_9 m3_ (s_pI (r_V d_X11_exchange_10 k_X0_hasCopy w_1187 rfl rfl) ms_X0_hasCopy (b8 rfl) rfl rfl rfl fun v4 => (s_if_eq (tgt := 39) d_X11_exchange_13 rfl ?_ ?_))
  · exact s_sub (subc m3_ (subc m4_ (subc m5_ (subc m0_ sub0)))) (hj_X11_exchange_0_39 m1 l2 l3 l4 i3)
  refine s_aload d_X11_exchange_16 m0_ (s_iload_n d_X11_exchange_18 m4_ (s_pI (r_V d_X11_exchange_19 k_X0_hasCopy w_1187 rfl rfl) ms_X0_hasCopy (b8 rfl) rfl rfl rfl fun v5 => (s_if_eq (tgt := 39) d_X11_exchange_22 rfl ?_ ?_)))
  · exact s_sub (subc m3_ (subc m4_ (subc m5_ (subc m0_ sub0)))) (hj_X11_exchange_0_39 m1 l2 l3 l4 i3)
  refine s_aload d_X11_exchange_25 m0_ (s_iload d_X11_exchange_27 m5_ (s_pI (r_V d_X11_exchange_29 k_X0_hasLeaf w_1191 rfl rfl) ms_X0_hasLeaf (b8 rfl) rfl rfl rfl fun v6 => (s_if_eq (tgt := 39) d_X11_exchange_32 rfl ?_ ?_)))
  · exact s_sub (subc m3_ (subc m4_ (subc m5_ (subc m0_ sub0)))) (hj_X11_exchange_0_39 m1 l2 l3 l4 i3)
  exact s_iconst d_X11_exchange_35 n_1 (s_goto (tgt := 40) d_X11_exchange_36 rfl (s_sub (subc m3_ (subc m4_ (subc m5_ (subc m0_ sub0)))) (hj_X11_exchange_0_40 m1 l2 l3 l4 i3 1)))
theorem d_L_exchange_0 : dk me_L_exchange 0 (.aload_n 0) 1 1 := And.intro (by decide +kernel) rfl
theorem d_L_exchange_1 : dk me_L_exchange 1 (.iload_n 1) 1 2 := And.intro (by decide +kernel) rfl
theorem d_L_exchange_2 : dk me_L_exchange 2 (.iload_n 2) 1 3 := And.intro (by decide +kernel) rfl
theorem d_L_exchange_3 : dk me_L_exchange 3 (.iload_n 3) 1 4 := And.intro (by decide +kernel) rfl
theorem d_L_exchange_4 : dk me_L_exchange 4 (.iload 4) 2 6 := And.intro (by decide +kernel) rfl
theorem d_L_exchange_6 : dk me_L_exchange 6 (.invokevirtual 98) 3 9 := And.intro (by decide +kernel) rfl
theorem d_L_exchange_9 : dk me_L_exchange 9 (.goto 11) 3 12 := And.intro (by decide +kernel) rfl
theorem d_L_exchange_12 : dk me_L_exchange 12 (.astore 5) 2 14 := And.intro (by decide +kernel) rfl
theorem d_L_exchange_14 : dk me_L_exchange 14 (.iconst 1) 1 15 := And.intro (by decide +kernel) rfl
theorem d_L_exchange_15 : dk me_L_exchange 15 (.ireturn) 1 16 := And.intro (by decide +kernel) rfl
theorem d_L_exchange_16 : dk me_L_exchange 16 (.astore 5) 2 18 := And.intro (by decide +kernel) rfl
theorem d_L_exchange_18 : dk me_L_exchange 18 (.iconst 2) 1 19 := And.intro (by decide +kernel) rfl
theorem d_L_exchange_19 : dk me_L_exchange 19 (.ireturn) 1 20 := And.intro (by decide +kernel) rfl
theorem d_L_exchange_20 : dk me_L_exchange 20 (.iconst 0) 1 21 := And.intro (by decide +kernel) rfl
theorem d_L_exchange_21 : dk me_L_exchange 21 (.ireturn) 1 22 := And.intro (by decide +kernel) rfl
theorem ms_L_exchange {fx : FX} {m : MM} {l0 : Nat} {l1 : Int} {l2 : Int} {l3 : Int} {l4 : Int} : MS fx me_L_exchange [aR (some (11, l0)), aI l1, aI l2, aI l3, aI l4] m (f_L_exchange m l0 l1 l2 l3 l4) := by
  refine ms_ofH rfl mf_L_exchange (b8 rfl) ?_
  refine s_top ?_
  show Sim fx me_L_exchange 0 [(0, aR (some (11, l0))), (1, aI l1), (2, aI l2), (3, aI l3), (4, aI l4)] [] m _
  unfold f_L_exchange
  refine s_aload_n d_L_exchange_0 m0_ (s_iload_n d_L_exchange_1 m1_ (s_iload_n d_L_exchange_2 m2_ (s_iload_n d_L_exchange_3 m3_ (s_iload d_L_exchange_4 m4_ (s_cVC (r_V d_L_exchange_6 k_X11_exchange w_1183 rfl rfl) ms_X11_exchange (b8 rfl) rfl rfl ?_ ?_ ?_ fun m1 => ?_)))))
  · refine fun mx => Or.inr ⟨12, ⟨rfl, by decide, 0, wx_29_0, Or.inl ⟨rfl, rfl⟩⟩, fun qx => ?_⟩
    exact s_astoreV (L' := [(5, aV (.ref qx)), (0, aR (some (11, l0))), (1, aI l1), (2, aI l2), (3, aI l3), (4, aI l4)]) d_L_exchange_12 (b8 rfl) rfl (s_iconst d_L_exchange_14 n_1 (s_iret d_L_exchange_15 rfl rfl))
  · exact fun _ => Or.inl rfl
  · refine fun mx => Or.inr ⟨16, ⟨rfl, by decide, 0, wx_29_0, Or.inr ⟨by decide, ⟨rfl, by decide, 2, wx_15_2, Or.inl ⟨rfl, rfl⟩⟩⟩⟩, fun qx => ?_⟩
    exact s_astoreV (L' := [(5, aV (.ref qx)), (0, aR (some (11, l0))), (1, aI l1), (2, aI l2), (3, aI l3), (4, aI l4)]) d_L_exchange_16 (b8 rfl) rfl (s_iconst d_L_exchange_18 n_2 (s_iret d_L_exchange_19 rfl rfl))
  exact s_goto (tgt := 20) d_L_exchange_9 rfl (s_iconst d_L_exchange_20 n_0 (s_iret d_L_exchange_21 rfl rfl))
theorem d_X0_wordsOnPages_0 : dk me_X0_wordsOnPages 0 (.iconst 0) 1 1 := And.intro (by decide +kernel) rfl
theorem d_X0_wordsOnPages_1 : dk me_X0_wordsOnPages 1 (.istore_n 1) 1 2 := And.intro (by decide +kernel) rfl
theorem d_X0_wordsOnPages_2 : dk me_X0_wordsOnPages 2 (.aload_n 0) 1 3 := And.intro (by decide +kernel) rfl
theorem d_X0_wordsOnPages_3 : dk me_X0_wordsOnPages 3 (.getfield 33) 3 6 := And.intro (by decide +kernel) rfl
theorem d_X0_wordsOnPages_6 : dk me_X0_wordsOnPages 6 (.astore_n 2) 1 7 := And.intro (by decide +kernel) rfl
theorem d_X0_wordsOnPages_7 : dk me_X0_wordsOnPages 7 (.aload_n 2) 1 8 := And.intro (by decide +kernel) rfl
theorem d_X0_wordsOnPages_8 : dk me_X0_wordsOnPages 8 (.arraylength) 1 9 := And.intro (by decide +kernel) rfl
theorem d_X0_wordsOnPages_9 : dk me_X0_wordsOnPages 9 (.istore_n 3) 1 10 := And.intro (by decide +kernel) rfl
theorem d_X0_wordsOnPages_10 : dk me_X0_wordsOnPages 10 (.iconst 0) 1 11 := And.intro (by decide +kernel) rfl
theorem d_X0_wordsOnPages_11 : dk me_X0_wordsOnPages 11 (.istore 4) 2 13 := And.intro (by decide +kernel) rfl
theorem d_X0_wordsOnPages_13 : dk me_X0_wordsOnPages 13 (.iload 4) 2 15 := And.intro (by decide +kernel) rfl
theorem d_X0_wordsOnPages_15 : dk me_X0_wordsOnPages 15 (.iload_n 3) 1 16 := And.intro (by decide +kernel) rfl
theorem d_X0_wordsOnPages_16 : dk me_X0_wordsOnPages 16 (.if_icmp .ge 23) 3 19 := And.intro (by decide +kernel) rfl
theorem d_X0_wordsOnPages_19 : dk me_X0_wordsOnPages 19 (.aload_n 2) 1 20 := And.intro (by decide +kernel) rfl
theorem d_X0_wordsOnPages_20 : dk me_X0_wordsOnPages 20 (.iload 4) 2 22 := And.intro (by decide +kernel) rfl
theorem d_X0_wordsOnPages_22 : dk me_X0_wordsOnPages 22 (.aaload) 1 23 := And.intro (by decide +kernel) rfl
theorem d_X0_wordsOnPages_23 : dk me_X0_wordsOnPages 23 (.astore 5) 2 25 := And.intro (by decide +kernel) rfl
theorem d_X0_wordsOnPages_25 : dk me_X0_wordsOnPages 25 (.iload_n 1) 1 26 := And.intro (by decide +kernel) rfl
theorem d_X0_wordsOnPages_26 : dk me_X0_wordsOnPages 26 (.aload 5) 2 28 := And.intro (by decide +kernel) rfl
theorem d_X0_wordsOnPages_28 : dk me_X0_wordsOnPages 28 (.getfield 89) 3 31 := And.intro (by decide +kernel) rfl
theorem d_X0_wordsOnPages_31 : dk me_X0_wordsOnPages 31 (.iadd) 1 32 := And.intro (by decide +kernel) rfl
theorem d_X0_wordsOnPages_32 : dk me_X0_wordsOnPages 32 (.istore_n 1) 1 33 := And.intro (by decide +kernel) rfl
theorem d_X0_wordsOnPages_33 : dk me_X0_wordsOnPages 33 (.iinc 4 1) 3 36 := And.intro (by decide +kernel) rfl
theorem d_X0_wordsOnPages_36 : dk me_X0_wordsOnPages 36 (.goto (-23)) 3 39 := And.intro (by decide +kernel) rfl
theorem d_X0_wordsOnPages_39 : dk me_X0_wordsOnPages 39 (.iload_n 1) 1 40 := And.intro (by decide +kernel) rfl
theorem d_X0_wordsOnPages_40 : dk me_X0_wordsOnPages 40 (.ireturn) 1 41 := And.intro (by decide +kernel) rfl
theorem ms_X0_wordsOnPages {fx : FX} {m : MM} {l0 : Nat} : MS fx me_X0_wordsOnPages [aR (some (0, l0))] m ((f_X0_wordsOnPages m l0).bind fun v => some (.inl (some (aI v)), m)) := by
  refine ms_of rfl mf_X0_wordsOnPages (b8 rfl) ?_
  show Sim fx me_X0_wordsOnPages 0 [(0, aR (some (0, l0)))] [] m _
  unfold f_X0_wordsOnPages
  have hj_X0_wordsOnPages_0_39 : ∀ (l1_39 : Int), Sim fx me_X0_wordsOnPages 39 [(1, aI l1_39)] [] m ((j_X0_wordsOnPages_0_39 m l1_39).bind (fun v => some (.inl (some (aI v)), m))) := by
    intro l1_39
    unfold j_X0_wordsOnPages_0_39
    exact s_iload_n d_X0_wordsOnPages_39 m0_ (s_iret d_X0_wordsOnPages_40 rfl rfl)
  refine s_iconst d_X0_wordsOnPages_0 n_0 (s_istore_n (L' := [(1, aI 0), (0, aR (some (0, l0)))]) d_X0_wordsOnPages_1 (b8 rfl) rfl (s_aload_n d_X0_wordsOnPages_2 m1_ (s_getR cf d_X0_wordsOnPages_3 fl_X0_33 (s_nk fun i1 => (s_astore_n (L' := [(2, aR (some (13, i1))), (1, aI 0), (0, aR (some (0, l0)))]) d_X0_wordsOnPages_6 (b8 rfl) rfl ?_)))))
  refine s_aload_n d_X0_wordsOnPages_7 m0_ (s_len d_X0_wordsOnPages_8 ka_13 ta_13 (s_istore_n (L' := [(3, aI (lenI m 13 i1)), (2, aR (some (13, i1))), (1, aI 0), (0, aR (some (0, l0)))]) d_X0_wordsOnPages_9 (b8 rfl) rfl (s_iconst d_X0_wordsOnPages_10 n_0 (s_istore (L' := [(4, aI 0), (3, aI (lenI m 13 i1)), (2, aR (some (13, i1))), (1, aI 0), (0, aR (some (0, l0)))]) d_X0_wordsOnPages_11 (b8 rfl) rfl (s_sub (subc m3_ (subc m0_ (subc m2_ (subc m1_ sub0)))) (s_lp2 (fun s => [(1, aI (s.1)), (4, aI (s.2)), (2, aR (some (13, i1))), (3, aI (lenI m 13 i1))]) (fun s => m) (0, 0) fun k13 hx13 s ih0 => ?_))))))
  obtain ⟨l1_13, l4_13⟩ := s
  have ih13 := ih0
  clear ih0
  try dsimp only
  unfold b_X0_wordsOnPages_13
  refine s_iload d_X0_wordsOnPages_13 m1_ (s_iload_n d_X0_wordsOnPages_15 m3_ (s_icmp_ge (tgt := 39) d_X0_wordsOnPages_16 rfl ?_ ?_))
  · exact s_exit (hx13 _) (s_sub (subc m0_ sub0) (hj_X0_wordsOnPages_0_39 l1_13))
  refine s_aload_n d_X0_wordsOnPages_19 m2_ (s_iload d_X0_wordsOnPages_20 m1_ (s_ldR d_X0_wordsOnPages_22 ka_13 ta_13 rfl rfl fun r2 => (s_nk fun i3 => (s_astore (L' := [(5, aR (some (4, i3))), (1, aI l1_13), (4, aI l4_13), (2, aR (some (13, i1))), (3, aI (lenI m 13 i1))]) d_X0_wordsOnPages_23 (b8 rfl) rfl (s_iload_n d_X0_wordsOnPages_25 m1_ ?_)))))
  refine s_aload d_X0_wordsOnPages_26 m0_ (s_getN cf d_X0_wordsOnPages_28 fl_X0_89 (s_iadd d_X0_wordsOnPages_31 rfl rfl (s_ck (s_istore_n (L' := [(1, aI (l1_13 + (gN m 4 i3 10))), (5, aR (some (4, i3))), (4, aI l4_13), (2, aR (some (13, i1))), (3, aI (lenI m 13 i1))]) d_X0_wordsOnPages_32 (b8 rfl) rfl (s_iinc (L' := [(4, aI (l4_13 + 1)), (1, aI (l1_13 + (gN m 4 i3 10))), (5, aR (some (4, i3))), (2, aR (some (13, i1))), (3, aI (lenI m 13 i1))]) d_X0_wordsOnPages_33 m2_ (b8 rfl) rfl ?_)))))
  exact s_goto (tgt := 13) d_X0_wordsOnPages_36 rfl (s_sub (subc m1_ (subc m0_ (subc m3_ (subc m4_ sub0)))) (s_back (ih13 ((l1_13 + (gN m 4 i3 10)), (l4_13 + 1)))))
theorem d_X9_form_0 : dk me_X9_form 0 (.iload_n 2) 1 1 := And.intro (by decide +kernel) rfl
theorem d_X9_form_1 : dk me_X9_form 1 (.ifCond .eq 12) 3 4 := And.intro (by decide +kernel) rfl
theorem d_X9_form_4 : dk me_X9_form 4 (.aload_n 0) 1 5 := And.intro (by decide +kernel) rfl
theorem d_X9_form_5 : dk me_X9_form 5 (.getfield 18) 3 8 := And.intro (by decide +kernel) rfl
theorem d_X9_form_8 : dk me_X9_form 8 (.iload_n 1) 1 9 := And.intro (by decide +kernel) rfl
theorem d_X9_form_9 : dk me_X9_form 9 (.laload) 1 10 := And.intro (by decide +kernel) rfl
theorem d_X9_form_10 : dk me_X9_form 10 (.goto 9) 3 13 := And.intro (by decide +kernel) rfl
theorem d_X9_form_13 : dk me_X9_form 13 (.aload_n 0) 1 14 := And.intro (by decide +kernel) rfl
theorem d_X9_form_14 : dk me_X9_form 14 (.getfield 15) 3 17 := And.intro (by decide +kernel) rfl
theorem d_X9_form_17 : dk me_X9_form 17 (.iload_n 1) 1 18 := And.intro (by decide +kernel) rfl
theorem d_X9_form_18 : dk me_X9_form 18 (.laload) 1 19 := And.intro (by decide +kernel) rfl
theorem d_X9_form_19 : dk me_X9_form 19 (.lreturn) 1 20 := And.intro (by decide +kernel) rfl
theorem ms_X9_form {fx : FX} {m : MM} {l0 : Nat} {l1 : Int} {l2 : Int} : MS fx me_X9_form [aR (some (9, l0)), aI l1, aI l2] m ((f_X9_form m l0 l1 l2).bind fun v => some (.inl (some (aL v)), m)) := by
  refine ms_of rfl mf_X9_form (b8 rfl) ?_
  show Sim fx me_X9_form 0 [(0, aR (some (9, l0))), (1, aI l1), (2, aI l2)] [] m _
  unfold f_X9_form
  refine s_iload_n d_X9_form_0 m2_ (s_if_eq (tgt := 13) d_X9_form_1 rfl ?_ ?_)
  · exact s_aload_n d_X9_form_13 m0_ (s_getR cf d_X9_form_14 fl_X9_15 (s_nk fun i1 => (s_iload_n d_X9_form_17 m1_ (s_ldL d_X9_form_18 ka_46 rfl fun v2 => (s_lret d_X9_form_19 rfl rfl)))))
  refine s_aload_n d_X9_form_4 m0_ (s_getR cf d_X9_form_5 fl_X9_18 (s_nk fun i3 => (s_iload_n d_X9_form_8 m1_ (s_ldL d_X9_form_9 ka_47 rfl fun v4 => (s_goto (tgt := 19) d_X9_form_10 rfl ?_)))))
  exact s_lret d_X9_form_19 rfl rfl
theorem d_X9_addPage_0 : dk me_X9_addPage 0 (.iconst 0) 1 1 := And.intro (by decide +kernel) rfl
theorem d_X9_addPage_1 : dk me_X9_addPage 1 (.istore 4) 2 3 := And.intro (by decide +kernel) rfl
theorem d_X9_addPage_3 : dk me_X9_addPage 3 (.iload 4) 2 5 := And.intro (by decide +kernel) rfl
theorem d_X9_addPage_5 : dk me_X9_addPage 5 (.aload_n 1) 1 6 := And.intro (by decide +kernel) rfl
theorem d_X9_addPage_6 : dk me_X9_addPage 6 (.getfield 41) 3 9 := And.intro (by decide +kernel) rfl
theorem d_X9_addPage_9 : dk me_X9_addPage 9 (.if_icmp .ge 76) 3 12 := And.intro (by decide +kernel) rfl
theorem d_X9_addPage_12 : dk me_X9_addPage 12 (.aload_n 1) 1 13 := And.intro (by decide +kernel) rfl
theorem d_X9_addPage_13 : dk me_X9_addPage 13 (.iload 4) 2 15 := And.intro (by decide +kernel) rfl
theorem d_X9_addPage_15 : dk me_X9_addPage 15 (.invokevirtual 46) 3 18 := And.intro (by decide +kernel) rfl
theorem d_X9_addPage_18 : dk me_X9_addPage 18 (.istore 5) 2 20 := And.intro (by decide +kernel) rfl
theorem d_X9_addPage_20 : dk me_X9_addPage 20 (.aload_n 1) 1 21 := And.intro (by decide +kernel) rfl
theorem d_X9_addPage_21 : dk me_X9_addPage 21 (.getfield 50) 3 24 := And.intro (by decide +kernel) rfl
theorem d_X9_addPage_24 : dk me_X9_addPage 24 (.iload 4) 2 26 := And.intro (by decide +kernel) rfl
theorem d_X9_addPage_26 : dk me_X9_addPage 26 (.iaload) 1 27 := And.intro (by decide +kernel) rfl
theorem d_X9_addPage_27 : dk me_X9_addPage 27 (.istore 6) 2 29 := And.intro (by decide +kernel) rfl
theorem d_X9_addPage_29 : dk me_X9_addPage 29 (.iload 6) 2 31 := And.intro (by decide +kernel) rfl
theorem d_X9_addPage_31 : dk me_X9_addPage 31 (.iload 5) 2 33 := And.intro (by decide +kernel) rfl
theorem d_X9_addPage_33 : dk me_X9_addPage 33 (.if_icmp .ge 46) 3 36 := And.intro (by decide +kernel) rfl
theorem d_X9_addPage_36 : dk me_X9_addPage 36 (.aload_n 0) 1 37 := And.intro (by decide +kernel) rfl
theorem d_X9_addPage_37 : dk me_X9_addPage 37 (.aload_n 2) 1 38 := And.intro (by decide +kernel) rfl
theorem d_X9_addPage_38 : dk me_X9_addPage 38 (.aload_n 1) 1 39 := And.intro (by decide +kernel) rfl
theorem d_X9_addPage_39 : dk me_X9_addPage 39 (.getfield 53) 3 42 := And.intro (by decide +kernel) rfl
theorem d_X9_addPage_42 : dk me_X9_addPage 42 (.iload 6) 2 44 := And.intro (by decide +kernel) rfl
theorem d_X9_addPage_44 : dk me_X9_addPage 44 (.iaload) 1 45 := And.intro (by decide +kernel) rfl
theorem d_X9_addPage_45 : dk me_X9_addPage 45 (.aload_n 1) 1 46 := And.intro (by decide +kernel) rfl
theorem d_X9_addPage_46 : dk me_X9_addPage 46 (.getfield 56) 3 49 := And.intro (by decide +kernel) rfl
theorem d_X9_addPage_49 : dk me_X9_addPage 49 (.iload 6) 2 51 := And.intro (by decide +kernel) rfl
theorem d_X9_addPage_51 : dk me_X9_addPage 51 (.baload) 1 52 := And.intro (by decide +kernel) rfl
theorem d_X9_addPage_52 : dk me_X9_addPage 52 (.invokevirtual 59) 3 55 := And.intro (by decide +kernel) rfl
theorem d_X9_addPage_55 : dk me_X9_addPage 55 (.iload 6) 2 57 := And.intro (by decide +kernel) rfl
theorem d_X9_addPage_57 : dk me_X9_addPage 57 (.iload 5) 2 59 := And.intro (by decide +kernel) rfl
theorem d_X9_addPage_59 : dk me_X9_addPage 59 (.iconst 1) 1 60 := And.intro (by decide +kernel) rfl
theorem d_X9_addPage_60 : dk me_X9_addPage 60 (.isub) 1 61 := And.intro (by decide +kernel) rfl
theorem d_X9_addPage_61 : dk me_X9_addPage 61 (.if_icmp .ne 7) 3 64 := And.intro (by decide +kernel) rfl
theorem d_X9_addPage_64 : dk me_X9_addPage 64 (.iconst 1) 1 65 := And.intro (by decide +kernel) rfl
theorem d_X9_addPage_65 : dk me_X9_addPage 65 (.goto 4) 3 68 := And.intro (by decide +kernel) rfl
theorem d_X9_addPage_68 : dk me_X9_addPage 68 (.iconst 0) 1 69 := And.intro (by decide +kernel) rfl
theorem d_X9_addPage_69 : dk me_X9_addPage 69 (.aload_n 3) 1 70 := And.intro (by decide +kernel) rfl
theorem d_X9_addPage_70 : dk me_X9_addPage 70 (.invokevirtual 63) 3 73 := And.intro (by decide +kernel) rfl
theorem d_X9_addPage_73 : dk me_X9_addPage 73 (.iinc 6 1) 3 76 := And.intro (by decide +kernel) rfl
theorem d_X9_addPage_76 : dk me_X9_addPage 76 (.goto (-47)) 3 79 := And.intro (by decide +kernel) rfl
theorem d_X9_addPage_79 : dk me_X9_addPage 79 (.iinc 4 1) 3 82 := And.intro (by decide +kernel) rfl
theorem d_X9_addPage_82 : dk me_X9_addPage 82 (.goto (-79)) 3 85 := And.intro (by decide +kernel) rfl
theorem d_X9_addPage_85 : dk me_X9_addPage 85 (.return_) 1 86 := And.intro (by decide +kernel) rfl
theorem ms_X9_addPage {fx : FX} {m : MM} {l0 : Nat} {l1 : Nat} {l2 : Nat} {l3 : Nat} : MS fx me_X9_addPage [aR (some (9, l0)), aR (some (4, l1)), aR (some (9, l2)), aR (some (10, l3))] m (f_X9_addPage m l0 l1 l2 l3) := by
  refine ms_of rfl mf_X9_addPage (b8 rfl) ?_
  refine s_top ?_
  show Sim fx me_X9_addPage 0 [(0, aR (some (9, l0))), (1, aR (some (4, l1))), (2, aR (some (9, l2))), (3, aR (some (10, l3)))] [] m _
  unfold f_X9_addPage
  have hj_X9_addPage_0_85 : ∀ (m_85 : MM), Sim fx me_X9_addPage 85 [] [] m_85 ((j_X9_addPage_0_85 m_85).bind (fun z => some z)) := by
    intro m_85
    unfold j_X9_addPage_0_85
    exact s_vret d_X9_addPage_85 rfl rfl
  refine s_iconst d_X9_addPage_0 n_0 (s_istore (L' := [(4, aI 0), (0, aR (some (9, l0))), (1, aR (some (4, l1))), (2, aR (some (9, l2))), (3, aR (some (10, l3)))]) d_X9_addPage_1 (b8 rfl) rfl (s_sub (subc m0_ (subc m1_ (subc m2_ (subc m3_ (subc m4_ sub0))))) (s_lp2 (fun s => [(4, aI (s.1)), (0, aR (some (9, l0))), (1, aR (some (4, l1))), (2, aR (some (9, l2))), (3, aR (some (10, l3)))]) (fun s => s.2) (0, m) fun k3 hx3 s ih0 => ?_)))
  obtain ⟨l4_3, mm_3⟩ := s
  have ih3 := ih0
  clear ih0
  try dsimp only
  unfold b_X9_addPage_3
  have hj_X9_addPage_3_79 : ∀ (m_79 : MM) (l4_79 : Int), Sim fx me_X9_addPage 79 [(0, aR (some (9, l0))), (1, aR (some (4, l1))), (2, aR (some (9, l2))), (3, aR (some (10, l3))), (4, aI l4_79)] [] m_79 ((j_X9_addPage_3_79 m_79 l0 l1 l2 l3 l4_79).bind k3) := by
    intro m_79 l4_79
    unfold j_X9_addPage_3_79
    exact s_iinc (L' := [(4, aI (l4_79 + 1)), (0, aR (some (9, l0))), (1, aR (some (4, l1))), (2, aR (some (9, l2))), (3, aR (some (10, l3)))]) d_X9_addPage_79 m4_ (b8 rfl) rfl (s_goto (tgt := 3) d_X9_addPage_82 rfl (s_sub (subc m0_ (subc m1_ (subc m2_ (subc m3_ (subc m4_ sub0))))) (s_back (ih3 ((l4_79 + 1), m_79)))))
  refine s_iload d_X9_addPage_3 m0_ (s_aload_n d_X9_addPage_5 m2_ (s_getN cf d_X9_addPage_6 fl_X9_41 (s_icmp_ge (tgt := 85) d_X9_addPage_9 rfl ?_ ?_)))
  · exact s_exit (hx3 _) (s_sub (sub0) (hj_X9_addPage_0_85 mm_3))
  refine s_aload_n d_X9_addPage_12 m2_ (s_iload d_X9_addPage_13 m0_ (s_pI (r_V d_X9_addPage_15 k_X4_wordBehindLine w_849 rfl rfl) ms_X4_wordBehindLine (b8 rfl) rfl rfl rfl fun v1 => (s_istore (L' := [(5, aI v1), (4, aI l4_3), (0, aR (some (9, l0))), (1, aR (some (4, l1))), (2, aR (some (9, l2))), (3, aR (some (10, l3)))]) d_X9_addPage_18 (b8 rfl) rfl (s_aload_n d_X9_addPage_20 m3_ (s_getR cf d_X9_addPage_21 fl_X9_50 ?_)))))
  refine s_nk fun i2 => (s_iload d_X9_addPage_24 m1_ (s_ldN d_X9_addPage_26 ka_31 rfl fun v3 => (s_istore (L' := [(6, aI v3), (5, aI v1), (4, aI l4_3), (0, aR (some (9, l0))), (1, aR (some (4, l1))), (2, aR (some (9, l2))), (3, aR (some (10, l3)))]) d_X9_addPage_27 (b8 rfl) rfl (s_sub (subc m0_ (subc m3_ (subc m4_ (subc m5_ (subc m6_ (subc m2_ (subc m1_ sub0))))))) (s_lp2 (fun s => [(6, aI (s.1)), (0, aR (some (9, l0))), (1, aR (some (4, l1))), (2, aR (some (9, l2))), (3, aR (some (10, l3))), (4, aI l4_3), (5, aI v1)]) (fun s => s.2) (v3, mm_3) fun k29 hx29 s ih0 => ?_)))))
  obtain ⟨l6_29, mm_29⟩ := s
  have ih29 := ih0
  clear ih0
  try dsimp only
  unfold b_X9_addPage_29
  have hj_X9_addPage_29_69 : ∀ (m_69 : MM) (l6_69 : Int) (s0_69 : Nat) (s1_69 : Int64) (s2_69 : Int), Sim fx me_X9_addPage 69 [(0, aR (some (9, l0))), (1, aR (some (4, l1))), (2, aR (some (9, l2))), (3, aR (some (10, l3))), (4, aI l4_3), (5, aI v1), (6, aI l6_69)] [aI s2_69, aL s1_69, aR (some (9, s0_69))] m_69 ((j_X9_addPage_29_69 m_69 l0 l1 l2 l3 l4_3 v1 l6_69 s0_69 s1_69 s2_69).bind k29) := by
    intro m_69 l6_69 s0_69 s1_69 s2_69
    unfold j_X9_addPage_29_69
    exact s_aload_n d_X9_addPage_69 m3_ (s_cV (r_V d_X9_addPage_70 k_X9_add w_857 rfl rfl) ms_X9_add (b8 rfl) rfl rfl rfl (fun _ _ _ => rfl) (fun _ _ => Or.inl rfl) fun m9 => (s_iinc (L' := [(6, aI (l6_69 + 1)), (0, aR (some (9, l0))), (1, aR (some (4, l1))), (2, aR (some (9, l2))), (3, aR (some (10, l3))), (4, aI l4_3), (5, aI v1)]) d_X9_addPage_73 m6_ (b8 rfl) rfl (s_goto (tgt := 29) d_X9_addPage_76 rfl (s_sub (subc m0_ (subc m1_ (subc m2_ (subc m3_ (subc m4_ (subc m5_ (subc m6_ sub0))))))) (s_back (ih29 ((l6_69 + 1), m9)))))))
  refine s_iload d_X9_addPage_29 m0_ (s_iload d_X9_addPage_31 m6_ (s_icmp_ge (tgt := 79) d_X9_addPage_33 rfl ?_ ?_))
  · exact s_exit (hx29 _) (s_sub (subc m1_ (subc m2_ (subc m3_ (subc m4_ (subc m5_ sub0))))) (hj_X9_addPage_3_79 mm_29 l4_3))
  refine s_aload_n d_X9_addPage_36 m1_ (s_aload_n d_X9_addPage_37 m3_ (s_aload_n d_X9_addPage_38 m2_ (s_getR cf d_X9_addPage_39 fl_X9_53 (s_nk fun i4 => (s_iload d_X9_addPage_42 m0_ ?_)))))
  refine s_ldN d_X9_addPage_44 ka_27 rfl fun v5 => (s_aload_n d_X9_addPage_45 m2_ (s_getR cf d_X9_addPage_46 fl_X9_56 (s_nk fun i6 => (s_iload d_X9_addPage_49 m0_ (s_ldB d_X9_addPage_51 ka_28 rfl fun v7 => ?_)))))
  refine s_pL (r_V d_X9_addPage_52 k_X9_form w_853 rfl rfl) ms_X9_form (b8 rfl) rfl rfl rfl fun v8 => (s_iload d_X9_addPage_55 m0_ (s_iload d_X9_addPage_57 m6_ (s_iconst d_X9_addPage_59 n_1 (s_isub d_X9_addPage_60 rfl rfl (s_ck ?_)))))
  refine s_icmp_ne (tgt := 68) d_X9_addPage_61 rfl ?_ ?_
  · exact s_iconst d_X9_addPage_68 n_0 (s_sub (subc m1_ (subc m2_ (subc m3_ (subc m4_ (subc m5_ (subc m6_ (subc m0_ sub0))))))) (hj_X9_addPage_29_69 mm_29 l6_29 l0 v8 0))
  exact s_iconst d_X9_addPage_64 n_1 (s_goto (tgt := 69) d_X9_addPage_65 rfl (s_sub (subc m1_ (subc m2_ (subc m3_ (subc m4_ (subc m5_ (subc m6_ (subc m0_ sub0))))))) (hj_X9_addPage_29_69 mm_29 l6_29 l0 v8 1)))
theorem d_X11_follow_0 : dk me_X11_follow 0 (.aload_n 0) 1 1 := And.intro (by decide +kernel) rfl
theorem d_X11_follow_1 : dk me_X11_follow 1 (.iload_n 1) 1 2 := And.intro (by decide +kernel) rfl
theorem d_X11_follow_2 : dk me_X11_follow 2 (.invokevirtual 143) 3 5 := And.intro (by decide +kernel) rfl
theorem d_X11_follow_5 : dk me_X11_follow 5 (.astore_n 3) 1 6 := And.intro (by decide +kernel) rfl
theorem d_X11_follow_6 : dk me_X11_follow 6 (.aload_n 0) 1 7 := And.intro (by decide +kernel) rfl
theorem d_X11_follow_7 : dk me_X11_follow 7 (.iload_n 2) 1 8 := And.intro (by decide +kernel) rfl
theorem d_X11_follow_8 : dk me_X11_follow 8 (.invokevirtual 143) 3 11 := And.intro (by decide +kernel) rfl
theorem d_X11_follow_11 : dk me_X11_follow 11 (.astore 4) 2 13 := And.intro (by decide +kernel) rfl
theorem d_X11_follow_13 : dk me_X11_follow 13 (.iload_n 1) 1 14 := And.intro (by decide +kernel) rfl
theorem d_X11_follow_14 : dk me_X11_follow 14 (.iload_n 2) 1 15 := And.intro (by decide +kernel) rfl
theorem d_X11_follow_15 : dk me_X11_follow 15 (.if_icmp .eq 7) 3 18 := And.intro (by decide +kernel) rfl
theorem d_X11_follow_18 : dk me_X11_follow 18 (.iconst 1) 1 19 := And.intro (by decide +kernel) rfl
theorem d_X11_follow_19 : dk me_X11_follow 19 (.goto 4) 3 22 := And.intro (by decide +kernel) rfl
theorem d_X11_follow_22 : dk me_X11_follow 22 (.iconst 0) 1 23 := And.intro (by decide +kernel) rfl
theorem d_X11_follow_23 : dk me_X11_follow 23 (.invokestatic 53) 3 26 := And.intro (by decide +kernel) rfl
theorem d_X11_follow_26 : dk me_X11_follow 26 (.aload_n 3) 1 27 := And.intro (by decide +kernel) rfl
theorem d_X11_follow_27 : dk me_X11_follow 27 (.getfield 153) 3 30 := And.intro (by decide +kernel) rfl
theorem d_X11_follow_30 : dk me_X11_follow 30 (.getfield 157) 3 33 := And.intro (by decide +kernel) rfl
theorem d_X11_follow_33 : dk me_X11_follow 33 (.ifCond .ne 15) 3 36 := And.intro (by decide +kernel) rfl
theorem d_X11_follow_36 : dk me_X11_follow 36 (.aload 4) 2 38 := And.intro (by decide +kernel) rfl
theorem d_X11_follow_38 : dk me_X11_follow 38 (.invokevirtual 174) 3 41 := And.intro (by decide +kernel) rfl
theorem d_X11_follow_41 : dk me_X11_follow 41 (.ifCond .le 7) 3 44 := And.intro (by decide +kernel) rfl
theorem d_X11_follow_44 : dk me_X11_follow 44 (.iconst 1) 1 45 := And.intro (by decide +kernel) rfl
theorem d_X11_follow_45 : dk me_X11_follow 45 (.goto 4) 3 48 := And.intro (by decide +kernel) rfl
theorem d_X11_follow_48 : dk me_X11_follow 48 (.iconst 0) 1 49 := And.intro (by decide +kernel) rfl
theorem d_X11_follow_49 : dk me_X11_follow 49 (.invokestatic 69) 3 52 := And.intro (by decide +kernel) rfl
theorem d_X11_follow_52 : dk me_X11_follow 52 (.aload 4) 2 54 := And.intro (by decide +kernel) rfl
theorem d_X11_follow_54 : dk me_X11_follow 54 (.getfield 177) 3 57 := And.intro (by decide +kernel) rfl
theorem d_X11_follow_57 : dk me_X11_follow 57 (.astore 5) 2 59 := And.intro (by decide +kernel) rfl
theorem d_X11_follow_59 : dk me_X11_follow 59 (.aload 5) 2 61 := And.intro (by decide +kernel) rfl
theorem d_X11_follow_61 : dk me_X11_follow 61 (.arraylength) 1 62 := And.intro (by decide +kernel) rfl
theorem d_X11_follow_62 : dk me_X11_follow 62 (.istore 6) 2 64 := And.intro (by decide +kernel) rfl
theorem d_X11_follow_64 : dk me_X11_follow 64 (.iconst 0) 1 65 := And.intro (by decide +kernel) rfl
theorem d_X11_follow_65 : dk me_X11_follow 65 (.istore 7) 2 67 := And.intro (by decide +kernel) rfl
theorem d_X11_follow_67 : dk me_X11_follow 67 (.iload 7) 2 69 := And.intro (by decide +kernel) rfl
theorem d_X11_follow_69 : dk me_X11_follow 69 (.iload 6) 2 71 := And.intro (by decide +kernel) rfl
theorem d_X11_follow_71 : dk me_X11_follow 71 (.if_icmp .ge 34) 3 74 := And.intro (by decide +kernel) rfl
theorem d_X11_follow_74 : dk me_X11_follow 74 (.aload 5) 2 76 := And.intro (by decide +kernel) rfl
theorem d_X11_follow_76 : dk me_X11_follow 76 (.iload 7) 2 78 := And.intro (by decide +kernel) rfl
theorem d_X11_follow_78 : dk me_X11_follow 78 (.aaload) 1 79 := And.intro (by decide +kernel) rfl
theorem d_X11_follow_79 : dk me_X11_follow 79 (.astore 8) 2 81 := And.intro (by decide +kernel) rfl
theorem d_X11_follow_81 : dk me_X11_follow 81 (.aload_n 3) 1 82 := And.intro (by decide +kernel) rfl
theorem d_X11_follow_82 : dk me_X11_follow 82 (.getfield 153) 3 85 := And.intro (by decide +kernel) rfl
theorem d_X11_follow_85 : dk me_X11_follow 85 (.aload 8) 2 87 := And.intro (by decide +kernel) rfl
theorem d_X11_follow_87 : dk me_X11_follow 87 (.aload 4) 2 89 := And.intro (by decide +kernel) rfl
theorem d_X11_follow_89 : dk me_X11_follow 89 (.getfield 153) 3 92 := And.intro (by decide +kernel) rfl
theorem d_X11_follow_92 : dk me_X11_follow 92 (.aload_n 0) 1 93 := And.intro (by decide +kernel) rfl
theorem d_X11_follow_93 : dk me_X11_follow 93 (.getfield 10) 3 96 := And.intro (by decide +kernel) rfl
theorem d_X11_follow_96 : dk me_X11_follow 96 (.invokevirtual 181) 3 99 := And.intro (by decide +kernel) rfl
theorem d_X11_follow_99 : dk me_X11_follow 99 (.iinc 7 1) 3 102 := And.intro (by decide +kernel) rfl
theorem d_X11_follow_102 : dk me_X11_follow 102 (.goto (-35)) 3 105 := And.intro (by decide +kernel) rfl
theorem d_X11_follow_105 : dk me_X11_follow 105 (.aload_n 3) 1 106 := And.intro (by decide +kernel) rfl
theorem d_X11_follow_106 : dk me_X11_follow 106 (.getfield 153) 3 109 := And.intro (by decide +kernel) rfl
theorem d_X11_follow_109 : dk me_X11_follow 109 (.getfield 157) 3 112 := And.intro (by decide +kernel) rfl
theorem d_X11_follow_112 : dk me_X11_follow 112 (.ireturn) 1 113 := And.intro (by decide +kernel) rfl
theorem ms_X11_follow {fx : FX} {m : MM} {l0 : Nat} {l1 : Int} {l2 : Int} : MS fx me_X11_follow [aR (some (11, l0)), aI l1, aI l2] m (f_X11_follow m l0 l1 l2) := by
  refine ms_of rfl mf_X11_follow (b8 rfl) ?_
  refine s_top ?_
  show Sim fx me_X11_follow 0 [(0, aR (some (11, l0))), (1, aI l1), (2, aI l2)] [] m _
  unfold f_X11_follow
  have hj_X11_follow_0_105 : ∀ (m_105 : MM) (l3_105 : Nat), Sim fx me_X11_follow 105 [(3, aR (some (0, l3_105)))] [] m_105 ((j_X11_follow_0_105 m_105 l3_105).bind (fun z => some z)) := by
    intro m_105 l3_105
    unfold j_X11_follow_0_105
    exact s_aload_n d_X11_follow_105 m0_ (s_getR cf d_X11_follow_106 fl_X11_153 (s_nk fun i21 => (s_getN cf d_X11_follow_109 fl_X11_157 (s_iret d_X11_follow_112 rfl rfl))))
  have hj_X11_follow_0_49 : ∀ (m_49 : MM) (l0_49 : Nat) (l3_49 : Nat) (l4_49 : Nat) (s0_49 : Int), Sim fx me_X11_follow 49 [(0, aR (some (11, l0_49))), (3, aR (some (0, l3_49))), (4, aR (some (0, l4_49)))] [aI s0_49] m_49 ((j_X11_follow_0_49 m_49 l0_49 l3_49 l4_49 s0_49).bind (fun z => some z)) := by
    intro m_49 l0_49 l3_49 l4_49 s0_49
    unfold j_X11_follow_0_49
    refine s_cV (r_S d_X11_follow_49 k_X11_requireState w_363 rfl rfl) ms_X11_requireState (b8 rfl) rfl rfl rfl (fun h => by cases h) (fun _ _ => Or.inr rfl) fun m11 => (s_aload d_X11_follow_52 m2_ (s_getR cf d_X11_follow_54 fl_X11_177 (s_nk fun i13 => (s_astore (L' := [(5, aR (some (13, i13))), (0, aR (some (11, l0_49))), (3, aR (some (0, l3_49))), (4, aR (some (0, l4_49)))]) d_X11_follow_57 (b8 rfl) rfl (s_aload d_X11_follow_59 m0_ ?_)))))
    refine s_len d_X11_follow_61 ka_13 ta_13 (s_istore (L' := [(6, aI (lenI m11 13 i13)), (5, aR (some (13, i13))), (0, aR (some (11, l0_49))), (3, aR (some (0, l3_49))), (4, aR (some (0, l4_49)))]) d_X11_follow_62 (b8 rfl) rfl (s_iconst d_X11_follow_64 n_0 (s_istore (L' := [(7, aI 0), (6, aI (lenI m11 13 i13)), (5, aR (some (13, i13))), (0, aR (some (11, l0_49))), (3, aR (some (0, l3_49))), (4, aR (some (0, l4_49)))]) d_X11_follow_65 (b8 rfl) rfl (s_sub (subc m0_ (subc m3_ (subc m4_ (subc m5_ (subc m2_ (subc m1_ sub0)))))) (s_lp2 (fun s => [(7, aI (s.1)), (0, aR (some (11, l0_49))), (3, aR (some (0, l3_49))), (4, aR (some (0, l4_49))), (5, aR (some (13, i13))), (6, aI (lenI m11 13 i13))]) (fun s => s.2) (0, m11) fun k67 hx67 s ih0 => ?_)))))
    obtain ⟨l7_67, mm_67⟩ := s
    have ih67 := ih0
    clear ih0
    try dsimp only
    unfold b_X11_follow_67
    refine s_iload d_X11_follow_67 m0_ (s_iload d_X11_follow_69 m5_ (s_icmp_ge (tgt := 105) d_X11_follow_71 rfl ?_ ?_))
    · exact s_exit (hx67 _) (s_sub (subc m2_ sub0) (hj_X11_follow_0_105 mm_67 l3_49))
    refine s_aload d_X11_follow_74 m4_ (s_iload d_X11_follow_76 m0_ (s_ldR d_X11_follow_78 ka_13 ta_13 rfl rfl fun r14 => (s_nk fun i15 => (s_astore (L' := [(8, aR (some (4, i15))), (7, aI l7_67), (0, aR (some (11, l0_49))), (3, aR (some (0, l3_49))), (4, aR (some (0, l4_49))), (5, aR (some (13, i13))), (6, aI (lenI m11 13 i13))]) d_X11_follow_79 (b8 rfl) rfl (s_aload_n d_X11_follow_81 m3_ ?_)))))
    refine s_getR cf d_X11_follow_82 fl_X11_153 (s_nk fun i16 => (s_aload d_X11_follow_85 m0_ (s_aload d_X11_follow_87 m4_ (s_getR cf d_X11_follow_89 fl_X11_153 (s_nk fun i17 => ?_)))))
    refine s_aload_n d_X11_follow_92 m2_ (s_getR cf d_X11_follow_93 fl_X11_10 (s_nk fun i18 => (s_cV (r_V d_X11_follow_96 k_X9_addPage w_845 rfl rfl) ms_X9_addPage (b8 rfl) rfl rfl rfl (fun _ _ _ => rfl) (fun _ _ => Or.inl rfl) fun m19 => (s_iinc (L' := [(7, aI (l7_67 + 1)), (8, aR (some (4, i15))), (0, aR (some (11, l0_49))), (3, aR (some (0, l3_49))), (4, aR (some (0, l4_49))), (5, aR (some (13, i13))), (6, aI (lenI m11 13 i13))]) d_X11_follow_99 m1_ (b8 rfl) rfl (s_goto (tgt := 67) d_X11_follow_102 rfl ?_)))))
    exact s_sub (subc m0_ (subc m2_ (subc m3_ (subc m4_ (subc m5_ (subc m6_ sub0)))))) (s_back (ih67 ((l7_67 + 1), m19)))
  have hj_X11_follow_0_48 : ∀ (m_48 : MM) (l0_48 : Nat) (l3_48 : Nat) (l4_48 : Nat), Sim fx me_X11_follow 48 [(0, aR (some (11, l0_48))), (3, aR (some (0, l3_48))), (4, aR (some (0, l4_48)))] [] m_48 ((j_X11_follow_0_48 m_48 l0_48 l3_48 l4_48).bind (fun z => some z)) := by
    intro m_48 l0_48 l3_48 l4_48
    unfold j_X11_follow_0_48
    exact s_iconst d_X11_follow_48 n_0 (s_sub (subc m0_ (subc m1_ (subc m2_ sub0))) (hj_X11_follow_0_49 m_48 l0_48 l3_48 l4_48 0))
  have hj_X11_follow_0_23 : ∀ (m_23 : MM) (l0_23 : Nat) (l3_23 : Nat) (l4_23 : Nat) (s0_23 : Int), Sim fx me_X11_follow 23 [(0, aR (some (11, l0_23))), (3, aR (some (0, l3_23))), (4, aR (some (0, l4_23)))] [aI s0_23] m_23 ((j_X11_follow_0_23 m_23 l0_23 l3_23 l4_23 s0_23).bind (fun z => some z)) := by
    intro m_23 l0_23 l3_23 l4_23 s0_23
    unfold j_X11_follow_0_23
    refine s_cV (r_S d_X11_follow_23 k_X11_requireArgument w_284 rfl rfl) ms_X11_requireArgument (b8 rfl) rfl rfl rfl (fun h => by cases h) (fun _ _ => Or.inr rfl) fun m7 => (s_aload_n d_X11_follow_26 m1_ (s_getR cf d_X11_follow_27 fl_X11_153 (s_nk fun i9 => (s_getN cf d_X11_follow_30 fl_X11_157 (s_if_ne (tgt := 48) d_X11_follow_33 rfl ?_ ?_)))))
    · exact s_sub (subc m0_ (subc m1_ (subc m2_ sub0))) (hj_X11_follow_0_48 m7 l0_23 l3_23 l4_23)
    refine s_aload d_X11_follow_36 m2_ (s_pI (r_V d_X11_follow_38 k_X0_wordsOnPages w_841 rfl rfl) ms_X0_wordsOnPages (b8 rfl) rfl rfl rfl fun v10 => (s_if_le (tgt := 48) d_X11_follow_41 rfl ?_ ?_))
    · exact s_sub (subc m0_ (subc m1_ (subc m2_ sub0))) (hj_X11_follow_0_48 m7 l0_23 l3_23 l4_23)
    exact s_iconst d_X11_follow_44 n_1 (s_goto (tgt := 49) d_X11_follow_45 rfl (s_sub (subc m0_ (subc m1_ (subc m2_ sub0))) (hj_X11_follow_0_49 m7 l0_23 l3_23 l4_23 1)))
  refine s_aload_n d_X11_follow_0 m0_ (s_iload_n d_X11_follow_1 m1_ (s_cR (r_V d_X11_follow_2 k_X11_bookAt w_814 rfl rfl) ms_X11_bookAt (b8 rfl) rfl rfl rfl (fun h => by cases h) (fun _ _ => Or.inr rfl) fun r2 m1 => (s_nk fun i3 => (s_astore_n (L' := [(3, aR (some (0, i3))), (0, aR (some (11, l0))), (1, aI l1), (2, aI l2)]) d_X11_follow_5 (b8 rfl) rfl (s_aload_n d_X11_follow_6 m1_ ?_)))))
  refine s_iload_n d_X11_follow_7 m3_ (s_cR (r_V d_X11_follow_8 k_X11_bookAt w_814 rfl rfl) ms_X11_bookAt (b8 rfl) rfl rfl rfl (fun h => by cases h) (fun _ _ => Or.inr rfl) fun r5 m4 => (s_nk fun i6 => (s_astore (L' := [(4, aR (some (0, i6))), (3, aR (some (0, i3))), (0, aR (some (11, l0))), (1, aI l1), (2, aI l2)]) d_X11_follow_11 (b8 rfl) rfl (s_iload_n d_X11_follow_13 m3_ (s_iload_n d_X11_follow_14 m4_ ?_)))))
  refine s_icmp_eq (tgt := 22) d_X11_follow_15 rfl ?_ ?_
  · exact s_iconst d_X11_follow_22 n_0 (s_sub (subc m2_ (subc m1_ (subc m0_ sub0))) (hj_X11_follow_0_23 m4 l0 i3 i6 0))
  exact s_iconst d_X11_follow_18 n_1 (s_goto (tgt := 23) d_X11_follow_19 rfl (s_sub (subc m2_ (subc m1_ (subc m0_ sub0))) (hj_X11_follow_0_23 m4 l0 i3 i6 1)))
theorem d_L_follow_0 : dk me_L_follow 0 (.aload_n 3) 1 1 := And.intro (by decide +kernel) rfl
theorem d_L_follow_1 : dk me_L_follow 1 (.iconst 0) 1 2 := And.intro (by decide +kernel) rfl
theorem d_L_follow_2 : dk me_L_follow 2 (.aload_n 0) 1 3 := And.intro (by decide +kernel) rfl
theorem d_L_follow_3 : dk me_L_follow 3 (.iload_n 1) 1 4 := And.intro (by decide +kernel) rfl
theorem d_L_follow_4 : dk me_L_follow 4 (.iload_n 2) 1 5 := And.intro (by decide +kernel) rfl
theorem d_L_follow_5 : dk me_L_follow 5 (.invokevirtual 48) 3 8 := And.intro (by decide +kernel) rfl
theorem d_L_follow_8 : dk me_L_follow 8 (.i2l) 1 9 := And.intro (by decide +kernel) rfl
theorem d_L_follow_9 : dk me_L_follow 9 (.lastore) 1 10 := And.intro (by decide +kernel) rfl
theorem d_L_follow_10 : dk me_L_follow 10 (.goto 15) 3 13 := And.intro (by decide +kernel) rfl
theorem d_L_follow_13 : dk me_L_follow 13 (.astore 4) 2 15 := And.intro (by decide +kernel) rfl
theorem d_L_follow_15 : dk me_L_follow 15 (.iconst 1) 1 16 := And.intro (by decide +kernel) rfl
theorem d_L_follow_16 : dk me_L_follow 16 (.ireturn) 1 17 := And.intro (by decide +kernel) rfl
theorem d_L_follow_17 : dk me_L_follow 17 (.astore 4) 2 19 := And.intro (by decide +kernel) rfl
theorem d_L_follow_19 : dk me_L_follow 19 (.iconst 2) 1 20 := And.intro (by decide +kernel) rfl
theorem d_L_follow_20 : dk me_L_follow 20 (.ireturn) 1 21 := And.intro (by decide +kernel) rfl
theorem d_L_follow_21 : dk me_L_follow 21 (.astore 4) 2 23 := And.intro (by decide +kernel) rfl
theorem d_L_follow_23 : dk me_L_follow 23 (.iconst 3) 1 24 := And.intro (by decide +kernel) rfl
theorem d_L_follow_24 : dk me_L_follow 24 (.ireturn) 1 25 := And.intro (by decide +kernel) rfl
theorem d_L_follow_25 : dk me_L_follow 25 (.iconst 0) 1 26 := And.intro (by decide +kernel) rfl
theorem d_L_follow_26 : dk me_L_follow 26 (.ireturn) 1 27 := And.intro (by decide +kernel) rfl
theorem ms_L_follow {fx : FX} {m : MM} {l0 : Nat} {l1 : Int} {l2 : Int} {l3 : Nat} : MS fx me_L_follow [aR (some (11, l0)), aI l1, aI l2, aR (some (131, l3))] m (f_L_follow m l0 l1 l2 l3) := by
  refine ms_ofH rfl mf_L_follow (b8 rfl) ?_
  refine s_top ?_
  show Sim fx me_L_follow 0 [(0, aR (some (11, l0))), (1, aI l1), (2, aI l2), (3, aR (some (131, l3)))] [] m _
  unfold f_L_follow
  refine s_aload_n d_L_follow_0 m3_ (s_iconst d_L_follow_1 n_0 (s_aload_n d_L_follow_2 m0_ (s_iload_n d_L_follow_3 m1_ (s_iload_n d_L_follow_4 m2_ (s_cIC (r_V d_L_follow_5 k_X11_follow w_837 rfl rfl) ms_X11_follow (b8 rfl) rfl rfl ?_ ?_ ?_ fun v2 m1 => ?_)))))
  · refine fun mx => Or.inr ⟨13, ⟨rfl, by decide, 0, wx_29_0, Or.inl ⟨rfl, rfl⟩⟩, fun qx => ?_⟩
    exact s_astoreV (L' := [(4, aV (.ref qx)), (0, aR (some (11, l0))), (1, aI l1), (2, aI l2), (3, aR (some (131, l3)))]) d_L_follow_13 (b8 rfl) rfl (s_iconst d_L_follow_15 n_1 (s_iret d_L_follow_16 rfl rfl))
  · refine fun mx => Or.inr ⟨17, ⟨rfl, by decide, 0, wx_29_0, Or.inr ⟨by decide, ⟨rfl, by decide, 1, wx_13_1, Or.inl ⟨rfl, rfl⟩⟩⟩⟩, fun qx => ?_⟩
    exact s_astoreV (L' := [(4, aV (.ref qx)), (0, aR (some (11, l0))), (1, aI l1), (2, aI l2), (3, aR (some (131, l3)))]) d_L_follow_17 (b8 rfl) rfl (s_iconst d_L_follow_19 n_2 (s_iret d_L_follow_20 rfl rfl))
  · refine fun mx => Or.inr ⟨21, ⟨rfl, by decide, 0, wx_29_0, Or.inr ⟨by decide, ⟨rfl, by decide, 1, wx_13_1, Or.inr ⟨by decide, ⟨rfl, by decide, 2, wx_15_2, Or.inl ⟨rfl, rfl⟩⟩⟩⟩⟩⟩, fun qx => ?_⟩
    exact s_astoreV (L' := [(4, aV (.ref qx)), (0, aR (some (11, l0))), (1, aI l1), (2, aI l2), (3, aR (some (131, l3)))]) d_L_follow_21 (b8 rfl) rfl (s_iconst d_L_follow_23 n_3 (s_iret d_L_follow_24 rfl rfl))
  exact s_i2l d_L_follow_8 (s_stL d_L_follow_9 ka_131 rfl fun m3 => (s_goto (tgt := 25) d_L_follow_10 rfl (s_iconst d_L_follow_25 n_0 (s_iret d_L_follow_26 rfl rfl))))
theorem d_X4_lastWord_0 : dk me_X4_lastWord 0 (.aload_n 0) 1 1 := And.intro (by decide +kernel) rfl
theorem d_X4_lastWord_1 : dk me_X4_lastWord 1 (.getfield 9) 3 4 := And.intro (by decide +kernel) rfl
theorem d_X4_lastWord_4 : dk me_X4_lastWord 4 (.aload_n 0) 1 5 := And.intro (by decide +kernel) rfl
theorem d_X4_lastWord_5 : dk me_X4_lastWord 5 (.iload_n 1) 1 6 := And.intro (by decide +kernel) rfl
theorem d_X4_lastWord_6 : dk me_X4_lastWord 6 (.invokevirtual 73) 3 9 := And.intro (by decide +kernel) rfl
theorem d_X4_lastWord_9 : dk me_X4_lastWord 9 (.iconst 1) 1 10 := And.intro (by decide +kernel) rfl
theorem d_X4_lastWord_10 : dk me_X4_lastWord 10 (.isub) 1 11 := And.intro (by decide +kernel) rfl
theorem d_X4_lastWord_11 : dk me_X4_lastWord 11 (.iconst 0) 1 12 := And.intro (by decide +kernel) rfl
theorem d_X4_lastWord_12 : dk me_X4_lastWord 12 (.invokestatic 77) 3 15 := And.intro (by decide +kernel) rfl
theorem d_X4_lastWord_15 : dk me_X4_lastWord 15 (.iaload) 1 16 := And.intro (by decide +kernel) rfl
theorem d_X4_lastWord_16 : dk me_X4_lastWord 16 (.ireturn) 1 17 := And.intro (by decide +kernel) rfl
theorem ms_X4_lastWord {fx : FX} {m : MM} {l0 : Nat} {l1 : Int} : MS fx me_X4_lastWord [aR (some (4, l0)), aI l1] m ((f_X4_lastWord m l0 l1).bind fun v => some (.inl (some (aI v)), m)) := by
  refine ms_of rfl mf_X4_lastWord (b8 rfl) ?_
  show Sim fx me_X4_lastWord 0 [(0, aR (some (4, l0))), (1, aI l1)] [] m _
  unfold f_X4_lastWord
  refine s_aload_n d_X4_lastWord_0 m0_ (s_getR cf d_X4_lastWord_1 fl_X4_9 (s_nk fun i1 => (s_aload_n d_X4_lastWord_4 m0_ (s_iload_n d_X4_lastWord_5 m1_ (s_pI (r_V d_X4_lastWord_6 k_X4_wordBehindLine w_944 rfl rfl) ms_X4_wordBehindLine (b8 rfl) rfl rfl rfl fun v2 => ?_)))))
  refine s_iconst d_X4_lastWord_9 n_1 (s_isub d_X4_lastWord_10 rfl rfl (s_iconst d_X4_lastWord_11 n_0 (s_ck1 (s_max d_X4_lastWord_12 w_1006 wm_max1 wm_3 wm_max2 (b8 rfl) (b8 rfl) (s_ldN d_X4_lastWord_15 ka_27 rfl fun v3 => ?_)))))
  exact s_iret d_X4_lastWord_16 rfl rfl
theorem d_X0_lastWordOfLine_0 : dk me_X0_lastWordOfLine 0 (.iload_n 1) 1 1 := And.intro (by decide +kernel) rfl
theorem d_X0_lastWordOfLine_1 : dk me_X0_lastWordOfLine 1 (.istore_n 2) 1 2 := And.intro (by decide +kernel) rfl
theorem d_X0_lastWordOfLine_2 : dk me_X0_lastWordOfLine 2 (.aload_n 0) 1 3 := And.intro (by decide +kernel) rfl
theorem d_X0_lastWordOfLine_3 : dk me_X0_lastWordOfLine 3 (.getfield 33) 3 6 := And.intro (by decide +kernel) rfl
theorem d_X0_lastWordOfLine_6 : dk me_X0_lastWordOfLine 6 (.astore_n 3) 1 7 := And.intro (by decide +kernel) rfl
theorem d_X0_lastWordOfLine_7 : dk me_X0_lastWordOfLine 7 (.aload_n 3) 1 8 := And.intro (by decide +kernel) rfl
theorem d_X0_lastWordOfLine_8 : dk me_X0_lastWordOfLine 8 (.arraylength) 1 9 := And.intro (by decide +kernel) rfl
theorem d_X0_lastWordOfLine_9 : dk me_X0_lastWordOfLine 9 (.istore 4) 2 11 := And.intro (by decide +kernel) rfl
theorem d_X0_lastWordOfLine_11 : dk me_X0_lastWordOfLine 11 (.iconst 0) 1 12 := And.intro (by decide +kernel) rfl
theorem d_X0_lastWordOfLine_12 : dk me_X0_lastWordOfLine 12 (.istore 5) 2 14 := And.intro (by decide +kernel) rfl
theorem d_X0_lastWordOfLine_14 : dk me_X0_lastWordOfLine 14 (.iload 5) 2 16 := And.intro (by decide +kernel) rfl
theorem d_X0_lastWordOfLine_16 : dk me_X0_lastWordOfLine 16 (.iload 4) 2 18 := And.intro (by decide +kernel) rfl
theorem d_X0_lastWordOfLine_18 : dk me_X0_lastWordOfLine 18 (.if_icmp .ge 39) 3 21 := And.intro (by decide +kernel) rfl
theorem d_X0_lastWordOfLine_21 : dk me_X0_lastWordOfLine 21 (.aload_n 3) 1 22 := And.intro (by decide +kernel) rfl
theorem d_X0_lastWordOfLine_22 : dk me_X0_lastWordOfLine 22 (.iload 5) 2 24 := And.intro (by decide +kernel) rfl
theorem d_X0_lastWordOfLine_24 : dk me_X0_lastWordOfLine 24 (.aaload) 1 25 := And.intro (by decide +kernel) rfl
theorem d_X0_lastWordOfLine_25 : dk me_X0_lastWordOfLine 25 (.astore 6) 2 27 := And.intro (by decide +kernel) rfl
theorem d_X0_lastWordOfLine_27 : dk me_X0_lastWordOfLine 27 (.iload_n 2) 1 28 := And.intro (by decide +kernel) rfl
theorem d_X0_lastWordOfLine_28 : dk me_X0_lastWordOfLine 28 (.aload 6) 2 30 := And.intro (by decide +kernel) rfl
theorem d_X0_lastWordOfLine_30 : dk me_X0_lastWordOfLine 30 (.getfield 92) 3 33 := And.intro (by decide +kernel) rfl
theorem d_X0_lastWordOfLine_33 : dk me_X0_lastWordOfLine 33 (.if_icmp .ge 10) 3 36 := And.intro (by decide +kernel) rfl
theorem d_X0_lastWordOfLine_36 : dk me_X0_lastWordOfLine 36 (.aload 6) 2 38 := And.intro (by decide +kernel) rfl
theorem d_X0_lastWordOfLine_38 : dk me_X0_lastWordOfLine 38 (.iload_n 2) 1 39 := And.intro (by decide +kernel) rfl
theorem d_X0_lastWordOfLine_39 : dk me_X0_lastWordOfLine 39 (.invokevirtual 95) 3 42 := And.intro (by decide +kernel) rfl
theorem d_X0_lastWordOfLine_42 : dk me_X0_lastWordOfLine 42 (.ireturn) 1 43 := And.intro (by decide +kernel) rfl
theorem d_X0_lastWordOfLine_43 : dk me_X0_lastWordOfLine 43 (.iload_n 2) 1 44 := And.intro (by decide +kernel) rfl
theorem d_X0_lastWordOfLine_44 : dk me_X0_lastWordOfLine 44 (.aload 6) 2 46 := And.intro (by decide +kernel) rfl
theorem d_X0_lastWordOfLine_46 : dk me_X0_lastWordOfLine 46 (.getfield 92) 3 49 := And.intro (by decide +kernel) rfl
theorem d_X0_lastWordOfLine_49 : dk me_X0_lastWordOfLine 49 (.isub) 1 50 := And.intro (by decide +kernel) rfl
theorem d_X0_lastWordOfLine_50 : dk me_X0_lastWordOfLine 50 (.istore_n 2) 1 51 := And.intro (by decide +kernel) rfl
theorem d_X0_lastWordOfLine_51 : dk me_X0_lastWordOfLine 51 (.iinc 5 1) 3 54 := And.intro (by decide +kernel) rfl
theorem d_X0_lastWordOfLine_54 : dk me_X0_lastWordOfLine 54 (.goto (-40)) 3 57 := And.intro (by decide +kernel) rfl
theorem d_X0_lastWordOfLine_57 : dk me_X0_lastWordOfLine 57 (.iconst (-1)) 1 58 := And.intro (by decide +kernel) rfl
theorem d_X0_lastWordOfLine_58 : dk me_X0_lastWordOfLine 58 (.ireturn) 1 59 := And.intro (by decide +kernel) rfl
theorem ms_X0_lastWordOfLine {fx : FX} {m : MM} {l0 : Nat} {l1 : Int} : MS fx me_X0_lastWordOfLine [aR (some (0, l0)), aI l1] m ((f_X0_lastWordOfLine m l0 l1).bind fun v => some (.inl (some (aI v)), m)) := by
  refine ms_of rfl mf_X0_lastWordOfLine (b8 rfl) ?_
  show Sim fx me_X0_lastWordOfLine 0 [(0, aR (some (0, l0))), (1, aI l1)] [] m _
  unfold f_X0_lastWordOfLine
  have hj_X0_lastWordOfLine_0_57 : Sim fx me_X0_lastWordOfLine 57 [] [] m ((j_X0_lastWordOfLine_0_57 m).bind (fun v => some (.inl (some (aI v)), m))) := by
    unfold j_X0_lastWordOfLine_0_57
    exact s_iconst d_X0_lastWordOfLine_57 n_m1 (s_iret d_X0_lastWordOfLine_58 rfl rfl)
  refine s_iload_n d_X0_lastWordOfLine_0 m1_ (s_istore_n (L' := [(2, aI l1), (0, aR (some (0, l0))), (1, aI l1)]) d_X0_lastWordOfLine_1 (b8 rfl) rfl (s_aload_n d_X0_lastWordOfLine_2 m1_ (s_getR cf d_X0_lastWordOfLine_3 fl_X0_33 (s_nk fun i1 => (s_astore_n (L' := [(3, aR (some (13, i1))), (2, aI l1), (0, aR (some (0, l0))), (1, aI l1)]) d_X0_lastWordOfLine_6 (b8 rfl) rfl ?_)))))
  refine s_aload_n d_X0_lastWordOfLine_7 m0_ (s_len d_X0_lastWordOfLine_8 ka_13 ta_13 (s_istore (L' := [(4, aI (lenI m 13 i1)), (3, aR (some (13, i1))), (2, aI l1), (0, aR (some (0, l0))), (1, aI l1)]) d_X0_lastWordOfLine_9 (b8 rfl) rfl (s_iconst d_X0_lastWordOfLine_11 n_0 (s_istore (L' := [(5, aI 0), (4, aI (lenI m 13 i1)), (3, aR (some (13, i1))), (2, aI l1), (0, aR (some (0, l0))), (1, aI l1)]) d_X0_lastWordOfLine_12 (b8 rfl) rfl (s_sub (subc m3_ (subc m0_ (subc m2_ (subc m1_ sub0)))) (s_lp2 (fun s => [(2, aI (s.1)), (5, aI (s.2)), (3, aR (some (13, i1))), (4, aI (lenI m 13 i1))]) (fun s => m) (l1, 0) fun k14 hx14 s ih0 => ?_))))))
  obtain ⟨l2_14, l5_14⟩ := s
  have ih14 := ih0
  clear ih0
  try dsimp only
  unfold b_X0_lastWordOfLine_14
  refine s_iload d_X0_lastWordOfLine_14 m1_ (s_iload d_X0_lastWordOfLine_16 m3_ (s_icmp_ge (tgt := 57) d_X0_lastWordOfLine_18 rfl ?_ ?_))
  · exact s_exit (hx14 _) (s_sub (sub0) (hj_X0_lastWordOfLine_0_57 ))
  refine s_aload_n d_X0_lastWordOfLine_21 m2_ (s_iload d_X0_lastWordOfLine_22 m1_ (s_ldR d_X0_lastWordOfLine_24 ka_13 ta_13 rfl rfl fun r2 => (s_nk fun i3 => (s_astore (L' := [(6, aR (some (4, i3))), (2, aI l2_14), (5, aI l5_14), (3, aR (some (13, i1))), (4, aI (lenI m 13 i1))]) d_X0_lastWordOfLine_25 (b8 rfl) rfl (s_iload_n d_X0_lastWordOfLine_27 m1_ ?_)))))
  refine s_aload d_X0_lastWordOfLine_28 m0_ (s_getN cf d_X0_lastWordOfLine_30 fl_X0_92 (s_icmp_ge (tgt := 43) d_X0_lastWordOfLine_33 rfl ?_ ?_))
  · refine s_iload_n d_X0_lastWordOfLine_43 m1_ (s_aload d_X0_lastWordOfLine_44 m0_ (s_getN cf d_X0_lastWordOfLine_46 fl_X0_92 (s_isub d_X0_lastWordOfLine_49 rfl rfl (s_ck (s_istore_n (L' := [(2, aI (l2_14 - (gN m 4 i3 11))), (6, aR (some (4, i3))), (5, aI l5_14), (3, aR (some (13, i1))), (4, aI (lenI m 13 i1))]) d_X0_lastWordOfLine_50 (b8 rfl) rfl ?_)))))
    exact s_iinc (L' := [(5, aI (l5_14 + 1)), (2, aI (l2_14 - (gN m 4 i3 11))), (6, aR (some (4, i3))), (3, aR (some (13, i1))), (4, aI (lenI m 13 i1))]) d_X0_lastWordOfLine_51 m2_ (b8 rfl) rfl (s_goto (tgt := 14) d_X0_lastWordOfLine_54 rfl (s_sub (subc m1_ (subc m0_ (subc m3_ (subc m4_ sub0)))) (s_back (ih14 ((l2_14 - (gN m 4 i3 11)), (l5_14 + 1))))))
  exact s_aload d_X0_lastWordOfLine_36 m0_ (s_iload_n d_X0_lastWordOfLine_38 m1_ (s_pI (r_V d_X0_lastWordOfLine_39 k_X4_lastWord w_1391 rfl rfl) ms_X4_lastWord (b8 rfl) rfl rfl rfl fun v4 => (s_iret d_X0_lastWordOfLine_42 rfl ((hx14 _).trans rfl))))
theorem d_X0_linesOnPages_0 : dk me_X0_linesOnPages 0 (.iconst 0) 1 1 := And.intro (by decide +kernel) rfl
theorem d_X0_linesOnPages_1 : dk me_X0_linesOnPages 1 (.istore_n 1) 1 2 := And.intro (by decide +kernel) rfl
theorem d_X0_linesOnPages_2 : dk me_X0_linesOnPages 2 (.aload_n 0) 1 3 := And.intro (by decide +kernel) rfl
theorem d_X0_linesOnPages_3 : dk me_X0_linesOnPages 3 (.getfield 33) 3 6 := And.intro (by decide +kernel) rfl
theorem d_X0_linesOnPages_6 : dk me_X0_linesOnPages 6 (.astore_n 2) 1 7 := And.intro (by decide +kernel) rfl
theorem d_X0_linesOnPages_7 : dk me_X0_linesOnPages 7 (.aload_n 2) 1 8 := And.intro (by decide +kernel) rfl
theorem d_X0_linesOnPages_8 : dk me_X0_linesOnPages 8 (.arraylength) 1 9 := And.intro (by decide +kernel) rfl
theorem d_X0_linesOnPages_9 : dk me_X0_linesOnPages 9 (.istore_n 3) 1 10 := And.intro (by decide +kernel) rfl
theorem d_X0_linesOnPages_10 : dk me_X0_linesOnPages 10 (.iconst 0) 1 11 := And.intro (by decide +kernel) rfl
theorem d_X0_linesOnPages_11 : dk me_X0_linesOnPages 11 (.istore 4) 2 13 := And.intro (by decide +kernel) rfl
theorem d_X0_linesOnPages_13 : dk me_X0_linesOnPages 13 (.iload 4) 2 15 := And.intro (by decide +kernel) rfl
theorem d_X0_linesOnPages_15 : dk me_X0_linesOnPages 15 (.iload_n 3) 1 16 := And.intro (by decide +kernel) rfl
theorem d_X0_linesOnPages_16 : dk me_X0_linesOnPages 16 (.if_icmp .ge 23) 3 19 := And.intro (by decide +kernel) rfl
theorem d_X0_linesOnPages_19 : dk me_X0_linesOnPages 19 (.aload_n 2) 1 20 := And.intro (by decide +kernel) rfl
theorem d_X0_linesOnPages_20 : dk me_X0_linesOnPages 20 (.iload 4) 2 22 := And.intro (by decide +kernel) rfl
theorem d_X0_linesOnPages_22 : dk me_X0_linesOnPages 22 (.aaload) 1 23 := And.intro (by decide +kernel) rfl
theorem d_X0_linesOnPages_23 : dk me_X0_linesOnPages 23 (.astore 5) 2 25 := And.intro (by decide +kernel) rfl
theorem d_X0_linesOnPages_25 : dk me_X0_linesOnPages 25 (.iload_n 1) 1 26 := And.intro (by decide +kernel) rfl
theorem d_X0_linesOnPages_26 : dk me_X0_linesOnPages 26 (.aload 5) 2 28 := And.intro (by decide +kernel) rfl
theorem d_X0_linesOnPages_28 : dk me_X0_linesOnPages 28 (.getfield 92) 3 31 := And.intro (by decide +kernel) rfl
theorem d_X0_linesOnPages_31 : dk me_X0_linesOnPages 31 (.iadd) 1 32 := And.intro (by decide +kernel) rfl
theorem d_X0_linesOnPages_32 : dk me_X0_linesOnPages 32 (.istore_n 1) 1 33 := And.intro (by decide +kernel) rfl
theorem d_X0_linesOnPages_33 : dk me_X0_linesOnPages 33 (.iinc 4 1) 3 36 := And.intro (by decide +kernel) rfl
theorem d_X0_linesOnPages_36 : dk me_X0_linesOnPages 36 (.goto (-23)) 3 39 := And.intro (by decide +kernel) rfl
theorem d_X0_linesOnPages_39 : dk me_X0_linesOnPages 39 (.iload_n 1) 1 40 := And.intro (by decide +kernel) rfl
theorem d_X0_linesOnPages_40 : dk me_X0_linesOnPages 40 (.ireturn) 1 41 := And.intro (by decide +kernel) rfl
theorem ms_X0_linesOnPages {fx : FX} {m : MM} {l0 : Nat} : MS fx me_X0_linesOnPages [aR (some (0, l0))] m ((f_X0_linesOnPages m l0).bind fun v => some (.inl (some (aI v)), m)) := by
  refine ms_of rfl mf_X0_linesOnPages (b8 rfl) ?_
  show Sim fx me_X0_linesOnPages 0 [(0, aR (some (0, l0)))] [] m _
  unfold f_X0_linesOnPages
  have hj_X0_linesOnPages_0_39 : ∀ (l1_39 : Int), Sim fx me_X0_linesOnPages 39 [(1, aI l1_39)] [] m ((j_X0_linesOnPages_0_39 m l1_39).bind (fun v => some (.inl (some (aI v)), m))) := by
    intro l1_39
    unfold j_X0_linesOnPages_0_39
    exact s_iload_n d_X0_linesOnPages_39 m0_ (s_iret d_X0_linesOnPages_40 rfl rfl)
  refine s_iconst d_X0_linesOnPages_0 n_0 (s_istore_n (L' := [(1, aI 0), (0, aR (some (0, l0)))]) d_X0_linesOnPages_1 (b8 rfl) rfl (s_aload_n d_X0_linesOnPages_2 m1_ (s_getR cf d_X0_linesOnPages_3 fl_X0_33 (s_nk fun i1 => (s_astore_n (L' := [(2, aR (some (13, i1))), (1, aI 0), (0, aR (some (0, l0)))]) d_X0_linesOnPages_6 (b8 rfl) rfl ?_)))))
  refine s_aload_n d_X0_linesOnPages_7 m0_ (s_len d_X0_linesOnPages_8 ka_13 ta_13 (s_istore_n (L' := [(3, aI (lenI m 13 i1)), (2, aR (some (13, i1))), (1, aI 0), (0, aR (some (0, l0)))]) d_X0_linesOnPages_9 (b8 rfl) rfl (s_iconst d_X0_linesOnPages_10 n_0 (s_istore (L' := [(4, aI 0), (3, aI (lenI m 13 i1)), (2, aR (some (13, i1))), (1, aI 0), (0, aR (some (0, l0)))]) d_X0_linesOnPages_11 (b8 rfl) rfl (s_sub (subc m3_ (subc m0_ (subc m2_ (subc m1_ sub0)))) (s_lp2 (fun s => [(1, aI (s.1)), (4, aI (s.2)), (2, aR (some (13, i1))), (3, aI (lenI m 13 i1))]) (fun s => m) (0, 0) fun k13 hx13 s ih0 => ?_))))))
  obtain ⟨l1_13, l4_13⟩ := s
  have ih13 := ih0
  clear ih0
  try dsimp only
  unfold b_X0_linesOnPages_13
  refine s_iload d_X0_linesOnPages_13 m1_ (s_iload_n d_X0_linesOnPages_15 m3_ (s_icmp_ge (tgt := 39) d_X0_linesOnPages_16 rfl ?_ ?_))
  · exact s_exit (hx13 _) (s_sub (subc m0_ sub0) (hj_X0_linesOnPages_0_39 l1_13))
  refine s_aload_n d_X0_linesOnPages_19 m2_ (s_iload d_X0_linesOnPages_20 m1_ (s_ldR d_X0_linesOnPages_22 ka_13 ta_13 rfl rfl fun r2 => (s_nk fun i3 => (s_astore (L' := [(5, aR (some (4, i3))), (1, aI l1_13), (4, aI l4_13), (2, aR (some (13, i1))), (3, aI (lenI m 13 i1))]) d_X0_linesOnPages_23 (b8 rfl) rfl (s_iload_n d_X0_linesOnPages_25 m1_ ?_)))))
  refine s_aload d_X0_linesOnPages_26 m0_ (s_getN cf d_X0_linesOnPages_28 fl_X0_92 (s_iadd d_X0_linesOnPages_31 rfl rfl (s_ck (s_istore_n (L' := [(1, aI (l1_13 + (gN m 4 i3 11))), (5, aR (some (4, i3))), (4, aI l4_13), (2, aR (some (13, i1))), (3, aI (lenI m 13 i1))]) d_X0_linesOnPages_32 (b8 rfl) rfl (s_iinc (L' := [(4, aI (l4_13 + 1)), (1, aI (l1_13 + (gN m 4 i3 11))), (5, aR (some (4, i3))), (2, aR (some (13, i1))), (3, aI (lenI m 13 i1))]) d_X0_linesOnPages_33 m2_ (b8 rfl) rfl ?_)))))
  exact s_goto (tgt := 13) d_X0_linesOnPages_36 rfl (s_sub (subc m1_ (subc m0_ (subc m3_ (subc m4_ sub0)))) (s_back (ih13 ((l1_13 + (gN m 4 i3 11)), (l4_13 + 1)))))
theorem d_X9_isLike_0 : dk me_X9_isLike 0 (.aload_n 0) 1 1 := And.intro (by decide +kernel) rfl
theorem d_X9_isLike_1 : dk me_X9_isLike 1 (.getfield 9) 3 4 := And.intro (by decide +kernel) rfl
theorem d_X9_isLike_4 : dk me_X9_isLike 4 (.iload_n 1) 1 5 := And.intro (by decide +kernel) rfl
theorem d_X9_isLike_5 : dk me_X9_isLike 5 (.laload) 1 6 := And.intro (by decide +kernel) rfl
theorem d_X9_isLike_6 : dk me_X9_isLike 6 (.aload_n 2) 1 7 := And.intro (by decide +kernel) rfl
theorem d_X9_isLike_7 : dk me_X9_isLike 7 (.getfield 9) 3 10 := And.intro (by decide +kernel) rfl
theorem d_X9_isLike_10 : dk me_X9_isLike 10 (.iload_n 3) 1 11 := And.intro (by decide +kernel) rfl
theorem d_X9_isLike_11 : dk me_X9_isLike 11 (.laload) 1 12 := And.intro (by decide +kernel) rfl
theorem d_X9_isLike_12 : dk me_X9_isLike 12 (.lcmp) 1 13 := And.intro (by decide +kernel) rfl
theorem d_X9_isLike_13 : dk me_X9_isLike 13 (.ifCond .ne 5) 3 16 := And.intro (by decide +kernel) rfl
theorem d_X9_isLike_16 : dk me_X9_isLike 16 (.iconst 1) 1 17 := And.intro (by decide +kernel) rfl
theorem d_X9_isLike_17 : dk me_X9_isLike 17 (.ireturn) 1 18 := And.intro (by decide +kernel) rfl
theorem d_X9_isLike_18 : dk me_X9_isLike 18 (.aload_n 0) 1 19 := And.intro (by decide +kernel) rfl
theorem d_X9_isLike_19 : dk me_X9_isLike 19 (.getfield 21) 3 22 := And.intro (by decide +kernel) rfl
theorem d_X9_isLike_22 : dk me_X9_isLike 22 (.iload_n 1) 1 23 := And.intro (by decide +kernel) rfl
theorem d_X9_isLike_23 : dk me_X9_isLike 23 (.iaload) 1 24 := And.intro (by decide +kernel) rfl
theorem d_X9_isLike_24 : dk me_X9_isLike 24 (.iconst (-1)) 1 25 := And.intro (by decide +kernel) rfl
theorem d_X9_isLike_25 : dk me_X9_isLike 25 (.if_icmp .eq 22) 3 28 := And.intro (by decide +kernel) rfl
theorem d_X9_isLike_28 : dk me_X9_isLike 28 (.aload_n 0) 1 29 := And.intro (by decide +kernel) rfl
theorem d_X9_isLike_29 : dk me_X9_isLike 29 (.getfield 21) 3 32 := And.intro (by decide +kernel) rfl
theorem d_X9_isLike_32 : dk me_X9_isLike 32 (.iload_n 1) 1 33 := And.intro (by decide +kernel) rfl
theorem d_X9_isLike_33 : dk me_X9_isLike 33 (.iaload) 1 34 := And.intro (by decide +kernel) rfl
theorem d_X9_isLike_34 : dk me_X9_isLike 34 (.aload_n 2) 1 35 := And.intro (by decide +kernel) rfl
theorem d_X9_isLike_35 : dk me_X9_isLike 35 (.getfield 21) 3 38 := And.intro (by decide +kernel) rfl
theorem d_X9_isLike_38 : dk me_X9_isLike 38 (.iload_n 3) 1 39 := And.intro (by decide +kernel) rfl
theorem d_X9_isLike_39 : dk me_X9_isLike 39 (.iaload) 1 40 := And.intro (by decide +kernel) rfl
theorem d_X9_isLike_40 : dk me_X9_isLike 40 (.if_icmp .ne 7) 3 43 := And.intro (by decide +kernel) rfl
theorem d_X9_isLike_43 : dk me_X9_isLike 43 (.iconst 1) 1 44 := And.intro (by decide +kernel) rfl
theorem d_X9_isLike_44 : dk me_X9_isLike 44 (.goto 4) 3 47 := And.intro (by decide +kernel) rfl
theorem d_X9_isLike_47 : dk me_X9_isLike 47 (.iconst 0) 1 48 := And.intro (by decide +kernel) rfl
theorem d_X9_isLike_48 : dk me_X9_isLike 48 (.ireturn) 1 49 := And.intro (by decide +kernel) rfl
theorem ms_X9_isLike {fx : FX} {m : MM} {l0 : Nat} {l1 : Int} {l2 : Nat} {l3 : Int} : MS fx me_X9_isLike [aR (some (9, l0)), aI l1, aR (some (9, l2)), aI l3] m ((f_X9_isLike m l0 l1 l2 l3).bind fun v => some (.inl (some (aI v)), m)) := by
  refine ms_of rfl mf_X9_isLike (b8 rfl) ?_
  show Sim fx me_X9_isLike 0 [(0, aR (some (9, l0))), (1, aI l1), (2, aR (some (9, l2))), (3, aI l3)] [] m _
  unfold f_X9_isLike
  refine s_aload_n d_X9_isLike_0 m0_ (s_getR cf d_X9_isLike_1 fl_X9_9 (s_nk fun i1 => (s_iload_n d_X9_isLike_4 m1_ (s_ldL d_X9_isLike_5 ka_45 rfl fun v2 => (s_aload_n d_X9_isLike_6 m2_ ?_)))))
  refine s_getR cf d_X9_isLike_7 fl_X9_9 (s_nk fun i3 => (s_iload_n d_X9_isLike_10 m3_ (s_ldL d_X9_isLike_11 ka_45 rfl fun v4 => (s_lcmp d_X9_isLike_12 (s_if_ne (tgt := 18) d_X9_isLike_13 rfl ?_ ?_)))))
  · refine s_aload_n d_X9_isLike_18 m0_ (s_getR cf d_X9_isLike_19 fl_X9_21 (s_nk fun i5 => (s_iload_n d_X9_isLike_22 m1_ (s_ldN d_X9_isLike_23 ka_48 rfl fun v6 => (s_iconst d_X9_isLike_24 n_m1 ?_)))))
    refine s_icmp_eq (tgt := 47) d_X9_isLike_25 rfl ?_ ?_
    · exact s_iconst d_X9_isLike_47 n_0 (s_zretl d_X9_isLike_48 rfl (by decide) rfl)
    refine s_aload_n d_X9_isLike_28 m0_ (s_getR cf d_X9_isLike_29 fl_X9_21 (s_nk fun i7 => (s_iload_n d_X9_isLike_32 m1_ (s_ldN d_X9_isLike_33 ka_48 rfl fun v8 => (s_aload_n d_X9_isLike_34 m2_ ?_)))))
    refine s_getR cf d_X9_isLike_35 fl_X9_21 (s_nk fun i9 => (s_iload_n d_X9_isLike_38 m3_ (s_ldN d_X9_isLike_39 ka_48 rfl fun v10 => (s_icmp_ne (tgt := 47) d_X9_isLike_40 rfl ?_ ?_))))
    · exact s_iconst d_X9_isLike_47 n_0 (s_zretl d_X9_isLike_48 rfl (by decide) rfl)
    exact s_iconst d_X9_isLike_43 n_1 (s_goto (tgt := 48) d_X9_isLike_44 rfl (s_zretl d_X9_isLike_48 rfl (by decide) rfl))
  exact s_iconst d_X9_isLike_16 n_1 (s_zretl d_X9_isLike_17 rfl (by decide) rfl)
theorem d_X11_follows_0 : dk me_X11_follows 0 (.aload_n 0) 1 1 := And.intro (by decide +kernel) rfl
theorem d_X11_follows_1 : dk me_X11_follows 1 (.iload_n 1) 1 2 := And.intro (by decide +kernel) rfl
theorem d_X11_follows_2 : dk me_X11_follows 2 (.invokevirtual 143) 3 5 := And.intro (by decide +kernel) rfl
theorem d_X11_follows_5 : dk me_X11_follows 5 (.astore_n 3) 1 6 := And.intro (by decide +kernel) rfl
theorem d_X11_follows_6 : dk me_X11_follows 6 (.aload_n 0) 1 7 := And.intro (by decide +kernel) rfl
theorem d_X11_follows_7 : dk me_X11_follows 7 (.iload_n 2) 1 8 := And.intro (by decide +kernel) rfl
theorem d_X11_follows_8 : dk me_X11_follows 8 (.invokevirtual 143) 3 11 := And.intro (by decide +kernel) rfl
theorem d_X11_follows_11 : dk me_X11_follows 11 (.astore 4) 2 13 := And.intro (by decide +kernel) rfl
theorem d_X11_follows_13 : dk me_X11_follows 13 (.iconst 0) 1 14 := And.intro (by decide +kernel) rfl
theorem d_X11_follows_14 : dk me_X11_follows 14 (.istore 5) 2 16 := And.intro (by decide +kernel) rfl
theorem d_X11_follows_16 : dk me_X11_follows 16 (.aload_n 3) 1 17 := And.intro (by decide +kernel) rfl
theorem d_X11_follows_17 : dk me_X11_follows 17 (.invokevirtual 428) 3 20 := And.intro (by decide +kernel) rfl
theorem d_X11_follows_20 : dk me_X11_follows 20 (.istore 6) 2 22 := And.intro (by decide +kernel) rfl
theorem d_X11_follows_22 : dk me_X11_follows 22 (.iconst 0) 1 23 := And.intro (by decide +kernel) rfl
theorem d_X11_follows_23 : dk me_X11_follows 23 (.istore 7) 2 25 := And.intro (by decide +kernel) rfl
theorem d_X11_follows_25 : dk me_X11_follows 25 (.iload 7) 2 27 := And.intro (by decide +kernel) rfl
theorem d_X11_follows_27 : dk me_X11_follows 27 (.iload 6) 2 29 := And.intro (by decide +kernel) rfl
theorem d_X11_follows_29 : dk me_X11_follows 29 (.if_icmp .ge 60) 3 32 := And.intro (by decide +kernel) rfl
theorem d_X11_follows_32 : dk me_X11_follows 32 (.aload_n 3) 1 33 := And.intro (by decide +kernel) rfl
theorem d_X11_follows_33 : dk me_X11_follows 33 (.iload 7) 2 35 := And.intro (by decide +kernel) rfl
theorem d_X11_follows_35 : dk me_X11_follows 35 (.invokevirtual 431) 3 38 := And.intro (by decide +kernel) rfl
theorem d_X11_follows_38 : dk me_X11_follows 38 (.istore 8) 2 40 := And.intro (by decide +kernel) rfl
theorem d_X11_follows_40 : dk me_X11_follows 40 (.aload 4) 2 42 := And.intro (by decide +kernel) rfl
theorem d_X11_follows_42 : dk me_X11_follows 42 (.iload 7) 2 44 := And.intro (by decide +kernel) rfl
theorem d_X11_follows_44 : dk me_X11_follows 44 (.invokevirtual 431) 3 47 := And.intro (by decide +kernel) rfl
theorem d_X11_follows_47 : dk me_X11_follows 47 (.istore 9) 2 49 := And.intro (by decide +kernel) rfl
theorem d_X11_follows_49 : dk me_X11_follows 49 (.iload 8) 2 51 := And.intro (by decide +kernel) rfl
theorem d_X11_follows_51 : dk me_X11_follows 51 (.iconst (-1)) 1 52 := And.intro (by decide +kernel) rfl
theorem d_X11_follows_52 : dk me_X11_follows 52 (.if_icmp .eq 31) 3 55 := And.intro (by decide +kernel) rfl
theorem d_X11_follows_55 : dk me_X11_follows 55 (.iload 9) 2 57 := And.intro (by decide +kernel) rfl
theorem d_X11_follows_57 : dk me_X11_follows 57 (.iconst (-1)) 1 58 := And.intro (by decide +kernel) rfl
theorem d_X11_follows_58 : dk me_X11_follows 58 (.if_icmp .eq 25) 3 61 := And.intro (by decide +kernel) rfl
theorem d_X11_follows_61 : dk me_X11_follows 61 (.aload_n 3) 1 62 := And.intro (by decide +kernel) rfl
theorem d_X11_follows_62 : dk me_X11_follows 62 (.getfield 153) 3 65 := And.intro (by decide +kernel) rfl
theorem d_X11_follows_65 : dk me_X11_follows 65 (.iload 8) 2 67 := And.intro (by decide +kernel) rfl
theorem d_X11_follows_67 : dk me_X11_follows 67 (.aload 4) 2 69 := And.intro (by decide +kernel) rfl
theorem d_X11_follows_69 : dk me_X11_follows 69 (.getfield 153) 3 72 := And.intro (by decide +kernel) rfl
theorem d_X11_follows_72 : dk me_X11_follows 72 (.iload 9) 2 74 := And.intro (by decide +kernel) rfl
theorem d_X11_follows_74 : dk me_X11_follows 74 (.invokevirtual 434) 3 77 := And.intro (by decide +kernel) rfl
theorem d_X11_follows_77 : dk me_X11_follows 77 (.ifCond .eq 6) 3 80 := And.intro (by decide +kernel) rfl
theorem d_X11_follows_80 : dk me_X11_follows 80 (.iinc 5 1) 3 83 := And.intro (by decide +kernel) rfl
theorem d_X11_follows_83 : dk me_X11_follows 83 (.iinc 7 1) 3 86 := And.intro (by decide +kernel) rfl
theorem d_X11_follows_86 : dk me_X11_follows 86 (.goto (-61)) 3 89 := And.intro (by decide +kernel) rfl
theorem d_X11_follows_89 : dk me_X11_follows 89 (.iload 5) 2 91 := And.intro (by decide +kernel) rfl
theorem d_X11_follows_91 : dk me_X11_follows 91 (.ireturn) 1 92 := And.intro (by decide +kernel) rfl
theorem ms_X11_follows {fx : FX} {m : MM} {l0 : Nat} {l1 : Int} {l2 : Int} : MS fx me_X11_follows [aR (some (11, l0)), aI l1, aI l2] m (f_X11_follows m l0 l1 l2) := by
  refine ms_of rfl mf_X11_follows (b8 rfl) ?_
  refine s_top ?_
  show Sim fx me_X11_follows 0 [(0, aR (some (11, l0))), (1, aI l1), (2, aI l2)] [] m _
  unfold f_X11_follows
  have hj_X11_follows_0_89 : ∀ (m_89 : MM) (l5_89 : Int), Sim fx me_X11_follows 89 [(5, aI l5_89)] [] m_89 ((j_X11_follows_0_89 m_89 l5_89).bind (fun z => some z)) := by
    intro m_89 l5_89
    unfold j_X11_follows_0_89
    exact s_iload d_X11_follows_89 m0_ (s_iret d_X11_follows_91 rfl rfl)
  refine s_aload_n d_X11_follows_0 m0_ (s_iload_n d_X11_follows_1 m1_ (s_cR (r_V d_X11_follows_2 k_X11_bookAt w_814 rfl rfl) ms_X11_bookAt (b8 rfl) rfl rfl rfl (fun h => by cases h) (fun _ _ => Or.inr rfl) fun r2 m1 => (s_nk fun i3 => (s_astore_n (L' := [(3, aR (some (0, i3))), (0, aR (some (11, l0))), (1, aI l1), (2, aI l2)]) d_X11_follows_5 (b8 rfl) rfl (s_aload_n d_X11_follows_6 m1_ ?_)))))
  refine s_iload_n d_X11_follows_7 m3_ (s_cR (r_V d_X11_follows_8 k_X11_bookAt w_814 rfl rfl) ms_X11_bookAt (b8 rfl) rfl rfl rfl (fun h => by cases h) (fun _ _ => Or.inr rfl) fun r5 m4 => (s_nk fun i6 => (s_astore (L' := [(4, aR (some (0, i6))), (3, aR (some (0, i3))), (0, aR (some (11, l0))), (1, aI l1), (2, aI l2)]) d_X11_follows_11 (b8 rfl) rfl (s_iconst d_X11_follows_13 n_0 (s_istore (L' := [(5, aI 0), (4, aR (some (0, i6))), (3, aR (some (0, i3))), (0, aR (some (11, l0))), (1, aI l1), (2, aI l2)]) d_X11_follows_14 (b8 rfl) rfl ?_)))))
  refine s_aload_n d_X11_follows_16 m2_ (s_pI (r_V d_X11_follows_17 k_X0_linesOnPages w_1383 rfl rfl) ms_X0_linesOnPages (b8 rfl) rfl rfl rfl fun v7 => (s_istore (L' := [(6, aI v7), (5, aI 0), (4, aR (some (0, i6))), (3, aR (some (0, i3))), (0, aR (some (11, l0))), (1, aI l1), (2, aI l2)]) d_X11_follows_20 (b8 rfl) rfl (s_iconst d_X11_follows_22 n_0 (s_istore (L' := [(7, aI 0), (6, aI v7), (5, aI 0), (4, aR (some (0, i6))), (3, aR (some (0, i3))), (0, aR (some (11, l0))), (1, aI l1), (2, aI l2)]) d_X11_follows_23 (b8 rfl) rfl (s_sub (subc m2_ (subc m0_ (subc m4_ (subc m3_ (subc m1_ sub0))))) (s_lp2 (fun s => [(5, aI (s.1)), (7, aI (s.2)), (3, aR (some (0, i3))), (4, aR (some (0, i6))), (6, aI v7)]) (fun s => m4) (0, 0) fun k25 hx25 s ih0 => ?_))))))
  obtain ⟨l5_25, l7_25⟩ := s
  have ih25 := ih0
  clear ih0
  try dsimp only
  unfold b_X11_follows_25
  refine s_iload d_X11_follows_25 m1_ (s_iload d_X11_follows_27 m4_ (s_icmp_ge (tgt := 89) d_X11_follows_29 rfl ?_ ?_))
  · exact s_exit (hx25 _) (s_sub (subc m0_ sub0) (hj_X11_follows_0_89 m4 l5_25))
  refine s_aload_n d_X11_follows_32 m2_ (s_iload d_X11_follows_33 m1_ (s_pI (r_V d_X11_follows_35 k_X0_lastWordOfLine w_1387 rfl rfl) ms_X0_lastWordOfLine (b8 rfl) rfl rfl rfl fun v8 => (s_istore (L' := [(8, aI v8), (5, aI l5_25), (7, aI l7_25), (3, aR (some (0, i3))), (4, aR (some (0, i6))), (6, aI v7)]) d_X11_follows_38 (b8 rfl) rfl (s_aload d_X11_follows_40 m4_ (s_iload d_X11_follows_42 m2_ ?_)))))
  refine s_pI (r_V d_X11_follows_44 k_X0_lastWordOfLine w_1387 rfl rfl) ms_X0_lastWordOfLine (b8 rfl) rfl rfl rfl fun v9 => (s_istore (L' := [(9, aI v9), (8, aI v8), (5, aI l5_25), (7, aI l7_25), (3, aR (some (0, i3))), (4, aR (some (0, i6))), (6, aI v7)]) d_X11_follows_47 (b8 rfl) rfl (s_iload d_X11_follows_49 m1_ (s_iconst d_X11_follows_51 n_m1 (s_icmp_eq (tgt := 83) d_X11_follows_52 rfl ?_ ?_))))
  · exact s_iinc (L' := [(7, aI (l7_25 + 1)), (9, aI v9), (8, aI v8), (5, aI l5_25), (3, aR (some (0, i3))), (4, aR (some (0, i6))), (6, aI v7)]) d_X11_follows_83 m3_ (b8 rfl) rfl (s_goto (tgt := 25) d_X11_follows_86 rfl (s_sub (subc m3_ (subc m0_ (subc m4_ (subc m5_ (subc m6_ sub0))))) (s_back (ih25 (l5_25, (l7_25 + 1))))))
  refine s_iload d_X11_follows_55 m0_ (s_iconst d_X11_follows_57 n_m1 (s_icmp_eq (tgt := 83) d_X11_follows_58 rfl ?_ ?_))
  · exact s_iinc (L' := [(7, aI (l7_25 + 1)), (9, aI v9), (8, aI v8), (5, aI l5_25), (3, aR (some (0, i3))), (4, aR (some (0, i6))), (6, aI v7)]) d_X11_follows_83 m3_ (b8 rfl) rfl (s_goto (tgt := 25) d_X11_follows_86 rfl (s_sub (subc m3_ (subc m0_ (subc m4_ (subc m5_ (subc m6_ sub0))))) (s_back (ih25 (l5_25, (l7_25 + 1))))))
  refine s_aload_n d_X11_follows_61 m4_ (s_getR cf d_X11_follows_62 fl_X11_153 (s_nk fun i10 => (s_iload d_X11_follows_65 m1_ (s_aload d_X11_follows_67 m5_ (s_getR cf d_X11_follows_69 fl_X11_153 ?_)))))
  refine s_nk fun i11 => (s_iload d_X11_follows_72 m0_ (s_pI (r_V d_X11_follows_74 k_X9_isLike w_1392 rfl rfl) ms_X9_isLike (b8 rfl) rfl rfl rfl fun v12 => (s_if_eq (tgt := 83) d_X11_follows_77 rfl ?_ ?_)))
  · exact s_iinc (L' := [(7, aI (l7_25 + 1)), (9, aI v9), (8, aI v8), (5, aI l5_25), (3, aR (some (0, i3))), (4, aR (some (0, i6))), (6, aI v7)]) d_X11_follows_83 m3_ (b8 rfl) rfl (s_goto (tgt := 25) d_X11_follows_86 rfl (s_sub (subc m3_ (subc m0_ (subc m4_ (subc m5_ (subc m6_ sub0))))) (s_back (ih25 (l5_25, (l7_25 + 1))))))
  exact s_iinc (L' := [(5, aI (l5_25 + 1)), (9, aI v9), (8, aI v8), (7, aI l7_25), (3, aR (some (0, i3))), (4, aR (some (0, i6))), (6, aI v7)]) d_X11_follows_80 m2_ (b8 rfl) rfl (s_iinc (L' := [(7, aI (l7_25 + 1)), (5, aI (l5_25 + 1)), (9, aI v9), (8, aI v8), (3, aR (some (0, i3))), (4, aR (some (0, i6))), (6, aI v7)]) d_X11_follows_83 m3_ (b8 rfl) rfl (s_goto (tgt := 25) d_X11_follows_86 rfl (s_sub (subc m1_ (subc m0_ (subc m4_ (subc m5_ (subc m6_ sub0))))) (s_back (ih25 ((l5_25 + 1), (l7_25 + 1)))))))
theorem d_L_follows_0 : dk me_L_follows 0 (.aload_n 3) 1 1 := And.intro (by decide +kernel) rfl
theorem d_L_follows_1 : dk me_L_follows 1 (.iconst 0) 1 2 := And.intro (by decide +kernel) rfl
theorem d_L_follows_2 : dk me_L_follows 2 (.aload_n 0) 1 3 := And.intro (by decide +kernel) rfl
theorem d_L_follows_3 : dk me_L_follows 3 (.iload_n 1) 1 4 := And.intro (by decide +kernel) rfl
theorem d_L_follows_4 : dk me_L_follows 4 (.iload_n 2) 1 5 := And.intro (by decide +kernel) rfl
theorem d_L_follows_5 : dk me_L_follows 5 (.invokevirtual 138) 3 8 := And.intro (by decide +kernel) rfl
theorem d_L_follows_8 : dk me_L_follows 8 (.i2l) 1 9 := And.intro (by decide +kernel) rfl
theorem d_L_follows_9 : dk me_L_follows 9 (.lastore) 1 10 := And.intro (by decide +kernel) rfl
theorem d_L_follows_10 : dk me_L_follows 10 (.goto 7) 3 13 := And.intro (by decide +kernel) rfl
theorem d_L_follows_13 : dk me_L_follows 13 (.astore 4) 2 15 := And.intro (by decide +kernel) rfl
theorem d_L_follows_15 : dk me_L_follows 15 (.iconst 1) 1 16 := And.intro (by decide +kernel) rfl
theorem d_L_follows_16 : dk me_L_follows 16 (.ireturn) 1 17 := And.intro (by decide +kernel) rfl
theorem d_L_follows_17 : dk me_L_follows 17 (.iconst 0) 1 18 := And.intro (by decide +kernel) rfl
theorem d_L_follows_18 : dk me_L_follows 18 (.ireturn) 1 19 := And.intro (by decide +kernel) rfl
theorem ms_L_follows {fx : FX} {m : MM} {l0 : Nat} {l1 : Int} {l2 : Int} {l3 : Nat} : MS fx me_L_follows [aR (some (11, l0)), aI l1, aI l2, aR (some (131, l3))] m (f_L_follows m l0 l1 l2 l3) := by
  refine ms_ofH rfl mf_L_follows (b8 rfl) ?_
  refine s_top ?_
  show Sim fx me_L_follows 0 [(0, aR (some (11, l0))), (1, aI l1), (2, aI l2), (3, aR (some (131, l3)))] [] m _
  unfold f_L_follows
  refine s_aload_n d_L_follows_0 m3_ (s_iconst d_L_follows_1 n_0 (s_aload_n d_L_follows_2 m0_ (s_iload_n d_L_follows_3 m1_ (s_iload_n d_L_follows_4 m2_ (s_cIC (r_V d_L_follows_5 k_X11_follows w_1379 rfl rfl) ms_X11_follows (b8 rfl) rfl rfl ?_ ?_ ?_ fun v2 m1 => ?_)))))
  · refine fun mx => Or.inr ⟨13, ⟨rfl, by decide, 0, wx_29_0, Or.inl ⟨rfl, rfl⟩⟩, fun qx => ?_⟩
    exact s_astoreV (L' := [(4, aV (.ref qx)), (0, aR (some (11, l0))), (1, aI l1), (2, aI l2), (3, aR (some (131, l3)))]) d_L_follows_13 (b8 rfl) rfl (s_iconst d_L_follows_15 n_1 (s_iret d_L_follows_16 rfl rfl))
  · exact fun _ => Or.inl rfl
  · exact fun _ => Or.inl rfl
  exact s_i2l d_L_follows_8 (s_stL d_L_follows_9 ka_131 rfl fun m3 => (s_goto (tgt := 17) d_L_follows_10 rfl (s_iconst d_L_follows_17 n_0 (s_iret d_L_follows_18 rfl rfl))))
theorem d_X11_formeOf_0 : dk me_X11_formeOf 0 (.aload_n 0) 1 1 := And.intro (by decide +kernel) rfl
theorem d_X11_formeOf_1 : dk me_X11_formeOf 1 (.iload_n 1) 1 2 := And.intro (by decide +kernel) rfl
theorem d_X11_formeOf_2 : dk me_X11_formeOf 2 (.invokevirtual 415) 3 5 := And.intro (by decide +kernel) rfl
theorem d_X11_formeOf_5 : dk me_X11_formeOf 5 (.ifCond .ne 14) 3 8 := And.intro (by decide +kernel) rfl
theorem d_X11_formeOf_8 : dk me_X11_formeOf 8 (.new 446) 3 11 := And.intro (by decide +kernel) rfl
theorem d_X11_formeOf_11 : dk me_X11_formeOf 11 (.dup) 1 12 := And.intro (by decide +kernel) rfl
theorem d_X11_formeOf_12 : dk me_X11_formeOf 12 (.ldc_w 471) 3 15 := And.intro (by decide +kernel) rfl
theorem d_X11_formeOf_15 : dk me_X11_formeOf 15 (.invokespecial 450) 3 18 := And.intro (by decide +kernel) rfl
theorem d_X11_formeOf_18 : dk me_X11_formeOf 18 (.athrow) 1 19 := And.intro (by decide +kernel) rfl
theorem d_X11_formeOf_19 : dk me_X11_formeOf 19 (.aload_n 0) 1 20 := And.intro (by decide +kernel) rfl
theorem d_X11_formeOf_20 : dk me_X11_formeOf 20 (.getfield 338) 3 23 := And.intro (by decide +kernel) rfl
theorem d_X11_formeOf_23 : dk me_X11_formeOf 23 (.iload_n 1) 1 24 := And.intro (by decide +kernel) rfl
theorem d_X11_formeOf_24 : dk me_X11_formeOf 24 (.aaload) 1 25 := And.intro (by decide +kernel) rfl
theorem d_X11_formeOf_25 : dk me_X11_formeOf 25 (.areturn) 1 26 := And.intro (by decide +kernel) rfl
theorem ms_X11_formeOf {fx : FX} {m : MM} {l0 : Nat} {l1 : Int} : MS fx me_X11_formeOf [aR (some (0, l0)), aI l1] m (f_X11_formeOf m l0 l1) := by
  refine ms_of rfl mf_X11_formeOf (b8 rfl) ?_
  refine s_top ?_
  show Sim fx me_X11_formeOf 0 [(0, aR (some (0, l0))), (1, aI l1)] [] m _
  unfold f_X11_formeOf
  refine s_aload_n d_X11_formeOf_0 m0_ (s_iload_n d_X11_formeOf_1 m1_ (s_pI (r_V d_X11_formeOf_2 k_X0_hasForme w_1028 rfl rfl) ms_X0_hasForme (b8 rfl) rfl rfl rfl fun v1 => (s_if_ne (tgt := 19) d_X11_formeOf_5 rfl ?_ ?_)))
  · exact s_aload_n d_X11_formeOf_19 m0_ (s_getR cf d_X11_formeOf_20 fl_X11_338 (s_nk fun i2 => (s_iload_n d_X11_formeOf_23 m1_ (s_ldR d_X11_formeOf_24 ka_14 ta_14 rfl rfl fun r3 => (s_aret d_X11_formeOf_25 rfl (Or.inl ⟨_, rfl⟩) rfl)))))
  exact s_throw (e := 0) (text := "there is no such forme") (names := ["java/lang/RuntimeException", "java/lang/Exception"]) rfl rfl (by decide +kernel) (by decide +kernel) (b8 rfl) wk_tf_446_450 wi_0 tf_446_450 gtf_446_450 (by decide) d_X11_formeOf_8 d_X11_formeOf_11 d_X11_formeOf_12 d_X11_formeOf_15 d_X11_formeOf_18 (b8 rfl) (b8 rfl) rfl
theorem d_X11_forme_0 : dk me_X11_forme 0 (.aload_n 0) 1 1 := And.intro (by decide +kernel) rfl
theorem d_X11_forme_1 : dk me_X11_forme 1 (.iload_n 1) 1 2 := And.intro (by decide +kernel) rfl
theorem d_X11_forme_2 : dk me_X11_forme 2 (.invokevirtual 143) 3 5 := And.intro (by decide +kernel) rfl
theorem d_X11_forme_5 : dk me_X11_forme 5 (.iload_n 2) 1 6 := And.intro (by decide +kernel) rfl
theorem d_X11_forme_6 : dk me_X11_forme 6 (.invokestatic 269) 3 9 := And.intro (by decide +kernel) rfl
theorem d_X11_forme_9 : dk me_X11_forme 9 (.astore 4) 2 11 := And.intro (by decide +kernel) rfl
theorem d_X11_forme_11 : dk me_X11_forme 11 (.iload_n 3) 1 12 := And.intro (by decide +kernel) rfl
theorem d_X11_forme_12 : dk me_X11_forme 12 (.ifCond .lt 12) 3 15 := And.intro (by decide +kernel) rfl
theorem d_X11_forme_15 : dk me_X11_forme 15 (.iload_n 3) 1 16 := And.intro (by decide +kernel) rfl
theorem d_X11_forme_16 : dk me_X11_forme 16 (.iconst 4) 1 17 := And.intro (by decide +kernel) rfl
theorem d_X11_forme_17 : dk me_X11_forme 17 (.if_icmp .gt 7) 3 20 := And.intro (by decide +kernel) rfl
theorem d_X11_forme_20 : dk me_X11_forme 20 (.iconst 1) 1 21 := And.intro (by decide +kernel) rfl
theorem d_X11_forme_21 : dk me_X11_forme 21 (.goto 4) 3 24 := And.intro (by decide +kernel) rfl
theorem d_X11_forme_24 : dk me_X11_forme 24 (.iconst 0) 1 25 := And.intro (by decide +kernel) rfl
theorem d_X11_forme_25 : dk me_X11_forme 25 (.invokestatic 53) 3 28 := And.intro (by decide +kernel) rfl
theorem d_X11_forme_28 : dk me_X11_forme 28 (.iload_n 3) 1 29 := And.intro (by decide +kernel) rfl
theorem d_X11_forme_29 : dk me_X11_forme 29 (.tableswitch 55 0 3 #[31, 37, 43, 49]) 31 60 := And.intro (by decide +kernel) rfl
theorem d_X11_forme_60 : dk me_X11_forme 60 (.aload 4) 2 62 := And.intro (by decide +kernel) rfl
theorem d_X11_forme_62 : dk me_X11_forme 62 (.getfield 273) 3 65 := And.intro (by decide +kernel) rfl
theorem d_X11_forme_65 : dk me_X11_forme 65 (.ireturn) 1 66 := And.intro (by decide +kernel) rfl
theorem d_X11_forme_66 : dk me_X11_forme 66 (.aload 4) 2 68 := And.intro (by decide +kernel) rfl
theorem d_X11_forme_68 : dk me_X11_forme 68 (.getfield 284) 3 71 := And.intro (by decide +kernel) rfl
theorem d_X11_forme_71 : dk me_X11_forme 71 (.ireturn) 1 72 := And.intro (by decide +kernel) rfl
theorem d_X11_forme_72 : dk me_X11_forme 72 (.aload 4) 2 74 := And.intro (by decide +kernel) rfl
theorem d_X11_forme_74 : dk me_X11_forme 74 (.getfield 329) 3 77 := And.intro (by decide +kernel) rfl
theorem d_X11_forme_77 : dk me_X11_forme 77 (.ireturn) 1 78 := And.intro (by decide +kernel) rfl
theorem d_X11_forme_78 : dk me_X11_forme 78 (.aload 4) 2 80 := And.intro (by decide +kernel) rfl
theorem d_X11_forme_80 : dk me_X11_forme 80 (.getfield 332) 3 83 := And.intro (by decide +kernel) rfl
theorem d_X11_forme_83 : dk me_X11_forme 83 (.ireturn) 1 84 := And.intro (by decide +kernel) rfl
theorem d_X11_forme_84 : dk me_X11_forme 84 (.aload 4) 2 86 := And.intro (by decide +kernel) rfl
theorem d_X11_forme_86 : dk me_X11_forme 86 (.getfield 335) 3 89 := And.intro (by decide +kernel) rfl
theorem d_X11_forme_89 : dk me_X11_forme 89 (.ireturn) 1 90 := And.intro (by decide +kernel) rfl
theorem ms_X11_forme {fx : FX} {m : MM} {l0 : Nat} {l1 : Int} {l2 : Int} {l3 : Int} : MS fx me_X11_forme [aR (some (11, l0)), aI l1, aI l2, aI l3] m (f_X11_forme m l0 l1 l2 l3) := by
  refine ms_of rfl mf_X11_forme (b8 rfl) ?_
  refine s_top ?_
  show Sim fx me_X11_forme 0 [(0, aR (some (11, l0))), (1, aI l1), (2, aI l2), (3, aI l3)] [] m _
  unfold f_X11_forme
  have hj_X11_forme_0_25 : ∀ (m_25 : MM) (l3_25 : Int) (l4_25 : Nat) (s0_25 : Int), Sim fx me_X11_forme 25 [(3, aI l3_25), (4, aR (some (2, l4_25)))] [aI s0_25] m_25 ((j_X11_forme_0_25 m_25 l3_25 l4_25 s0_25).bind (fun z => some z)) := by
    intro m_25 l3_25 l4_25 s0_25
    unfold j_X11_forme_0_25
    refine s_cV (r_S d_X11_forme_25 k_X11_requireArgument w_284 rfl rfl) ms_X11_requireArgument (b8 rfl) rfl rfl rfl (fun h => by cases h) (fun _ _ => Or.inr rfl) fun m7 => (s_iload_n d_X11_forme_28 m0_ (s_tsw (dt := 84) d_X11_forme_29 n_0 rfl ⟨⟨60, rfl, ?_⟩, ⟨66, rfl, ?_⟩, ⟨72, rfl, ?_⟩, ⟨78, rfl, ?_⟩, trivial⟩ rfl ?_))
    · exact s_aload d_X11_forme_60 m1_ (s_getN cf d_X11_forme_62 fl_X11_273 (s_iret d_X11_forme_65 rfl rfl))
    · exact s_aload d_X11_forme_66 m1_ (s_getN cf d_X11_forme_68 fl_X11_284 (s_iret d_X11_forme_71 rfl rfl))
    · exact s_aload d_X11_forme_72 m1_ (s_getN cf d_X11_forme_74 fl_X11_329 (s_iret d_X11_forme_77 rfl rfl))
    · exact s_aload d_X11_forme_78 m1_ (s_getN cf d_X11_forme_80 fl_X11_332 (s_iret d_X11_forme_83 rfl rfl))
    exact s_aload d_X11_forme_84 m1_ (s_getN cf d_X11_forme_86 fl_X11_335 (s_iret d_X11_forme_89 rfl rfl))
  have hj_X11_forme_0_24 : ∀ (m_24 : MM) (l3_24 : Int) (l4_24 : Nat), Sim fx me_X11_forme 24 [(3, aI l3_24), (4, aR (some (2, l4_24)))] [] m_24 ((j_X11_forme_0_24 m_24 l3_24 l4_24).bind (fun z => some z)) := by
    intro m_24 l3_24 l4_24
    unfold j_X11_forme_0_24
    exact s_iconst d_X11_forme_24 n_0 (s_sub (subc m0_ (subc m1_ sub0)) (hj_X11_forme_0_25 m_24 l3_24 l4_24 0))
  refine s_aload_n d_X11_forme_0 m0_ (s_iload_n d_X11_forme_1 m1_ (s_cR (r_V d_X11_forme_2 k_X11_bookAt w_814 rfl rfl) ms_X11_bookAt (b8 rfl) rfl rfl rfl (fun h => by cases h) (fun _ _ => Or.inr rfl) fun r2 m1 => (s_nk fun i3 => (s_iload_n d_X11_forme_5 m2_ (s_cR (r_S d_X11_forme_6 k_X11_formeOf w_1025 rfl rfl) ms_X11_formeOf (b8 rfl) rfl rfl rfl (fun h => by cases h) (fun _ _ => Or.inr rfl) fun r5 m4 => ?_)))))
  refine s_nk fun i6 => (s_astore (L' := [(4, aR (some (2, i6))), (0, aR (some (11, l0))), (1, aI l1), (2, aI l2), (3, aI l3)]) d_X11_forme_9 (b8 rfl) rfl (s_iload_n d_X11_forme_11 m4_ (s_if_lt (tgt := 24) d_X11_forme_12 rfl ?_ ?_)))
  · exact s_sub (subc m4_ (subc m0_ sub0)) (hj_X11_forme_0_24 m4 l3 i6)
  refine s_iload_n d_X11_forme_15 m4_ (s_iconst d_X11_forme_16 n_4 (s_icmp_gt (tgt := 24) d_X11_forme_17 rfl ?_ ?_))
  · exact s_sub (subc m4_ (subc m0_ sub0)) (hj_X11_forme_0_24 m4 l3 i6)
  exact s_iconst d_X11_forme_20 n_1 (s_goto (tgt := 25) d_X11_forme_21 rfl (s_sub (subc m4_ (subc m0_ sub0)) (hj_X11_forme_0_25 m4 l3 i6 1)))
theorem d_L_forme_0 : dk me_L_forme 0 (.aload 4) 2 2 := And.intro (by decide +kernel) rfl
theorem d_L_forme_2 : dk me_L_forme 2 (.iconst 0) 1 3 := And.intro (by decide +kernel) rfl
theorem d_L_forme_3 : dk me_L_forme 3 (.aload_n 0) 1 4 := And.intro (by decide +kernel) rfl
theorem d_L_forme_4 : dk me_L_forme 4 (.iload_n 1) 1 5 := And.intro (by decide +kernel) rfl
theorem d_L_forme_5 : dk me_L_forme 5 (.iload_n 2) 1 6 := And.intro (by decide +kernel) rfl
theorem d_L_forme_6 : dk me_L_forme 6 (.iload_n 3) 1 7 := And.intro (by decide +kernel) rfl
theorem d_L_forme_7 : dk me_L_forme 7 (.invokevirtual 80) 3 10 := And.intro (by decide +kernel) rfl
theorem d_L_forme_10 : dk me_L_forme 10 (.i2l) 1 11 := And.intro (by decide +kernel) rfl
theorem d_L_forme_11 : dk me_L_forme 11 (.lastore) 1 12 := And.intro (by decide +kernel) rfl
theorem d_L_forme_12 : dk me_L_forme 12 (.goto 11) 3 15 := And.intro (by decide +kernel) rfl
theorem d_L_forme_15 : dk me_L_forme 15 (.astore 5) 2 17 := And.intro (by decide +kernel) rfl
theorem d_L_forme_17 : dk me_L_forme 17 (.iconst 1) 1 18 := And.intro (by decide +kernel) rfl
theorem d_L_forme_18 : dk me_L_forme 18 (.ireturn) 1 19 := And.intro (by decide +kernel) rfl
theorem d_L_forme_19 : dk me_L_forme 19 (.astore 5) 2 21 := And.intro (by decide +kernel) rfl
theorem d_L_forme_21 : dk me_L_forme 21 (.iconst 2) 1 22 := And.intro (by decide +kernel) rfl
theorem d_L_forme_22 : dk me_L_forme 22 (.ireturn) 1 23 := And.intro (by decide +kernel) rfl
theorem d_L_forme_23 : dk me_L_forme 23 (.iconst 0) 1 24 := And.intro (by decide +kernel) rfl
theorem d_L_forme_24 : dk me_L_forme 24 (.ireturn) 1 25 := And.intro (by decide +kernel) rfl
theorem ms_L_forme {fx : FX} {m : MM} {l0 : Nat} {l1 : Int} {l2 : Int} {l3 : Int} {l4 : Nat} : MS fx me_L_forme [aR (some (11, l0)), aI l1, aI l2, aI l3, aR (some (131, l4))] m (f_L_forme m l0 l1 l2 l3 l4) := by
  refine ms_ofH rfl mf_L_forme (b8 rfl) ?_
  refine s_top ?_
  show Sim fx me_L_forme 0 [(0, aR (some (11, l0))), (1, aI l1), (2, aI l2), (3, aI l3), (4, aR (some (131, l4)))] [] m _
  unfold f_L_forme
  refine s_aload d_L_forme_0 m4_ (s_iconst d_L_forme_2 n_0 (s_aload_n d_L_forme_3 m0_ (s_iload_n d_L_forme_4 m1_ (s_iload_n d_L_forme_5 m2_ (s_iload_n d_L_forme_6 m3_ ?_)))))
  refine s_cIC (r_V d_L_forme_7 k_X11_forme w_1105 rfl rfl) ms_X11_forme (b8 rfl) rfl rfl ?_ ?_ ?_ fun v2 m1 => ?_
  · refine fun mx => Or.inr ⟨15, ⟨rfl, by decide, 0, wx_29_0, Or.inl ⟨rfl, rfl⟩⟩, fun qx => ?_⟩
    exact s_astoreV (L' := [(5, aV (.ref qx)), (0, aR (some (11, l0))), (1, aI l1), (2, aI l2), (3, aI l3), (4, aR (some (131, l4)))]) d_L_forme_15 (b8 rfl) rfl (s_iconst d_L_forme_17 n_1 (s_iret d_L_forme_18 rfl rfl))
  · refine fun mx => Or.inr ⟨19, ⟨rfl, by decide, 0, wx_29_0, Or.inr ⟨by decide, ⟨rfl, by decide, 1, wx_13_1, Or.inl ⟨rfl, rfl⟩⟩⟩⟩, fun qx => ?_⟩
    exact s_astoreV (L' := [(5, aV (.ref qx)), (0, aR (some (11, l0))), (1, aI l1), (2, aI l2), (3, aI l3), (4, aR (some (131, l4)))]) d_L_forme_19 (b8 rfl) rfl (s_iconst d_L_forme_21 n_2 (s_iret d_L_forme_22 rfl rfl))
  · exact fun _ => Or.inl rfl
  exact s_i2l d_L_forme_10 (s_stL d_L_forme_11 ka_131 rfl fun m3 => (s_goto (tgt := 23) d_L_forme_12 rfl (s_iconst d_L_forme_23 n_0 (s_iret d_L_forme_24 rfl rfl))))
theorem d_X3_init_0 : dk me_X3_init 0 (.aload_n 0) 1 1 := And.intro (by decide +kernel) rfl
theorem d_X3_init_1 : dk me_X3_init 1 (.invokespecial 3) 3 4 := And.intro (by decide +kernel) rfl
theorem d_X3_init_4 : dk me_X3_init 4 (.aload_n 0) 1 5 := And.intro (by decide +kernel) rfl
theorem d_X3_init_5 : dk me_X3_init 5 (.iload_n 1) 1 6 := And.intro (by decide +kernel) rfl
theorem d_X3_init_6 : dk me_X3_init 6 (.putfield 9) 3 9 := And.intro (by decide +kernel) rfl
theorem d_X3_init_9 : dk me_X3_init 9 (.aload_n 0) 1 10 := And.intro (by decide +kernel) rfl
theorem d_X3_init_10 : dk me_X3_init 10 (.iload_n 2) 1 11 := And.intro (by decide +kernel) rfl
theorem d_X3_init_11 : dk me_X3_init 11 (.putfield 15) 3 14 := And.intro (by decide +kernel) rfl
theorem d_X3_init_14 : dk me_X3_init 14 (.aload_n 0) 1 15 := And.intro (by decide +kernel) rfl
theorem d_X3_init_15 : dk me_X3_init 15 (.iload_n 3) 1 16 := And.intro (by decide +kernel) rfl
theorem d_X3_init_16 : dk me_X3_init 16 (.putfield 18) 3 19 := And.intro (by decide +kernel) rfl
theorem d_X3_init_19 : dk me_X3_init 19 (.return_) 1 20 := And.intro (by decide +kernel) rfl
theorem ms_X3_init {fx : FX} {m : MM} {l0 : Nat} {l1 : Int} {l2 : Int} {l3 : Int} : MS fx me_X3_init [aR (some (3, l0)), aI l1, aI l2, aI l3] m (f_X3_init m l0 l1 l2 l3) := by
  refine ms_of rfl mf_X3_init (b8 rfl) ?_
  refine s_top ?_
  show Sim fx me_X3_init 0 [(0, aR (some (3, l0))), (1, aI l1), (2, aI l2), (3, aI l3)] [] m _
  unfold f_X3_init
  refine s_aload_n d_X3_init_0 m0_ (s_objInit d_X3_init_1 w_499 wo_1 wo_2 (b8 rfl) (b8 rfl) (s_aload_n d_X3_init_4 m0_ (s_iload_n d_X3_init_5 m1_ (s_putN cf d_X3_init_6 fl_X3_9 (fun _ => ⟨rfl, _, rfl, rfl⟩) fun m1 => (s_aload_n d_X3_init_9 m0_ ?_)))))
  exact s_iload_n d_X3_init_10 m2_ (s_putN cf d_X3_init_11 fl_X3_15 (fun _ => ⟨rfl, _, rfl, rfl⟩) fun m2 => (s_aload_n d_X3_init_14 m0_ (s_iload_n d_X3_init_15 m3_ (s_putN cf d_X3_init_16 fl_X3_18 (fun _ => ⟨rfl, _, rfl, rfl⟩) fun m3 => (s_vret d_X3_init_19 rfl rfl)))))
theorem d_X11_hand_0 : dk me_X11_hand 0 (.iload_n 1) 1 1 := And.intro (by decide +kernel) rfl
theorem d_X11_hand_1 : dk me_X11_hand 1 (.ifCond .lt 13) 3 4 := And.intro (by decide +kernel) rfl
theorem d_X11_hand_4 : dk me_X11_hand 4 (.iload_n 1) 1 5 := And.intro (by decide +kernel) rfl
theorem d_X11_hand_5 : dk me_X11_hand 5 (.bipush 63) 2 7 := And.intro (by decide +kernel) rfl
theorem d_X11_hand_7 : dk me_X11_hand 7 (.if_icmp .gt 7) 3 10 := And.intro (by decide +kernel) rfl
theorem d_X11_hand_10 : dk me_X11_hand 10 (.iconst 1) 1 11 := And.intro (by decide +kernel) rfl
theorem d_X11_hand_11 : dk me_X11_hand 11 (.goto 4) 3 14 := And.intro (by decide +kernel) rfl
theorem d_X11_hand_14 : dk me_X11_hand 14 (.iconst 0) 1 15 := And.intro (by decide +kernel) rfl
theorem d_X11_hand_15 : dk me_X11_hand 15 (.invokestatic 53) 3 18 := And.intro (by decide +kernel) rfl
theorem d_X11_hand_18 : dk me_X11_hand 18 (.iload_n 2) 1 19 := And.intro (by decide +kernel) rfl
theorem d_X11_hand_19 : dk me_X11_hand 19 (.ifCond .lt 13) 3 22 := And.intro (by decide +kernel) rfl
theorem d_X11_hand_22 : dk me_X11_hand 22 (.iload_n 2) 1 23 := And.intro (by decide +kernel) rfl
theorem d_X11_hand_23 : dk me_X11_hand 23 (.bipush 9) 2 25 := And.intro (by decide +kernel) rfl
theorem d_X11_hand_25 : dk me_X11_hand 25 (.if_icmp .gt 7) 3 28 := And.intro (by decide +kernel) rfl
theorem d_X11_hand_28 : dk me_X11_hand 28 (.iconst 1) 1 29 := And.intro (by decide +kernel) rfl
theorem d_X11_hand_29 : dk me_X11_hand 29 (.goto 4) 3 32 := And.intro (by decide +kernel) rfl
theorem d_X11_hand_32 : dk me_X11_hand 32 (.iconst 0) 1 33 := And.intro (by decide +kernel) rfl
theorem d_X11_hand_33 : dk me_X11_hand 33 (.invokestatic 53) 3 36 := And.intro (by decide +kernel) rfl
theorem d_X11_hand_36 : dk me_X11_hand 36 (.iload_n 3) 1 37 := And.intro (by decide +kernel) rfl
theorem d_X11_hand_37 : dk me_X11_hand 37 (.ifCond .lt 13) 3 40 := And.intro (by decide +kernel) rfl
theorem d_X11_hand_40 : dk me_X11_hand 40 (.iload_n 3) 1 41 := And.intro (by decide +kernel) rfl
theorem d_X11_hand_41 : dk me_X11_hand 41 (.bipush 9) 2 43 := And.intro (by decide +kernel) rfl
theorem d_X11_hand_43 : dk me_X11_hand 43 (.if_icmp .gt 7) 3 46 := And.intro (by decide +kernel) rfl
theorem d_X11_hand_46 : dk me_X11_hand 46 (.iconst 1) 1 47 := And.intro (by decide +kernel) rfl
theorem d_X11_hand_47 : dk me_X11_hand 47 (.goto 4) 3 50 := And.intro (by decide +kernel) rfl
theorem d_X11_hand_50 : dk me_X11_hand 50 (.iconst 0) 1 51 := And.intro (by decide +kernel) rfl
theorem d_X11_hand_51 : dk me_X11_hand 51 (.invokestatic 53) 3 54 := And.intro (by decide +kernel) rfl
theorem d_X11_hand_54 : dk me_X11_hand 54 (.aload_n 0) 1 55 := And.intro (by decide +kernel) rfl
theorem d_X11_hand_55 : dk me_X11_hand 55 (.getfield 131) 3 58 := And.intro (by decide +kernel) rfl
theorem d_X11_hand_58 : dk me_X11_hand 58 (.iconst 4) 1 59 := And.intro (by decide +kernel) rfl
theorem d_X11_hand_59 : dk me_X11_hand 59 (.if_icmp .ge 7) 3 62 := And.intro (by decide +kernel) rfl
theorem d_X11_hand_62 : dk me_X11_hand 62 (.iconst 1) 1 63 := And.intro (by decide +kernel) rfl
theorem d_X11_hand_63 : dk me_X11_hand 63 (.goto 4) 3 66 := And.intro (by decide +kernel) rfl
theorem d_X11_hand_66 : dk me_X11_hand 66 (.iconst 0) 1 67 := And.intro (by decide +kernel) rfl
theorem d_X11_hand_67 : dk me_X11_hand 67 (.invokestatic 69) 3 70 := And.intro (by decide +kernel) rfl
theorem d_X11_hand_70 : dk me_X11_hand 70 (.aload_n 0) 1 71 := And.intro (by decide +kernel) rfl
theorem d_X11_hand_71 : dk me_X11_hand 71 (.getfield 25) 3 74 := And.intro (by decide +kernel) rfl
theorem d_X11_hand_74 : dk me_X11_hand 74 (.aload_n 0) 1 75 := And.intro (by decide +kernel) rfl
theorem d_X11_hand_75 : dk me_X11_hand 75 (.getfield 131) 3 78 := And.intro (by decide +kernel) rfl
theorem d_X11_hand_78 : dk me_X11_hand 78 (.new 23) 3 81 := And.intro (by decide +kernel) rfl
theorem d_X11_hand_81 : dk me_X11_hand 81 (.dup) 1 82 := And.intro (by decide +kernel) rfl
theorem d_X11_hand_82 : dk me_X11_hand 82 (.iload_n 1) 1 83 := And.intro (by decide +kernel) rfl
theorem d_X11_hand_83 : dk me_X11_hand 83 (.iload_n 2) 1 84 := And.intro (by decide +kernel) rfl
theorem d_X11_hand_84 : dk me_X11_hand 84 (.iload_n 3) 1 85 := And.intro (by decide +kernel) rfl
theorem d_X11_hand_85 : dk me_X11_hand 85 (.invokespecial 134) 3 88 := And.intro (by decide +kernel) rfl
theorem d_X11_hand_88 : dk me_X11_hand 88 (.aastore) 1 89 := And.intro (by decide +kernel) rfl
theorem d_X11_hand_89 : dk me_X11_hand 89 (.aload_n 0) 1 90 := And.intro (by decide +kernel) rfl
theorem d_X11_hand_90 : dk me_X11_hand 90 (.dup) 1 91 := And.intro (by decide +kernel) rfl
theorem d_X11_hand_91 : dk me_X11_hand 91 (.getfield 131) 3 94 := And.intro (by decide +kernel) rfl
theorem d_X11_hand_94 : dk me_X11_hand 94 (.iconst 1) 1 95 := And.intro (by decide +kernel) rfl
theorem d_X11_hand_95 : dk me_X11_hand 95 (.iadd) 1 96 := And.intro (by decide +kernel) rfl
theorem d_X11_hand_96 : dk me_X11_hand 96 (.putfield 131) 3 99 := And.intro (by decide +kernel) rfl
theorem d_X11_hand_99 : dk me_X11_hand 99 (.aload_n 0) 1 100 := And.intro (by decide +kernel) rfl
theorem d_X11_hand_100 : dk me_X11_hand 100 (.getfield 131) 3 103 := And.intro (by decide +kernel) rfl
theorem d_X11_hand_103 : dk me_X11_hand 103 (.iconst 1) 1 104 := And.intro (by decide +kernel) rfl
theorem d_X11_hand_104 : dk me_X11_hand 104 (.isub) 1 105 := And.intro (by decide +kernel) rfl
theorem d_X11_hand_105 : dk me_X11_hand 105 (.ireturn) 1 106 := And.intro (by decide +kernel) rfl
theorem ms_X11_hand {fx : FX} {m : MM} {l0 : Nat} {l1 : Int} {l2 : Int} {l3 : Int} : MS fx me_X11_hand [aR (some (11, l0)), aI l1, aI l2, aI l3] m (f_X11_hand m l0 l1 l2 l3) := by
  refine ms_of rfl mf_X11_hand (b8 rfl) ?_
  refine s_top ?_
  show Sim fx me_X11_hand 0 [(0, aR (some (11, l0))), (1, aI l1), (2, aI l2), (3, aI l3)] [] m _
  unfold f_X11_hand
  have hj_X11_hand_0_67 : ∀ (m_67 : MM) (l0_67 : Nat) (l1_67 : Int) (l2_67 : Int) (l3_67 : Int) (s0_67 : Int), Sim fx me_X11_hand 67 [(0, aR (some (11, l0_67))), (1, aI l1_67), (2, aI l2_67), (3, aI l3_67)] [aI s0_67] m_67 ((j_X11_hand_0_67 m_67 l0_67 l1_67 l2_67 l3_67 s0_67).bind (fun z => some z)) := by
    intro m_67 l0_67 l1_67 l2_67 l3_67 s0_67
    unfold j_X11_hand_0_67
    refine s_cV (r_S d_X11_hand_67 k_X11_requireState w_363 rfl rfl) ms_X11_requireState (b8 rfl) rfl rfl rfl (fun h => by cases h) (fun _ _ => Or.inr rfl) fun m7 => (s_aload_n d_X11_hand_70 m0_ (s_getR cf d_X11_hand_71 fl_X11_25 (s_nk fun i9 => (s_aload_n d_X11_hand_74 m0_ (s_getN cf d_X11_hand_75 fl_X11_131 ?_)))))
    refine s_new cf d_X11_hand_78 nw_X11_23 fun m10 => (s_dup d_X11_hand_81 rfl (s_iload_n d_X11_hand_82 m1_ (s_iload_n d_X11_hand_83 m2_ (s_iload_n d_X11_hand_84 m3_ (s_cV (r_I d_X11_hand_85 k_X3_init w_496 rfl rfl) ms_X3_init (b8 rfl) rfl rfl rfl (fun _ _ _ => rfl) (fun _ _ => Or.inl rfl) fun m11 => ?_)))))
    refine s_stR d_X11_hand_88 ka_55 (by decide) (b8 rfl) rfl rfl fun m13 => (s_aload_n d_X11_hand_89 m0_ (s_dup d_X11_hand_90 rfl (s_getN cf d_X11_hand_91 fl_X11_131 (s_iconst d_X11_hand_94 n_1 (s_iadd d_X11_hand_95 rfl rfl ?_)))))
    refine s_ck (s_putN cf d_X11_hand_96 fl_X11_131 (fun h => by cases h) fun m14 => (s_aload_n d_X11_hand_99 m0_ (s_getN cf d_X11_hand_100 fl_X11_131 (s_iconst d_X11_hand_103 n_1 (s_isub d_X11_hand_104 rfl rfl ?_)))))
    exact s_ck (s_iret d_X11_hand_105 rfl rfl)
  have hj_X11_hand_0_51 : ∀ (m_51 : MM) (l0_51 : Nat) (l1_51 : Int) (l2_51 : Int) (l3_51 : Int) (s0_51 : Int), Sim fx me_X11_hand 51 [(0, aR (some (11, l0_51))), (1, aI l1_51), (2, aI l2_51), (3, aI l3_51)] [aI s0_51] m_51 ((j_X11_hand_0_51 m_51 l0_51 l1_51 l2_51 l3_51 s0_51).bind (fun z => some z)) := by
    intro m_51 l0_51 l1_51 l2_51 l3_51 s0_51
    unfold j_X11_hand_0_51
    refine s_cV (r_S d_X11_hand_51 k_X11_requireArgument w_284 rfl rfl) ms_X11_requireArgument (b8 rfl) rfl rfl rfl (fun h => by cases h) (fun _ _ => Or.inr rfl) fun m5 => (s_aload_n d_X11_hand_54 m0_ (s_getN cf d_X11_hand_55 fl_X11_131 (s_iconst d_X11_hand_58 n_4 (s_icmp_ge (tgt := 66) d_X11_hand_59 rfl ?_ ?_))))
    · exact s_iconst d_X11_hand_66 n_0 (s_sub (subc m0_ (subc m1_ (subc m2_ (subc m3_ sub0)))) (hj_X11_hand_0_67 m5 l0_51 l1_51 l2_51 l3_51 0))
    exact s_iconst d_X11_hand_62 n_1 (s_goto (tgt := 67) d_X11_hand_63 rfl (s_sub (subc m0_ (subc m1_ (subc m2_ (subc m3_ sub0)))) (hj_X11_hand_0_67 m5 l0_51 l1_51 l2_51 l3_51 1)))
  have hj_X11_hand_0_50 : ∀ (m_50 : MM) (l0_50 : Nat) (l1_50 : Int) (l2_50 : Int) (l3_50 : Int), Sim fx me_X11_hand 50 [(0, aR (some (11, l0_50))), (1, aI l1_50), (2, aI l2_50), (3, aI l3_50)] [] m_50 ((j_X11_hand_0_50 m_50 l0_50 l1_50 l2_50 l3_50).bind (fun z => some z)) := by
    intro m_50 l0_50 l1_50 l2_50 l3_50
    unfold j_X11_hand_0_50
    exact s_iconst d_X11_hand_50 n_0 (s_sub (subc m0_ (subc m1_ (subc m2_ (subc m3_ sub0)))) (hj_X11_hand_0_51 m_50 l0_50 l1_50 l2_50 l3_50 0))
  have hj_X11_hand_0_33 : ∀ (m_33 : MM) (l0_33 : Nat) (l1_33 : Int) (l2_33 : Int) (l3_33 : Int) (s0_33 : Int), Sim fx me_X11_hand 33 [(0, aR (some (11, l0_33))), (1, aI l1_33), (2, aI l2_33), (3, aI l3_33)] [aI s0_33] m_33 ((j_X11_hand_0_33 m_33 l0_33 l1_33 l2_33 l3_33 s0_33).bind (fun z => some z)) := by
    intro m_33 l0_33 l1_33 l2_33 l3_33 s0_33
    unfold j_X11_hand_0_33
    refine s_cV (r_S d_X11_hand_33 k_X11_requireArgument w_284 rfl rfl) ms_X11_requireArgument (b8 rfl) rfl rfl rfl (fun h => by cases h) (fun _ _ => Or.inr rfl) fun m3 => (s_iload_n d_X11_hand_36 m3_ (s_if_lt (tgt := 50) d_X11_hand_37 rfl ?_ ?_))
    · exact s_sub (subc m0_ (subc m1_ (subc m2_ (subc m3_ sub0)))) (hj_X11_hand_0_50 m3 l0_33 l1_33 l2_33 l3_33)
    refine s_iload_n d_X11_hand_40 m3_ (s_bipush d_X11_hand_41 n_9 rfl (s_icmp_gt (tgt := 50) d_X11_hand_43 rfl ?_ ?_))
    · exact s_sub (subc m0_ (subc m1_ (subc m2_ (subc m3_ sub0)))) (hj_X11_hand_0_50 m3 l0_33 l1_33 l2_33 l3_33)
    exact s_iconst d_X11_hand_46 n_1 (s_goto (tgt := 51) d_X11_hand_47 rfl (s_sub (subc m0_ (subc m1_ (subc m2_ (subc m3_ sub0)))) (hj_X11_hand_0_51 m3 l0_33 l1_33 l2_33 l3_33 1)))
  have hj_X11_hand_0_32 : ∀ (m_32 : MM) (l0_32 : Nat) (l1_32 : Int) (l2_32 : Int) (l3_32 : Int), Sim fx me_X11_hand 32 [(0, aR (some (11, l0_32))), (1, aI l1_32), (2, aI l2_32), (3, aI l3_32)] [] m_32 ((j_X11_hand_0_32 m_32 l0_32 l1_32 l2_32 l3_32).bind (fun z => some z)) := by
    intro m_32 l0_32 l1_32 l2_32 l3_32
    unfold j_X11_hand_0_32
    exact s_iconst d_X11_hand_32 n_0 (s_sub (subc m0_ (subc m1_ (subc m2_ (subc m3_ sub0)))) (hj_X11_hand_0_33 m_32 l0_32 l1_32 l2_32 l3_32 0))
  have hj_X11_hand_0_15 : ∀ (m_15 : MM) (l0_15 : Nat) (l1_15 : Int) (l2_15 : Int) (l3_15 : Int) (s0_15 : Int), Sim fx me_X11_hand 15 [(0, aR (some (11, l0_15))), (1, aI l1_15), (2, aI l2_15), (3, aI l3_15)] [aI s0_15] m_15 ((j_X11_hand_0_15 m_15 l0_15 l1_15 l2_15 l3_15 s0_15).bind (fun z => some z)) := by
    intro m_15 l0_15 l1_15 l2_15 l3_15 s0_15
    unfold j_X11_hand_0_15
    refine s_cV (r_S d_X11_hand_15 k_X11_requireArgument w_284 rfl rfl) ms_X11_requireArgument (b8 rfl) rfl rfl rfl (fun h => by cases h) (fun _ _ => Or.inr rfl) fun m1 => (s_iload_n d_X11_hand_18 m2_ (s_if_lt (tgt := 32) d_X11_hand_19 rfl ?_ ?_))
    · exact s_sub (subc m0_ (subc m1_ (subc m2_ (subc m3_ sub0)))) (hj_X11_hand_0_32 m1 l0_15 l1_15 l2_15 l3_15)
    refine s_iload_n d_X11_hand_22 m2_ (s_bipush d_X11_hand_23 n_9 rfl (s_icmp_gt (tgt := 32) d_X11_hand_25 rfl ?_ ?_))
    · exact s_sub (subc m0_ (subc m1_ (subc m2_ (subc m3_ sub0)))) (hj_X11_hand_0_32 m1 l0_15 l1_15 l2_15 l3_15)
    exact s_iconst d_X11_hand_28 n_1 (s_goto (tgt := 33) d_X11_hand_29 rfl (s_sub (subc m0_ (subc m1_ (subc m2_ (subc m3_ sub0)))) (hj_X11_hand_0_33 m1 l0_15 l1_15 l2_15 l3_15 1)))
  have hj_X11_hand_0_14 : ∀ (m_14 : MM) (l0_14 : Nat) (l1_14 : Int) (l2_14 : Int) (l3_14 : Int), Sim fx me_X11_hand 14 [(0, aR (some (11, l0_14))), (1, aI l1_14), (2, aI l2_14), (3, aI l3_14)] [] m_14 ((j_X11_hand_0_14 m_14 l0_14 l1_14 l2_14 l3_14).bind (fun z => some z)) := by
    intro m_14 l0_14 l1_14 l2_14 l3_14
    unfold j_X11_hand_0_14
    exact s_iconst d_X11_hand_14 n_0 (s_sub (subc m0_ (subc m1_ (subc m2_ (subc m3_ sub0)))) (hj_X11_hand_0_15 m_14 l0_14 l1_14 l2_14 l3_14 0))
  refine s_iload_n d_X11_hand_0 m1_ (s_if_lt (tgt := 14) d_X11_hand_1 rfl ?_ ?_)
  · exact s_sub (subc m0_ (subc m1_ (subc m2_ (subc m3_ sub0)))) (hj_X11_hand_0_14 m l0 l1 l2 l3)
  refine s_iload_n d_X11_hand_4 m1_ (s_bipush d_X11_hand_5 n_63 rfl (s_icmp_gt (tgt := 14) d_X11_hand_7 rfl ?_ ?_))
  · exact s_sub (subc m0_ (subc m1_ (subc m2_ (subc m3_ sub0)))) (hj_X11_hand_0_14 m l0 l1 l2 l3)
  exact s_iconst d_X11_hand_10 n_1 (s_goto (tgt := 15) d_X11_hand_11 rfl (s_sub (subc m0_ (subc m1_ (subc m2_ (subc m3_ sub0)))) (hj_X11_hand_0_15 m l0 l1 l2 l3 1)))
theorem d_L_hand_0 : dk me_L_hand 0 (.aload 4) 2 2 := And.intro (by decide +kernel) rfl
theorem d_L_hand_2 : dk me_L_hand 2 (.iconst 0) 1 3 := And.intro (by decide +kernel) rfl
theorem d_L_hand_3 : dk me_L_hand 3 (.aload_n 0) 1 4 := And.intro (by decide +kernel) rfl
theorem d_L_hand_4 : dk me_L_hand 4 (.iload_n 1) 1 5 := And.intro (by decide +kernel) rfl
theorem d_L_hand_5 : dk me_L_hand 5 (.iload_n 2) 1 6 := And.intro (by decide +kernel) rfl
theorem d_L_hand_6 : dk me_L_hand 6 (.iload_n 3) 1 7 := And.intro (by decide +kernel) rfl
theorem d_L_hand_7 : dk me_L_hand 7 (.invokevirtual 37) 3 10 := And.intro (by decide +kernel) rfl
theorem d_L_hand_10 : dk me_L_hand 10 (.i2l) 1 11 := And.intro (by decide +kernel) rfl
theorem d_L_hand_11 : dk me_L_hand 11 (.lastore) 1 12 := And.intro (by decide +kernel) rfl
theorem d_L_hand_12 : dk me_L_hand 12 (.goto 11) 3 15 := And.intro (by decide +kernel) rfl
theorem d_L_hand_15 : dk me_L_hand 15 (.astore 5) 2 17 := And.intro (by decide +kernel) rfl
theorem d_L_hand_17 : dk me_L_hand 17 (.iconst 1) 1 18 := And.intro (by decide +kernel) rfl
theorem d_L_hand_18 : dk me_L_hand 18 (.ireturn) 1 19 := And.intro (by decide +kernel) rfl
theorem d_L_hand_19 : dk me_L_hand 19 (.astore 5) 2 21 := And.intro (by decide +kernel) rfl
theorem d_L_hand_21 : dk me_L_hand 21 (.iconst 2) 1 22 := And.intro (by decide +kernel) rfl
theorem d_L_hand_22 : dk me_L_hand 22 (.ireturn) 1 23 := And.intro (by decide +kernel) rfl
theorem d_L_hand_23 : dk me_L_hand 23 (.iconst 0) 1 24 := And.intro (by decide +kernel) rfl
theorem d_L_hand_24 : dk me_L_hand 24 (.ireturn) 1 25 := And.intro (by decide +kernel) rfl
theorem ms_L_hand {fx : FX} {m : MM} {l0 : Nat} {l1 : Int} {l2 : Int} {l3 : Int} {l4 : Nat} : MS fx me_L_hand [aR (some (11, l0)), aI l1, aI l2, aI l3, aR (some (131, l4))] m (f_L_hand m l0 l1 l2 l3 l4) := by
  refine ms_ofH rfl mf_L_hand (b8 rfl) ?_
  refine s_top ?_
  show Sim fx me_L_hand 0 [(0, aR (some (11, l0))), (1, aI l1), (2, aI l2), (3, aI l3), (4, aR (some (131, l4)))] [] m _
  unfold f_L_hand
  refine s_aload d_L_hand_0 m4_ (s_iconst d_L_hand_2 n_0 (s_aload_n d_L_hand_3 m0_ (s_iload_n d_L_hand_4 m1_ (s_iload_n d_L_hand_5 m2_ (s_iload_n d_L_hand_6 m3_ ?_)))))
  refine s_cIC (r_V d_L_hand_7 k_X11_hand w_491 rfl rfl) ms_X11_hand (b8 rfl) rfl rfl ?_ ?_ ?_ fun v2 m1 => ?_
  · exact fun _ => Or.inl rfl
  · refine fun mx => Or.inr ⟨15, ⟨rfl, by decide, 1, wx_13_1, Or.inl ⟨rfl, rfl⟩⟩, fun qx => ?_⟩
    exact s_astoreV (L' := [(5, aV (.ref qx)), (0, aR (some (11, l0))), (1, aI l1), (2, aI l2), (3, aI l3), (4, aR (some (131, l4)))]) d_L_hand_15 (b8 rfl) rfl (s_iconst d_L_hand_17 n_1 (s_iret d_L_hand_18 rfl rfl))
  · refine fun mx => Or.inr ⟨19, ⟨rfl, by decide, 1, wx_13_1, Or.inr ⟨by decide, ⟨rfl, by decide, 2, wx_15_2, Or.inl ⟨rfl, rfl⟩⟩⟩⟩, fun qx => ?_⟩
    exact s_astoreV (L' := [(5, aV (.ref qx)), (0, aR (some (11, l0))), (1, aI l1), (2, aI l2), (3, aI l3), (4, aR (some (131, l4)))]) d_L_hand_19 (b8 rfl) rfl (s_iconst d_L_hand_21 n_2 (s_iret d_L_hand_22 rfl rfl))
  exact s_i2l d_L_hand_10 (s_stL d_L_hand_11 ka_131 rfl fun m3 => (s_goto (tgt := 23) d_L_hand_12 rfl (s_iconst d_L_hand_23 n_0 (s_iret d_L_hand_24 rfl rfl))))
theorem dc_X7_canPart_0 : decode prog_9_method_10_code 0 = .ok (.iload_n 1, 1) := by decide +kernel
theorem d_X7_canPart_0 {d : Nat} : dk (me_X7_canPart d) 0 (.iload_n 1) 1 1 := And.intro dc_X7_canPart_0 rfl
theorem dc_X7_canPart_1 : decode prog_9_method_10_code 1 = .ok (.bipush 16, 2) := by decide +kernel
theorem d_X7_canPart_1 {d : Nat} : dk (me_X7_canPart d) 1 (.bipush 16) 2 3 := And.intro dc_X7_canPart_1 rfl
theorem dc_X7_canPart_3 : decode prog_9_method_10_code 3 = .ok (.if_icmp .lt 5, 3) := by decide +kernel
theorem d_X7_canPart_3 {d : Nat} : dk (me_X7_canPart d) 3 (.if_icmp .lt 5) 3 6 := And.intro dc_X7_canPart_3 rfl
theorem dc_X7_canPart_6 : decode prog_9_method_10_code 6 = .ok (.iconst 1, 1) := by decide +kernel
theorem d_X7_canPart_6 {d : Nat} : dk (me_X7_canPart d) 6 (.iconst 1) 1 7 := And.intro dc_X7_canPart_6 rfl
theorem dc_X7_canPart_7 : decode prog_9_method_10_code 7 = .ok (.ireturn, 1) := by decide +kernel
theorem d_X7_canPart_7 {d : Nat} : dk (me_X7_canPart d) 7 (.ireturn) 1 8 := And.intro dc_X7_canPart_7 rfl
theorem dc_X7_canPart_8 : decode prog_9_method_10_code 8 = .ok (.iload_n 3, 1) := by decide +kernel
theorem d_X7_canPart_8 {d : Nat} : dk (me_X7_canPart d) 8 (.iload_n 3) 1 9 := And.intro dc_X7_canPart_8 rfl
theorem dc_X7_canPart_9 : decode prog_9_method_10_code 9 = .ok (.iconst 1, 1) := by decide +kernel
theorem d_X7_canPart_9 {d : Nat} : dk (me_X7_canPart d) 9 (.iconst 1) 1 10 := And.intro dc_X7_canPart_9 rfl
theorem dc_X7_canPart_10 : decode prog_9_method_10_code 10 = .ok (.iload_n 1, 1) := by decide +kernel
theorem d_X7_canPart_10 {d : Nat} : dk (me_X7_canPart d) 10 (.iload_n 1) 1 11 := And.intro dc_X7_canPart_10 rfl
theorem dc_X7_canPart_11 : decode prog_9_method_10_code 11 = .ok (.ishl, 1) := by decide +kernel
theorem d_X7_canPart_11 {d : Nat} : dk (me_X7_canPart d) 11 (.ishl) 1 12 := And.intro dc_X7_canPart_11 rfl
theorem dc_X7_canPart_12 : decode prog_9_method_10_code 12 = .ok (.iand, 1) := by decide +kernel
theorem d_X7_canPart_12 {d : Nat} : dk (me_X7_canPart d) 12 (.iand) 1 13 := And.intro dc_X7_canPart_12 rfl
theorem dc_X7_canPart_13 : decode prog_9_method_10_code 13 = .ok (.ifCond .ne 15, 3) := by decide +kernel
theorem d_X7_canPart_13 {d : Nat} : dk (me_X7_canPart d) 13 (.ifCond .ne 15) 3 16 := And.intro dc_X7_canPart_13 rfl
theorem dc_X7_canPart_16 : decode prog_9_method_10_code 16 = .ok (.aload_n 0, 1) := by decide +kernel
theorem d_X7_canPart_16 {d : Nat} : dk (me_X7_canPart d) 16 (.aload_n 0) 1 17 := And.intro dc_X7_canPart_16 rfl
theorem dc_X7_canPart_17 : decode prog_9_method_10_code 17 = .ok (.iload_n 1, 1) := by decide +kernel
theorem d_X7_canPart_17 {d : Nat} : dk (me_X7_canPart d) 17 (.iload_n 1) 1 18 := And.intro dc_X7_canPart_17 rfl
theorem dc_X7_canPart_18 : decode prog_9_method_10_code 18 = .ok (.iconst 1, 1) := by decide +kernel
theorem d_X7_canPart_18 {d : Nat} : dk (me_X7_canPart d) 18 (.iconst 1) 1 19 := And.intro dc_X7_canPart_18 rfl
theorem dc_X7_canPart_19 : decode prog_9_method_10_code 19 = .ok (.iadd, 1) := by decide +kernel
theorem d_X7_canPart_19 {d : Nat} : dk (me_X7_canPart d) 19 (.iadd) 1 20 := And.intro dc_X7_canPart_19 rfl
theorem dc_X7_canPart_20 : decode prog_9_method_10_code 20 = .ok (.iload_n 2, 1) := by decide +kernel
theorem d_X7_canPart_20 {d : Nat} : dk (me_X7_canPart d) 20 (.iload_n 2) 1 21 := And.intro dc_X7_canPart_20 rfl
theorem dc_X7_canPart_21 : decode prog_9_method_10_code 21 = .ok (.iload_n 3, 1) := by decide +kernel
theorem d_X7_canPart_21 {d : Nat} : dk (me_X7_canPart d) 21 (.iload_n 3) 1 22 := And.intro dc_X7_canPart_21 rfl
theorem dc_X7_canPart_22 : decode prog_9_method_10_code 22 = .ok (.iload 4, 2) := by decide +kernel
theorem d_X7_canPart_22 {d : Nat} : dk (me_X7_canPart d) 22 (.iload 4) 2 24 := And.intro dc_X7_canPart_22 rfl
theorem dc_X7_canPart_24 : decode prog_9_method_10_code 24 = .ok (.invokestatic 62, 3) := by decide +kernel
theorem d_X7_canPart_24 {d : Nat} : dk (me_X7_canPart d) 24 (.invokestatic 62) 3 27 := And.intro dc_X7_canPart_24 rfl
theorem dc_X7_canPart_27 : decode prog_9_method_10_code 27 = .ok (.ireturn, 1) := by decide +kernel
theorem d_X7_canPart_27 {d : Nat} : dk (me_X7_canPart d) 27 (.ireturn) 1 28 := And.intro dc_X7_canPart_27 rfl
theorem dc_X7_canPart_28 : decode prog_9_method_10_code 28 = .ok (.iconst 0, 1) := by decide +kernel
theorem d_X7_canPart_28 {d : Nat} : dk (me_X7_canPart d) 28 (.iconst 0) 1 29 := And.intro dc_X7_canPart_28 rfl
theorem dc_X7_canPart_29 : decode prog_9_method_10_code 29 = .ok (.istore 5, 2) := by decide +kernel
theorem d_X7_canPart_29 {d : Nat} : dk (me_X7_canPart d) 29 (.istore 5) 2 31 := And.intro dc_X7_canPart_29 rfl
theorem dc_X7_canPart_31 : decode prog_9_method_10_code 31 = .ok (.iconst 0, 1) := by decide +kernel
theorem d_X7_canPart_31 {d : Nat} : dk (me_X7_canPart d) 31 (.iconst 0) 1 32 := And.intro dc_X7_canPart_31 rfl
theorem dc_X7_canPart_32 : decode prog_9_method_10_code 32 = .ok (.istore 6, 2) := by decide +kernel
theorem d_X7_canPart_32 {d : Nat} : dk (me_X7_canPart d) 32 (.istore 6) 2 34 := And.intro dc_X7_canPart_32 rfl
theorem dc_X7_canPart_34 : decode prog_9_method_10_code 34 = .ok (.iload 6, 2) := by decide +kernel
theorem d_X7_canPart_34 {d : Nat} : dk (me_X7_canPart d) 34 (.iload 6) 2 36 := And.intro dc_X7_canPart_34 rfl
theorem dc_X7_canPart_36 : decode prog_9_method_10_code 36 = .ok (.iload_n 2, 1) := by decide +kernel
theorem d_X7_canPart_36 {d : Nat} : dk (me_X7_canPart d) 36 (.iload_n 2) 1 37 := And.intro dc_X7_canPart_36 rfl
theorem dc_X7_canPart_37 : decode prog_9_method_10_code 37 = .ok (.if_icmp .gt 86, 3) := by decide +kernel
theorem d_X7_canPart_37 {d : Nat} : dk (me_X7_canPart d) 37 (.if_icmp .gt 86) 3 40 := And.intro dc_X7_canPart_37 rfl
theorem dc_X7_canPart_40 : decode prog_9_method_10_code 40 = .ok (.iload 6, 2) := by decide +kernel
theorem d_X7_canPart_40 {d : Nat} : dk (me_X7_canPart d) 40 (.iload 6) 2 42 := And.intro dc_X7_canPart_40 rfl
theorem dc_X7_canPart_42 : decode prog_9_method_10_code 42 = .ok (.iload 4, 2) := by decide +kernel
theorem d_X7_canPart_42 {d : Nat} : dk (me_X7_canPart d) 42 (.iload 4) 2 44 := And.intro dc_X7_canPart_42 rfl
theorem dc_X7_canPart_44 : decode prog_9_method_10_code 44 = .ok (.if_icmp .ge 79, 3) := by decide +kernel
theorem d_X7_canPart_44 {d : Nat} : dk (me_X7_canPart d) 44 (.if_icmp .ge 79) 3 47 := And.intro dc_X7_canPart_44 rfl
theorem dc_X7_canPart_47 : decode prog_9_method_10_code 47 = .ok (.iload 5, 2) := by decide +kernel
theorem d_X7_canPart_47 {d : Nat} : dk (me_X7_canPart d) 47 (.iload 5) 2 49 := And.intro dc_X7_canPart_47 rfl
theorem dc_X7_canPart_49 : decode prog_9_method_10_code 49 = .ok (.ifCond .ne 74, 3) := by decide +kernel
theorem d_X7_canPart_49 {d : Nat} : dk (me_X7_canPart d) 49 (.ifCond .ne 74) 3 52 := And.intro dc_X7_canPart_49 rfl
theorem dc_X7_canPart_52 : decode prog_9_method_10_code 52 = .ok (.aload_n 0, 1) := by decide +kernel
theorem d_X7_canPart_52 {d : Nat} : dk (me_X7_canPart d) 52 (.aload_n 0) 1 53 := And.intro dc_X7_canPart_52 rfl
theorem dc_X7_canPart_53 : decode prog_9_method_10_code 53 = .ok (.getfield 27, 3) := by decide +kernel
theorem d_X7_canPart_53 {d : Nat} : dk (me_X7_canPart d) 53 (.getfield 27) 3 56 := And.intro dc_X7_canPart_53 rfl
theorem dc_X7_canPart_56 : decode prog_9_method_10_code 56 = .ok (.iload 6, 2) := by decide +kernel
theorem d_X7_canPart_56 {d : Nat} : dk (me_X7_canPart d) 56 (.iload 6) 2 58 := And.intro dc_X7_canPart_56 rfl
theorem dc_X7_canPart_58 : decode prog_9_method_10_code 58 = .ok (.iaload, 1) := by decide +kernel
theorem d_X7_canPart_58 {d : Nat} : dk (me_X7_canPart d) 58 (.iaload) 1 59 := And.intro dc_X7_canPart_58 rfl
theorem dc_X7_canPart_59 : decode prog_9_method_10_code 59 = .ok (.aload_n 0, 1) := by decide +kernel
theorem d_X7_canPart_59 {d : Nat} : dk (me_X7_canPart d) 59 (.aload_n 0) 1 60 := And.intro dc_X7_canPart_59 rfl
theorem dc_X7_canPart_60 : decode prog_9_method_10_code 60 = .ok (.getfield 18, 3) := by decide +kernel
theorem d_X7_canPart_60 {d : Nat} : dk (me_X7_canPart d) 60 (.getfield 18) 3 63 := And.intro dc_X7_canPart_60 rfl
theorem dc_X7_canPart_63 : decode prog_9_method_10_code 63 = .ok (.iload_n 1, 1) := by decide +kernel
theorem d_X7_canPart_63 {d : Nat} : dk (me_X7_canPart d) 63 (.iload_n 1) 1 64 := And.intro dc_X7_canPart_63 rfl
theorem dc_X7_canPart_64 : decode prog_9_method_10_code 64 = .ok (.iaload, 1) := by decide +kernel
theorem d_X7_canPart_64 {d : Nat} : dk (me_X7_canPart d) 64 (.iaload) 1 65 := And.intro dc_X7_canPart_64 rfl
theorem dc_X7_canPart_65 : decode prog_9_method_10_code 65 = .ok (.iand, 1) := by decide +kernel
theorem d_X7_canPart_65 {d : Nat} : dk (me_X7_canPart d) 65 (.iand) 1 66 := And.intro dc_X7_canPart_65 rfl
theorem dc_X7_canPart_66 : decode prog_9_method_10_code 66 = .ok (.ifCond .ne 51, 3) := by decide +kernel
theorem d_X7_canPart_66 {d : Nat} : dk (me_X7_canPart d) 66 (.ifCond .ne 51) 3 69 := And.intro dc_X7_canPart_66 rfl
theorem dc_X7_canPart_69 : decode prog_9_method_10_code 69 = .ok (.aload_n 0, 1) := by decide +kernel
theorem d_X7_canPart_69 {d : Nat} : dk (me_X7_canPart d) 69 (.aload_n 0) 1 70 := And.intro dc_X7_canPart_69 rfl
theorem dc_X7_canPart_70 : decode prog_9_method_10_code 70 = .ok (.getfield 27, 3) := by decide +kernel
theorem d_X7_canPart_70 {d : Nat} : dk (me_X7_canPart d) 70 (.getfield 27) 3 73 := And.intro dc_X7_canPart_70 rfl
theorem dc_X7_canPart_73 : decode prog_9_method_10_code 73 = .ok (.iload 6, 2) := by decide +kernel
theorem d_X7_canPart_73 {d : Nat} : dk (me_X7_canPart d) 73 (.iload 6) 2 75 := And.intro dc_X7_canPart_73 rfl
theorem dc_X7_canPart_75 : decode prog_9_method_10_code 75 = .ok (.dup2, 1) := by decide +kernel
theorem d_X7_canPart_75 {d : Nat} : dk (me_X7_canPart d) 75 (.dup2) 1 76 := And.intro dc_X7_canPart_75 rfl
theorem dc_X7_canPart_76 : decode prog_9_method_10_code 76 = .ok (.iaload, 1) := by decide +kernel
theorem d_X7_canPart_76 {d : Nat} : dk (me_X7_canPart d) 76 (.iaload) 1 77 := And.intro dc_X7_canPart_76 rfl
theorem dc_X7_canPart_77 : decode prog_9_method_10_code 77 = .ok (.iconst 1, 1) := by decide +kernel
theorem d_X7_canPart_77 {d : Nat} : dk (me_X7_canPart d) 77 (.iconst 1) 1 78 := And.intro dc_X7_canPart_77 rfl
theorem dc_X7_canPart_78 : decode prog_9_method_10_code 78 = .ok (.iload_n 1, 1) := by decide +kernel
theorem d_X7_canPart_78 {d : Nat} : dk (me_X7_canPart d) 78 (.iload_n 1) 1 79 := And.intro dc_X7_canPart_78 rfl
theorem dc_X7_canPart_79 : decode prog_9_method_10_code 79 = .ok (.ishl, 1) := by decide +kernel
theorem d_X7_canPart_79 {d : Nat} : dk (me_X7_canPart d) 79 (.ishl) 1 80 := And.intro dc_X7_canPart_79 rfl
theorem dc_X7_canPart_80 : decode prog_9_method_10_code 80 = .ok (.ior, 1) := by decide +kernel
theorem d_X7_canPart_80 {d : Nat} : dk (me_X7_canPart d) 80 (.ior) 1 81 := And.intro dc_X7_canPart_80 rfl
theorem dc_X7_canPart_81 : decode prog_9_method_10_code 81 = .ok (.iastore, 1) := by decide +kernel
theorem d_X7_canPart_81 {d : Nat} : dk (me_X7_canPart d) 81 (.iastore) 1 82 := And.intro dc_X7_canPart_81 rfl
theorem dc_X7_canPart_82 : decode prog_9_method_10_code 82 = .ok (.aload_n 0, 1) := by decide +kernel
theorem d_X7_canPart_82 {d : Nat} : dk (me_X7_canPart d) 82 (.aload_n 0) 1 83 := And.intro dc_X7_canPart_82 rfl
theorem dc_X7_canPart_83 : decode prog_9_method_10_code 83 = .ok (.iload_n 1, 1) := by decide +kernel
theorem d_X7_canPart_83 {d : Nat} : dk (me_X7_canPart d) 83 (.iload_n 1) 1 84 := And.intro dc_X7_canPart_83 rfl
theorem dc_X7_canPart_84 : decode prog_9_method_10_code 84 = .ok (.iconst 1, 1) := by decide +kernel
theorem d_X7_canPart_84 {d : Nat} : dk (me_X7_canPart d) 84 (.iconst 1) 1 85 := And.intro dc_X7_canPart_84 rfl
theorem dc_X7_canPart_85 : decode prog_9_method_10_code 85 = .ok (.iadd, 1) := by decide +kernel
theorem d_X7_canPart_85 {d : Nat} : dk (me_X7_canPart d) 85 (.iadd) 1 86 := And.intro dc_X7_canPart_85 rfl
theorem dc_X7_canPart_86 : decode prog_9_method_10_code 86 = .ok (.iload_n 2, 1) := by decide +kernel
theorem d_X7_canPart_86 {d : Nat} : dk (me_X7_canPart d) 86 (.iload_n 2) 1 87 := And.intro dc_X7_canPart_86 rfl
theorem dc_X7_canPart_87 : decode prog_9_method_10_code 87 = .ok (.iload 6, 2) := by decide +kernel
theorem d_X7_canPart_87 {d : Nat} : dk (me_X7_canPart d) 87 (.iload 6) 2 89 := And.intro dc_X7_canPart_87 rfl
theorem dc_X7_canPart_89 : decode prog_9_method_10_code 89 = .ok (.iconst 1, 1) := by decide +kernel
theorem d_X7_canPart_89 {d : Nat} : dk (me_X7_canPart d) 89 (.iconst 1) 1 90 := And.intro dc_X7_canPart_89 rfl
theorem dc_X7_canPart_90 : decode prog_9_method_10_code 90 = .ok (.iadd, 1) := by decide +kernel
theorem d_X7_canPart_90 {d : Nat} : dk (me_X7_canPart d) 90 (.iadd) 1 91 := And.intro dc_X7_canPart_90 rfl
theorem dc_X7_canPart_91 : decode prog_9_method_10_code 91 = .ok (.invokestatic 90, 3) := by decide +kernel
theorem d_X7_canPart_91 {d : Nat} : dk (me_X7_canPart d) 91 (.invokestatic 90) 3 94 := And.intro dc_X7_canPart_91 rfl
theorem dc_X7_canPart_94 : decode prog_9_method_10_code 94 = .ok (.iload_n 3, 1) := by decide +kernel
theorem d_X7_canPart_94 {d : Nat} : dk (me_X7_canPart d) 94 (.iload_n 3) 1 95 := And.intro dc_X7_canPart_94 rfl
theorem dc_X7_canPart_95 : decode prog_9_method_10_code 95 = .ok (.iload 4, 2) := by decide +kernel
theorem d_X7_canPart_95 {d : Nat} : dk (me_X7_canPart d) 95 (.iload 4) 2 97 := And.intro dc_X7_canPart_95 rfl
theorem dc_X7_canPart_97 : decode prog_9_method_10_code 97 = .ok (.invokestatic 62, 3) := by decide +kernel
theorem d_X7_canPart_97 {d : Nat} : dk (me_X7_canPart d) 97 (.invokestatic 62) 3 100 := And.intro dc_X7_canPart_97 rfl
theorem dc_X7_canPart_100 : decode prog_9_method_10_code 100 = .ok (.istore 5, 2) := by decide +kernel
theorem d_X7_canPart_100 {d : Nat} : dk (me_X7_canPart d) 100 (.istore 5) 2 102 := And.intro dc_X7_canPart_100 rfl
theorem dc_X7_canPart_102 : decode prog_9_method_10_code 102 = .ok (.aload_n 0, 1) := by decide +kernel
theorem d_X7_canPart_102 {d : Nat} : dk (me_X7_canPart d) 102 (.aload_n 0) 1 103 := And.intro dc_X7_canPart_102 rfl
theorem dc_X7_canPart_103 : decode prog_9_method_10_code 103 = .ok (.getfield 27, 3) := by decide +kernel
theorem d_X7_canPart_103 {d : Nat} : dk (me_X7_canPart d) 103 (.getfield 27) 3 106 := And.intro dc_X7_canPart_103 rfl
theorem dc_X7_canPart_106 : decode prog_9_method_10_code 106 = .ok (.iload 6, 2) := by decide +kernel
theorem d_X7_canPart_106 {d : Nat} : dk (me_X7_canPart d) 106 (.iload 6) 2 108 := And.intro dc_X7_canPart_106 rfl
theorem dc_X7_canPart_108 : decode prog_9_method_10_code 108 = .ok (.dup2, 1) := by decide +kernel
theorem d_X7_canPart_108 {d : Nat} : dk (me_X7_canPart d) 108 (.dup2) 1 109 := And.intro dc_X7_canPart_108 rfl
theorem dc_X7_canPart_109 : decode prog_9_method_10_code 109 = .ok (.iaload, 1) := by decide +kernel
theorem d_X7_canPart_109 {d : Nat} : dk (me_X7_canPart d) 109 (.iaload) 1 110 := And.intro dc_X7_canPart_109 rfl
theorem dc_X7_canPart_110 : decode prog_9_method_10_code 110 = .ok (.iconst 1, 1) := by decide +kernel
theorem d_X7_canPart_110 {d : Nat} : dk (me_X7_canPart d) 110 (.iconst 1) 1 111 := And.intro dc_X7_canPart_110 rfl
theorem dc_X7_canPart_111 : decode prog_9_method_10_code 111 = .ok (.iload_n 1, 1) := by decide +kernel
theorem d_X7_canPart_111 {d : Nat} : dk (me_X7_canPart d) 111 (.iload_n 1) 1 112 := And.intro dc_X7_canPart_111 rfl
theorem dc_X7_canPart_112 : decode prog_9_method_10_code 112 = .ok (.ishl, 1) := by decide +kernel
theorem d_X7_canPart_112 {d : Nat} : dk (me_X7_canPart d) 112 (.ishl) 1 113 := And.intro dc_X7_canPart_112 rfl
theorem dc_X7_canPart_113 : decode prog_9_method_10_code 113 = .ok (.iconst (-1), 1) := by decide +kernel
theorem d_X7_canPart_113 {d : Nat} : dk (me_X7_canPart d) 113 (.iconst (-1)) 1 114 := And.intro dc_X7_canPart_113 rfl
theorem dc_X7_canPart_114 : decode prog_9_method_10_code 114 = .ok (.ixor, 1) := by decide +kernel
theorem d_X7_canPart_114 {d : Nat} : dk (me_X7_canPart d) 114 (.ixor) 1 115 := And.intro dc_X7_canPart_114 rfl
theorem dc_X7_canPart_115 : decode prog_9_method_10_code 115 = .ok (.iand, 1) := by decide +kernel
theorem d_X7_canPart_115 {d : Nat} : dk (me_X7_canPart d) 115 (.iand) 1 116 := And.intro dc_X7_canPart_115 rfl
theorem dc_X7_canPart_116 : decode prog_9_method_10_code 116 = .ok (.iastore, 1) := by decide +kernel
theorem d_X7_canPart_116 {d : Nat} : dk (me_X7_canPart d) 116 (.iastore) 1 117 := And.intro dc_X7_canPart_116 rfl
theorem dc_X7_canPart_117 : decode prog_9_method_10_code 117 = .ok (.iinc 6 1, 3) := by decide +kernel
theorem d_X7_canPart_117 {d : Nat} : dk (me_X7_canPart d) 117 (.iinc 6 1) 3 120 := And.intro dc_X7_canPart_117 rfl
theorem dc_X7_canPart_120 : decode prog_9_method_10_code 120 = .ok (.goto (-86), 3) := by decide +kernel
theorem d_X7_canPart_120 {d : Nat} : dk (me_X7_canPart d) 120 (.goto (-86)) 3 123 := And.intro dc_X7_canPart_120 rfl
theorem dc_X7_canPart_123 : decode prog_9_method_10_code 123 = .ok (.iload 5, 2) := by decide +kernel
theorem d_X7_canPart_123 {d : Nat} : dk (me_X7_canPart d) 123 (.iload 5) 2 125 := And.intro dc_X7_canPart_123 rfl
theorem dc_X7_canPart_125 : decode prog_9_method_10_code 125 = .ok (.ireturn, 1) := by decide +kernel
theorem d_X7_canPart_125 {d : Nat} : dk (me_X7_canPart d) 125 (.ireturn) 1 126 := And.intro dc_X7_canPart_125 rfl
theorem msb_X7_canPart {fx : FX} {rec : MM → Nat → Int → Int → Int → Int → MO} {d : Nat} (hrec : ∀ {m l0 l1 l2 l3 l4}, MS fx (me_X7_canPart d) [aR (some (7, l0)), aI l1, aI l2, aI l3, aI l4] m (rec m l0 l1 l2 l3 l4)) {m : MM} {l0 : Nat} {l1 : Int} {l2 : Int} {l3 : Int} {l4 : Int} : MS fx (me_X7_canPart (d + 1)) [aR (some (7, l0)), aI l1, aI l2, aI l3, aI l4] m (fb_X7_canPart rec m l0 l1 l2 l3 l4) := by
  refine ms_of rfl (mg_X7_canPart _) (b8 rfl) ?_
  refine s_top ?_
  show Sim fx (me_X7_canPart (d + 1)) 0 [(0, aR (some (7, l0))), (1, aI l1), (2, aI l2), (3, aI l3), (4, aI l4)] [] m _
  unfold fb_X7_canPart
  have hj_X7_canPart_0_123 : ∀ (m_123 : MM) (l5_123 : Int), Sim fx (me_X7_canPart (d + 1)) 123 [(5, aI l5_123)] [] m_123 ((j_X7_canPart_0_123 rec m_123 l5_123).bind (fun z => some z)) := by
    intro m_123 l5_123
    unfold j_X7_canPart_0_123
    exact s_iload d_X7_canPart_123 m0_ (s_zret d_X7_canPart_125 rfl rfl)
  refine s_iload_n d_X7_canPart_0 m1_ (s_bipush d_X7_canPart_1 n_16 rfl (s_icmp_lt (tgt := 8) d_X7_canPart_3 rfl ?_ ?_))
  · refine s_iload_n d_X7_canPart_8 m3_ (s_iconst d_X7_canPart_9 n_1 (s_iload_n d_X7_canPart_10 m1_ (s_ishl d_X7_canPart_11 (s_iand d_X7_canPart_12 (s_if_ne (tgt := 28) d_X7_canPart_13 rfl ?_ ?_)))))
    · refine s_iconst d_X7_canPart_28 n_0 (s_istore (L' := [(5, aI 0), (0, aR (some (7, l0))), (1, aI l1), (2, aI l2), (3, aI l3), (4, aI l4)]) d_X7_canPart_29 (b8 rfl) rfl (s_iconst d_X7_canPart_31 n_0 (s_istore (L' := [(6, aI 0), (5, aI 0), (0, aR (some (7, l0))), (1, aI l1), (2, aI l2), (3, aI l3), (4, aI l4)]) d_X7_canPart_32 (b8 rfl) rfl (s_sub (subc m1_ (subc m0_ (subc m2_ (subc m3_ (subc m4_ (subc m5_ (subc m6_ sub0))))))) (s_lp2 (fun s => [(5, aI (s.1)), (6, aI (s.2.1)), (0, aR (some (7, l0))), (1, aI l1), (2, aI l2), (3, aI l3), (4, aI l4)]) (fun s => s.2.2) (0, 0, m) fun k34 hx34 s ih0 => ?_)))))
      obtain ⟨l5_34, l6_34, mm_34⟩ := s
      have ih34 := ih0
      clear ih0
      try dsimp only
      unfold b_X7_canPart_34
      refine s_iload d_X7_canPart_34 m1_ (s_iload_n d_X7_canPart_36 m4_ (s_icmp_gt (tgt := 123) d_X7_canPart_37 rfl ?_ ?_))
      · exact s_exit (hx34 _) (s_sub (subc m0_ sub0) (hj_X7_canPart_0_123 mm_34 l5_34))
      refine s_iload d_X7_canPart_40 m1_ (s_iload d_X7_canPart_42 m6_ (s_icmp_ge (tgt := 123) d_X7_canPart_44 rfl ?_ ?_))
      · exact s_exit (hx34 _) (s_sub (subc m0_ sub0) (hj_X7_canPart_0_123 mm_34 l5_34))
      refine s_iload d_X7_canPart_47 m0_ (s_if_ne (tgt := 123) d_X7_canPart_49 rfl ?_ ?_)
      · exact s_exit (hx34 _) (s_sub (subc m0_ sub0) (hj_X7_canPart_0_123 mm_34 l5_34))
      refine s_aload_n d_X7_canPart_52 m2_ (s_getR cf d_X7_canPart_53 fl_X7_27 (s_nk fun i1 => (s_iload d_X7_canPart_56 m1_ (s_ldN d_X7_canPart_58 ka_44 rfl fun v2 => (s_aload_n d_X7_canPart_59 m2_ ?_)))))
      refine s_getR cf d_X7_canPart_60 fl_X7_18 (s_nk fun i3 => (s_iload_n d_X7_canPart_63 m3_ (s_ldN d_X7_canPart_64 ka_41 rfl fun v4 => (s_iand d_X7_canPart_65 (s_if_ne (tgt := 117) d_X7_canPart_66 rfl ?_ ?_)))))
      · exact s_iinc (L' := [(6, aI (l6_34 + 1)), (5, aI l5_34), (0, aR (some (7, l0))), (1, aI l1), (2, aI l2), (3, aI l3), (4, aI l4)]) d_X7_canPart_117 m1_ (b8 rfl) rfl (s_goto (tgt := 34) d_X7_canPart_120 rfl (s_sub (subc m1_ (subc m0_ (subc m2_ (subc m3_ (subc m4_ (subc m5_ (subc m6_ sub0))))))) (s_back (ih34 (l5_34, (l6_34 + 1), mm_34)))))
      refine s_aload_n d_X7_canPart_69 m2_ (s_getR cf d_X7_canPart_70 fl_X7_27 (s_nk fun i5 => (s_iload d_X7_canPart_73 m1_ (s_dup2 d_X7_canPart_75 rfl rfl (s_ldN d_X7_canPart_76 ka_44 rfl fun v6 => ?_)))))
      refine s_iconst d_X7_canPart_77 n_1 (s_iload_n d_X7_canPart_78 m3_ (s_ishl d_X7_canPart_79 (s_ior d_X7_canPart_80 (s_stN d_X7_canPart_81 ka_44 rfl fun m7 => (s_aload_n d_X7_canPart_82 m2_ ?_)))))
      refine s_iload_n d_X7_canPart_83 m3_ (s_iconst d_X7_canPart_84 n_1 (s_iadd d_X7_canPart_85 rfl rfl (s_iload_n d_X7_canPart_86 m4_ (s_iload d_X7_canPart_87 m1_ (s_iconst d_X7_canPart_89 n_1 ?_)))))
      refine s_iadd d_X7_canPart_90 rfl rfl (s_ck (s_max d_X7_canPart_91 w_1359 wm_max1 wm_3 wm_max2 (Nat.le_add_left_of_le (b8 rfl)) (Nat.le_add_left_of_le (b8 rfl)) (s_iload_n d_X7_canPart_94 m5_ (s_iload d_X7_canPart_95 m6_ (s_ck3 ?_)))))
      refine s_cI (r_S d_X7_canPart_97 (kk_X7_canPart d) w_1356 (fr_X7_canPart d) rfl) hrec (b8 rfl) rfl rfl rfl (fun _ _ _ => rfl) (fun _ _ => Or.inl rfl) fun v9 m8 => (s_istore (L' := [(5, aI v9), (6, aI l6_34), (0, aR (some (7, l0))), (1, aI l1), (2, aI l2), (3, aI l3), (4, aI l4)]) d_X7_canPart_100 (b8 rfl) rfl (s_aload_n d_X7_canPart_102 m2_ (s_getR cf d_X7_canPart_103 fl_X7_27 (s_nk fun i10 => (s_iload d_X7_canPart_106 m1_ ?_)))))
      refine s_dup2 d_X7_canPart_108 rfl rfl (s_ldN d_X7_canPart_109 ka_44 rfl fun v11 => (s_iconst d_X7_canPart_110 n_1 (s_iload_n d_X7_canPart_111 m3_ (s_ishl d_X7_canPart_112 (s_iconst d_X7_canPart_113 n_m1 ?_)))))
      exact s_ixor d_X7_canPart_114 (s_iand d_X7_canPart_115 (s_stN d_X7_canPart_116 ka_44 rfl fun m12 => (s_iinc (L' := [(6, aI (l6_34 + 1)), (5, aI v9), (0, aR (some (7, l0))), (1, aI l1), (2, aI l2), (3, aI l3), (4, aI l4)]) d_X7_canPart_117 m1_ (b8 rfl) rfl (s_goto (tgt := 34) d_X7_canPart_120 rfl (s_sub (subc m1_ (subc m0_ (subc m2_ (subc m3_ (subc m4_ (subc m5_ (subc m6_ sub0))))))) (s_back (ih34 (v9, (l6_34 + 1), m12))))))))
    refine s_aload_n d_X7_canPart_16 m0_ (s_iload_n d_X7_canPart_17 m1_ (s_iconst d_X7_canPart_18 n_1 (s_iadd d_X7_canPart_19 rfl rfl (s_iload_n d_X7_canPart_20 m2_ (s_iload_n d_X7_canPart_21 m3_ ?_)))))
    exact s_iload d_X7_canPart_22 m4_ (s_ck3 (s_cI (r_S d_X7_canPart_24 (kk_X7_canPart d) w_1356 (fr_X7_canPart d) rfl) hrec (b8 rfl) rfl rfl rfl (fun _ _ _ => rfl) (fun _ _ => Or.inl rfl) fun v14 m13 => (s_zret d_X7_canPart_27 rfl rfl)))
  exact s_iconst d_X7_canPart_6 n_1 (s_zretl d_X7_canPart_7 rfl (by decide) rfl)
theorem ms_X7_canPart {fx : FX} : ∀ (d : Nat) {m : MM} {l0 : Nat} {l1 l2 l3 l4 : Int}, MS fx (me_X7_canPart d) [aR (some (7, l0)), aI l1, aI l2, aI l3, aI l4] m (f_X7_canPart d m l0 l1 l2 l3 l4)
  | 0, _, _, _, _, _, _ => fun r m' h => by cases h
  | d + 1, _, _, _, _, _, _ => msb_X7_canPart (fun {_ _ _ _ _ _} => ms_X7_canPart d)
theorem d_X4_isLoose_0 : dk me_X4_isLoose 0 (.aload_n 0) 1 1 := And.intro (by decide +kernel) rfl
theorem d_X4_isLoose_1 : dk me_X4_isLoose 1 (.getfield 38) 3 4 := And.intro (by decide +kernel) rfl
theorem d_X4_isLoose_4 : dk me_X4_isLoose 4 (.iload_n 1) 1 5 := And.intro (by decide +kernel) rfl
theorem d_X4_isLoose_5 : dk me_X4_isLoose 5 (.baload) 1 6 := And.intro (by decide +kernel) rfl
theorem d_X4_isLoose_6 : dk me_X4_isLoose 6 (.ifCond .ne 24) 3 9 := And.intro (by decide +kernel) rfl
theorem d_X4_isLoose_9 : dk me_X4_isLoose 9 (.aload_n 0) 1 10 := And.intro (by decide +kernel) rfl
theorem d_X4_isLoose_10 : dk me_X4_isLoose 10 (.getfield 35) 3 13 := And.intro (by decide +kernel) rfl
theorem d_X4_isLoose_13 : dk me_X4_isLoose 13 (.iload_n 1) 1 14 := And.intro (by decide +kernel) rfl
theorem d_X4_isLoose_14 : dk me_X4_isLoose 14 (.iaload) 1 15 := And.intro (by decide +kernel) rfl
theorem d_X4_isLoose_15 : dk me_X4_isLoose 15 (.iconst 3) 1 16 := And.intro (by decide +kernel) rfl
theorem d_X4_isLoose_16 : dk me_X4_isLoose 16 (.if_icmp .lt 14) 3 19 := And.intro (by decide +kernel) rfl
theorem d_X4_isLoose_19 : dk me_X4_isLoose 19 (.aload_n 0) 1 20 := And.intro (by decide +kernel) rfl
theorem d_X4_isLoose_20 : dk me_X4_isLoose 20 (.getfield 60) 3 23 := And.intro (by decide +kernel) rfl
theorem d_X4_isLoose_23 : dk me_X4_isLoose 23 (.ifCond .ne 7) 3 26 := And.intro (by decide +kernel) rfl
theorem d_X4_isLoose_26 : dk me_X4_isLoose 26 (.iconst 1) 1 27 := And.intro (by decide +kernel) rfl
theorem d_X4_isLoose_27 : dk me_X4_isLoose 27 (.goto 4) 3 30 := And.intro (by decide +kernel) rfl
theorem d_X4_isLoose_30 : dk me_X4_isLoose 30 (.iconst 0) 1 31 := And.intro (by decide +kernel) rfl
theorem d_X4_isLoose_31 : dk me_X4_isLoose 31 (.ireturn) 1 32 := And.intro (by decide +kernel) rfl
theorem ms_X4_isLoose {fx : FX} {m : MM} {l0 : Nat} {l1 : Int} : MS fx me_X4_isLoose [aR (some (4, l0)), aI l1] m ((f_X4_isLoose m l0 l1).bind fun v => some (.inl (some (aI v)), m)) := by
  refine ms_of rfl mf_X4_isLoose (b8 rfl) ?_
  show Sim fx me_X4_isLoose 0 [(0, aR (some (4, l0))), (1, aI l1)] [] m _
  unfold f_X4_isLoose
  refine s_aload_n d_X4_isLoose_0 m0_ (s_getR cf d_X4_isLoose_1 fl_X4_38 (s_nk fun i1 => (s_iload_n d_X4_isLoose_4 m1_ (s_ldB d_X4_isLoose_5 ka_33 rfl fun v2 => (s_if_ne (tgt := 30) d_X4_isLoose_6 rfl ?_ ?_)))))
  · exact s_iconst d_X4_isLoose_30 n_0 (s_zretl d_X4_isLoose_31 rfl (by decide) rfl)
  refine s_aload_n d_X4_isLoose_9 m0_ (s_getR cf d_X4_isLoose_10 fl_X4_35 (s_nk fun i3 => (s_iload_n d_X4_isLoose_13 m1_ (s_ldN d_X4_isLoose_14 ka_32 rfl fun v4 => (s_iconst d_X4_isLoose_15 n_3 ?_)))))
  refine s_icmp_lt (tgt := 30) d_X4_isLoose_16 rfl ?_ ?_
  · exact s_iconst d_X4_isLoose_30 n_0 (s_zretl d_X4_isLoose_31 rfl (by decide) rfl)
  refine s_aload_n d_X4_isLoose_19 m0_ (s_getB cf d_X4_isLoose_20 fl_X4_60 (s_if_ne (tgt := 30) d_X4_isLoose_23 rfl ?_ ?_))
  · exact s_iconst d_X4_isLoose_30 n_0 (s_zretl d_X4_isLoose_31 rfl (by decide) rfl)
  exact s_iconst d_X4_isLoose_26 n_1 (s_goto (tgt := 31) d_X4_isLoose_27 rfl (s_zretl d_X4_isLoose_31 rfl (by decide) rfl))
theorem d_X4_spellingsOf_0 : dk me_X4_spellingsOf 0 (.iconst 0) 1 1 := And.intro (by decide +kernel) rfl
theorem d_X4_spellingsOf_1 : dk me_X4_spellingsOf 1 (.istore 4) 2 3 := And.intro (by decide +kernel) rfl
theorem d_X4_spellingsOf_3 : dk me_X4_spellingsOf 3 (.aload_n 0) 1 4 := And.intro (by decide +kernel) rfl
theorem d_X4_spellingsOf_4 : dk me_X4_spellingsOf 4 (.iload_n 2) 1 5 := And.intro (by decide +kernel) rfl
theorem d_X4_spellingsOf_5 : dk me_X4_spellingsOf 5 (.invokevirtual 73) 3 8 := And.intro (by decide +kernel) rfl
theorem d_X4_spellingsOf_8 : dk me_X4_spellingsOf 8 (.istore 5) 2 10 := And.intro (by decide +kernel) rfl
theorem d_X4_spellingsOf_10 : dk me_X4_spellingsOf 10 (.aload_n 0) 1 11 := And.intro (by decide +kernel) rfl
theorem d_X4_spellingsOf_11 : dk me_X4_spellingsOf 11 (.getfield 32) 3 14 := And.intro (by decide +kernel) rfl
theorem d_X4_spellingsOf_14 : dk me_X4_spellingsOf 14 (.iload_n 2) 1 15 := And.intro (by decide +kernel) rfl
theorem d_X4_spellingsOf_15 : dk me_X4_spellingsOf 15 (.iaload) 1 16 := And.intro (by decide +kernel) rfl
theorem d_X4_spellingsOf_16 : dk me_X4_spellingsOf 16 (.istore 6) 2 18 := And.intro (by decide +kernel) rfl
theorem d_X4_spellingsOf_18 : dk me_X4_spellingsOf 18 (.iload 6) 2 20 := And.intro (by decide +kernel) rfl
theorem d_X4_spellingsOf_20 : dk me_X4_spellingsOf 20 (.iload 5) 2 22 := And.intro (by decide +kernel) rfl
theorem d_X4_spellingsOf_22 : dk me_X4_spellingsOf 22 (.if_icmp .ge 49) 3 25 := And.intro (by decide +kernel) rfl
theorem d_X4_spellingsOf_25 : dk me_X4_spellingsOf 25 (.aload_n 1) 1 26 := And.intro (by decide +kernel) rfl
theorem d_X4_spellingsOf_26 : dk me_X4_spellingsOf 26 (.getfield 83) 3 29 := And.intro (by decide +kernel) rfl
theorem d_X4_spellingsOf_29 : dk me_X4_spellingsOf 29 (.aload_n 0) 1 30 := And.intro (by decide +kernel) rfl
theorem d_X4_spellingsOf_30 : dk me_X4_spellingsOf 30 (.getfield 9) 3 33 := And.intro (by decide +kernel) rfl
theorem d_X4_spellingsOf_33 : dk me_X4_spellingsOf 33 (.iload 6) 2 35 := And.intro (by decide +kernel) rfl
theorem d_X4_spellingsOf_35 : dk me_X4_spellingsOf 35 (.iaload) 1 36 := And.intro (by decide +kernel) rfl
theorem d_X4_spellingsOf_36 : dk me_X4_spellingsOf 36 (.iaload) 1 37 := And.intro (by decide +kernel) rfl
theorem d_X4_spellingsOf_37 : dk me_X4_spellingsOf 37 (.istore 7) 2 39 := And.intro (by decide +kernel) rfl
theorem d_X4_spellingsOf_39 : dk me_X4_spellingsOf 39 (.iload 7) 2 41 := And.intro (by decide +kernel) rfl
theorem d_X4_spellingsOf_41 : dk me_X4_spellingsOf 41 (.iconst (-1)) 1 42 := And.intro (by decide +kernel) rfl
theorem d_X4_spellingsOf_42 : dk me_X4_spellingsOf 42 (.if_icmp .eq 23) 3 45 := And.intro (by decide +kernel) rfl
theorem d_X4_spellingsOf_45 : dk me_X4_spellingsOf 45 (.aload_n 0) 1 46 := And.intro (by decide +kernel) rfl
theorem d_X4_spellingsOf_46 : dk me_X4_spellingsOf 46 (.getfield 15) 3 49 := And.intro (by decide +kernel) rfl
theorem d_X4_spellingsOf_49 : dk me_X4_spellingsOf 49 (.iload 6) 2 51 := And.intro (by decide +kernel) rfl
theorem d_X4_spellingsOf_51 : dk me_X4_spellingsOf 51 (.baload) 1 52 := And.intro (by decide +kernel) rfl
theorem d_X4_spellingsOf_52 : dk me_X4_spellingsOf 52 (.iload_n 3) 1 53 := And.intro (by decide +kernel) rfl
theorem d_X4_spellingsOf_53 : dk me_X4_spellingsOf 53 (.if_icmp .ne 12) 3 56 := And.intro (by decide +kernel) rfl
theorem d_X4_spellingsOf_56 : dk me_X4_spellingsOf 56 (.iload 4) 2 58 := And.intro (by decide +kernel) rfl
theorem d_X4_spellingsOf_58 : dk me_X4_spellingsOf 58 (.iconst 1) 1 59 := And.intro (by decide +kernel) rfl
theorem d_X4_spellingsOf_59 : dk me_X4_spellingsOf 59 (.iload 7) 2 61 := And.intro (by decide +kernel) rfl
theorem d_X4_spellingsOf_61 : dk me_X4_spellingsOf 61 (.ishl) 1 62 := And.intro (by decide +kernel) rfl
theorem d_X4_spellingsOf_62 : dk me_X4_spellingsOf 62 (.ior) 1 63 := And.intro (by decide +kernel) rfl
theorem d_X4_spellingsOf_63 : dk me_X4_spellingsOf 63 (.istore 4) 2 65 := And.intro (by decide +kernel) rfl
theorem d_X4_spellingsOf_65 : dk me_X4_spellingsOf 65 (.iinc 6 1) 3 68 := And.intro (by decide +kernel) rfl
theorem d_X4_spellingsOf_68 : dk me_X4_spellingsOf 68 (.goto (-50)) 3 71 := And.intro (by decide +kernel) rfl
theorem d_X4_spellingsOf_71 : dk me_X4_spellingsOf 71 (.iload 4) 2 73 := And.intro (by decide +kernel) rfl
theorem d_X4_spellingsOf_73 : dk me_X4_spellingsOf 73 (.ireturn) 1 74 := And.intro (by decide +kernel) rfl
theorem ms_X4_spellingsOf {fx : FX} {m : MM} {l0 : Nat} {l1 : Nat} {l2 : Int} {l3 : Int} : MS fx me_X4_spellingsOf [aR (some (4, l0)), aR (some (9, l1)), aI l2, aI l3] m ((f_X4_spellingsOf m l0 l1 l2 l3).bind fun v => some (.inl (some (aI v)), m)) := by
  refine ms_of rfl mf_X4_spellingsOf (b8 rfl) ?_
  show Sim fx me_X4_spellingsOf 0 [(0, aR (some (4, l0))), (1, aR (some (9, l1))), (2, aI l2), (3, aI l3)] [] m _
  unfold f_X4_spellingsOf
  have hj_X4_spellingsOf_0_71 : ∀ (l4_71 : Int), Sim fx me_X4_spellingsOf 71 [(4, aI l4_71)] [] m ((j_X4_spellingsOf_0_71 m l4_71).bind (fun v => some (.inl (some (aI v)), m))) := by
    intro l4_71
    unfold j_X4_spellingsOf_0_71
    exact s_iload d_X4_spellingsOf_71 m0_ (s_iret d_X4_spellingsOf_73 rfl rfl)
  refine s_iconst d_X4_spellingsOf_0 n_0 (s_istore (L' := [(4, aI 0), (0, aR (some (4, l0))), (1, aR (some (9, l1))), (2, aI l2), (3, aI l3)]) d_X4_spellingsOf_1 (b8 rfl) rfl (s_aload_n d_X4_spellingsOf_3 m1_ (s_iload_n d_X4_spellingsOf_4 m3_ (s_pI (r_V d_X4_spellingsOf_5 k_X4_wordBehindLine w_944 rfl rfl) ms_X4_wordBehindLine (b8 rfl) rfl rfl rfl fun v1 => (s_istore (L' := [(5, aI v1), (4, aI 0), (0, aR (some (4, l0))), (1, aR (some (9, l1))), (2, aI l2), (3, aI l3)]) d_X4_spellingsOf_8 (b8 rfl) rfl ?_)))))
  refine s_aload_n d_X4_spellingsOf_10 m2_ (s_getR cf d_X4_spellingsOf_11 fl_X4_32 (s_nk fun i2 => (s_iload_n d_X4_spellingsOf_14 m4_ (s_ldN d_X4_spellingsOf_15 ka_31 rfl fun v3 => (s_istore (L' := [(6, aI v3), (5, aI v1), (4, aI 0), (0, aR (some (4, l0))), (1, aR (some (9, l1))), (2, aI l2), (3, aI l3)]) d_X4_spellingsOf_16 (b8 rfl) rfl ?_)))))
  refine s_sub (subc m2_ (subc m0_ (subc m3_ (subc m4_ (subc m6_ (subc m1_ sub0)))))) (s_lp2 (fun s => [(4, aI (s.1)), (6, aI (s.2)), (0, aR (some (4, l0))), (1, aR (some (9, l1))), (3, aI l3), (5, aI v1)]) (fun s => m) (0, v3) fun k18 hx18 s ih0 => ?_)
  obtain ⟨l4_18, l6_18⟩ := s
  have ih18 := ih0
  clear ih0
  try dsimp only
  unfold b_X4_spellingsOf_18
  refine s_iload d_X4_spellingsOf_18 m1_ (s_iload d_X4_spellingsOf_20 m5_ (s_icmp_ge (tgt := 71) d_X4_spellingsOf_22 rfl ?_ ?_))
  · exact s_exit (hx18 _) (s_sub (subc m0_ sub0) (hj_X4_spellingsOf_0_71 l4_18))
  refine s_aload_n d_X4_spellingsOf_25 m3_ (s_getR cf d_X4_spellingsOf_26 fl_X4_83 (s_nk fun i4 => (s_aload_n d_X4_spellingsOf_29 m2_ (s_getR cf d_X4_spellingsOf_30 fl_X4_9 (s_nk fun i5 => ?_)))))
  refine s_iload d_X4_spellingsOf_33 m1_ (s_ldN d_X4_spellingsOf_35 ka_27 rfl fun v6 => (s_ldN d_X4_spellingsOf_36 ka_48 rfl fun v7 => (s_istore (L' := [(7, aI v7), (4, aI l4_18), (6, aI l6_18), (0, aR (some (4, l0))), (1, aR (some (9, l1))), (3, aI l3), (5, aI v1)]) d_X4_spellingsOf_37 (b8 rfl) rfl (s_iload d_X4_spellingsOf_39 m0_ (s_iconst d_X4_spellingsOf_41 n_m1 ?_)))))
  refine s_icmp_eq (tgt := 65) d_X4_spellingsOf_42 rfl ?_ ?_
  · exact s_iinc (L' := [(6, aI (l6_18 + 1)), (7, aI v7), (4, aI l4_18), (0, aR (some (4, l0))), (1, aR (some (9, l1))), (3, aI l3), (5, aI v1)]) d_X4_spellingsOf_65 m2_ (b8 rfl) rfl (s_goto (tgt := 18) d_X4_spellingsOf_68 rfl (s_sub (subc m2_ (subc m0_ (subc m3_ (subc m4_ (subc m5_ (subc m6_ sub0)))))) (s_back (ih18 (l4_18, (l6_18 + 1))))))
  refine s_aload_n d_X4_spellingsOf_45 m3_ (s_getR cf d_X4_spellingsOf_46 fl_X4_15 (s_nk fun i8 => (s_iload d_X4_spellingsOf_49 m2_ (s_ldB d_X4_spellingsOf_51 ka_28 rfl fun v9 => (s_iload_n d_X4_spellingsOf_52 m5_ ?_)))))
  refine s_icmp_ne (tgt := 65) d_X4_spellingsOf_53 rfl ?_ ?_
  · exact s_iinc (L' := [(6, aI (l6_18 + 1)), (7, aI v7), (4, aI l4_18), (0, aR (some (4, l0))), (1, aR (some (9, l1))), (3, aI l3), (5, aI v1)]) d_X4_spellingsOf_65 m2_ (b8 rfl) rfl (s_goto (tgt := 18) d_X4_spellingsOf_68 rfl (s_sub (subc m2_ (subc m0_ (subc m3_ (subc m4_ (subc m5_ (subc m6_ sub0)))))) (s_back (ih18 (l4_18, (l6_18 + 1))))))
  refine s_iload d_X4_spellingsOf_56 m1_ (s_iconst d_X4_spellingsOf_58 n_1 (s_iload d_X4_spellingsOf_59 m0_ (s_ishl d_X4_spellingsOf_61 (s_ior d_X4_spellingsOf_62 (s_istore (L' := [(4, aI (ior' l4_18 (ishl 1 v7))), (7, aI v7), (6, aI l6_18), (0, aR (some (4, l0))), (1, aR (some (9, l1))), (3, aI l3), (5, aI v1)]) d_X4_spellingsOf_63 (b8 rfl) rfl ?_)))))
  exact s_iinc (L' := [(6, aI (l6_18 + 1)), (4, aI (ior' l4_18 (ishl 1 v7))), (7, aI v7), (0, aR (some (4, l0))), (1, aR (some (9, l1))), (3, aI l3), (5, aI v1)]) d_X4_spellingsOf_65 m2_ (b8 rfl) rfl (s_goto (tgt := 18) d_X4_spellingsOf_68 rfl (s_sub (subc m1_ (subc m0_ (subc m3_ (subc m4_ (subc m5_ (subc m6_ sub0)))))) (s_back (ih18 ((ior' l4_18 (ishl 1 v7)), (l6_18 + 1))))))
theorem d_X4_looseSpellings_0 : dk me_X4_looseSpellings 0 (.iconst 0) 1 1 := And.intro (by decide +kernel) rfl
theorem d_X4_looseSpellings_1 : dk me_X4_looseSpellings 1 (.istore_n 3) 1 2 := And.intro (by decide +kernel) rfl
theorem d_X4_looseSpellings_2 : dk me_X4_looseSpellings 2 (.iconst 0) 1 3 := And.intro (by decide +kernel) rfl
theorem d_X4_looseSpellings_3 : dk me_X4_looseSpellings 3 (.istore 4) 2 5 := And.intro (by decide +kernel) rfl
theorem d_X4_looseSpellings_5 : dk me_X4_looseSpellings 5 (.iload 4) 2 7 := And.intro (by decide +kernel) rfl
theorem d_X4_looseSpellings_7 : dk me_X4_looseSpellings 7 (.aload_n 0) 1 8 := And.intro (by decide +kernel) rfl
theorem d_X4_looseSpellings_8 : dk me_X4_looseSpellings 8 (.getfield 70) 3 11 := And.intro (by decide +kernel) rfl
theorem d_X4_looseSpellings_11 : dk me_X4_looseSpellings 11 (.if_icmp .ge 29) 3 14 := And.intro (by decide +kernel) rfl
theorem d_X4_looseSpellings_14 : dk me_X4_looseSpellings 14 (.aload_n 0) 1 15 := And.intro (by decide +kernel) rfl
theorem d_X4_looseSpellings_15 : dk me_X4_looseSpellings 15 (.iload 4) 2 17 := And.intro (by decide +kernel) rfl
theorem d_X4_looseSpellings_17 : dk me_X4_looseSpellings 17 (.invokevirtual 88) 3 20 := And.intro (by decide +kernel) rfl
theorem d_X4_looseSpellings_20 : dk me_X4_looseSpellings 20 (.ifCond .eq 14) 3 23 := And.intro (by decide +kernel) rfl
theorem d_X4_looseSpellings_23 : dk me_X4_looseSpellings 23 (.iload_n 3) 1 24 := And.intro (by decide +kernel) rfl
theorem d_X4_looseSpellings_24 : dk me_X4_looseSpellings 24 (.aload_n 0) 1 25 := And.intro (by decide +kernel) rfl
theorem d_X4_looseSpellings_25 : dk me_X4_looseSpellings 25 (.aload_n 1) 1 26 := And.intro (by decide +kernel) rfl
theorem d_X4_looseSpellings_26 : dk me_X4_looseSpellings 26 (.iload 4) 2 28 := And.intro (by decide +kernel) rfl
theorem d_X4_looseSpellings_28 : dk me_X4_looseSpellings 28 (.iload_n 2) 1 29 := And.intro (by decide +kernel) rfl
theorem d_X4_looseSpellings_29 : dk me_X4_looseSpellings 29 (.invokevirtual 92) 3 32 := And.intro (by decide +kernel) rfl
theorem d_X4_looseSpellings_32 : dk me_X4_looseSpellings 32 (.ior) 1 33 := And.intro (by decide +kernel) rfl
theorem d_X4_looseSpellings_33 : dk me_X4_looseSpellings 33 (.istore_n 3) 1 34 := And.intro (by decide +kernel) rfl
theorem d_X4_looseSpellings_34 : dk me_X4_looseSpellings 34 (.iinc 4 1) 3 37 := And.intro (by decide +kernel) rfl
theorem d_X4_looseSpellings_37 : dk me_X4_looseSpellings 37 (.goto (-32)) 3 40 := And.intro (by decide +kernel) rfl
theorem d_X4_looseSpellings_40 : dk me_X4_looseSpellings 40 (.iload_n 3) 1 41 := And.intro (by decide +kernel) rfl
theorem d_X4_looseSpellings_41 : dk me_X4_looseSpellings 41 (.ireturn) 1 42 := And.intro (by decide +kernel) rfl
theorem ms_X4_looseSpellings {fx : FX} {m : MM} {l0 : Nat} {l1 : Nat} {l2 : Int} : MS fx me_X4_looseSpellings [aR (some (4, l0)), aR (some (9, l1)), aI l2] m ((f_X4_looseSpellings m l0 l1 l2).bind fun v => some (.inl (some (aI v)), m)) := by
  refine ms_of rfl mf_X4_looseSpellings (b8 rfl) ?_
  show Sim fx me_X4_looseSpellings 0 [(0, aR (some (4, l0))), (1, aR (some (9, l1))), (2, aI l2)] [] m _
  unfold f_X4_looseSpellings
  have hj_X4_looseSpellings_0_40 : ∀ (l3_40 : Int), Sim fx me_X4_looseSpellings 40 [(3, aI l3_40)] [] m ((j_X4_looseSpellings_0_40 m l3_40).bind (fun v => some (.inl (some (aI v)), m))) := by
    intro l3_40
    unfold j_X4_looseSpellings_0_40
    exact s_iload_n d_X4_looseSpellings_40 m0_ (s_iret d_X4_looseSpellings_41 rfl rfl)
  refine s_iconst d_X4_looseSpellings_0 n_0 (s_istore_n (L' := [(3, aI 0), (0, aR (some (4, l0))), (1, aR (some (9, l1))), (2, aI l2)]) d_X4_looseSpellings_1 (b8 rfl) rfl (s_iconst d_X4_looseSpellings_2 n_0 (s_istore (L' := [(4, aI 0), (3, aI 0), (0, aR (some (4, l0))), (1, aR (some (9, l1))), (2, aI l2)]) d_X4_looseSpellings_3 (b8 rfl) rfl (s_sub (subc m1_ (subc m0_ (subc m2_ (subc m3_ (subc m4_ sub0))))) (s_lp2 (fun s => [(3, aI (s.1)), (4, aI (s.2)), (0, aR (some (4, l0))), (1, aR (some (9, l1))), (2, aI l2)]) (fun s => m) (0, 0) fun k5 hx5 s ih0 => ?_)))))
  obtain ⟨l3_5, l4_5⟩ := s
  have ih5 := ih0
  clear ih0
  try dsimp only
  unfold b_X4_looseSpellings_5
  refine s_iload d_X4_looseSpellings_5 m1_ (s_aload_n d_X4_looseSpellings_7 m2_ (s_getN cf d_X4_looseSpellings_8 fl_X4_70 (s_icmp_ge (tgt := 40) d_X4_looseSpellings_11 rfl ?_ ?_)))
  · exact s_exit (hx5 _) (s_sub (subc m0_ sub0) (hj_X4_looseSpellings_0_40 l3_5))
  refine s_aload_n d_X4_looseSpellings_14 m2_ (s_iload d_X4_looseSpellings_15 m1_ (s_pI (r_V d_X4_looseSpellings_17 k_X4_isLoose w_1341 rfl rfl) ms_X4_isLoose (b8 rfl) rfl rfl rfl fun v1 => (s_if_eq (tgt := 34) d_X4_looseSpellings_20 rfl ?_ ?_)))
  · exact s_iinc (L' := [(4, aI (l4_5 + 1)), (3, aI l3_5), (0, aR (some (4, l0))), (1, aR (some (9, l1))), (2, aI l2)]) d_X4_looseSpellings_34 m1_ (b8 rfl) rfl (s_goto (tgt := 5) d_X4_looseSpellings_37 rfl (s_sub (subc m1_ (subc m0_ (subc m2_ (subc m3_ (subc m4_ sub0))))) (s_back (ih5 (l3_5, (l4_5 + 1))))))
  refine s_iload_n d_X4_looseSpellings_23 m0_ (s_aload_n d_X4_looseSpellings_24 m2_ (s_aload_n d_X4_looseSpellings_25 m3_ (s_iload d_X4_looseSpellings_26 m1_ (s_iload_n d_X4_looseSpellings_28 m4_ (s_pI (r_V d_X4_looseSpellings_29 k_X4_spellingsOf w_1345 rfl rfl) ms_X4_spellingsOf (b8 rfl) rfl rfl rfl fun v2 => ?_)))))
  exact s_ior d_X4_looseSpellings_32 (s_istore_n (L' := [(3, aI (ior' l3_5 v2)), (4, aI l4_5), (0, aR (some (4, l0))), (1, aR (some (9, l1))), (2, aI l2)]) d_X4_looseSpellings_33 (b8 rfl) rfl (s_iinc (L' := [(4, aI (l4_5 + 1)), (3, aI (ior' l3_5 v2)), (0, aR (some (4, l0))), (1, aR (some (9, l1))), (2, aI l2)]) d_X4_looseSpellings_34 m1_ (b8 rfl) rfl (s_goto (tgt := 5) d_X4_looseSpellings_37 rfl (s_sub (subc m1_ (subc m0_ (subc m2_ (subc m3_ (subc m4_ sub0))))) (s_back (ih5 ((ior' l3_5 v2), (l4_5 + 1))))))))
theorem d_X7_readPages_0 : dk me_X7_readPages 0 (.iconst 0) 1 1 := And.intro (by decide +kernel) rfl
theorem d_X7_readPages_1 : dk me_X7_readPages 1 (.istore_n 2) 1 2 := And.intro (by decide +kernel) rfl
theorem d_X7_readPages_2 : dk me_X7_readPages 2 (.aload_n 1) 1 3 := And.intro (by decide +kernel) rfl
theorem d_X7_readPages_3 : dk me_X7_readPages 3 (.getfield 72) 3 6 := And.intro (by decide +kernel) rfl
theorem d_X7_readPages_6 : dk me_X7_readPages 6 (.astore_n 3) 1 7 := And.intro (by decide +kernel) rfl
theorem d_X7_readPages_7 : dk me_X7_readPages 7 (.aload_n 3) 1 8 := And.intro (by decide +kernel) rfl
theorem d_X7_readPages_8 : dk me_X7_readPages 8 (.arraylength) 1 9 := And.intro (by decide +kernel) rfl
theorem d_X7_readPages_9 : dk me_X7_readPages 9 (.istore 4) 2 11 := And.intro (by decide +kernel) rfl
theorem d_X7_readPages_11 : dk me_X7_readPages 11 (.iconst 0) 1 12 := And.intro (by decide +kernel) rfl
theorem d_X7_readPages_12 : dk me_X7_readPages 12 (.istore 5) 2 14 := And.intro (by decide +kernel) rfl
theorem d_X7_readPages_14 : dk me_X7_readPages 14 (.iload 5) 2 16 := And.intro (by decide +kernel) rfl
theorem d_X7_readPages_16 : dk me_X7_readPages 16 (.iload 4) 2 18 := And.intro (by decide +kernel) rfl
theorem d_X7_readPages_18 : dk me_X7_readPages 18 (.if_icmp .ge 58) 3 21 := And.intro (by decide +kernel) rfl
theorem d_X7_readPages_21 : dk me_X7_readPages 21 (.aload_n 3) 1 22 := And.intro (by decide +kernel) rfl
theorem d_X7_readPages_22 : dk me_X7_readPages 22 (.iload 5) 2 24 := And.intro (by decide +kernel) rfl
theorem d_X7_readPages_24 : dk me_X7_readPages 24 (.aaload) 1 25 := And.intro (by decide +kernel) rfl
theorem d_X7_readPages_25 : dk me_X7_readPages 25 (.astore 6) 2 27 := And.intro (by decide +kernel) rfl
theorem d_X7_readPages_27 : dk me_X7_readPages 27 (.aload 6) 2 29 := And.intro (by decide +kernel) rfl
theorem d_X7_readPages_29 : dk me_X7_readPages 29 (.invokevirtual 76) 3 32 := And.intro (by decide +kernel) rfl
theorem d_X7_readPages_32 : dk me_X7_readPages 32 (.ifCond .eq 38) 3 35 := And.intro (by decide +kernel) rfl
theorem d_X7_readPages_35 : dk me_X7_readPages 35 (.aload_n 0) 1 36 := And.intro (by decide +kernel) rfl
theorem d_X7_readPages_36 : dk me_X7_readPages 36 (.getfield 21) 3 39 := And.intro (by decide +kernel) rfl
theorem d_X7_readPages_39 : dk me_X7_readPages 39 (.iload_n 2) 1 40 := And.intro (by decide +kernel) rfl
theorem d_X7_readPages_40 : dk me_X7_readPages 40 (.aload 6) 2 42 := And.intro (by decide +kernel) rfl
theorem d_X7_readPages_42 : dk me_X7_readPages 42 (.aload_n 1) 1 43 := And.intro (by decide +kernel) rfl
theorem d_X7_readPages_43 : dk me_X7_readPages 43 (.getfield 82) 3 46 := And.intro (by decide +kernel) rfl
theorem d_X7_readPages_46 : dk me_X7_readPages 46 (.iconst 0) 1 47 := And.intro (by decide +kernel) rfl
theorem d_X7_readPages_47 : dk me_X7_readPages 47 (.invokevirtual 86) 3 50 := And.intro (by decide +kernel) rfl
theorem d_X7_readPages_50 : dk me_X7_readPages 50 (.iastore) 1 51 := And.intro (by decide +kernel) rfl
theorem d_X7_readPages_51 : dk me_X7_readPages 51 (.aload_n 0) 1 52 := And.intro (by decide +kernel) rfl
theorem d_X7_readPages_52 : dk me_X7_readPages 52 (.getfield 24) 3 55 := And.intro (by decide +kernel) rfl
theorem d_X7_readPages_55 : dk me_X7_readPages 55 (.iload_n 2) 1 56 := And.intro (by decide +kernel) rfl
theorem d_X7_readPages_56 : dk me_X7_readPages 56 (.aload 6) 2 58 := And.intro (by decide +kernel) rfl
theorem d_X7_readPages_58 : dk me_X7_readPages 58 (.aload_n 1) 1 59 := And.intro (by decide +kernel) rfl
theorem d_X7_readPages_59 : dk me_X7_readPages 59 (.getfield 82) 3 62 := And.intro (by decide +kernel) rfl
theorem d_X7_readPages_62 : dk me_X7_readPages 62 (.iconst 1) 1 63 := And.intro (by decide +kernel) rfl
theorem d_X7_readPages_63 : dk me_X7_readPages 63 (.invokevirtual 86) 3 66 := And.intro (by decide +kernel) rfl
theorem d_X7_readPages_66 : dk me_X7_readPages 66 (.iastore) 1 67 := And.intro (by decide +kernel) rfl
theorem d_X7_readPages_67 : dk me_X7_readPages 67 (.iinc 2 1) 3 70 := And.intro (by decide +kernel) rfl
theorem d_X7_readPages_70 : dk me_X7_readPages 70 (.iinc 5 1) 3 73 := And.intro (by decide +kernel) rfl
theorem d_X7_readPages_73 : dk me_X7_readPages 73 (.goto (-59)) 3 76 := And.intro (by decide +kernel) rfl
theorem d_X7_readPages_76 : dk me_X7_readPages 76 (.iconst 0) 1 77 := And.intro (by decide +kernel) rfl
theorem d_X7_readPages_77 : dk me_X7_readPages 77 (.istore_n 3) 1 78 := And.intro (by decide +kernel) rfl
theorem d_X7_readPages_78 : dk me_X7_readPages 78 (.iload_n 3) 1 79 := And.intro (by decide +kernel) rfl
theorem d_X7_readPages_79 : dk me_X7_readPages 79 (.iload_n 2) 1 80 := And.intro (by decide +kernel) rfl
theorem d_X7_readPages_80 : dk me_X7_readPages 80 (.if_icmp .ge 82) 3 83 := And.intro (by decide +kernel) rfl
theorem d_X7_readPages_83 : dk me_X7_readPages 83 (.aload_n 0) 1 84 := And.intro (by decide +kernel) rfl
theorem d_X7_readPages_84 : dk me_X7_readPages 84 (.getfield 18) 3 87 := And.intro (by decide +kernel) rfl
theorem d_X7_readPages_87 : dk me_X7_readPages 87 (.iload_n 3) 1 88 := And.intro (by decide +kernel) rfl
theorem d_X7_readPages_88 : dk me_X7_readPages 88 (.iconst 0) 1 89 := And.intro (by decide +kernel) rfl
theorem d_X7_readPages_89 : dk me_X7_readPages 89 (.iastore) 1 90 := And.intro (by decide +kernel) rfl
theorem d_X7_readPages_90 : dk me_X7_readPages 90 (.iconst 0) 1 91 := And.intro (by decide +kernel) rfl
theorem d_X7_readPages_91 : dk me_X7_readPages 91 (.istore 4) 2 93 := And.intro (by decide +kernel) rfl
theorem d_X7_readPages_93 : dk me_X7_readPages 93 (.iload 4) 2 95 := And.intro (by decide +kernel) rfl
theorem d_X7_readPages_95 : dk me_X7_readPages 95 (.iload_n 2) 1 96 := And.intro (by decide +kernel) rfl
theorem d_X7_readPages_96 : dk me_X7_readPages 96 (.if_icmp .ge 60) 3 99 := And.intro (by decide +kernel) rfl
theorem d_X7_readPages_99 : dk me_X7_readPages 99 (.iload 4) 2 101 := And.intro (by decide +kernel) rfl
theorem d_X7_readPages_101 : dk me_X7_readPages 101 (.iload_n 3) 1 102 := And.intro (by decide +kernel) rfl
theorem d_X7_readPages_102 : dk me_X7_readPages 102 (.if_icmp .eq 48) 3 105 := And.intro (by decide +kernel) rfl
theorem d_X7_readPages_105 : dk me_X7_readPages 105 (.aload_n 0) 1 106 := And.intro (by decide +kernel) rfl
theorem d_X7_readPages_106 : dk me_X7_readPages 106 (.getfield 21) 3 109 := And.intro (by decide +kernel) rfl
theorem d_X7_readPages_109 : dk me_X7_readPages 109 (.iload_n 3) 1 110 := And.intro (by decide +kernel) rfl
theorem d_X7_readPages_110 : dk me_X7_readPages 110 (.iaload) 1 111 := And.intro (by decide +kernel) rfl
theorem d_X7_readPages_111 : dk me_X7_readPages 111 (.aload_n 0) 1 112 := And.intro (by decide +kernel) rfl
theorem d_X7_readPages_112 : dk me_X7_readPages 112 (.getfield 24) 3 115 := And.intro (by decide +kernel) rfl
theorem d_X7_readPages_115 : dk me_X7_readPages 115 (.iload 4) 2 117 := And.intro (by decide +kernel) rfl
theorem d_X7_readPages_117 : dk me_X7_readPages 117 (.iaload) 1 118 := And.intro (by decide +kernel) rfl
theorem d_X7_readPages_118 : dk me_X7_readPages 118 (.iand) 1 119 := And.intro (by decide +kernel) rfl
theorem d_X7_readPages_119 : dk me_X7_readPages 119 (.aload_n 0) 1 120 := And.intro (by decide +kernel) rfl
theorem d_X7_readPages_120 : dk me_X7_readPages 120 (.getfield 24) 3 123 := And.intro (by decide +kernel) rfl
theorem d_X7_readPages_123 : dk me_X7_readPages 123 (.iload_n 3) 1 124 := And.intro (by decide +kernel) rfl
theorem d_X7_readPages_124 : dk me_X7_readPages 124 (.iaload) 1 125 := And.intro (by decide +kernel) rfl
theorem d_X7_readPages_125 : dk me_X7_readPages 125 (.aload_n 0) 1 126 := And.intro (by decide +kernel) rfl
theorem d_X7_readPages_126 : dk me_X7_readPages 126 (.getfield 21) 3 129 := And.intro (by decide +kernel) rfl
theorem d_X7_readPages_129 : dk me_X7_readPages 129 (.iload 4) 2 131 := And.intro (by decide +kernel) rfl
theorem d_X7_readPages_131 : dk me_X7_readPages 131 (.iaload) 1 132 := And.intro (by decide +kernel) rfl
theorem d_X7_readPages_132 : dk me_X7_readPages 132 (.iand) 1 133 := And.intro (by decide +kernel) rfl
theorem d_X7_readPages_133 : dk me_X7_readPages 133 (.ior) 1 134 := And.intro (by decide +kernel) rfl
theorem d_X7_readPages_134 : dk me_X7_readPages 134 (.ifCond .eq 16) 3 137 := And.intro (by decide +kernel) rfl
theorem d_X7_readPages_137 : dk me_X7_readPages 137 (.aload_n 0) 1 138 := And.intro (by decide +kernel) rfl
theorem d_X7_readPages_138 : dk me_X7_readPages 138 (.getfield 18) 3 141 := And.intro (by decide +kernel) rfl
theorem d_X7_readPages_141 : dk me_X7_readPages 141 (.iload_n 3) 1 142 := And.intro (by decide +kernel) rfl
theorem d_X7_readPages_142 : dk me_X7_readPages 142 (.dup2) 1 143 := And.intro (by decide +kernel) rfl
theorem d_X7_readPages_143 : dk me_X7_readPages 143 (.iaload) 1 144 := And.intro (by decide +kernel) rfl
theorem d_X7_readPages_144 : dk me_X7_readPages 144 (.iconst 1) 1 145 := And.intro (by decide +kernel) rfl
theorem d_X7_readPages_145 : dk me_X7_readPages 145 (.iload 4) 2 147 := And.intro (by decide +kernel) rfl
theorem d_X7_readPages_147 : dk me_X7_readPages 147 (.ishl) 1 148 := And.intro (by decide +kernel) rfl
theorem d_X7_readPages_148 : dk me_X7_readPages 148 (.ior) 1 149 := And.intro (by decide +kernel) rfl
theorem d_X7_readPages_149 : dk me_X7_readPages 149 (.iastore) 1 150 := And.intro (by decide +kernel) rfl
theorem d_X7_readPages_150 : dk me_X7_readPages 150 (.iinc 4 1) 3 153 := And.intro (by decide +kernel) rfl
theorem d_X7_readPages_153 : dk me_X7_readPages 153 (.goto (-60)) 3 156 := And.intro (by decide +kernel) rfl
theorem d_X7_readPages_156 : dk me_X7_readPages 156 (.iinc 3 1) 3 159 := And.intro (by decide +kernel) rfl
theorem d_X7_readPages_159 : dk me_X7_readPages 159 (.goto (-81)) 3 162 := And.intro (by decide +kernel) rfl
theorem d_X7_readPages_162 : dk me_X7_readPages 162 (.iload_n 2) 1 163 := And.intro (by decide +kernel) rfl
theorem d_X7_readPages_163 : dk me_X7_readPages 163 (.ireturn) 1 164 := And.intro (by decide +kernel) rfl
theorem ms_X7_readPages {fx : FX} {m : MM} {l0 : Nat} {l1 : Nat} : MS fx me_X7_readPages [aR (some (7, l0)), aR (some (0, l1))] m (f_X7_readPages m l0 l1) := by
  refine ms_of rfl mf_X7_readPages (b8 rfl) ?_
  refine s_top ?_
  show Sim fx me_X7_readPages 0 [(0, aR (some (7, l0))), (1, aR (some (0, l1)))] [] m _
  unfold f_X7_readPages
  have hj_X7_readPages_0_162 : ∀ (m_162 : MM) (l2_162 : Int), Sim fx me_X7_readPages 162 [(2, aI l2_162)] [] m_162 ((j_X7_readPages_0_162 m_162 l2_162).bind (fun z => some z)) := by
    intro m_162 l2_162
    unfold j_X7_readPages_0_162
    exact s_iload_n d_X7_readPages_162 m0_ (s_iret d_X7_readPages_163 rfl rfl)
  have hj_X7_readPages_0_76 : ∀ (m_76 : MM) (l0_76 : Nat) (l2_76 : Int), Sim fx me_X7_readPages 76 [(0, aR (some (7, l0_76))), (2, aI l2_76)] [] m_76 ((j_X7_readPages_0_76 m_76 l0_76 l2_76).bind (fun z => some z)) := by
    intro m_76 l0_76 l2_76
    unfold j_X7_readPages_0_76
    refine s_iconst d_X7_readPages_76 n_0 (s_istore_n (L' := [(3, aI 0), (0, aR (some (7, l0_76))), (2, aI l2_76)]) d_X7_readPages_77 (b8 rfl) rfl (s_sub (subc m0_ (subc m1_ (subc m2_ sub0))) (s_lp2 (fun s => [(3, aI (s.1)), (0, aR (some (7, l0_76))), (2, aI l2_76)]) (fun s => s.2) (0, m_76) fun k78 hx78 s ih0 => ?_)))
    obtain ⟨l3_78, mm_78⟩ := s
    have ih78 := ih0
    clear ih0
    try dsimp only
    unfold b_X7_readPages_78
    have hj_X7_readPages_78_156 : ∀ (m_156 : MM) (l3_156 : Int), Sim fx me_X7_readPages 156 [(0, aR (some (7, l0_76))), (2, aI l2_76), (3, aI l3_156)] [] m_156 ((j_X7_readPages_78_156 m_156 l0_76 l2_76 l3_156).bind k78) := by
      intro m_156 l3_156
      unfold j_X7_readPages_78_156
      exact s_iinc (L' := [(3, aI (l3_156 + 1)), (0, aR (some (7, l0_76))), (2, aI l2_76)]) d_X7_readPages_156 m2_ (b8 rfl) rfl (s_goto (tgt := 78) d_X7_readPages_159 rfl (s_sub (subc m0_ (subc m1_ (subc m2_ sub0))) (s_back (ih78 ((l3_156 + 1), m_156)))))
    refine s_iload_n d_X7_readPages_78 m0_ (s_iload_n d_X7_readPages_79 m2_ (s_icmp_ge (tgt := 162) d_X7_readPages_80 rfl ?_ ?_))
    · exact s_exit (hx78 _) (s_sub (subc m2_ sub0) (hj_X7_readPages_0_162 mm_78 l2_76))
    refine s_aload_n d_X7_readPages_83 m1_ (s_getR cf d_X7_readPages_84 fl_X7_18 (s_nk fun i13 => (s_iload_n d_X7_readPages_87 m0_ (s_iconst d_X7_readPages_88 n_0 (s_stN d_X7_readPages_89 ka_41 rfl fun m14 => ?_)))))
    refine s_iconst d_X7_readPages_90 n_0 (s_istore (L' := [(4, aI 0), (3, aI l3_78), (0, aR (some (7, l0_76))), (2, aI l2_76)]) d_X7_readPages_91 (b8 rfl) rfl (s_sub (subc m0_ (subc m2_ (subc m3_ (subc m1_ sub0)))) (s_lp2 (fun s => [(4, aI (s.1)), (0, aR (some (7, l0_76))), (2, aI l2_76), (3, aI l3_78)]) (fun s => s.2) (0, m14) fun k93 hx93 s ih0 => ?_)))
    obtain ⟨l4_93, mm_93⟩ := s
    have ih93 := ih0
    clear ih0
    try dsimp only
    unfold b_X7_readPages_93
    refine s_iload d_X7_readPages_93 m0_ (s_iload_n d_X7_readPages_95 m2_ (s_icmp_ge (tgt := 156) d_X7_readPages_96 rfl ?_ ?_))
    · exact s_exit (hx93 _) (s_sub (subc m1_ (subc m2_ (subc m3_ sub0))) (hj_X7_readPages_78_156 mm_93 l3_78))
    refine s_iload d_X7_readPages_99 m0_ (s_iload_n d_X7_readPages_101 m3_ (s_icmp_eq (tgt := 150) d_X7_readPages_102 rfl ?_ ?_))
    · exact s_iinc (L' := [(4, aI (l4_93 + 1)), (0, aR (some (7, l0_76))), (2, aI l2_76), (3, aI l3_78)]) d_X7_readPages_150 m0_ (b8 rfl) rfl (s_goto (tgt := 93) d_X7_readPages_153 rfl (s_sub (subc m0_ (subc m1_ (subc m2_ (subc m3_ sub0)))) (s_back (ih93 ((l4_93 + 1), mm_93)))))
    refine s_aload_n d_X7_readPages_105 m1_ (s_getR cf d_X7_readPages_106 fl_X7_21 (s_nk fun i15 => (s_iload_n d_X7_readPages_109 m3_ (s_ldN d_X7_readPages_110 ka_42 rfl fun v16 => (s_aload_n d_X7_readPages_111 m1_ ?_)))))
    refine s_getR cf d_X7_readPages_112 fl_X7_24 (s_nk fun i17 => (s_iload d_X7_readPages_115 m0_ (s_ldN d_X7_readPages_117 ka_43 rfl fun v18 => (s_iand d_X7_readPages_118 (s_aload_n d_X7_readPages_119 m1_ ?_)))))
    refine s_getR cf d_X7_readPages_120 fl_X7_24 (s_nk fun i19 => (s_iload_n d_X7_readPages_123 m3_ (s_ldN d_X7_readPages_124 ka_43 rfl fun v20 => (s_aload_n d_X7_readPages_125 m1_ (s_getR cf d_X7_readPages_126 fl_X7_21 ?_)))))
    refine s_nk fun i21 => (s_iload d_X7_readPages_129 m0_ (s_ldN d_X7_readPages_131 ka_42 rfl fun v22 => (s_iand d_X7_readPages_132 (s_ior d_X7_readPages_133 (s_if_eq (tgt := 150) d_X7_readPages_134 rfl ?_ ?_)))))
    · exact s_iinc (L' := [(4, aI (l4_93 + 1)), (0, aR (some (7, l0_76))), (2, aI l2_76), (3, aI l3_78)]) d_X7_readPages_150 m0_ (b8 rfl) rfl (s_goto (tgt := 93) d_X7_readPages_153 rfl (s_sub (subc m0_ (subc m1_ (subc m2_ (subc m3_ sub0)))) (s_back (ih93 ((l4_93 + 1), mm_93)))))
    refine s_aload_n d_X7_readPages_137 m1_ (s_getR cf d_X7_readPages_138 fl_X7_18 (s_nk fun i23 => (s_iload_n d_X7_readPages_141 m3_ (s_dup2 d_X7_readPages_142 rfl rfl (s_ldN d_X7_readPages_143 ka_41 rfl fun v24 => ?_)))))
    refine s_iconst d_X7_readPages_144 n_1 (s_iload d_X7_readPages_145 m0_ (s_ishl d_X7_readPages_147 (s_ior d_X7_readPages_148 (s_stN d_X7_readPages_149 ka_41 rfl fun m25 => (s_iinc (L' := [(4, aI (l4_93 + 1)), (0, aR (some (7, l0_76))), (2, aI l2_76), (3, aI l3_78)]) d_X7_readPages_150 m0_ (b8 rfl) rfl ?_)))))
    exact s_goto (tgt := 93) d_X7_readPages_153 rfl (s_sub (subc m0_ (subc m1_ (subc m2_ (subc m3_ sub0)))) (s_back (ih93 ((l4_93 + 1), m25))))
  refine s_iconst d_X7_readPages_0 n_0 (s_istore_n (L' := [(2, aI 0), (0, aR (some (7, l0))), (1, aR (some (0, l1)))]) d_X7_readPages_1 (b8 rfl) rfl (s_aload_n d_X7_readPages_2 m2_ (s_getR cf d_X7_readPages_3 fl_X7_72 (s_nk fun i1 => (s_astore_n (L' := [(3, aR (some (13, i1))), (2, aI 0), (0, aR (some (7, l0))), (1, aR (some (0, l1)))]) d_X7_readPages_6 (b8 rfl) rfl ?_)))))
  refine s_aload_n d_X7_readPages_7 m0_ (s_len d_X7_readPages_8 ka_13 ta_13 (s_istore (L' := [(4, aI (lenI m 13 i1)), (3, aR (some (13, i1))), (2, aI 0), (0, aR (some (7, l0))), (1, aR (some (0, l1)))]) d_X7_readPages_9 (b8 rfl) rfl (s_iconst d_X7_readPages_11 n_0 (s_istore (L' := [(5, aI 0), (4, aI (lenI m 13 i1)), (3, aR (some (13, i1))), (2, aI 0), (0, aR (some (7, l0))), (1, aR (some (0, l1)))]) d_X7_readPages_12 (b8 rfl) rfl (s_sub (subc m3_ (subc m0_ (subc m4_ (subc m5_ (subc m2_ (subc m1_ sub0)))))) (s_lp2 (fun s => [(2, aI (s.1)), (5, aI (s.2.1)), (0, aR (some (7, l0))), (1, aR (some (0, l1))), (3, aR (some (13, i1))), (4, aI (lenI m 13 i1))]) (fun s => s.2.2) (0, 0, m) fun k14 hx14 s ih0 => ?_))))))
  obtain ⟨l2_14, l5_14, mm_14⟩ := s
  have ih14 := ih0
  clear ih0
  try dsimp only
  unfold b_X7_readPages_14
  refine s_iload d_X7_readPages_14 m1_ (s_iload d_X7_readPages_16 m5_ (s_icmp_ge (tgt := 76) d_X7_readPages_18 rfl ?_ ?_))
  · exact s_exit (hx14 _) (s_sub (subc m2_ (subc m0_ sub0)) (hj_X7_readPages_0_76 mm_14 l0 l2_14))
  refine s_aload_n d_X7_readPages_21 m4_ (s_iload d_X7_readPages_22 m1_ (s_ldR d_X7_readPages_24 ka_13 ta_13 rfl rfl fun r2 => (s_nk fun i3 => (s_astore (L' := [(6, aR (some (4, i3))), (2, aI l2_14), (5, aI l5_14), (0, aR (some (7, l0))), (1, aR (some (0, l1))), (3, aR (some (13, i1))), (4, aI (lenI m 13 i1))]) d_X7_readPages_25 (b8 rfl) rfl (s_aload d_X7_readPages_27 m0_ ?_)))))
  refine s_pI (r_V d_X7_readPages_29 k_X4_isSet w_1336 rfl rfl) ms_X4_isSet (b8 rfl) rfl rfl rfl fun v4 => (s_if_eq (tgt := 70) d_X7_readPages_32 rfl ?_ ?_)
  · exact s_iinc (L' := [(5, aI (l5_14 + 1)), (6, aR (some (4, i3))), (2, aI l2_14), (0, aR (some (7, l0))), (1, aR (some (0, l1))), (3, aR (some (13, i1))), (4, aI (lenI m 13 i1))]) d_X7_readPages_70 m2_ (b8 rfl) rfl (s_goto (tgt := 14) d_X7_readPages_73 rfl (s_sub (subc m2_ (subc m0_ (subc m3_ (subc m4_ (subc m5_ (subc m6_ sub0)))))) (s_back (ih14 (l2_14, (l5_14 + 1), mm_14)))))
  refine s_aload_n d_X7_readPages_35 m3_ (s_getR cf d_X7_readPages_36 fl_X7_21 (s_nk fun i5 => (s_iload_n d_X7_readPages_39 m1_ (s_aload d_X7_readPages_40 m0_ (s_aload_n d_X7_readPages_42 m4_ ?_)))))
  refine s_getR cf d_X7_readPages_43 fl_X7_82 (s_nk fun i6 => (s_iconst d_X7_readPages_46 n_0 (s_pI (r_V d_X7_readPages_47 k_X4_looseSpellings w_1337 rfl rfl) ms_X4_looseSpellings (b8 rfl) rfl rfl rfl fun v7 => (s_stN d_X7_readPages_50 ka_42 rfl fun m8 => (s_aload_n d_X7_readPages_51 m3_ ?_)))))
  refine s_getR cf d_X7_readPages_52 fl_X7_24 (s_nk fun i9 => (s_iload_n d_X7_readPages_55 m1_ (s_aload d_X7_readPages_56 m0_ (s_aload_n d_X7_readPages_58 m4_ (s_getR cf d_X7_readPages_59 fl_X7_82 ?_)))))
  refine s_nk fun i10 => (s_iconst d_X7_readPages_62 n_1 (s_pI (r_V d_X7_readPages_63 k_X4_looseSpellings w_1337 rfl rfl) ms_X4_looseSpellings (b8 rfl) rfl rfl rfl fun v11 => (s_stN d_X7_readPages_66 ka_43 rfl fun m12 => (s_iinc (L' := [(2, aI (l2_14 + 1)), (6, aR (some (4, i3))), (5, aI l5_14), (0, aR (some (7, l0))), (1, aR (some (0, l1))), (3, aR (some (13, i1))), (4, aI (lenI m 13 i1))]) d_X7_readPages_67 m1_ (b8 rfl) rfl (s_iinc (L' := [(5, aI (l5_14 + 1)), (2, aI (l2_14 + 1)), (6, aR (some (4, i3))), (0, aR (some (7, l0))), (1, aR (some (0, l1))), (3, aR (some (13, i1))), (4, aI (lenI m 13 i1))]) d_X7_readPages_70 m2_ (b8 rfl) rfl ?_)))))
  exact s_goto (tgt := 14) d_X7_readPages_73 rfl (s_sub (subc m1_ (subc m0_ (subc m3_ (subc m4_ (subc m5_ (subc m6_ sub0)))))) (s_back (ih14 ((l2_14 + 1), (l5_14 + 1), m12))))
theorem d_J_bitCount_0 : dk me_J_bitCount 0 (.iload_n 0) 1 1 := And.intro (by decide +kernel) rfl
theorem d_J_bitCount_1 : dk me_J_bitCount 1 (.iload_n 0) 1 2 := And.intro (by decide +kernel) rfl
theorem d_J_bitCount_2 : dk me_J_bitCount 2 (.iconst 1) 1 3 := And.intro (by decide +kernel) rfl
theorem d_J_bitCount_3 : dk me_J_bitCount 3 (.iushr) 1 4 := And.intro (by decide +kernel) rfl
theorem d_J_bitCount_4 : dk me_J_bitCount 4 (.ldc_w 265) 3 7 := And.intro (by decide +kernel) rfl
theorem d_J_bitCount_7 : dk me_J_bitCount 7 (.iand) 1 8 := And.intro (by decide +kernel) rfl
theorem d_J_bitCount_8 : dk me_J_bitCount 8 (.isub) 1 9 := And.intro (by decide +kernel) rfl
theorem d_J_bitCount_9 : dk me_J_bitCount 9 (.istore_n 0) 1 10 := And.intro (by decide +kernel) rfl
theorem d_J_bitCount_10 : dk me_J_bitCount 10 (.iload_n 0) 1 11 := And.intro (by decide +kernel) rfl
theorem d_J_bitCount_11 : dk me_J_bitCount 11 (.ldc_w 266) 3 14 := And.intro (by decide +kernel) rfl
theorem d_J_bitCount_14 : dk me_J_bitCount 14 (.iand) 1 15 := And.intro (by decide +kernel) rfl
theorem d_J_bitCount_15 : dk me_J_bitCount 15 (.iload_n 0) 1 16 := And.intro (by decide +kernel) rfl
theorem d_J_bitCount_16 : dk me_J_bitCount 16 (.iconst 2) 1 17 := And.intro (by decide +kernel) rfl
theorem d_J_bitCount_17 : dk me_J_bitCount 17 (.iushr) 1 18 := And.intro (by decide +kernel) rfl
theorem d_J_bitCount_18 : dk me_J_bitCount 18 (.ldc_w 266) 3 21 := And.intro (by decide +kernel) rfl
theorem d_J_bitCount_21 : dk me_J_bitCount 21 (.iand) 1 22 := And.intro (by decide +kernel) rfl
theorem d_J_bitCount_22 : dk me_J_bitCount 22 (.iadd) 1 23 := And.intro (by decide +kernel) rfl
theorem d_J_bitCount_23 : dk me_J_bitCount 23 (.istore_n 0) 1 24 := And.intro (by decide +kernel) rfl
theorem d_J_bitCount_24 : dk me_J_bitCount 24 (.iload_n 0) 1 25 := And.intro (by decide +kernel) rfl
theorem d_J_bitCount_25 : dk me_J_bitCount 25 (.iload_n 0) 1 26 := And.intro (by decide +kernel) rfl
theorem d_J_bitCount_26 : dk me_J_bitCount 26 (.iconst 4) 1 27 := And.intro (by decide +kernel) rfl
theorem d_J_bitCount_27 : dk me_J_bitCount 27 (.iushr) 1 28 := And.intro (by decide +kernel) rfl
theorem d_J_bitCount_28 : dk me_J_bitCount 28 (.iadd) 1 29 := And.intro (by decide +kernel) rfl
theorem d_J_bitCount_29 : dk me_J_bitCount 29 (.ldc_w 267) 3 32 := And.intro (by decide +kernel) rfl
theorem d_J_bitCount_32 : dk me_J_bitCount 32 (.iand) 1 33 := And.intro (by decide +kernel) rfl
theorem d_J_bitCount_33 : dk me_J_bitCount 33 (.istore_n 0) 1 34 := And.intro (by decide +kernel) rfl
theorem d_J_bitCount_34 : dk me_J_bitCount 34 (.iload_n 0) 1 35 := And.intro (by decide +kernel) rfl
theorem d_J_bitCount_35 : dk me_J_bitCount 35 (.iload_n 0) 1 36 := And.intro (by decide +kernel) rfl
theorem d_J_bitCount_36 : dk me_J_bitCount 36 (.bipush 8) 2 38 := And.intro (by decide +kernel) rfl
theorem d_J_bitCount_38 : dk me_J_bitCount 38 (.iushr) 1 39 := And.intro (by decide +kernel) rfl
theorem d_J_bitCount_39 : dk me_J_bitCount 39 (.iadd) 1 40 := And.intro (by decide +kernel) rfl
theorem d_J_bitCount_40 : dk me_J_bitCount 40 (.istore_n 0) 1 41 := And.intro (by decide +kernel) rfl
theorem d_J_bitCount_41 : dk me_J_bitCount 41 (.iload_n 0) 1 42 := And.intro (by decide +kernel) rfl
theorem d_J_bitCount_42 : dk me_J_bitCount 42 (.iload_n 0) 1 43 := And.intro (by decide +kernel) rfl
theorem d_J_bitCount_43 : dk me_J_bitCount 43 (.bipush 16) 2 45 := And.intro (by decide +kernel) rfl
theorem d_J_bitCount_45 : dk me_J_bitCount 45 (.iushr) 1 46 := And.intro (by decide +kernel) rfl
theorem d_J_bitCount_46 : dk me_J_bitCount 46 (.iadd) 1 47 := And.intro (by decide +kernel) rfl
theorem d_J_bitCount_47 : dk me_J_bitCount 47 (.istore_n 0) 1 48 := And.intro (by decide +kernel) rfl
theorem d_J_bitCount_48 : dk me_J_bitCount 48 (.iload_n 0) 1 49 := And.intro (by decide +kernel) rfl
theorem d_J_bitCount_49 : dk me_J_bitCount 49 (.bipush 63) 2 51 := And.intro (by decide +kernel) rfl
theorem d_J_bitCount_51 : dk me_J_bitCount 51 (.iand) 1 52 := And.intro (by decide +kernel) rfl
theorem d_J_bitCount_52 : dk me_J_bitCount 52 (.ireturn) 1 53 := And.intro (by decide +kernel) rfl
theorem ms_J_bitCount {fx : FX} {m : MM} {l0 : Int} : MS fx me_J_bitCount [aI l0] m ((f_J_bitCount m l0).bind fun v => some (.inl (some (aI v)), m)) := by
  refine ms_of rfl mf_J_bitCount (b8 rfl) ?_
  show Sim fx me_J_bitCount 0 [(0, aI l0)] [] m _
  unfold f_J_bitCount
  refine s_iload_n d_J_bitCount_0 m0_ (s_iload_n d_J_bitCount_1 m0_ (s_iconst d_J_bitCount_2 n_1 (s_iushr d_J_bitCount_3 (s_ldcw d_J_bitCount_4 w_1353 rfl n_1431655765 (s_iand d_J_bitCount_7 ?_)))))
  refine s_isub d_J_bitCount_8 rfl rfl (s_ck (s_let fun v1 => (s_istore_n (L' := [(0, aI v1)]) d_J_bitCount_9 (b8 rfl) rfl (s_iload_n d_J_bitCount_10 m0_ (s_ldcw d_J_bitCount_11 w_1354 rfl n_858993459 ?_)))))
  refine s_iand d_J_bitCount_14 (s_iload_n d_J_bitCount_15 m0_ (s_iconst d_J_bitCount_16 n_2 (s_iushr d_J_bitCount_17 (s_ldcw d_J_bitCount_18 w_1354 rfl n_858993459 (s_iand d_J_bitCount_21 ?_)))))
  refine s_iadd d_J_bitCount_22 rfl rfl (s_ck (s_let fun v2 => (s_istore_n (L' := [(0, aI v2)]) d_J_bitCount_23 (b8 rfl) rfl (s_iload_n d_J_bitCount_24 m0_ (s_iload_n d_J_bitCount_25 m0_ ?_)))))
  refine s_iconst d_J_bitCount_26 n_4 (s_iushr d_J_bitCount_27 (s_iadd d_J_bitCount_28 rfl rfl (s_ldcw d_J_bitCount_29 w_1355 rfl n_252645135 (s_ck1 (s_iand d_J_bitCount_32 ?_)))))
  refine s_let fun v3 => (s_istore_n (L' := [(0, aI v3)]) d_J_bitCount_33 (b8 rfl) rfl (s_iload_n d_J_bitCount_34 m0_ (s_iload_n d_J_bitCount_35 m0_ (s_bipush d_J_bitCount_36 n_8 rfl (s_iushr d_J_bitCount_38 ?_)))))
  refine s_iadd d_J_bitCount_39 rfl rfl (s_ck (s_istore_n (L' := [(0, aI (v3 + (iushr v3 8)))]) d_J_bitCount_40 (b8 rfl) rfl (s_iload_n d_J_bitCount_41 m0_ (s_iload_n d_J_bitCount_42 m0_ (s_bipush d_J_bitCount_43 n_16 rfl ?_)))))
  refine s_iushr d_J_bitCount_45 (s_iadd d_J_bitCount_46 rfl rfl (s_ck (s_let fun v4 => (s_istore_n (L' := [(0, aI v4)]) d_J_bitCount_47 (b8 rfl) rfl (s_iload_n d_J_bitCount_48 m0_ ?_)))))
  exact s_bipush d_J_bitCount_49 n_63 rfl (s_iand d_J_bitCount_51 (s_iret d_J_bitCount_52 rfl rfl))
theorem d_X7_tightPages_0 : dk me_X7_tightPages 0 (.iconst 1) 1 1 := And.intro (by decide +kernel) rfl
theorem d_X7_tightPages_1 : dk me_X7_tightPages 1 (.iload_n 1) 1 2 := And.intro (by decide +kernel) rfl
theorem d_X7_tightPages_2 : dk me_X7_tightPages 2 (.ishl) 1 3 := And.intro (by decide +kernel) rfl
theorem d_X7_tightPages_3 : dk me_X7_tightPages 3 (.iconst 1) 1 4 := And.intro (by decide +kernel) rfl
theorem d_X7_tightPages_4 : dk me_X7_tightPages 4 (.isub) 1 5 := And.intro (by decide +kernel) rfl
theorem d_X7_tightPages_5 : dk me_X7_tightPages 5 (.istore_n 3) 1 6 := And.intro (by decide +kernel) rfl
theorem d_X7_tightPages_6 : dk me_X7_tightPages 6 (.iconst 0) 1 7 := And.intro (by decide +kernel) rfl
theorem d_X7_tightPages_7 : dk me_X7_tightPages 7 (.istore 4) 2 9 := And.intro (by decide +kernel) rfl
theorem d_X7_tightPages_9 : dk me_X7_tightPages 9 (.iload 4) 2 11 := And.intro (by decide +kernel) rfl
theorem d_X7_tightPages_11 : dk me_X7_tightPages 11 (.iload_n 1) 1 12 := And.intro (by decide +kernel) rfl
theorem d_X7_tightPages_12 : dk me_X7_tightPages 12 (.if_icmp .ge 49) 3 15 := And.intro (by decide +kernel) rfl
theorem d_X7_tightPages_15 : dk me_X7_tightPages 15 (.iconst 0) 1 16 := And.intro (by decide +kernel) rfl
theorem d_X7_tightPages_16 : dk me_X7_tightPages 16 (.istore 5) 2 18 := And.intro (by decide +kernel) rfl
theorem d_X7_tightPages_18 : dk me_X7_tightPages 18 (.iload 5) 2 20 := And.intro (by decide +kernel) rfl
theorem d_X7_tightPages_20 : dk me_X7_tightPages 20 (.iload_n 1) 1 21 := And.intro (by decide +kernel) rfl
theorem d_X7_tightPages_21 : dk me_X7_tightPages 21 (.if_icmp .ge 34) 3 24 := And.intro (by decide +kernel) rfl
theorem d_X7_tightPages_24 : dk me_X7_tightPages 24 (.aload_n 0) 1 25 := And.intro (by decide +kernel) rfl
theorem d_X7_tightPages_25 : dk me_X7_tightPages 25 (.getfield 18) 3 28 := And.intro (by decide +kernel) rfl
theorem d_X7_tightPages_28 : dk me_X7_tightPages 28 (.iload 5) 2 30 := And.intro (by decide +kernel) rfl
theorem d_X7_tightPages_30 : dk me_X7_tightPages 30 (.iaload) 1 31 := And.intro (by decide +kernel) rfl
theorem d_X7_tightPages_31 : dk me_X7_tightPages 31 (.iload_n 3) 1 32 := And.intro (by decide +kernel) rfl
theorem d_X7_tightPages_32 : dk me_X7_tightPages 32 (.iand) 1 33 := And.intro (by decide +kernel) rfl
theorem d_X7_tightPages_33 : dk me_X7_tightPages 33 (.invokestatic 66) 3 36 := And.intro (by decide +kernel) rfl
theorem d_X7_tightPages_36 : dk me_X7_tightPages 36 (.iload_n 2) 1 37 := And.intro (by decide +kernel) rfl
theorem d_X7_tightPages_37 : dk me_X7_tightPages 37 (.if_icmp .ge 12) 3 40 := And.intro (by decide +kernel) rfl
theorem d_X7_tightPages_40 : dk me_X7_tightPages 40 (.iload_n 3) 1 41 := And.intro (by decide +kernel) rfl
theorem d_X7_tightPages_41 : dk me_X7_tightPages 41 (.iconst 1) 1 42 := And.intro (by decide +kernel) rfl
theorem d_X7_tightPages_42 : dk me_X7_tightPages 42 (.iload 5) 2 44 := And.intro (by decide +kernel) rfl
theorem d_X7_tightPages_44 : dk me_X7_tightPages 44 (.ishl) 1 45 := And.intro (by decide +kernel) rfl
theorem d_X7_tightPages_45 : dk me_X7_tightPages 45 (.iconst (-1)) 1 46 := And.intro (by decide +kernel) rfl
theorem d_X7_tightPages_46 : dk me_X7_tightPages 46 (.ixor) 1 47 := And.intro (by decide +kernel) rfl
theorem d_X7_tightPages_47 : dk me_X7_tightPages 47 (.iand) 1 48 := And.intro (by decide +kernel) rfl
theorem d_X7_tightPages_48 : dk me_X7_tightPages 48 (.istore_n 3) 1 49 := And.intro (by decide +kernel) rfl
theorem d_X7_tightPages_49 : dk me_X7_tightPages 49 (.iinc 5 1) 3 52 := And.intro (by decide +kernel) rfl
theorem d_X7_tightPages_52 : dk me_X7_tightPages 52 (.goto (-34)) 3 55 := And.intro (by decide +kernel) rfl
theorem d_X7_tightPages_55 : dk me_X7_tightPages 55 (.iinc 4 1) 3 58 := And.intro (by decide +kernel) rfl
theorem d_X7_tightPages_58 : dk me_X7_tightPages 58 (.goto (-49)) 3 61 := And.intro (by decide +kernel) rfl
theorem d_X7_tightPages_61 : dk me_X7_tightPages 61 (.iload_n 3) 1 62 := And.intro (by decide +kernel) rfl
theorem d_X7_tightPages_62 : dk me_X7_tightPages 62 (.ireturn) 1 63 := And.intro (by decide +kernel) rfl
theorem ms_X7_tightPages {fx : FX} {m : MM} {l0 : Nat} {l1 : Int} {l2 : Int} : MS fx me_X7_tightPages [aR (some (7, l0)), aI l1, aI l2] m ((f_X7_tightPages m l0 l1 l2).bind fun v => some (.inl (some (aI v)), m)) := by
  refine ms_of rfl mf_X7_tightPages (b8 rfl) ?_
  show Sim fx me_X7_tightPages 0 [(0, aR (some (7, l0))), (1, aI l1), (2, aI l2)] [] m _
  unfold f_X7_tightPages
  have hj_X7_tightPages_0_61 : ∀ (l3_61 : Int), Sim fx me_X7_tightPages 61 [(3, aI l3_61)] [] m ((j_X7_tightPages_0_61 m l3_61).bind (fun v => some (.inl (some (aI v)), m))) := by
    intro l3_61
    unfold j_X7_tightPages_0_61
    exact s_iload_n d_X7_tightPages_61 m0_ (s_iret d_X7_tightPages_62 rfl rfl)
  refine s_iconst d_X7_tightPages_0 n_1 (s_iload_n d_X7_tightPages_1 m1_ (s_ishl d_X7_tightPages_2 (s_iconst d_X7_tightPages_3 n_1 (s_isub d_X7_tightPages_4 rfl rfl (s_ck ?_)))))
  refine s_istore_n (L' := [(3, aI ((ishl 1 l1) - 1)), (0, aR (some (7, l0))), (1, aI l1), (2, aI l2)]) d_X7_tightPages_5 (b8 rfl) rfl (s_iconst d_X7_tightPages_6 n_0 (s_istore (L' := [(4, aI 0), (3, aI ((ishl 1 l1) - 1)), (0, aR (some (7, l0))), (1, aI l1), (2, aI l2)]) d_X7_tightPages_7 (b8 rfl) rfl (s_sub (subc m1_ (subc m0_ (subc m2_ (subc m3_ (subc m4_ sub0))))) (s_lp2 (fun s => [(3, aI (s.1)), (4, aI (s.2)), (0, aR (some (7, l0))), (1, aI l1), (2, aI l2)]) (fun s => m) (((ishl 1 l1) - 1), 0) fun k9 hx9 s ih0 => ?_))))
  obtain ⟨l3_9, l4_9⟩ := s
  have ih9 := ih0
  clear ih0
  try dsimp only
  unfold b_X7_tightPages_9
  have hj_X7_tightPages_9_55 : ∀ (l3_55 : Int) (l4_55 : Int), Sim fx me_X7_tightPages 55 [(0, aR (some (7, l0))), (1, aI l1), (2, aI l2), (3, aI l3_55), (4, aI l4_55)] [] m ((j_X7_tightPages_9_55 m l0 l1 l2 l3_55 l4_55).bind k9) := by
    intro l3_55 l4_55
    unfold j_X7_tightPages_9_55
    exact s_iinc (L' := [(4, aI (l4_55 + 1)), (0, aR (some (7, l0))), (1, aI l1), (2, aI l2), (3, aI l3_55)]) d_X7_tightPages_55 m4_ (b8 rfl) rfl (s_goto (tgt := 9) d_X7_tightPages_58 rfl (s_sub (subc m4_ (subc m0_ (subc m1_ (subc m2_ (subc m3_ sub0))))) (s_back (ih9 (l3_55, (l4_55 + 1))))))
  refine s_iload d_X7_tightPages_9 m1_ (s_iload_n d_X7_tightPages_11 m3_ (s_icmp_ge (tgt := 61) d_X7_tightPages_12 rfl ?_ ?_))
  · exact s_exit (hx9 _) (s_sub (subc m0_ sub0) (hj_X7_tightPages_0_61 l3_9))
  refine s_iconst d_X7_tightPages_15 n_0 (s_istore (L' := [(5, aI 0), (3, aI l3_9), (4, aI l4_9), (0, aR (some (7, l0))), (1, aI l1), (2, aI l2)]) d_X7_tightPages_16 (b8 rfl) rfl (s_sub (subc m1_ (subc m0_ (subc m3_ (subc m4_ (subc m5_ (subc m2_ sub0)))))) (s_lp2 (fun s => [(3, aI (s.1)), (5, aI (s.2)), (0, aR (some (7, l0))), (1, aI l1), (2, aI l2), (4, aI l4_9)]) (fun s => m) (l3_9, 0) fun k18 hx18 s ih0 => ?_)))
  obtain ⟨l3_18, l5_18⟩ := s
  have ih18 := ih0
  clear ih0
  try dsimp only
  unfold b_X7_tightPages_18
  refine s_iload d_X7_tightPages_18 m1_ (s_iload_n d_X7_tightPages_20 m3_ (s_icmp_ge (tgt := 55) d_X7_tightPages_21 rfl ?_ ?_))
  · exact s_exit (hx18 _) (s_sub (subc m2_ (subc m3_ (subc m4_ (subc m0_ (subc m5_ sub0))))) (hj_X7_tightPages_9_55 l3_18 l4_9))
  refine s_aload_n d_X7_tightPages_24 m2_ (s_getR cf d_X7_tightPages_25 fl_X7_18 (s_nk fun i1 => (s_iload d_X7_tightPages_28 m1_ (s_ldN d_X7_tightPages_30 ka_41 rfl fun v2 => (s_iload_n d_X7_tightPages_31 m0_ ?_)))))
  refine s_iand d_X7_tightPages_32 (s_pI (r_S d_X7_tightPages_33 k_J_bitCount w_1350 rfl rfl) ms_J_bitCount (b8 rfl) rfl rfl rfl fun v3 => (s_iload_n d_X7_tightPages_36 m4_ (s_icmp_ge (tgt := 49) d_X7_tightPages_37 rfl ?_ ?_)))
  · exact s_iinc (L' := [(5, aI (l5_18 + 1)), (3, aI l3_18), (0, aR (some (7, l0))), (1, aI l1), (2, aI l2), (4, aI l4_9)]) d_X7_tightPages_49 m1_ (b8 rfl) rfl (s_goto (tgt := 18) d_X7_tightPages_52 rfl (s_sub (subc m1_ (subc m0_ (subc m2_ (subc m3_ (subc m4_ (subc m5_ sub0)))))) (s_back (ih18 (l3_18, (l5_18 + 1))))))
  refine s_iload_n d_X7_tightPages_40 m0_ (s_iconst d_X7_tightPages_41 n_1 (s_iload d_X7_tightPages_42 m1_ (s_ishl d_X7_tightPages_44 (s_iconst d_X7_tightPages_45 n_m1 (s_ixor d_X7_tightPages_46 ?_)))))
  exact s_iand d_X7_tightPages_47 (s_let fun v4 => (s_istore_n (L' := [(3, aI v4), (5, aI l5_18), (0, aR (some (7, l0))), (1, aI l1), (2, aI l2), (4, aI l4_9)]) d_X7_tightPages_48 (b8 rfl) rfl (s_iinc (L' := [(5, aI (l5_18 + 1)), (3, aI v4), (0, aR (some (7, l0))), (1, aI l1), (2, aI l2), (4, aI l4_9)]) d_X7_tightPages_49 m1_ (b8 rfl) rfl (s_goto (tgt := 18) d_X7_tightPages_52 rfl (s_sub (subc m1_ (subc m0_ (subc m2_ (subc m3_ (subc m4_ (subc m5_ sub0)))))) (s_back (ih18 (v4, (l5_18 + 1)))))))))
theorem d_X7_fewestHands_0 : dk me_X7_fewestHands 0 (.aload_n 0) 1 1 := And.intro (by decide +kernel) rfl
theorem d_X7_fewestHands_1 : dk me_X7_fewestHands 1 (.aload_n 1) 1 2 := And.intro (by decide +kernel) rfl
theorem d_X7_fewestHands_2 : dk me_X7_fewestHands 2 (.invokevirtual 54) 3 5 := And.intro (by decide +kernel) rfl
theorem d_X7_fewestHands_5 : dk me_X7_fewestHands 5 (.istore_n 2) 1 6 := And.intro (by decide +kernel) rfl
theorem d_X7_fewestHands_6 : dk me_X7_fewestHands 6 (.iload_n 2) 1 7 := And.intro (by decide +kernel) rfl
theorem d_X7_fewestHands_7 : dk me_X7_fewestHands 7 (.ifCond .ne 7) 3 10 := And.intro (by decide +kernel) rfl
theorem d_X7_fewestHands_10 : dk me_X7_fewestHands 10 (.iconst 0) 1 11 := And.intro (by decide +kernel) rfl
theorem d_X7_fewestHands_11 : dk me_X7_fewestHands 11 (.goto 4) 3 14 := And.intro (by decide +kernel) rfl
theorem d_X7_fewestHands_14 : dk me_X7_fewestHands 14 (.iconst 1) 1 15 := And.intro (by decide +kernel) rfl
theorem d_X7_fewestHands_15 : dk me_X7_fewestHands 15 (.istore_n 3) 1 16 := And.intro (by decide +kernel) rfl
theorem d_X7_fewestHands_16 : dk me_X7_fewestHands 16 (.iload_n 3) 1 17 := And.intro (by decide +kernel) rfl
theorem d_X7_fewestHands_17 : dk me_X7_fewestHands 17 (.iload_n 2) 1 18 := And.intro (by decide +kernel) rfl
theorem d_X7_fewestHands_18 : dk me_X7_fewestHands 18 (.if_icmp .ge 25) 3 21 := And.intro (by decide +kernel) rfl
theorem d_X7_fewestHands_21 : dk me_X7_fewestHands 21 (.aload_n 0) 1 22 := And.intro (by decide +kernel) rfl
theorem d_X7_fewestHands_22 : dk me_X7_fewestHands 22 (.iconst 0) 1 23 := And.intro (by decide +kernel) rfl
theorem d_X7_fewestHands_23 : dk me_X7_fewestHands 23 (.iconst 0) 1 24 := And.intro (by decide +kernel) rfl
theorem d_X7_fewestHands_24 : dk me_X7_fewestHands 24 (.aload_n 0) 1 25 := And.intro (by decide +kernel) rfl
theorem d_X7_fewestHands_25 : dk me_X7_fewestHands 25 (.iload_n 2) 1 26 := And.intro (by decide +kernel) rfl
theorem d_X7_fewestHands_26 : dk me_X7_fewestHands 26 (.iload_n 3) 1 27 := And.intro (by decide +kernel) rfl
theorem d_X7_fewestHands_27 : dk me_X7_fewestHands 27 (.invokevirtual 58) 3 30 := And.intro (by decide +kernel) rfl
theorem d_X7_fewestHands_30 : dk me_X7_fewestHands 30 (.iload_n 3) 1 31 := And.intro (by decide +kernel) rfl
theorem d_X7_fewestHands_31 : dk me_X7_fewestHands 31 (.invokestatic 62) 3 34 := And.intro (by decide +kernel) rfl
theorem d_X7_fewestHands_34 : dk me_X7_fewestHands 34 (.ifCond .ne 9) 3 37 := And.intro (by decide +kernel) rfl
theorem d_X7_fewestHands_37 : dk me_X7_fewestHands 37 (.iinc 3 1) 3 40 := And.intro (by decide +kernel) rfl
theorem d_X7_fewestHands_40 : dk me_X7_fewestHands 40 (.goto (-24)) 3 43 := And.intro (by decide +kernel) rfl
theorem d_X7_fewestHands_43 : dk me_X7_fewestHands 43 (.iload_n 3) 1 44 := And.intro (by decide +kernel) rfl
theorem d_X7_fewestHands_44 : dk me_X7_fewestHands 44 (.ireturn) 1 45 := And.intro (by decide +kernel) rfl
theorem ms_X7_fewestHands {fx : FX} {m : MM} {l0 : Nat} {l1 : Nat} : MS fx me_X7_fewestHands [aR (some (7, l0)), aR (some (0, l1))] m (f_X7_fewestHands m l0 l1) := by
  refine ms_of rfl mf_X7_fewestHands (b8 rfl) ?_
  refine s_top ?_
  show Sim fx me_X7_fewestHands 0 [(0, aR (some (7, l0))), (1, aR (some (0, l1)))] [] m _
  unfold f_X7_fewestHands
  have hj_X7_fewestHands_0_43 : ∀ (m_43 : MM) (l3_43 : Int), Sim fx me_X7_fewestHands 43 [(3, aI l3_43)] [] m_43 ((j_X7_fewestHands_0_43 m_43 l3_43).bind (fun z => some z)) := by
    intro m_43 l3_43
    unfold j_X7_fewestHands_0_43
    exact s_iload_n d_X7_fewestHands_43 m0_ (s_iret d_X7_fewestHands_44 rfl rfl)
  have hj_X7_fewestHands_0_15 : ∀ (m_15 : MM) (l0_15 : Nat) (l2_15 : Int) (s0_15 : Int), Sim fx me_X7_fewestHands 15 [(0, aR (some (7, l0_15))), (2, aI l2_15)] [aI s0_15] m_15 ((j_X7_fewestHands_0_15 m_15 l0_15 l2_15 s0_15).bind (fun z => some z)) := by
    intro m_15 l0_15 l2_15 s0_15
    unfold j_X7_fewestHands_0_15
    refine s_istore_n (L' := [(3, aI s0_15), (0, aR (some (7, l0_15))), (2, aI l2_15)]) d_X7_fewestHands_15 (b8 rfl) rfl (s_sub (subc m0_ (subc m1_ (subc m2_ sub0))) (s_lp2 (fun s => [(3, aI (s.1)), (0, aR (some (7, l0_15))), (2, aI l2_15)]) (fun s => s.2) (s0_15, m_15) fun k16 hx16 s ih0 => ?_))
    obtain ⟨l3_16, mm_16⟩ := s
    have ih16 := ih0
    clear ih0
    try dsimp only
    unfold b_X7_fewestHands_16
    refine s_iload_n d_X7_fewestHands_16 m0_ (s_iload_n d_X7_fewestHands_17 m2_ (s_icmp_ge (tgt := 43) d_X7_fewestHands_18 rfl ?_ ?_))
    · exact s_exit (hx16 _) (s_sub (subc m0_ sub0) (hj_X7_fewestHands_0_43 mm_16 l3_16))
    refine s_aload_n d_X7_fewestHands_21 m1_ (s_iconst d_X7_fewestHands_22 n_0 (s_iconst d_X7_fewestHands_23 n_0 (s_aload_n d_X7_fewestHands_24 m1_ (s_iload_n d_X7_fewestHands_25 m2_ (s_iload_n d_X7_fewestHands_26 m0_ ?_)))))
    refine s_pI (r_V d_X7_fewestHands_27 k_X7_tightPages w_1346 rfl rfl) ms_X7_tightPages (b8 rfl) rfl rfl rfl fun v3 => (s_iload_n d_X7_fewestHands_30 m0_ (s_cI (r_S d_X7_fewestHands_31 (kk_X7_canPart 18) w_1356 rfl rfl) (ms_X7_canPart 18) (b8 rfl) rfl rfl rfl (fun _ _ _ => rfl) (fun _ _ => Or.inl rfl) fun v5 m4 => (s_if_ne (tgt := 43) d_X7_fewestHands_34 rfl ?_ ?_)))
    · exact s_exit (hx16 _) (s_sub (subc m0_ sub0) (hj_X7_fewestHands_0_43 m4 l3_16))
    exact s_iinc (L' := [(3, aI (l3_16 + 1)), (0, aR (some (7, l0_15))), (2, aI l2_15)]) d_X7_fewestHands_37 m0_ (b8 rfl) rfl (s_goto (tgt := 16) d_X7_fewestHands_40 rfl (s_sub (subc m0_ (subc m1_ (subc m2_ sub0))) (s_back (ih16 ((l3_16 + 1), m4)))))
  refine s_aload_n d_X7_fewestHands_0 m0_ (s_aload_n d_X7_fewestHands_1 m1_ (s_cI (r_V d_X7_fewestHands_2 k_X7_readPages w_1332 rfl rfl) ms_X7_readPages (b8 rfl) rfl rfl rfl (fun _ _ _ => rfl) (fun _ _ => Or.inl rfl) fun v2 m1 => (s_istore_n (L' := [(2, aI v2), (0, aR (some (7, l0))), (1, aR (some (0, l1)))]) d_X7_fewestHands_5 (b8 rfl) rfl (s_iload_n d_X7_fewestHands_6 m0_ (s_if_ne (tgt := 14) d_X7_fewestHands_7 rfl ?_ ?_)))))
  · exact s_iconst d_X7_fewestHands_14 n_1 (s_sub (subc m1_ (subc m0_ sub0)) (hj_X7_fewestHands_0_15 m1 l0 v2 1))
  exact s_iconst d_X7_fewestHands_10 n_0 (s_goto (tgt := 15) d_X7_fewestHands_11 rfl (s_sub (subc m1_ (subc m0_ sub0)) (hj_X7_fewestHands_0_15 m1 l0 v2 0)))
theorem d_X11_hands_0 : dk me_X11_hands 0 (.aload_n 0) 1 1 := And.intro (by decide +kernel) rfl
theorem d_X11_hands_1 : dk me_X11_hands 1 (.getfield 49) 3 4 := And.intro (by decide +kernel) rfl
theorem d_X11_hands_4 : dk me_X11_hands 4 (.aload_n 0) 1 5 := And.intro (by decide +kernel) rfl
theorem d_X11_hands_5 : dk me_X11_hands 5 (.iload_n 1) 1 6 := And.intro (by decide +kernel) rfl
theorem d_X11_hands_6 : dk me_X11_hands 6 (.invokevirtual 143) 3 9 := And.intro (by decide +kernel) rfl
theorem d_X11_hands_9 : dk me_X11_hands 9 (.invokevirtual 421) 3 12 := And.intro (by decide +kernel) rfl
theorem d_X11_hands_12 : dk me_X11_hands 12 (.ireturn) 1 13 := And.intro (by decide +kernel) rfl
theorem ms_X11_hands {fx : FX} {m : MM} {l0 : Nat} {l1 : Int} : MS fx me_X11_hands [aR (some (11, l0)), aI l1] m (f_X11_hands m l0 l1) := by
  refine ms_of rfl mf_X11_hands (b8 rfl) ?_
  refine s_top ?_
  show Sim fx me_X11_hands 0 [(0, aR (some (11, l0))), (1, aI l1)] [] m _
  unfold f_X11_hands
  refine s_aload_n d_X11_hands_0 m0_ (s_getR cf d_X11_hands_1 fl_X11_49 (s_nk fun i1 => (s_aload_n d_X11_hands_4 m0_ (s_iload_n d_X11_hands_5 m1_ (s_cR (r_V d_X11_hands_6 k_X11_bookAt w_814 rfl rfl) ms_X11_bookAt (b8 rfl) rfl rfl rfl (fun h => by cases h) (fun _ _ => Or.inr rfl) fun r3 m2 => ?_)))))
  exact s_nk fun i4 => (s_cI (r_V d_X11_hands_9 k_X7_fewestHands w_1328 rfl rfl) ms_X7_fewestHands (b8 rfl) rfl rfl rfl (fun _ _ _ => rfl) (fun _ _ => Or.inl rfl) fun v6 m5 => (s_iret d_X11_hands_12 rfl rfl))
theorem d_L_hands_0 : dk me_L_hands 0 (.aload_n 2) 1 1 := And.intro (by decide +kernel) rfl
theorem d_L_hands_1 : dk me_L_hands 1 (.iconst 0) 1 2 := And.intro (by decide +kernel) rfl
theorem d_L_hands_2 : dk me_L_hands 2 (.aload_n 0) 1 3 := And.intro (by decide +kernel) rfl
theorem d_L_hands_3 : dk me_L_hands 3 (.iload_n 1) 1 4 := And.intro (by decide +kernel) rfl
theorem d_L_hands_4 : dk me_L_hands 4 (.invokevirtual 132) 3 7 := And.intro (by decide +kernel) rfl
theorem d_L_hands_7 : dk me_L_hands 7 (.i2l) 1 8 := And.intro (by decide +kernel) rfl
theorem d_L_hands_8 : dk me_L_hands 8 (.lastore) 1 9 := And.intro (by decide +kernel) rfl
theorem d_L_hands_9 : dk me_L_hands 9 (.goto 6) 3 12 := And.intro (by decide +kernel) rfl
theorem d_L_hands_12 : dk me_L_hands 12 (.astore_n 3) 1 13 := And.intro (by decide +kernel) rfl
theorem d_L_hands_13 : dk me_L_hands 13 (.iconst 1) 1 14 := And.intro (by decide +kernel) rfl
theorem d_L_hands_14 : dk me_L_hands 14 (.ireturn) 1 15 := And.intro (by decide +kernel) rfl
theorem d_L_hands_15 : dk me_L_hands 15 (.iconst 0) 1 16 := And.intro (by decide +kernel) rfl
theorem d_L_hands_16 : dk me_L_hands 16 (.ireturn) 1 17 := And.intro (by decide +kernel) rfl
theorem ms_L_hands {fx : FX} {m : MM} {l0 : Nat} {l1 : Int} {l2 : Nat} : MS fx me_L_hands [aR (some (11, l0)), aI l1, aR (some (131, l2))] m (f_L_hands m l0 l1 l2) := by
  refine ms_ofH rfl mf_L_hands (b8 rfl) ?_
  refine s_top ?_
  show Sim fx me_L_hands 0 [(0, aR (some (11, l0))), (1, aI l1), (2, aR (some (131, l2)))] [] m _
  unfold f_L_hands
  refine s_aload_n d_L_hands_0 m2_ (s_iconst d_L_hands_1 n_0 (s_aload_n d_L_hands_2 m0_ (s_iload_n d_L_hands_3 m1_ (s_cIC (r_V d_L_hands_4 k_X11_hands w_1324 rfl rfl) ms_X11_hands (b8 rfl) rfl rfl ?_ ?_ ?_ fun v2 m1 => ?_))))
  · refine fun mx => Or.inr ⟨12, ⟨rfl, by decide, 0, wx_29_0, Or.inl ⟨rfl, rfl⟩⟩, fun qx => ?_⟩
    exact s_astoreV_n (L' := [(3, aV (.ref qx)), (0, aR (some (11, l0))), (1, aI l1), (2, aR (some (131, l2)))]) d_L_hands_12 (b8 rfl) rfl (s_iconst d_L_hands_13 n_1 (s_iret d_L_hands_14 rfl rfl))
  · exact fun _ => Or.inl rfl
  · exact fun _ => Or.inl rfl
  exact s_i2l d_L_hands_7 (s_stL d_L_hands_8 ka_131 rfl fun m3 => (s_goto (tgt := 15) d_L_hands_9 rfl (s_iconst d_L_hands_15 n_0 (s_iret d_L_hands_16 rfl rfl))))
theorem d_X11_lay_0 : dk me_X11_lay 0 (.aload_n 0) 1 1 := And.intro (by decide +kernel) rfl
theorem d_X11_lay_1 : dk me_X11_lay 1 (.iload_n 1) 1 2 := And.intro (by decide +kernel) rfl
theorem d_X11_lay_2 : dk me_X11_lay 2 (.invokevirtual 143) 3 5 := And.intro (by decide +kernel) rfl
theorem d_X11_lay_5 : dk me_X11_lay 5 (.astore 4) 2 7 := And.intro (by decide +kernel) rfl
theorem d_X11_lay_7 : dk me_X11_lay 7 (.iload_n 2) 1 8 := And.intro (by decide +kernel) rfl
theorem d_X11_lay_8 : dk me_X11_lay 8 (.ifCond .lt 17) 3 11 := And.intro (by decide +kernel) rfl
theorem d_X11_lay_11 : dk me_X11_lay 11 (.iload_n 2) 1 12 := And.intro (by decide +kernel) rfl
theorem d_X11_lay_12 : dk me_X11_lay 12 (.aload 4) 2 14 := And.intro (by decide +kernel) rfl
theorem d_X11_lay_14 : dk me_X11_lay 14 (.getfield 291) 3 17 := And.intro (by decide +kernel) rfl
theorem d_X11_lay_17 : dk me_X11_lay 17 (.arraylength) 1 18 := And.intro (by decide +kernel) rfl
theorem d_X11_lay_18 : dk me_X11_lay 18 (.if_icmp .ge 7) 3 21 := And.intro (by decide +kernel) rfl
theorem d_X11_lay_21 : dk me_X11_lay 21 (.iconst 1) 1 22 := And.intro (by decide +kernel) rfl
theorem d_X11_lay_22 : dk me_X11_lay 22 (.goto 4) 3 25 := And.intro (by decide +kernel) rfl
theorem d_X11_lay_25 : dk me_X11_lay 25 (.iconst 0) 1 26 := And.intro (by decide +kernel) rfl
theorem d_X11_lay_26 : dk me_X11_lay 26 (.invokestatic 115) 3 29 := And.intro (by decide +kernel) rfl
theorem d_X11_lay_29 : dk me_X11_lay 29 (.iload_n 3) 1 30 := And.intro (by decide +kernel) rfl
theorem d_X11_lay_30 : dk me_X11_lay 30 (.ifCond .lt 16) 3 33 := And.intro (by decide +kernel) rfl
theorem d_X11_lay_33 : dk me_X11_lay 33 (.iload_n 3) 1 34 := And.intro (by decide +kernel) rfl
theorem d_X11_lay_34 : dk me_X11_lay 34 (.aload 4) 2 36 := And.intro (by decide +kernel) rfl
theorem d_X11_lay_36 : dk me_X11_lay 36 (.getfield 314) 3 39 := And.intro (by decide +kernel) rfl
theorem d_X11_lay_39 : dk me_X11_lay 39 (.if_icmp .ge 7) 3 42 := And.intro (by decide +kernel) rfl
theorem d_X11_lay_42 : dk me_X11_lay 42 (.iconst 1) 1 43 := And.intro (by decide +kernel) rfl
theorem d_X11_lay_43 : dk me_X11_lay 43 (.goto 4) 3 46 := And.intro (by decide +kernel) rfl
theorem d_X11_lay_46 : dk me_X11_lay 46 (.iconst 0) 1 47 := And.intro (by decide +kernel) rfl
theorem d_X11_lay_47 : dk me_X11_lay 47 (.invokestatic 53) 3 50 := And.intro (by decide +kernel) rfl
theorem d_X11_lay_50 : dk me_X11_lay 50 (.aload 4) 2 52 := And.intro (by decide +kernel) rfl
theorem d_X11_lay_52 : dk me_X11_lay 52 (.getfield 357) 3 55 := And.intro (by decide +kernel) rfl
theorem d_X11_lay_55 : dk me_X11_lay 55 (.ifCond .ne 7) 3 58 := And.intro (by decide +kernel) rfl
theorem d_X11_lay_58 : dk me_X11_lay 58 (.iconst 1) 1 59 := And.intro (by decide +kernel) rfl
theorem d_X11_lay_59 : dk me_X11_lay 59 (.goto 4) 3 62 := And.intro (by decide +kernel) rfl
theorem d_X11_lay_62 : dk me_X11_lay 62 (.iconst 0) 1 63 := And.intro (by decide +kernel) rfl
theorem d_X11_lay_63 : dk me_X11_lay 63 (.invokestatic 69) 3 66 := And.intro (by decide +kernel) rfl
theorem d_X11_lay_66 : dk me_X11_lay 66 (.aload 4) 2 68 := And.intro (by decide +kernel) rfl
theorem d_X11_lay_68 : dk me_X11_lay 68 (.getfield 291) 3 71 := And.intro (by decide +kernel) rfl
theorem d_X11_lay_71 : dk me_X11_lay 71 (.iload_n 2) 1 72 := And.intro (by decide +kernel) rfl
theorem d_X11_lay_72 : dk me_X11_lay 72 (.aaload) 1 73 := And.intro (by decide +kernel) rfl
theorem d_X11_lay_73 : dk me_X11_lay 73 (.iload_n 3) 1 74 := And.intro (by decide +kernel) rfl
theorem d_X11_lay_74 : dk me_X11_lay 74 (.putfield 360) 3 77 := And.intro (by decide +kernel) rfl
theorem d_X11_lay_77 : dk me_X11_lay 77 (.return_) 1 78 := And.intro (by decide +kernel) rfl
theorem ms_X11_lay {fx : FX} {m : MM} {l0 : Nat} {l1 : Int} {l2 : Int} {l3 : Int} : MS fx me_X11_lay [aR (some (11, l0)), aI l1, aI l2, aI l3] m (f_X11_lay m l0 l1 l2 l3) := by
  refine ms_of rfl mf_X11_lay (b8 rfl) ?_
  refine s_top ?_
  show Sim fx me_X11_lay 0 [(0, aR (some (11, l0))), (1, aI l1), (2, aI l2), (3, aI l3)] [] m _
  unfold f_X11_lay
  have hj_X11_lay_0_63 : ∀ (m_63 : MM) (l2_63 : Int) (l3_63 : Int) (l4_63 : Nat) (s0_63 : Int), Sim fx me_X11_lay 63 [(2, aI l2_63), (3, aI l3_63), (4, aR (some (0, l4_63)))] [aI s0_63] m_63 ((j_X11_lay_0_63 m_63 l2_63 l3_63 l4_63 s0_63).bind (fun z => some z)) := by
    intro m_63 l2_63 l3_63 l4_63 s0_63
    unfold j_X11_lay_0_63
    refine s_cV (r_S d_X11_lay_63 k_X11_requireState w_363 rfl rfl) ms_X11_requireState (b8 rfl) rfl rfl rfl (fun h => by cases h) (fun _ _ => Or.inr rfl) fun m9 => (s_aload d_X11_lay_66 m2_ (s_getR cf d_X11_lay_68 fl_X11_291 (s_nk fun i11 => (s_iload_n d_X11_lay_71 m0_ (s_ldR d_X11_lay_72 ka_15 ta_15 rfl rfl fun r12 => ?_)))))
    exact s_nk fun i13 => (s_iload_n d_X11_lay_73 m1_ (s_putN cf d_X11_lay_74 fl_X11_360 (fun h => by cases h) fun m14 => (s_vret d_X11_lay_77 rfl rfl)))
  have hj_X11_lay_0_47 : ∀ (m_47 : MM) (l2_47 : Int) (l3_47 : Int) (l4_47 : Nat) (s0_47 : Int), Sim fx me_X11_lay 47 [(2, aI l2_47), (3, aI l3_47), (4, aR (some (0, l4_47)))] [aI s0_47] m_47 ((j_X11_lay_0_47 m_47 l2_47 l3_47 l4_47 s0_47).bind (fun z => some z)) := by
    intro m_47 l2_47 l3_47 l4_47 s0_47
    unfold j_X11_lay_0_47
    refine s_cV (r_S d_X11_lay_47 k_X11_requireArgument w_284 rfl rfl) ms_X11_requireArgument (b8 rfl) rfl rfl rfl (fun h => by cases h) (fun _ _ => Or.inr rfl) fun m7 => (s_aload d_X11_lay_50 m2_ (s_getB cf d_X11_lay_52 fl_X11_357 (s_if_ne (tgt := 62) d_X11_lay_55 rfl ?_ ?_)))
    · exact s_iconst d_X11_lay_62 n_0 (s_sub (subc m0_ (subc m1_ (subc m2_ sub0))) (hj_X11_lay_0_63 m7 l2_47 l3_47 l4_47 0))
    exact s_iconst d_X11_lay_58 n_1 (s_goto (tgt := 63) d_X11_lay_59 rfl (s_sub (subc m0_ (subc m1_ (subc m2_ sub0))) (hj_X11_lay_0_63 m7 l2_47 l3_47 l4_47 1)))
  have hj_X11_lay_0_46 : ∀ (m_46 : MM) (l2_46 : Int) (l3_46 : Int) (l4_46 : Nat), Sim fx me_X11_lay 46 [(2, aI l2_46), (3, aI l3_46), (4, aR (some (0, l4_46)))] [] m_46 ((j_X11_lay_0_46 m_46 l2_46 l3_46 l4_46).bind (fun z => some z)) := by
    intro m_46 l2_46 l3_46 l4_46
    unfold j_X11_lay_0_46
    exact s_iconst d_X11_lay_46 n_0 (s_sub (subc m0_ (subc m1_ (subc m2_ sub0))) (hj_X11_lay_0_47 m_46 l2_46 l3_46 l4_46 0))
  have hj_X11_lay_0_26 : ∀ (m_26 : MM) (l2_26 : Int) (l3_26 : Int) (l4_26 : Nat) (s0_26 : Int), Sim fx me_X11_lay 26 [(2, aI l2_26), (3, aI l3_26), (4, aR (some (0, l4_26)))] [aI s0_26] m_26 ((j_X11_lay_0_26 m_26 l2_26 l3_26 l4_26 s0_26).bind (fun z => some z)) := by
    intro m_26 l2_26 l3_26 l4_26 s0_26
    unfold j_X11_lay_0_26
    refine s_cV (r_S d_X11_lay_26 k_X11_requireIndex w_451 rfl rfl) ms_X11_requireIndex (b8 rfl) rfl rfl rfl (fun h => by cases h) (fun _ _ => Or.inr rfl) fun m5 => (s_iload_n d_X11_lay_29 m1_ (s_if_lt (tgt := 46) d_X11_lay_30 rfl ?_ ?_))
    · exact s_sub (subc m0_ (subc m1_ (subc m2_ sub0))) (hj_X11_lay_0_46 m5 l2_26 l3_26 l4_26)
    refine s_iload_n d_X11_lay_33 m1_ (s_aload d_X11_lay_34 m2_ (s_getN cf d_X11_lay_36 fl_X11_314 (s_icmp_ge (tgt := 46) d_X11_lay_39 rfl ?_ ?_)))
    · exact s_sub (subc m0_ (subc m1_ (subc m2_ sub0))) (hj_X11_lay_0_46 m5 l2_26 l3_26 l4_26)
    exact s_iconst d_X11_lay_42 n_1 (s_goto (tgt := 47) d_X11_lay_43 rfl (s_sub (subc m0_ (subc m1_ (subc m2_ sub0))) (hj_X11_lay_0_47 m5 l2_26 l3_26 l4_26 1)))
  have hj_X11_lay_0_25 : ∀ (m_25 : MM) (l2_25 : Int) (l3_25 : Int) (l4_25 : Nat), Sim fx me_X11_lay 25 [(2, aI l2_25), (3, aI l3_25), (4, aR (some (0, l4_25)))] [] m_25 ((j_X11_lay_0_25 m_25 l2_25 l3_25 l4_25).bind (fun z => some z)) := by
    intro m_25 l2_25 l3_25 l4_25
    unfold j_X11_lay_0_25
    exact s_iconst d_X11_lay_25 n_0 (s_sub (subc m0_ (subc m1_ (subc m2_ sub0))) (hj_X11_lay_0_26 m_25 l2_25 l3_25 l4_25 0))
  refine s_aload_n d_X11_lay_0 m0_ (s_iload_n d_X11_lay_1 m1_ (s_cR (r_V d_X11_lay_2 k_X11_bookAt w_814 rfl rfl) ms_X11_bookAt (b8 rfl) rfl rfl rfl (fun h => by cases h) (fun _ _ => Or.inr rfl) fun r2 m1 => (s_nk fun i3 => (s_astore (L' := [(4, aR (some (0, i3))), (0, aR (some (11, l0))), (1, aI l1), (2, aI l2), (3, aI l3)]) d_X11_lay_5 (b8 rfl) rfl (s_iload_n d_X11_lay_7 m3_ ?_)))))
  refine s_if_lt (tgt := 25) d_X11_lay_8 rfl ?_ ?_
  · exact s_sub (subc m3_ (subc m4_ (subc m0_ sub0))) (hj_X11_lay_0_25 m1 l2 l3 i3)
  refine s_iload_n d_X11_lay_11 m3_ (s_aload d_X11_lay_12 m0_ (s_getR cf d_X11_lay_14 fl_X11_291 (s_nk fun i4 => (s_len d_X11_lay_17 ka_15 ta_15 (s_icmp_ge (tgt := 25) d_X11_lay_18 rfl ?_ ?_)))))
  · exact s_sub (subc m3_ (subc m4_ (subc m0_ sub0))) (hj_X11_lay_0_25 m1 l2 l3 i3)
  exact s_iconst d_X11_lay_21 n_1 (s_goto (tgt := 26) d_X11_lay_22 rfl (s_sub (subc m3_ (subc m4_ (subc m0_ sub0))) (hj_X11_lay_0_26 m1 l2 l3 i3 1)))
theorem d_L_lay_0 : dk me_L_lay 0 (.aload_n 0) 1 1 := And.intro (by decide +kernel) rfl
theorem d_L_lay_1 : dk me_L_lay 1 (.iload_n 1) 1 2 := And.intro (by decide +kernel) rfl
theorem d_L_lay_2 : dk me_L_lay 2 (.iload_n 2) 1 3 := And.intro (by decide +kernel) rfl
theorem d_L_lay_3 : dk me_L_lay 3 (.iload_n 3) 1 4 := And.intro (by decide +kernel) rfl
theorem d_L_lay_4 : dk me_L_lay 4 (.invokevirtual 92) 3 7 := And.intro (by decide +kernel) rfl
theorem d_L_lay_7 : dk me_L_lay 7 (.goto 15) 3 10 := And.intro (by decide +kernel) rfl
theorem d_L_lay_10 : dk me_L_lay 10 (.astore 4) 2 12 := And.intro (by decide +kernel) rfl
theorem d_L_lay_12 : dk me_L_lay 12 (.iconst 1) 1 13 := And.intro (by decide +kernel) rfl
theorem d_L_lay_13 : dk me_L_lay 13 (.ireturn) 1 14 := And.intro (by decide +kernel) rfl
theorem d_L_lay_14 : dk me_L_lay 14 (.astore 4) 2 16 := And.intro (by decide +kernel) rfl
theorem d_L_lay_16 : dk me_L_lay 16 (.iconst 2) 1 17 := And.intro (by decide +kernel) rfl
theorem d_L_lay_17 : dk me_L_lay 17 (.ireturn) 1 18 := And.intro (by decide +kernel) rfl
theorem d_L_lay_18 : dk me_L_lay 18 (.astore 4) 2 20 := And.intro (by decide +kernel) rfl
theorem d_L_lay_20 : dk me_L_lay 20 (.iconst 3) 1 21 := And.intro (by decide +kernel) rfl
theorem d_L_lay_21 : dk me_L_lay 21 (.ireturn) 1 22 := And.intro (by decide +kernel) rfl
theorem d_L_lay_22 : dk me_L_lay 22 (.iconst 0) 1 23 := And.intro (by decide +kernel) rfl
theorem d_L_lay_23 : dk me_L_lay 23 (.ireturn) 1 24 := And.intro (by decide +kernel) rfl
theorem ms_L_lay {fx : FX} {m : MM} {l0 : Nat} {l1 : Int} {l2 : Int} {l3 : Int} : MS fx me_L_lay [aR (some (11, l0)), aI l1, aI l2, aI l3] m (f_L_lay m l0 l1 l2 l3) := by
  refine ms_ofH rfl mf_L_lay (b8 rfl) ?_
  refine s_top ?_
  show Sim fx me_L_lay 0 [(0, aR (some (11, l0))), (1, aI l1), (2, aI l2), (3, aI l3)] [] m _
  unfold f_L_lay
  refine s_aload_n d_L_lay_0 m0_ (s_iload_n d_L_lay_1 m1_ (s_iload_n d_L_lay_2 m2_ (s_iload_n d_L_lay_3 m3_ (s_cVC (r_V d_L_lay_4 k_X11_lay w_1157 rfl rfl) ms_X11_lay (b8 rfl) rfl rfl ?_ ?_ ?_ fun m1 => ?_))))
  · refine fun mx => Or.inr ⟨10, ⟨rfl, by decide, 0, wx_29_0, Or.inl ⟨rfl, rfl⟩⟩, fun qx => ?_⟩
    exact s_astoreV (L' := [(4, aV (.ref qx)), (0, aR (some (11, l0))), (1, aI l1), (2, aI l2), (3, aI l3)]) d_L_lay_10 (b8 rfl) rfl (s_iconst d_L_lay_12 n_1 (s_iret d_L_lay_13 rfl rfl))
  · refine fun mx => Or.inr ⟨14, ⟨rfl, by decide, 0, wx_29_0, Or.inr ⟨by decide, ⟨rfl, by decide, 1, wx_13_1, Or.inl ⟨rfl, rfl⟩⟩⟩⟩, fun qx => ?_⟩
    exact s_astoreV (L' := [(4, aV (.ref qx)), (0, aR (some (11, l0))), (1, aI l1), (2, aI l2), (3, aI l3)]) d_L_lay_14 (b8 rfl) rfl (s_iconst d_L_lay_16 n_2 (s_iret d_L_lay_17 rfl rfl))
  · refine fun mx => Or.inr ⟨18, ⟨rfl, by decide, 0, wx_29_0, Or.inr ⟨by decide, ⟨rfl, by decide, 1, wx_13_1, Or.inr ⟨by decide, ⟨rfl, by decide, 2, wx_15_2, Or.inl ⟨rfl, rfl⟩⟩⟩⟩⟩⟩, fun qx => ?_⟩
    exact s_astoreV (L' := [(4, aV (.ref qx)), (0, aR (some (11, l0))), (1, aI l1), (2, aI l2), (3, aI l3)]) d_L_lay_18 (b8 rfl) rfl (s_iconst d_L_lay_20 n_3 (s_iret d_L_lay_21 rfl rfl))
  exact s_goto (tgt := 22) d_L_lay_7 rfl (s_iconst d_L_lay_22 n_0 (s_iret d_L_lay_23 rfl rfl))
theorem d_X11_line_0 : dk me_X11_line 0 (.aload_n 0) 1 1 := And.intro (by decide +kernel) rfl
theorem d_X11_line_1 : dk me_X11_line 1 (.iload_n 1) 1 2 := And.intro (by decide +kernel) rfl
theorem d_X11_line_2 : dk me_X11_line 2 (.invokevirtual 143) 3 5 := And.intro (by decide +kernel) rfl
theorem d_X11_line_5 : dk me_X11_line 5 (.astore 5) 2 7 := And.intro (by decide +kernel) rfl
theorem d_X11_line_7 : dk me_X11_line 7 (.aload 5) 2 9 := And.intro (by decide +kernel) rfl
theorem d_X11_line_9 : dk me_X11_line 9 (.iload_n 2) 1 10 := And.intro (by decide +kernel) rfl
theorem d_X11_line_10 : dk me_X11_line 10 (.invokestatic 192) 3 13 := And.intro (by decide +kernel) rfl
theorem d_X11_line_13 : dk me_X11_line 13 (.astore 6) 2 15 := And.intro (by decide +kernel) rfl
theorem d_X11_line_15 : dk me_X11_line 15 (.iload_n 3) 1 16 := And.intro (by decide +kernel) rfl
theorem d_X11_line_16 : dk me_X11_line 16 (.ifCond .lt 7) 3 19 := And.intro (by decide +kernel) rfl
theorem d_X11_line_19 : dk me_X11_line 19 (.iconst 1) 1 20 := And.intro (by decide +kernel) rfl
theorem d_X11_line_20 : dk me_X11_line 20 (.goto 4) 3 23 := And.intro (by decide +kernel) rfl
theorem d_X11_line_23 : dk me_X11_line 23 (.iconst 0) 1 24 := And.intro (by decide +kernel) rfl
theorem d_X11_line_24 : dk me_X11_line 24 (.invokestatic 115) 3 27 := And.intro (by decide +kernel) rfl
theorem d_X11_line_27 : dk me_X11_line 27 (.iload 4) 2 29 := And.intro (by decide +kernel) rfl
theorem d_X11_line_29 : dk me_X11_line 29 (.ifCond .lt 13) 3 32 := And.intro (by decide +kernel) rfl
theorem d_X11_line_32 : dk me_X11_line 32 (.iload 4) 2 34 := And.intro (by decide +kernel) rfl
theorem d_X11_line_34 : dk me_X11_line 34 (.iconst 4) 1 35 := And.intro (by decide +kernel) rfl
theorem d_X11_line_35 : dk me_X11_line 35 (.if_icmp .gt 7) 3 38 := And.intro (by decide +kernel) rfl
theorem d_X11_line_38 : dk me_X11_line 38 (.iconst 1) 1 39 := And.intro (by decide +kernel) rfl
theorem d_X11_line_39 : dk me_X11_line 39 (.goto 4) 3 42 := And.intro (by decide +kernel) rfl
theorem d_X11_line_42 : dk me_X11_line 42 (.iconst 0) 1 43 := And.intro (by decide +kernel) rfl
theorem d_X11_line_43 : dk me_X11_line 43 (.invokestatic 53) 3 46 := And.intro (by decide +kernel) rfl
theorem d_X11_line_46 : dk me_X11_line 46 (.iload_n 3) 1 47 := And.intro (by decide +kernel) rfl
theorem d_X11_line_47 : dk me_X11_line 47 (.aload 6) 2 49 := And.intro (by decide +kernel) rfl
theorem d_X11_line_49 : dk me_X11_line 49 (.getfield 238) 3 52 := And.intro (by decide +kernel) rfl
theorem d_X11_line_52 : dk me_X11_line 52 (.if_icmp .lt 5) 3 55 := And.intro (by decide +kernel) rfl
theorem d_X11_line_55 : dk me_X11_line 55 (.iconst (-1)) 1 56 := And.intro (by decide +kernel) rfl
theorem d_X11_line_56 : dk me_X11_line 56 (.ireturn) 1 57 := And.intro (by decide +kernel) rfl
theorem d_X11_line_57 : dk me_X11_line 57 (.iload 4) 2 59 := And.intro (by decide +kernel) rfl
theorem d_X11_line_59 : dk me_X11_line 59 (.tableswitch 75 0 3 #[29, 44, 51, 59]) 29 88 := And.intro (by decide +kernel) rfl
theorem d_X11_line_88 : dk me_X11_line 88 (.aload 6) 2 90 := And.intro (by decide +kernel) rfl
theorem d_X11_line_90 : dk me_X11_line 90 (.iload_n 3) 1 91 := And.intro (by decide +kernel) rfl
theorem d_X11_line_91 : dk me_X11_line 91 (.invokevirtual 241) 3 94 := And.intro (by decide +kernel) rfl
theorem d_X11_line_94 : dk me_X11_line 94 (.aload 6) 2 96 := And.intro (by decide +kernel) rfl
theorem d_X11_line_96 : dk me_X11_line 96 (.getfield 244) 3 99 := And.intro (by decide +kernel) rfl
theorem d_X11_line_99 : dk me_X11_line 99 (.iload_n 3) 1 100 := And.intro (by decide +kernel) rfl
theorem d_X11_line_100 : dk me_X11_line 100 (.iaload) 1 101 := And.intro (by decide +kernel) rfl
theorem d_X11_line_101 : dk me_X11_line 101 (.isub) 1 102 := And.intro (by decide +kernel) rfl
theorem d_X11_line_102 : dk me_X11_line 102 (.ireturn) 1 103 := And.intro (by decide +kernel) rfl
theorem d_X11_line_103 : dk me_X11_line 103 (.aload 6) 2 105 := And.intro (by decide +kernel) rfl
theorem d_X11_line_105 : dk me_X11_line 105 (.iload_n 3) 1 106 := And.intro (by decide +kernel) rfl
theorem d_X11_line_106 : dk me_X11_line 106 (.invokevirtual 247) 3 109 := And.intro (by decide +kernel) rfl
theorem d_X11_line_109 : dk me_X11_line 109 (.ireturn) 1 110 := And.intro (by decide +kernel) rfl
theorem d_X11_line_110 : dk me_X11_line 110 (.aload 6) 2 112 := And.intro (by decide +kernel) rfl
theorem d_X11_line_112 : dk me_X11_line 112 (.getfield 250) 3 115 := And.intro (by decide +kernel) rfl
theorem d_X11_line_115 : dk me_X11_line 115 (.iload_n 3) 1 116 := And.intro (by decide +kernel) rfl
theorem d_X11_line_116 : dk me_X11_line 116 (.iaload) 1 117 := And.intro (by decide +kernel) rfl
theorem d_X11_line_117 : dk me_X11_line 117 (.ireturn) 1 118 := And.intro (by decide +kernel) rfl
theorem d_X11_line_118 : dk me_X11_line 118 (.aload 6) 2 120 := And.intro (by decide +kernel) rfl
theorem d_X11_line_120 : dk me_X11_line 120 (.getfield 253) 3 123 := And.intro (by decide +kernel) rfl
theorem d_X11_line_123 : dk me_X11_line 123 (.iload_n 3) 1 124 := And.intro (by decide +kernel) rfl
theorem d_X11_line_124 : dk me_X11_line 124 (.baload) 1 125 := And.intro (by decide +kernel) rfl
theorem d_X11_line_125 : dk me_X11_line 125 (.ifCond .eq 7) 3 128 := And.intro (by decide +kernel) rfl
theorem d_X11_line_128 : dk me_X11_line 128 (.iconst 1) 1 129 := And.intro (by decide +kernel) rfl
theorem d_X11_line_129 : dk me_X11_line 129 (.goto 4) 3 132 := And.intro (by decide +kernel) rfl
theorem d_X11_line_132 : dk me_X11_line 132 (.iconst 0) 1 133 := And.intro (by decide +kernel) rfl
theorem d_X11_line_133 : dk me_X11_line 133 (.ireturn) 1 134 := And.intro (by decide +kernel) rfl
theorem d_X11_line_134 : dk me_X11_line 134 (.aload 6) 2 136 := And.intro (by decide +kernel) rfl
theorem d_X11_line_136 : dk me_X11_line 136 (.aload 5) 2 138 := And.intro (by decide +kernel) rfl
theorem d_X11_line_138 : dk me_X11_line 138 (.getfield 153) 3 141 := And.intro (by decide +kernel) rfl
theorem d_X11_line_141 : dk me_X11_line 141 (.iload_n 3) 1 142 := And.intro (by decide +kernel) rfl
theorem d_X11_line_142 : dk me_X11_line 142 (.iconst 1) 1 143 := And.intro (by decide +kernel) rfl
theorem d_X11_line_143 : dk me_X11_line 143 (.invokevirtual 256) 3 146 := And.intro (by decide +kernel) rfl
theorem d_X11_line_146 : dk me_X11_line 146 (.ireturn) 1 147 := And.intro (by decide +kernel) rfl
theorem ms_X11_line {fx : FX} {m : MM} {l0 : Nat} {l1 : Int} {l2 : Int} {l3 : Int} {l4 : Int} : MS fx me_X11_line [aR (some (11, l0)), aI l1, aI l2, aI l3, aI l4] m (f_X11_line m l0 l1 l2 l3 l4) := by
  refine ms_of rfl mf_X11_line (b8 rfl) ?_
  refine s_top ?_
  show Sim fx me_X11_line 0 [(0, aR (some (11, l0))), (1, aI l1), (2, aI l2), (3, aI l3), (4, aI l4)] [] m _
  unfold f_X11_line
  have hj_X11_line_0_43 : ∀ (m_43 : MM) (l3_43 : Int) (l4_43 : Int) (l5_43 : Nat) (l6_43 : Nat) (s0_43 : Int), Sim fx me_X11_line 43 [(3, aI l3_43), (4, aI l4_43), (5, aR (some (0, l5_43))), (6, aR (some (4, l6_43)))] [aI s0_43] m_43 ((j_X11_line_0_43 m_43 l3_43 l4_43 l5_43 l6_43 s0_43).bind (fun z => some z)) := by
    intro m_43 l3_43 l4_43 l5_43 l6_43 s0_43
    unfold j_X11_line_0_43
    refine s_cV (r_S d_X11_line_43 k_X11_requireArgument w_284 rfl rfl) ms_X11_requireArgument (b8 rfl) rfl rfl rfl (fun h => by cases h) (fun _ _ => Or.inr rfl) fun m9 => (s_iload_n d_X11_line_46 m0_ (s_aload d_X11_line_47 m3_ (s_getN cf d_X11_line_49 fl_X11_238 (s_icmp_lt (tgt := 57) d_X11_line_52 rfl ?_ ?_))))
    · refine s_iload d_X11_line_57 m1_ (s_tsw (dt := 134) d_X11_line_59 n_0 rfl ⟨⟨88, rfl, ?_⟩, ⟨103, rfl, ?_⟩, ⟨110, rfl, ?_⟩, ⟨118, rfl, ?_⟩, trivial⟩ rfl ?_)
      · refine s_aload d_X11_line_88 m3_ (s_iload_n d_X11_line_90 m0_ (s_pI (r_V d_X11_line_91 k_X4_wordBehindLine w_1001 rfl rfl) ms_X4_wordBehindLine (b8 rfl) rfl rfl rfl fun v11 => (s_aload d_X11_line_94 m3_ (s_getR cf d_X11_line_96 fl_X11_244 (s_nk fun i12 => ?_)))))
        exact s_iload_n d_X11_line_99 m0_ (s_ldN d_X11_line_100 ka_31 rfl fun v13 => (s_isub d_X11_line_101 rfl rfl (s_ck (s_iret d_X11_line_102 rfl rfl))))
      · exact s_aload d_X11_line_103 m3_ (s_iload_n d_X11_line_105 m0_ (s_pI (r_V d_X11_line_106 k_X4_lastWord w_1002 rfl rfl) ms_X4_lastWord (b8 rfl) rfl rfl rfl fun v14 => (s_iret d_X11_line_109 rfl rfl)))
      · exact s_aload d_X11_line_110 m3_ (s_getR cf d_X11_line_112 fl_X11_250 (s_nk fun i15 => (s_iload_n d_X11_line_115 m0_ (s_ldN d_X11_line_116 ka_32 rfl fun v16 => (s_iret d_X11_line_117 rfl rfl)))))
      · refine s_aload d_X11_line_118 m3_ (s_getR cf d_X11_line_120 fl_X11_253 (s_nk fun i17 => (s_iload_n d_X11_line_123 m0_ (s_ldB d_X11_line_124 ka_33 rfl fun v18 => (s_if_eq (tgt := 132) d_X11_line_125 rfl ?_ ?_)))))
        · exact s_iconst d_X11_line_132 n_0 (s_iret d_X11_line_133 rfl rfl)
        exact s_iconst d_X11_line_128 n_1 (s_goto (tgt := 133) d_X11_line_129 rfl (s_iret d_X11_line_133 rfl rfl))
      refine s_aload d_X11_line_134 m3_ (s_aload d_X11_line_136 m2_ (s_getR cf d_X11_line_138 fl_X11_153 (s_nk fun i19 => (s_iload_n d_X11_line_141 m0_ (s_iconst d_X11_line_142 n_1 ?_)))))
      exact s_pI (r_V d_X11_line_143 k_X4_spellingsOf w_1007 rfl rfl) ms_X4_spellingsOf (b8 rfl) rfl rfl rfl fun v20 => (s_iret d_X11_line_146 rfl rfl)
    exact s_iconst d_X11_line_55 n_m1 (s_iret d_X11_line_56 rfl rfl)
  have hj_X11_line_0_42 : ∀ (m_42 : MM) (l3_42 : Int) (l4_42 : Int) (l5_42 : Nat) (l6_42 : Nat), Sim fx me_X11_line 42 [(3, aI l3_42), (4, aI l4_42), (5, aR (some (0, l5_42))), (6, aR (some (4, l6_42)))] [] m_42 ((j_X11_line_0_42 m_42 l3_42 l4_42 l5_42 l6_42).bind (fun z => some z)) := by
    intro m_42 l3_42 l4_42 l5_42 l6_42
    unfold j_X11_line_0_42
    exact s_iconst d_X11_line_42 n_0 (s_sub (subc m0_ (subc m1_ (subc m2_ (subc m3_ sub0)))) (hj_X11_line_0_43 m_42 l3_42 l4_42 l5_42 l6_42 0))
  have hj_X11_line_0_24 : ∀ (m_24 : MM) (l3_24 : Int) (l4_24 : Int) (l5_24 : Nat) (l6_24 : Nat) (s0_24 : Int), Sim fx me_X11_line 24 [(3, aI l3_24), (4, aI l4_24), (5, aR (some (0, l5_24))), (6, aR (some (4, l6_24)))] [aI s0_24] m_24 ((j_X11_line_0_24 m_24 l3_24 l4_24 l5_24 l6_24 s0_24).bind (fun z => some z)) := by
    intro m_24 l3_24 l4_24 l5_24 l6_24 s0_24
    unfold j_X11_line_0_24
    refine s_cV (r_S d_X11_line_24 k_X11_requireIndex w_451 rfl rfl) ms_X11_requireIndex (b8 rfl) rfl rfl rfl (fun h => by cases h) (fun _ _ => Or.inr rfl) fun m7 => (s_iload d_X11_line_27 m1_ (s_if_lt (tgt := 42) d_X11_line_29 rfl ?_ ?_))
    · exact s_sub (subc m0_ (subc m1_ (subc m2_ (subc m3_ sub0)))) (hj_X11_line_0_42 m7 l3_24 l4_24 l5_24 l6_24)
    refine s_iload d_X11_line_32 m1_ (s_iconst d_X11_line_34 n_4 (s_icmp_gt (tgt := 42) d_X11_line_35 rfl ?_ ?_))
    · exact s_sub (subc m0_ (subc m1_ (subc m2_ (subc m3_ sub0)))) (hj_X11_line_0_42 m7 l3_24 l4_24 l5_24 l6_24)
    exact s_iconst d_X11_line_38 n_1 (s_goto (tgt := 43) d_X11_line_39 rfl (s_sub (subc m0_ (subc m1_ (subc m2_ (subc m3_ sub0)))) (hj_X11_line_0_43 m7 l3_24 l4_24 l5_24 l6_24 1)))
  refine s_aload_n d_X11_line_0 m0_ (s_iload_n d_X11_line_1 m1_ (s_cR (r_V d_X11_line_2 k_X11_bookAt w_814 rfl rfl) ms_X11_bookAt (b8 rfl) rfl rfl rfl (fun h => by cases h) (fun _ _ => Or.inr rfl) fun r2 m1 => (s_nk fun i3 => (s_astore (L' := [(5, aR (some (0, i3))), (0, aR (some (11, l0))), (1, aI l1), (2, aI l2), (3, aI l3), (4, aI l4)]) d_X11_line_5 (b8 rfl) rfl (s_aload d_X11_line_7 m0_ ?_)))))
  refine s_iload_n d_X11_line_9 m3_ (s_cR (r_S d_X11_line_10 k_X11_pageOf w_884 rfl rfl) ms_X11_pageOf (b8 rfl) rfl rfl rfl (fun h => by cases h) (fun _ _ => Or.inr rfl) fun r5 m4 => (s_nk fun i6 => (s_astore (L' := [(6, aR (some (4, i6))), (5, aR (some (0, i3))), (0, aR (some (11, l0))), (1, aI l1), (2, aI l2), (3, aI l3), (4, aI l4)]) d_X11_line_13 (b8 rfl) rfl (s_iload_n d_X11_line_15 m5_ (s_if_lt (tgt := 23) d_X11_line_16 rfl ?_ ?_)))))
  · exact s_iconst d_X11_line_23 n_0 (s_sub (subc m5_ (subc m6_ (subc m1_ (subc m0_ sub0)))) (hj_X11_line_0_24 m4 l3 l4 i3 i6 0))
  exact s_iconst d_X11_line_19 n_1 (s_goto (tgt := 24) d_X11_line_20 rfl (s_sub (subc m5_ (subc m6_ (subc m1_ (subc m0_ sub0)))) (hj_X11_line_0_24 m4 l3 l4 i3 i6 1)))
theorem d_L_line_0 : dk me_L_line 0 (.aload 5) 2 2 := And.intro (by decide +kernel) rfl
theorem d_L_line_2 : dk me_L_line 2 (.iconst 0) 1 3 := And.intro (by decide +kernel) rfl
theorem d_L_line_3 : dk me_L_line 3 (.aload_n 0) 1 4 := And.intro (by decide +kernel) rfl
theorem d_L_line_4 : dk me_L_line 4 (.iload_n 1) 1 5 := And.intro (by decide +kernel) rfl
theorem d_L_line_5 : dk me_L_line 5 (.iload_n 2) 1 6 := And.intro (by decide +kernel) rfl
theorem d_L_line_6 : dk me_L_line 6 (.iload_n 3) 1 7 := And.intro (by decide +kernel) rfl
theorem d_L_line_7 : dk me_L_line 7 (.iload 4) 2 9 := And.intro (by decide +kernel) rfl
theorem d_L_line_9 : dk me_L_line 9 (.invokevirtual 60) 3 12 := And.intro (by decide +kernel) rfl
theorem d_L_line_12 : dk me_L_line 12 (.i2l) 1 13 := And.intro (by decide +kernel) rfl
theorem d_L_line_13 : dk me_L_line 13 (.lastore) 1 14 := And.intro (by decide +kernel) rfl
theorem d_L_line_14 : dk me_L_line 14 (.goto 11) 3 17 := And.intro (by decide +kernel) rfl
theorem d_L_line_17 : dk me_L_line 17 (.astore 6) 2 19 := And.intro (by decide +kernel) rfl
theorem d_L_line_19 : dk me_L_line 19 (.iconst 1) 1 20 := And.intro (by decide +kernel) rfl
theorem d_L_line_20 : dk me_L_line 20 (.ireturn) 1 21 := And.intro (by decide +kernel) rfl
theorem d_L_line_21 : dk me_L_line 21 (.astore 6) 2 23 := And.intro (by decide +kernel) rfl
theorem d_L_line_23 : dk me_L_line 23 (.iconst 2) 1 24 := And.intro (by decide +kernel) rfl
theorem d_L_line_24 : dk me_L_line 24 (.ireturn) 1 25 := And.intro (by decide +kernel) rfl
theorem d_L_line_25 : dk me_L_line 25 (.iconst 0) 1 26 := And.intro (by decide +kernel) rfl
theorem d_L_line_26 : dk me_L_line 26 (.ireturn) 1 27 := And.intro (by decide +kernel) rfl
theorem ms_L_line {fx : FX} {m : MM} {l0 : Nat} {l1 : Int} {l2 : Int} {l3 : Int} {l4 : Int} {l5 : Nat} : MS fx me_L_line [aR (some (11, l0)), aI l1, aI l2, aI l3, aI l4, aR (some (131, l5))] m (f_L_line m l0 l1 l2 l3 l4 l5) := by
  refine ms_ofH rfl mf_L_line (b8 rfl) ?_
  refine s_top ?_
  show Sim fx me_L_line 0 [(0, aR (some (11, l0))), (1, aI l1), (2, aI l2), (3, aI l3), (4, aI l4), (5, aR (some (131, l5)))] [] m _
  unfold f_L_line
  refine s_aload d_L_line_0 m5_ (s_iconst d_L_line_2 n_0 (s_aload_n d_L_line_3 m0_ (s_iload_n d_L_line_4 m1_ (s_iload_n d_L_line_5 m2_ (s_iload_n d_L_line_6 m3_ ?_)))))
  refine s_iload d_L_line_7 m4_ (s_cIC (r_V d_L_line_9 k_X11_line w_997 rfl rfl) ms_X11_line (b8 rfl) rfl rfl ?_ ?_ ?_ fun v2 m1 => ?_)
  · refine fun mx => Or.inr ⟨17, ⟨rfl, by decide, 0, wx_29_0, Or.inl ⟨rfl, rfl⟩⟩, fun qx => ?_⟩
    exact s_astoreV (L' := [(6, aV (.ref qx)), (0, aR (some (11, l0))), (1, aI l1), (2, aI l2), (3, aI l3), (4, aI l4), (5, aR (some (131, l5)))]) d_L_line_17 (b8 rfl) rfl (s_iconst d_L_line_19 n_1 (s_iret d_L_line_20 rfl rfl))
  · refine fun mx => Or.inr ⟨21, ⟨rfl, by decide, 0, wx_29_0, Or.inr ⟨by decide, ⟨rfl, by decide, 1, wx_13_1, Or.inl ⟨rfl, rfl⟩⟩⟩⟩, fun qx => ?_⟩
    exact s_astoreV (L' := [(6, aV (.ref qx)), (0, aR (some (11, l0))), (1, aI l1), (2, aI l2), (3, aI l3), (4, aI l4), (5, aR (some (131, l5)))]) d_L_line_21 (b8 rfl) rfl (s_iconst d_L_line_23 n_2 (s_iret d_L_line_24 rfl rfl))
  · exact fun _ => Or.inl rfl
  exact s_i2l d_L_line_12 (s_stL d_L_line_13 ka_131 rfl fun m3 => (s_goto (tgt := 25) d_L_line_14 rfl (s_iconst d_L_line_25 n_0 (s_iret d_L_line_26 rfl rfl))))
theorem d_X0_holdsSkeleton_0 : dk me_X0_holdsSkeleton 0 (.aload_n 0) 1 1 := And.intro (by decide +kernel) rfl
theorem d_X0_holdsSkeleton_1 : dk me_X0_holdsSkeleton 1 (.getfield 42) 3 4 := And.intro (by decide +kernel) rfl
theorem d_X0_holdsSkeleton_4 : dk me_X0_holdsSkeleton 4 (.astore_n 2) 1 5 := And.intro (by decide +kernel) rfl
theorem d_X0_holdsSkeleton_5 : dk me_X0_holdsSkeleton 5 (.aload_n 2) 1 6 := And.intro (by decide +kernel) rfl
theorem d_X0_holdsSkeleton_6 : dk me_X0_holdsSkeleton 6 (.arraylength) 1 7 := And.intro (by decide +kernel) rfl
theorem d_X0_holdsSkeleton_7 : dk me_X0_holdsSkeleton 7 (.istore_n 3) 1 8 := And.intro (by decide +kernel) rfl
theorem d_X0_holdsSkeleton_8 : dk me_X0_holdsSkeleton 8 (.iconst 0) 1 9 := And.intro (by decide +kernel) rfl
theorem d_X0_holdsSkeleton_9 : dk me_X0_holdsSkeleton 9 (.istore 4) 2 11 := And.intro (by decide +kernel) rfl
theorem d_X0_holdsSkeleton_11 : dk me_X0_holdsSkeleton 11 (.iload 4) 2 13 := And.intro (by decide +kernel) rfl
theorem d_X0_holdsSkeleton_13 : dk me_X0_holdsSkeleton 13 (.iload_n 3) 1 14 := And.intro (by decide +kernel) rfl
theorem d_X0_holdsSkeleton_14 : dk me_X0_holdsSkeleton 14 (.if_icmp .ge 35) 3 17 := And.intro (by decide +kernel) rfl
theorem d_X0_holdsSkeleton_17 : dk me_X0_holdsSkeleton 17 (.aload_n 2) 1 18 := And.intro (by decide +kernel) rfl
theorem d_X0_holdsSkeleton_18 : dk me_X0_holdsSkeleton 18 (.iload 4) 2 20 := And.intro (by decide +kernel) rfl
theorem d_X0_holdsSkeleton_20 : dk me_X0_holdsSkeleton 20 (.aaload) 1 21 := And.intro (by decide +kernel) rfl
theorem d_X0_holdsSkeleton_21 : dk me_X0_holdsSkeleton 21 (.astore 5) 2 23 := And.intro (by decide +kernel) rfl
theorem d_X0_holdsSkeleton_23 : dk me_X0_holdsSkeleton 23 (.aload 5) 2 25 := And.intro (by decide +kernel) rfl
theorem d_X0_holdsSkeleton_25 : dk me_X0_holdsSkeleton 25 (.getfield 82) 3 28 := And.intro (by decide +kernel) rfl
theorem d_X0_holdsSkeleton_28 : dk me_X0_holdsSkeleton 28 (.iload_n 1) 1 29 := And.intro (by decide +kernel) rfl
theorem d_X0_holdsSkeleton_29 : dk me_X0_holdsSkeleton 29 (.if_icmp .ne 14) 3 32 := And.intro (by decide +kernel) rfl
theorem d_X0_holdsSkeleton_32 : dk me_X0_holdsSkeleton 32 (.aload 5) 2 34 := And.intro (by decide +kernel) rfl
theorem d_X0_holdsSkeleton_34 : dk me_X0_holdsSkeleton 34 (.getfield 121) 3 37 := And.intro (by decide +kernel) rfl
theorem d_X0_holdsSkeleton_37 : dk me_X0_holdsSkeleton 37 (.iconst 4) 1 38 := And.intro (by decide +kernel) rfl
theorem d_X0_holdsSkeleton_38 : dk me_X0_holdsSkeleton 38 (.if_icmp .eq 5) 3 41 := And.intro (by decide +kernel) rfl
theorem d_X0_holdsSkeleton_41 : dk me_X0_holdsSkeleton 41 (.iconst 1) 1 42 := And.intro (by decide +kernel) rfl
theorem d_X0_holdsSkeleton_42 : dk me_X0_holdsSkeleton 42 (.ireturn) 1 43 := And.intro (by decide +kernel) rfl
theorem d_X0_holdsSkeleton_43 : dk me_X0_holdsSkeleton 43 (.iinc 4 1) 3 46 := And.intro (by decide +kernel) rfl
theorem d_X0_holdsSkeleton_46 : dk me_X0_holdsSkeleton 46 (.goto (-35)) 3 49 := And.intro (by decide +kernel) rfl
theorem d_X0_holdsSkeleton_49 : dk me_X0_holdsSkeleton 49 (.iconst 0) 1 50 := And.intro (by decide +kernel) rfl
theorem d_X0_holdsSkeleton_50 : dk me_X0_holdsSkeleton 50 (.ireturn) 1 51 := And.intro (by decide +kernel) rfl
theorem ms_X0_holdsSkeleton {fx : FX} {m : MM} {l0 : Nat} {l1 : Int} : MS fx me_X0_holdsSkeleton [aR (some (0, l0)), aI l1] m ((f_X0_holdsSkeleton m l0 l1).bind fun v => some (.inl (some (aI v)), m)) := by
  refine ms_of rfl mf_X0_holdsSkeleton (b8 rfl) ?_
  show Sim fx me_X0_holdsSkeleton 0 [(0, aR (some (0, l0))), (1, aI l1)] [] m _
  unfold f_X0_holdsSkeleton
  have hj_X0_holdsSkeleton_0_49 : Sim fx me_X0_holdsSkeleton 49 [] [] m ((j_X0_holdsSkeleton_0_49 m).bind (fun v => some (.inl (some (aI v)), m))) := by
    unfold j_X0_holdsSkeleton_0_49
    exact s_iconst d_X0_holdsSkeleton_49 n_0 (s_zretl d_X0_holdsSkeleton_50 rfl (by decide) rfl)
  refine s_aload_n d_X0_holdsSkeleton_0 m0_ (s_getR cf d_X0_holdsSkeleton_1 fl_X0_42 (s_nk fun i1 => (s_astore_n (L' := [(2, aR (some (14, i1))), (0, aR (some (0, l0))), (1, aI l1)]) d_X0_holdsSkeleton_4 (b8 rfl) rfl (s_aload_n d_X0_holdsSkeleton_5 m0_ (s_len d_X0_holdsSkeleton_6 ka_14 ta_14 ?_)))))
  refine s_istore_n (L' := [(3, aI (lenI m 14 i1)), (2, aR (some (14, i1))), (0, aR (some (0, l0))), (1, aI l1)]) d_X0_holdsSkeleton_7 (b8 rfl) rfl (s_iconst d_X0_holdsSkeleton_8 n_0 (s_istore (L' := [(4, aI 0), (3, aI (lenI m 14 i1)), (2, aR (some (14, i1))), (0, aR (some (0, l0))), (1, aI l1)]) d_X0_holdsSkeleton_9 (b8 rfl) rfl (s_sub (subc m0_ (subc m4_ (subc m2_ (subc m1_ sub0)))) (s_lp2 (fun s => [(4, aI s), (1, aI l1), (2, aR (some (14, i1))), (3, aI (lenI m 14 i1))]) (fun s => m) 0 fun k11 hx11 s ih0 => ?_))))
  obtain ⟨l4_11, rfl⟩ : ∃ q, q = s := ⟨s, rfl⟩
  have ih11 := ih0
  clear ih0
  try dsimp only
  unfold b_X0_holdsSkeleton_11
  refine s_iload d_X0_holdsSkeleton_11 m0_ (s_iload_n d_X0_holdsSkeleton_13 m3_ (s_icmp_ge (tgt := 49) d_X0_holdsSkeleton_14 rfl ?_ ?_))
  · exact s_exit (hx11 _) (s_sub (sub0) (hj_X0_holdsSkeleton_0_49 ))
  refine s_aload_n d_X0_holdsSkeleton_17 m2_ (s_iload d_X0_holdsSkeleton_18 m0_ (s_ldR d_X0_holdsSkeleton_20 ka_14 ta_14 rfl rfl fun r2 => (s_nk fun i3 => (s_astore (L' := [(5, aR (some (2, i3))), (4, aI l4_11), (1, aI l1), (2, aR (some (14, i1))), (3, aI (lenI m 14 i1))]) d_X0_holdsSkeleton_21 (b8 rfl) rfl (s_aload d_X0_holdsSkeleton_23 m0_ ?_)))))
  refine s_getN cf d_X0_holdsSkeleton_25 fl_X0_82 (s_iload_n d_X0_holdsSkeleton_28 m2_ (s_icmp_ne (tgt := 43) d_X0_holdsSkeleton_29 rfl ?_ ?_))
  · exact s_iinc (L' := [(4, aI (l4_11 + 1)), (5, aR (some (2, i3))), (1, aI l1), (2, aR (some (14, i1))), (3, aI (lenI m 14 i1))]) d_X0_holdsSkeleton_43 m1_ (b8 rfl) rfl (s_goto (tgt := 11) d_X0_holdsSkeleton_46 rfl (s_sub (subc m0_ (subc m2_ (subc m3_ (subc m4_ sub0)))) (s_back (ih11 (l4_11 + 1)))))
  refine s_aload d_X0_holdsSkeleton_32 m0_ (s_getN cf d_X0_holdsSkeleton_34 fl_X0_121 (s_iconst d_X0_holdsSkeleton_37 n_4 (s_icmp_eq (tgt := 43) d_X0_holdsSkeleton_38 rfl ?_ ?_)))
  · exact s_iinc (L' := [(4, aI (l4_11 + 1)), (5, aR (some (2, i3))), (1, aI l1), (2, aR (some (14, i1))), (3, aI (lenI m 14 i1))]) d_X0_holdsSkeleton_43 m1_ (b8 rfl) rfl (s_goto (tgt := 11) d_X0_holdsSkeleton_46 rfl (s_sub (subc m0_ (subc m2_ (subc m3_ (subc m4_ sub0)))) (s_back (ih11 (l4_11 + 1)))))
  exact s_iconst d_X0_holdsSkeleton_41 n_1 (s_zretl d_X0_holdsSkeleton_42 rfl (by decide) ((hx11 _).trans rfl))
theorem d_X11_isInUse_0 : dk me_X11_isInUse 0 (.aload_n 0) 1 1 := And.intro (by decide +kernel) rfl
theorem d_X11_isInUse_1 : dk me_X11_isInUse 1 (.getfield 31) 3 4 := And.intro (by decide +kernel) rfl
theorem d_X11_isInUse_4 : dk me_X11_isInUse 4 (.astore_n 2) 1 5 := And.intro (by decide +kernel) rfl
theorem d_X11_isInUse_5 : dk me_X11_isInUse 5 (.aload_n 2) 1 6 := And.intro (by decide +kernel) rfl
theorem d_X11_isInUse_6 : dk me_X11_isInUse 6 (.arraylength) 1 7 := And.intro (by decide +kernel) rfl
theorem d_X11_isInUse_7 : dk me_X11_isInUse 7 (.istore_n 3) 1 8 := And.intro (by decide +kernel) rfl
theorem d_X11_isInUse_8 : dk me_X11_isInUse 8 (.iconst 0) 1 9 := And.intro (by decide +kernel) rfl
theorem d_X11_isInUse_9 : dk me_X11_isInUse 9 (.istore 4) 2 11 := And.intro (by decide +kernel) rfl
theorem d_X11_isInUse_11 : dk me_X11_isInUse 11 (.iload 4) 2 13 := And.intro (by decide +kernel) rfl
theorem d_X11_isInUse_13 : dk me_X11_isInUse 13 (.iload_n 3) 1 14 := And.intro (by decide +kernel) rfl
theorem d_X11_isInUse_14 : dk me_X11_isInUse 14 (.if_icmp .ge 31) 3 17 := And.intro (by decide +kernel) rfl
theorem d_X11_isInUse_17 : dk me_X11_isInUse 17 (.aload_n 2) 1 18 := And.intro (by decide +kernel) rfl
theorem d_X11_isInUse_18 : dk me_X11_isInUse 18 (.iload 4) 2 20 := And.intro (by decide +kernel) rfl
theorem d_X11_isInUse_20 : dk me_X11_isInUse 20 (.aaload) 1 21 := And.intro (by decide +kernel) rfl
theorem d_X11_isInUse_21 : dk me_X11_isInUse 21 (.astore 5) 2 23 := And.intro (by decide +kernel) rfl
theorem d_X11_isInUse_23 : dk me_X11_isInUse 23 (.aload 5) 2 25 := And.intro (by decide +kernel) rfl
theorem d_X11_isInUse_25 : dk me_X11_isInUse 25 (.ifnull 14) 3 28 := And.intro (by decide +kernel) rfl
theorem d_X11_isInUse_28 : dk me_X11_isInUse 28 (.aload 5) 2 30 := And.intro (by decide +kernel) rfl
theorem d_X11_isInUse_30 : dk me_X11_isInUse 30 (.iload_n 1) 1 31 := And.intro (by decide +kernel) rfl
theorem d_X11_isInUse_31 : dk me_X11_isInUse 31 (.invokevirtual 473) 3 34 := And.intro (by decide +kernel) rfl
theorem d_X11_isInUse_34 : dk me_X11_isInUse 34 (.ifCond .eq 5) 3 37 := And.intro (by decide +kernel) rfl
theorem d_X11_isInUse_37 : dk me_X11_isInUse 37 (.iconst 1) 1 38 := And.intro (by decide +kernel) rfl
theorem d_X11_isInUse_38 : dk me_X11_isInUse 38 (.ireturn) 1 39 := And.intro (by decide +kernel) rfl
theorem d_X11_isInUse_39 : dk me_X11_isInUse 39 (.iinc 4 1) 3 42 := And.intro (by decide +kernel) rfl
theorem d_X11_isInUse_42 : dk me_X11_isInUse 42 (.goto (-31)) 3 45 := And.intro (by decide +kernel) rfl
theorem d_X11_isInUse_45 : dk me_X11_isInUse 45 (.iconst 0) 1 46 := And.intro (by decide +kernel) rfl
theorem d_X11_isInUse_46 : dk me_X11_isInUse 46 (.ireturn) 1 47 := And.intro (by decide +kernel) rfl
theorem ms_X11_isInUse {fx : FX} {m : MM} {l0 : Nat} {l1 : Int} : MS fx me_X11_isInUse [aR (some (11, l0)), aI l1] m ((f_X11_isInUse m l0 l1).bind fun v => some (.inl (some (aI v)), m)) := by
  refine ms_of rfl mf_X11_isInUse (b8 rfl) ?_
  show Sim fx me_X11_isInUse 0 [(0, aR (some (11, l0))), (1, aI l1)] [] m _
  unfold f_X11_isInUse
  have hj_X11_isInUse_0_45 : Sim fx me_X11_isInUse 45 [] [] m ((j_X11_isInUse_0_45 m).bind (fun v => some (.inl (some (aI v)), m))) := by
    unfold j_X11_isInUse_0_45
    exact s_iconst d_X11_isInUse_45 n_0 (s_zretl d_X11_isInUse_46 rfl (by decide) rfl)
  refine s_aload_n d_X11_isInUse_0 m0_ (s_getR cf d_X11_isInUse_1 fl_X11_31 (s_nk fun i1 => (s_astore_n (L' := [(2, aR (some (56, i1))), (0, aR (some (11, l0))), (1, aI l1)]) d_X11_isInUse_4 (b8 rfl) rfl (s_aload_n d_X11_isInUse_5 m0_ (s_len d_X11_isInUse_6 ka_56 ta_56 ?_)))))
  refine s_istore_n (L' := [(3, aI (lenI m 56 i1)), (2, aR (some (56, i1))), (0, aR (some (11, l0))), (1, aI l1)]) d_X11_isInUse_7 (b8 rfl) rfl (s_iconst d_X11_isInUse_8 n_0 (s_istore (L' := [(4, aI 0), (3, aI (lenI m 56 i1)), (2, aR (some (56, i1))), (0, aR (some (11, l0))), (1, aI l1)]) d_X11_isInUse_9 (b8 rfl) rfl (s_sub (subc m0_ (subc m4_ (subc m2_ (subc m1_ sub0)))) (s_lp2 (fun s => [(4, aI s), (1, aI l1), (2, aR (some (56, i1))), (3, aI (lenI m 56 i1))]) (fun s => m) 0 fun k11 hx11 s ih0 => ?_))))
  obtain ⟨l4_11, rfl⟩ : ∃ q, q = s := ⟨s, rfl⟩
  have ih11 := ih0
  clear ih0
  try dsimp only
  unfold b_X11_isInUse_11
  refine s_iload d_X11_isInUse_11 m0_ (s_iload_n d_X11_isInUse_13 m3_ (s_icmp_ge (tgt := 45) d_X11_isInUse_14 rfl ?_ ?_))
  · exact s_exit (hx11 _) (s_sub (sub0) (hj_X11_isInUse_0_45 ))
  refine s_aload_n d_X11_isInUse_17 m2_ (s_iload d_X11_isInUse_18 m0_ (s_ldR d_X11_isInUse_20 ka_56 ta_56 rfl rfl fun r2 => (s_astore (L' := [(5, aR r2), (4, aI l4_11), (1, aI l1), (2, aR (some (56, i1))), (3, aI (lenI m 56 i1))]) d_X11_isInUse_21 (b8 rfl) rfl (s_aload d_X11_isInUse_23 m0_ (s_ifnull (tgt := 39) d_X11_isInUse_25 rfl ?_ ?_)))))
  · exact s_iinc (L' := [(4, aI (l4_11 + 1)), (5, aR r2), (1, aI l1), (2, aR (some (56, i1))), (3, aI (lenI m 56 i1))]) d_X11_isInUse_39 m1_ (b8 rfl) rfl (s_goto (tgt := 11) d_X11_isInUse_42 rfl (s_sub (subc m0_ (subc m2_ (subc m3_ (subc m4_ sub0)))) (s_back (ih11 (l4_11 + 1)))))
  refine s_aload d_X11_isInUse_28 m0_ (s_nk fun i3 => (s_iload_n d_X11_isInUse_30 m2_ (s_pI (r_V d_X11_isInUse_31 k_X0_holdsSkeleton w_1042 rfl rfl) ms_X0_holdsSkeleton (b8 rfl) rfl rfl rfl fun v4 => (s_if_eq (tgt := 39) d_X11_isInUse_34 rfl ?_ ?_))))
  · exact s_iinc (L' := [(4, aI (l4_11 + 1)), (5, aR r2), (1, aI l1), (2, aR (some (56, i1))), (3, aI (lenI m 56 i1))]) d_X11_isInUse_39 m1_ (b8 rfl) rfl (s_goto (tgt := 11) d_X11_isInUse_42 rfl (s_sub (subc m0_ (subc m2_ (subc m3_ (subc m4_ sub0)))) (s_back (ih11 (l4_11 + 1)))))
  exact s_iconst d_X11_isInUse_37 n_1 (s_zretl d_X11_isInUse_38 rfl (by decide) ((hx11 _).trans rfl))
theorem d_X2_allPagesSet_0 : dk me_X2_allPagesSet 0 (.aload_n 0) 1 1 := And.intro (by decide +kernel) rfl
theorem d_X2_allPagesSet_1 : dk me_X2_allPagesSet 1 (.getfield 31) 3 4 := And.intro (by decide +kernel) rfl
theorem d_X2_allPagesSet_4 : dk me_X2_allPagesSet 4 (.astore_n 1) 1 5 := And.intro (by decide +kernel) rfl
theorem d_X2_allPagesSet_5 : dk me_X2_allPagesSet 5 (.aload_n 1) 1 6 := And.intro (by decide +kernel) rfl
theorem d_X2_allPagesSet_6 : dk me_X2_allPagesSet 6 (.arraylength) 1 7 := And.intro (by decide +kernel) rfl
theorem d_X2_allPagesSet_7 : dk me_X2_allPagesSet 7 (.istore_n 2) 1 8 := And.intro (by decide +kernel) rfl
theorem d_X2_allPagesSet_8 : dk me_X2_allPagesSet 8 (.iconst 0) 1 9 := And.intro (by decide +kernel) rfl
theorem d_X2_allPagesSet_9 : dk me_X2_allPagesSet 9 (.istore_n 3) 1 10 := And.intro (by decide +kernel) rfl
theorem d_X2_allPagesSet_10 : dk me_X2_allPagesSet 10 (.iload_n 3) 1 11 := And.intro (by decide +kernel) rfl
theorem d_X2_allPagesSet_11 : dk me_X2_allPagesSet 11 (.iload_n 2) 1 12 := And.intro (by decide +kernel) rfl
theorem d_X2_allPagesSet_12 : dk me_X2_allPagesSet 12 (.if_icmp .ge 24) 3 15 := And.intro (by decide +kernel) rfl
theorem d_X2_allPagesSet_15 : dk me_X2_allPagesSet 15 (.aload_n 1) 1 16 := And.intro (by decide +kernel) rfl
theorem d_X2_allPagesSet_16 : dk me_X2_allPagesSet 16 (.iload_n 3) 1 17 := And.intro (by decide +kernel) rfl
theorem d_X2_allPagesSet_17 : dk me_X2_allPagesSet 17 (.aaload) 1 18 := And.intro (by decide +kernel) rfl
theorem d_X2_allPagesSet_18 : dk me_X2_allPagesSet 18 (.astore 4) 2 20 := And.intro (by decide +kernel) rfl
theorem d_X2_allPagesSet_20 : dk me_X2_allPagesSet 20 (.aload 4) 2 22 := And.intro (by decide +kernel) rfl
theorem d_X2_allPagesSet_22 : dk me_X2_allPagesSet 22 (.invokevirtual 41) 3 25 := And.intro (by decide +kernel) rfl
theorem d_X2_allPagesSet_25 : dk me_X2_allPagesSet 25 (.ifCond .ne 5) 3 28 := And.intro (by decide +kernel) rfl
theorem d_X2_allPagesSet_28 : dk me_X2_allPagesSet 28 (.iconst 0) 1 29 := And.intro (by decide +kernel) rfl
theorem d_X2_allPagesSet_29 : dk me_X2_allPagesSet 29 (.ireturn) 1 30 := And.intro (by decide +kernel) rfl
theorem d_X2_allPagesSet_30 : dk me_X2_allPagesSet 30 (.iinc 3 1) 3 33 := And.intro (by decide +kernel) rfl
theorem d_X2_allPagesSet_33 : dk me_X2_allPagesSet 33 (.goto (-23)) 3 36 := And.intro (by decide +kernel) rfl
theorem d_X2_allPagesSet_36 : dk me_X2_allPagesSet 36 (.iconst 1) 1 37 := And.intro (by decide +kernel) rfl
theorem d_X2_allPagesSet_37 : dk me_X2_allPagesSet 37 (.ireturn) 1 38 := And.intro (by decide +kernel) rfl
theorem ms_X2_allPagesSet {fx : FX} {m : MM} {l0 : Nat} : MS fx me_X2_allPagesSet [aR (some (2, l0))] m ((f_X2_allPagesSet m l0).bind fun v => some (.inl (some (aI v)), m)) := by
  refine ms_of rfl mf_X2_allPagesSet (b8 rfl) ?_
  show Sim fx me_X2_allPagesSet 0 [(0, aR (some (2, l0)))] [] m _
  unfold f_X2_allPagesSet
  have hj_X2_allPagesSet_0_36 : Sim fx me_X2_allPagesSet 36 [] [] m ((j_X2_allPagesSet_0_36 m).bind (fun v => some (.inl (some (aI v)), m))) := by
    unfold j_X2_allPagesSet_0_36
    exact s_iconst d_X2_allPagesSet_36 n_1 (s_zretl d_X2_allPagesSet_37 rfl (by decide) rfl)
  refine s_aload_n d_X2_allPagesSet_0 m0_ (s_getR cf d_X2_allPagesSet_1 fl_X2_31 (s_nk fun i1 => (s_astore_n (L' := [(1, aR (some (19, i1))), (0, aR (some (2, l0)))]) d_X2_allPagesSet_4 (b8 rfl) rfl (s_aload_n d_X2_allPagesSet_5 m0_ (s_len d_X2_allPagesSet_6 ka_19 ta_19 ?_)))))
  refine s_istore_n (L' := [(2, aI (lenI m 19 i1)), (1, aR (some (19, i1))), (0, aR (some (2, l0)))]) d_X2_allPagesSet_7 (b8 rfl) rfl (s_iconst d_X2_allPagesSet_8 n_0 (s_istore_n (L' := [(3, aI 0), (2, aI (lenI m 19 i1)), (1, aR (some (19, i1))), (0, aR (some (2, l0)))]) d_X2_allPagesSet_9 (b8 rfl) rfl (s_sub (subc m0_ (subc m2_ (subc m1_ sub0))) (s_lp2 (fun s => [(3, aI s), (1, aR (some (19, i1))), (2, aI (lenI m 19 i1))]) (fun s => m) 0 fun k10 hx10 s ih0 => ?_))))
  obtain ⟨l3_10, rfl⟩ : ∃ q, q = s := ⟨s, rfl⟩
  have ih10 := ih0
  clear ih0
  try dsimp only
  unfold b_X2_allPagesSet_10
  refine s_iload_n d_X2_allPagesSet_10 m0_ (s_iload_n d_X2_allPagesSet_11 m2_ (s_icmp_ge (tgt := 36) d_X2_allPagesSet_12 rfl ?_ ?_))
  · exact s_exit (hx10 _) (s_sub (sub0) (hj_X2_allPagesSet_0_36 ))
  refine s_aload_n d_X2_allPagesSet_15 m1_ (s_iload_n d_X2_allPagesSet_16 m0_ (s_ldR d_X2_allPagesSet_17 ka_19 ta_19 rfl rfl fun r2 => (s_nk fun i3 => (s_astore (L' := [(4, aR (some (4, i3))), (3, aI l3_10), (1, aR (some (19, i1))), (2, aI (lenI m 19 i1))]) d_X2_allPagesSet_18 (b8 rfl) rfl (s_aload d_X2_allPagesSet_20 m0_ ?_)))))
  refine s_pI (r_V d_X2_allPagesSet_22 k_X4_isSet w_1037 rfl rfl) ms_X4_isSet (b8 rfl) rfl rfl rfl fun v4 => (s_if_ne (tgt := 30) d_X2_allPagesSet_25 rfl ?_ ?_)
  · exact s_iinc (L' := [(3, aI (l3_10 + 1)), (4, aR (some (4, i3))), (1, aR (some (19, i1))), (2, aI (lenI m 19 i1))]) d_X2_allPagesSet_30 m1_ (b8 rfl) rfl (s_goto (tgt := 10) d_X2_allPagesSet_33 rfl (s_sub (subc m0_ (subc m2_ (subc m3_ sub0))) (s_back (ih10 (l3_10 + 1)))))
  exact s_iconst d_X2_allPagesSet_28 n_0 (s_zretl d_X2_allPagesSet_29 rfl (by decide) ((hx10 _).trans rfl))
theorem d_X11_lock_0 : dk me_X11_lock 0 (.aload_n 0) 1 1 := And.intro (by decide +kernel) rfl
theorem d_X11_lock_1 : dk me_X11_lock 1 (.iload_n 1) 1 2 := And.intro (by decide +kernel) rfl
theorem d_X11_lock_2 : dk me_X11_lock 2 (.invokevirtual 143) 3 5 := And.intro (by decide +kernel) rfl
theorem d_X11_lock_5 : dk me_X11_lock 5 (.iload_n 2) 1 6 := And.intro (by decide +kernel) rfl
theorem d_X11_lock_6 : dk me_X11_lock 6 (.invokestatic 269) 3 9 := And.intro (by decide +kernel) rfl
theorem d_X11_lock_9 : dk me_X11_lock 9 (.astore 4) 2 11 := And.intro (by decide +kernel) rfl
theorem d_X11_lock_11 : dk me_X11_lock 11 (.iload_n 3) 1 12 := And.intro (by decide +kernel) rfl
theorem d_X11_lock_12 : dk me_X11_lock 12 (.ifCond .lt 13) 3 15 := And.intro (by decide +kernel) rfl
theorem d_X11_lock_15 : dk me_X11_lock 15 (.iload_n 3) 1 16 := And.intro (by decide +kernel) rfl
theorem d_X11_lock_16 : dk me_X11_lock 16 (.bipush 6) 2 18 := And.intro (by decide +kernel) rfl
theorem d_X11_lock_18 : dk me_X11_lock 18 (.if_icmp .ge 7) 3 21 := And.intro (by decide +kernel) rfl
theorem d_X11_lock_21 : dk me_X11_lock 21 (.iconst 1) 1 22 := And.intro (by decide +kernel) rfl
theorem d_X11_lock_22 : dk me_X11_lock 22 (.goto 4) 3 25 := And.intro (by decide +kernel) rfl
theorem d_X11_lock_25 : dk me_X11_lock 25 (.iconst 0) 1 26 := And.intro (by decide +kernel) rfl
theorem d_X11_lock_26 : dk me_X11_lock 26 (.invokestatic 53) 3 29 := And.intro (by decide +kernel) rfl
theorem d_X11_lock_29 : dk me_X11_lock 29 (.aload 4) 2 31 := And.intro (by decide +kernel) rfl
theorem d_X11_lock_31 : dk me_X11_lock 31 (.getfield 273) 3 34 := And.intro (by decide +kernel) rfl
theorem d_X11_lock_34 : dk me_X11_lock 34 (.ifCond .ne 23) 3 37 := And.intro (by decide +kernel) rfl
theorem d_X11_lock_37 : dk me_X11_lock 37 (.aload 4) 2 39 := And.intro (by decide +kernel) rfl
theorem d_X11_lock_39 : dk me_X11_lock 39 (.invokevirtual 278) 3 42 := And.intro (by decide +kernel) rfl
theorem d_X11_lock_42 : dk me_X11_lock 42 (.ifCond .eq 15) 3 45 := And.intro (by decide +kernel) rfl
theorem d_X11_lock_45 : dk me_X11_lock 45 (.aload_n 0) 1 46 := And.intro (by decide +kernel) rfl
theorem d_X11_lock_46 : dk me_X11_lock 46 (.iload_n 3) 1 47 := And.intro (by decide +kernel) rfl
theorem d_X11_lock_47 : dk me_X11_lock 47 (.invokevirtual 281) 3 50 := And.intro (by decide +kernel) rfl
theorem d_X11_lock_50 : dk me_X11_lock 50 (.ifCond .ne 7) 3 53 := And.intro (by decide +kernel) rfl
theorem d_X11_lock_53 : dk me_X11_lock 53 (.iconst 1) 1 54 := And.intro (by decide +kernel) rfl
theorem d_X11_lock_54 : dk me_X11_lock 54 (.goto 4) 3 57 := And.intro (by decide +kernel) rfl
theorem d_X11_lock_57 : dk me_X11_lock 57 (.iconst 0) 1 58 := And.intro (by decide +kernel) rfl
theorem d_X11_lock_58 : dk me_X11_lock 58 (.invokestatic 69) 3 61 := And.intro (by decide +kernel) rfl
theorem d_X11_lock_61 : dk me_X11_lock 61 (.aload 4) 2 63 := And.intro (by decide +kernel) rfl
theorem d_X11_lock_63 : dk me_X11_lock 63 (.iload_n 3) 1 64 := And.intro (by decide +kernel) rfl
theorem d_X11_lock_64 : dk me_X11_lock 64 (.putfield 284) 3 67 := And.intro (by decide +kernel) rfl
theorem d_X11_lock_67 : dk me_X11_lock 67 (.aload 4) 2 69 := And.intro (by decide +kernel) rfl
theorem d_X11_lock_69 : dk me_X11_lock 69 (.iconst 1) 1 70 := And.intro (by decide +kernel) rfl
theorem d_X11_lock_70 : dk me_X11_lock 70 (.putfield 273) 3 73 := And.intro (by decide +kernel) rfl
theorem d_X11_lock_73 : dk me_X11_lock 73 (.return_) 1 74 := And.intro (by decide +kernel) rfl
theorem ms_X11_lock {fx : FX} {m : MM} {l0 : Nat} {l1 : Int} {l2 : Int} {l3 : Int} : MS fx me_X11_lock [aR (some (11, l0)), aI l1, aI l2, aI l3] m (f_X11_lock m l0 l1 l2 l3) := by
  refine ms_of rfl mf_X11_lock (b8 rfl) ?_
  refine s_top ?_
  show Sim fx me_X11_lock 0 [(0, aR (some (11, l0))), (1, aI l1), (2, aI l2), (3, aI l3)] [] m _
  unfold f_X11_lock
  have hj_X11_lock_0_58 : ∀ (m_58 : MM) (l3_58 : Int) (l4_58 : Nat) (s0_58 : Int), Sim fx me_X11_lock 58 [(3, aI l3_58), (4, aR (some (2, l4_58)))] [aI s0_58] m_58 ((j_X11_lock_0_58 m_58 l3_58 l4_58 s0_58).bind (fun z => some z)) := by
    intro m_58 l3_58 l4_58 s0_58
    unfold j_X11_lock_0_58
    refine s_cV (r_S d_X11_lock_58 k_X11_requireState w_363 rfl rfl) ms_X11_requireState (b8 rfl) rfl rfl rfl (fun h => by cases h) (fun _ _ => Or.inr rfl) fun m11 => (s_aload d_X11_lock_61 m1_ (s_iload_n d_X11_lock_63 m0_ (s_putN cf d_X11_lock_64 fl_X11_284 (fun h => by cases h) fun m13 => (s_aload d_X11_lock_67 m1_ (s_iconst d_X11_lock_69 n_1 ?_)))))
    exact s_putN cf d_X11_lock_70 fl_X11_273 (fun h => by cases h) fun m14 => (s_vret d_X11_lock_73 rfl rfl)
  have hj_X11_lock_0_57 : ∀ (m_57 : MM) (l3_57 : Int) (l4_57 : Nat), Sim fx me_X11_lock 57 [(3, aI l3_57), (4, aR (some (2, l4_57)))] [] m_57 ((j_X11_lock_0_57 m_57 l3_57 l4_57).bind (fun z => some z)) := by
    intro m_57 l3_57 l4_57
    unfold j_X11_lock_0_57
    exact s_iconst d_X11_lock_57 n_0 (s_sub (subc m0_ (subc m1_ sub0)) (hj_X11_lock_0_58 m_57 l3_57 l4_57 0))
  have hj_X11_lock_0_26 : ∀ (m_26 : MM) (l0_26 : Nat) (l3_26 : Int) (l4_26 : Nat) (s0_26 : Int), Sim fx me_X11_lock 26 [(0, aR (some (11, l0_26))), (3, aI l3_26), (4, aR (some (2, l4_26)))] [aI s0_26] m_26 ((j_X11_lock_0_26 m_26 l0_26 l3_26 l4_26 s0_26).bind (fun z => some z)) := by
    intro m_26 l0_26 l3_26 l4_26 s0_26
    unfold j_X11_lock_0_26
    refine s_cV (r_S d_X11_lock_26 k_X11_requireArgument w_284 rfl rfl) ms_X11_requireArgument (b8 rfl) rfl rfl rfl (fun h => by cases h) (fun _ _ => Or.inr rfl) fun m7 => (s_aload d_X11_lock_29 m2_ (s_getN cf d_X11_lock_31 fl_X11_273 (s_if_ne (tgt := 57) d_X11_lock_34 rfl ?_ ?_)))
    · exact s_sub (subc m1_ (subc m2_ sub0)) (hj_X11_lock_0_57 m7 l3_26 l4_26)
    refine s_aload d_X11_lock_37 m2_ (s_pI (r_V d_X11_lock_39 k_X2_allPagesSet w_1033 rfl rfl) ms_X2_allPagesSet (b8 rfl) rfl rfl rfl fun v9 => (s_if_eq (tgt := 57) d_X11_lock_42 rfl ?_ ?_))
    · exact s_sub (subc m1_ (subc m2_ sub0)) (hj_X11_lock_0_57 m7 l3_26 l4_26)
    refine s_aload_n d_X11_lock_45 m0_ (s_iload_n d_X11_lock_46 m1_ (s_pI (r_V d_X11_lock_47 k_X11_isInUse w_1038 rfl rfl) ms_X11_isInUse (b8 rfl) rfl rfl rfl fun v10 => (s_if_ne (tgt := 57) d_X11_lock_50 rfl ?_ ?_)))
    · exact s_sub (subc m1_ (subc m2_ sub0)) (hj_X11_lock_0_57 m7 l3_26 l4_26)
    exact s_iconst d_X11_lock_53 n_1 (s_goto (tgt := 58) d_X11_lock_54 rfl (s_sub (subc m1_ (subc m2_ sub0)) (hj_X11_lock_0_58 m7 l3_26 l4_26 1)))
  have hj_X11_lock_0_25 : ∀ (m_25 : MM) (l0_25 : Nat) (l3_25 : Int) (l4_25 : Nat), Sim fx me_X11_lock 25 [(0, aR (some (11, l0_25))), (3, aI l3_25), (4, aR (some (2, l4_25)))] [] m_25 ((j_X11_lock_0_25 m_25 l0_25 l3_25 l4_25).bind (fun z => some z)) := by
    intro m_25 l0_25 l3_25 l4_25
    unfold j_X11_lock_0_25
    exact s_iconst d_X11_lock_25 n_0 (s_sub (subc m0_ (subc m1_ (subc m2_ sub0))) (hj_X11_lock_0_26 m_25 l0_25 l3_25 l4_25 0))
  refine s_aload_n d_X11_lock_0 m0_ (s_iload_n d_X11_lock_1 m1_ (s_cR (r_V d_X11_lock_2 k_X11_bookAt w_814 rfl rfl) ms_X11_bookAt (b8 rfl) rfl rfl rfl (fun h => by cases h) (fun _ _ => Or.inr rfl) fun r2 m1 => (s_nk fun i3 => (s_iload_n d_X11_lock_5 m2_ (s_cR (r_S d_X11_lock_6 k_X11_formeOf w_1025 rfl rfl) ms_X11_formeOf (b8 rfl) rfl rfl rfl (fun h => by cases h) (fun _ _ => Or.inr rfl) fun r5 m4 => ?_)))))
  refine s_nk fun i6 => (s_astore (L' := [(4, aR (some (2, i6))), (0, aR (some (11, l0))), (1, aI l1), (2, aI l2), (3, aI l3)]) d_X11_lock_9 (b8 rfl) rfl (s_iload_n d_X11_lock_11 m4_ (s_if_lt (tgt := 25) d_X11_lock_12 rfl ?_ ?_)))
  · exact s_sub (subc m1_ (subc m4_ (subc m0_ sub0))) (hj_X11_lock_0_25 m4 l0 l3 i6)
  refine s_iload_n d_X11_lock_15 m4_ (s_bipush d_X11_lock_16 n_6 rfl (s_icmp_ge (tgt := 25) d_X11_lock_18 rfl ?_ ?_))
  · exact s_sub (subc m1_ (subc m4_ (subc m0_ sub0))) (hj_X11_lock_0_25 m4 l0 l3 i6)
  exact s_iconst d_X11_lock_21 n_1 (s_goto (tgt := 26) d_X11_lock_22 rfl (s_sub (subc m1_ (subc m4_ (subc m0_ sub0))) (hj_X11_lock_0_26 m4 l0 l3 i6 1)))
theorem d_L_lock_0 : dk me_L_lock 0 (.aload_n 0) 1 1 := And.intro (by decide +kernel) rfl
theorem d_L_lock_1 : dk me_L_lock 1 (.iload_n 1) 1 2 := And.intro (by decide +kernel) rfl
theorem d_L_lock_2 : dk me_L_lock 2 (.iload_n 2) 1 3 := And.intro (by decide +kernel) rfl
theorem d_L_lock_3 : dk me_L_lock 3 (.iload_n 3) 1 4 := And.intro (by decide +kernel) rfl
theorem d_L_lock_4 : dk me_L_lock 4 (.invokevirtual 67) 3 7 := And.intro (by decide +kernel) rfl
theorem d_L_lock_7 : dk me_L_lock 7 (.goto 15) 3 10 := And.intro (by decide +kernel) rfl
theorem d_L_lock_10 : dk me_L_lock 10 (.astore 4) 2 12 := And.intro (by decide +kernel) rfl
theorem d_L_lock_12 : dk me_L_lock 12 (.iconst 1) 1 13 := And.intro (by decide +kernel) rfl
theorem d_L_lock_13 : dk me_L_lock 13 (.ireturn) 1 14 := And.intro (by decide +kernel) rfl
theorem d_L_lock_14 : dk me_L_lock 14 (.astore 4) 2 16 := And.intro (by decide +kernel) rfl
theorem d_L_lock_16 : dk me_L_lock 16 (.iconst 2) 1 17 := And.intro (by decide +kernel) rfl
theorem d_L_lock_17 : dk me_L_lock 17 (.ireturn) 1 18 := And.intro (by decide +kernel) rfl
theorem d_L_lock_18 : dk me_L_lock 18 (.astore 4) 2 20 := And.intro (by decide +kernel) rfl
theorem d_L_lock_20 : dk me_L_lock 20 (.iconst 3) 1 21 := And.intro (by decide +kernel) rfl
theorem d_L_lock_21 : dk me_L_lock 21 (.ireturn) 1 22 := And.intro (by decide +kernel) rfl
theorem d_L_lock_22 : dk me_L_lock 22 (.iconst 0) 1 23 := And.intro (by decide +kernel) rfl
theorem d_L_lock_23 : dk me_L_lock 23 (.ireturn) 1 24 := And.intro (by decide +kernel) rfl
theorem ms_L_lock {fx : FX} {m : MM} {l0 : Nat} {l1 : Int} {l2 : Int} {l3 : Int} : MS fx me_L_lock [aR (some (11, l0)), aI l1, aI l2, aI l3] m (f_L_lock m l0 l1 l2 l3) := by
  refine ms_ofH rfl mf_L_lock (b8 rfl) ?_
  refine s_top ?_
  show Sim fx me_L_lock 0 [(0, aR (some (11, l0))), (1, aI l1), (2, aI l2), (3, aI l3)] [] m _
  unfold f_L_lock
  refine s_aload_n d_L_lock_0 m0_ (s_iload_n d_L_lock_1 m1_ (s_iload_n d_L_lock_2 m2_ (s_iload_n d_L_lock_3 m3_ (s_cVC (r_V d_L_lock_4 k_X11_lock w_1021 rfl rfl) ms_X11_lock (b8 rfl) rfl rfl ?_ ?_ ?_ fun m1 => ?_))))
  · refine fun mx => Or.inr ⟨10, ⟨rfl, by decide, 0, wx_29_0, Or.inl ⟨rfl, rfl⟩⟩, fun qx => ?_⟩
    exact s_astoreV (L' := [(4, aV (.ref qx)), (0, aR (some (11, l0))), (1, aI l1), (2, aI l2), (3, aI l3)]) d_L_lock_10 (b8 rfl) rfl (s_iconst d_L_lock_12 n_1 (s_iret d_L_lock_13 rfl rfl))
  · refine fun mx => Or.inr ⟨14, ⟨rfl, by decide, 0, wx_29_0, Or.inr ⟨by decide, ⟨rfl, by decide, 1, wx_13_1, Or.inl ⟨rfl, rfl⟩⟩⟩⟩, fun qx => ?_⟩
    exact s_astoreV (L' := [(4, aV (.ref qx)), (0, aR (some (11, l0))), (1, aI l1), (2, aI l2), (3, aI l3)]) d_L_lock_14 (b8 rfl) rfl (s_iconst d_L_lock_16 n_2 (s_iret d_L_lock_17 rfl rfl))
  · refine fun mx => Or.inr ⟨18, ⟨rfl, by decide, 0, wx_29_0, Or.inr ⟨by decide, ⟨rfl, by decide, 1, wx_13_1, Or.inr ⟨by decide, ⟨rfl, by decide, 2, wx_15_2, Or.inl ⟨rfl, rfl⟩⟩⟩⟩⟩⟩, fun qx => ?_⟩
    exact s_astoreV (L' := [(4, aV (.ref qx)), (0, aR (some (11, l0))), (1, aI l1), (2, aI l2), (3, aI l3)]) d_L_lock_18 (b8 rfl) rfl (s_iconst d_L_lock_20 n_3 (s_iret d_L_lock_21 rfl rfl))
  exact s_goto (tgt := 22) d_L_lock_7 rfl (s_iconst d_L_lock_22 n_0 (s_iret d_L_lock_23 rfl rfl))
theorem d_X0_isMixed_0 : dk me_X0_isMixed 0 (.iconst (-1)) 1 1 := And.intro (by decide +kernel) rfl
theorem d_X0_isMixed_1 : dk me_X0_isMixed 1 (.istore_n 3) 1 2 := And.intro (by decide +kernel) rfl
theorem d_X0_isMixed_2 : dk me_X0_isMixed 2 (.iload_n 2) 1 3 := And.intro (by decide +kernel) rfl
theorem d_X0_isMixed_3 : dk me_X0_isMixed 3 (.aload_n 0) 1 4 := And.intro (by decide +kernel) rfl
theorem d_X0_isMixed_4 : dk me_X0_isMixed 4 (.getfield 18) 3 7 := And.intro (by decide +kernel) rfl
theorem d_X0_isMixed_7 : dk me_X0_isMixed 7 (.imul) 1 8 := And.intro (by decide +kernel) rfl
theorem d_X0_isMixed_8 : dk me_X0_isMixed 8 (.istore 4) 2 10 := And.intro (by decide +kernel) rfl
theorem d_X0_isMixed_10 : dk me_X0_isMixed 10 (.iload 4) 2 12 := And.intro (by decide +kernel) rfl
theorem d_X0_isMixed_12 : dk me_X0_isMixed 12 (.iload_n 2) 1 13 := And.intro (by decide +kernel) rfl
theorem d_X0_isMixed_13 : dk me_X0_isMixed 13 (.iconst 1) 1 14 := And.intro (by decide +kernel) rfl
theorem d_X0_isMixed_14 : dk me_X0_isMixed 14 (.iadd) 1 15 := And.intro (by decide +kernel) rfl
theorem d_X0_isMixed_15 : dk me_X0_isMixed 15 (.aload_n 0) 1 16 := And.intro (by decide +kernel) rfl
theorem d_X0_isMixed_16 : dk me_X0_isMixed 16 (.getfield 18) 3 19 := And.intro (by decide +kernel) rfl
theorem d_X0_isMixed_19 : dk me_X0_isMixed 19 (.imul) 1 20 := And.intro (by decide +kernel) rfl
theorem d_X0_isMixed_20 : dk me_X0_isMixed 20 (.if_icmp .ge 52) 3 23 := And.intro (by decide +kernel) rfl
theorem d_X0_isMixed_23 : dk me_X0_isMixed 23 (.aload_n 0) 1 24 := And.intro (by decide +kernel) rfl
theorem d_X0_isMixed_24 : dk me_X0_isMixed 24 (.getfield 68) 3 27 := And.intro (by decide +kernel) rfl
theorem d_X0_isMixed_27 : dk me_X0_isMixed 27 (.iload_n 1) 1 28 := And.intro (by decide +kernel) rfl
theorem d_X0_isMixed_28 : dk me_X0_isMixed 28 (.aaload) 1 29 := And.intro (by decide +kernel) rfl
theorem d_X0_isMixed_29 : dk me_X0_isMixed 29 (.iload 4) 2 31 := And.intro (by decide +kernel) rfl
theorem d_X0_isMixed_31 : dk me_X0_isMixed 31 (.iaload) 1 32 := And.intro (by decide +kernel) rfl
theorem d_X0_isMixed_32 : dk me_X0_isMixed 32 (.istore 5) 2 34 := And.intro (by decide +kernel) rfl
theorem d_X0_isMixed_34 : dk me_X0_isMixed 34 (.iload 5) 2 36 := And.intro (by decide +kernel) rfl
theorem d_X0_isMixed_36 : dk me_X0_isMixed 36 (.iconst (-1)) 1 37 := And.intro (by decide +kernel) rfl
theorem d_X0_isMixed_37 : dk me_X0_isMixed 37 (.if_icmp .eq 16) 3 40 := And.intro (by decide +kernel) rfl
theorem d_X0_isMixed_40 : dk me_X0_isMixed 40 (.iload_n 3) 1 41 := And.intro (by decide +kernel) rfl
theorem d_X0_isMixed_41 : dk me_X0_isMixed 41 (.iconst (-1)) 1 42 := And.intro (by decide +kernel) rfl
theorem d_X0_isMixed_42 : dk me_X0_isMixed 42 (.if_icmp .eq 11) 3 45 := And.intro (by decide +kernel) rfl
theorem d_X0_isMixed_45 : dk me_X0_isMixed 45 (.iload 5) 2 47 := And.intro (by decide +kernel) rfl
theorem d_X0_isMixed_47 : dk me_X0_isMixed 47 (.iload_n 3) 1 48 := And.intro (by decide +kernel) rfl
theorem d_X0_isMixed_48 : dk me_X0_isMixed 48 (.if_icmp .eq 5) 3 51 := And.intro (by decide +kernel) rfl
theorem d_X0_isMixed_51 : dk me_X0_isMixed 51 (.iconst 1) 1 52 := And.intro (by decide +kernel) rfl
theorem d_X0_isMixed_52 : dk me_X0_isMixed 52 (.ireturn) 1 53 := And.intro (by decide +kernel) rfl
theorem d_X0_isMixed_53 : dk me_X0_isMixed 53 (.iload 5) 2 55 := And.intro (by decide +kernel) rfl
theorem d_X0_isMixed_55 : dk me_X0_isMixed 55 (.iconst (-1)) 1 56 := And.intro (by decide +kernel) rfl
theorem d_X0_isMixed_56 : dk me_X0_isMixed 56 (.if_icmp .ne 7) 3 59 := And.intro (by decide +kernel) rfl
theorem d_X0_isMixed_59 : dk me_X0_isMixed 59 (.iload_n 3) 1 60 := And.intro (by decide +kernel) rfl
theorem d_X0_isMixed_60 : dk me_X0_isMixed 60 (.goto 5) 3 63 := And.intro (by decide +kernel) rfl
theorem d_X0_isMixed_63 : dk me_X0_isMixed 63 (.iload 5) 2 65 := And.intro (by decide +kernel) rfl
theorem d_X0_isMixed_65 : dk me_X0_isMixed 65 (.istore_n 3) 1 66 := And.intro (by decide +kernel) rfl
theorem d_X0_isMixed_66 : dk me_X0_isMixed 66 (.iinc 4 1) 3 69 := And.intro (by decide +kernel) rfl
theorem d_X0_isMixed_69 : dk me_X0_isMixed 69 (.goto (-59)) 3 72 := And.intro (by decide +kernel) rfl
theorem d_X0_isMixed_72 : dk me_X0_isMixed 72 (.iconst 0) 1 73 := And.intro (by decide +kernel) rfl
theorem d_X0_isMixed_73 : dk me_X0_isMixed 73 (.ireturn) 1 74 := And.intro (by decide +kernel) rfl
theorem ms_X0_isMixed {fx : FX} {m : MM} {l0 : Nat} {l1 : Int} {l2 : Int} : MS fx me_X0_isMixed [aR (some (0, l0)), aI l1, aI l2] m ((f_X0_isMixed m l0 l1 l2).bind fun v => some (.inl (some (aI v)), m)) := by
  refine ms_of rfl mf_X0_isMixed (b8 rfl) ?_
  show Sim fx me_X0_isMixed 0 [(0, aR (some (0, l0))), (1, aI l1), (2, aI l2)] [] m _
  unfold f_X0_isMixed
  have hj_X0_isMixed_0_72 : Sim fx me_X0_isMixed 72 [] [] m ((j_X0_isMixed_0_72 m).bind (fun v => some (.inl (some (aI v)), m))) := by
    unfold j_X0_isMixed_0_72
    exact s_iconst d_X0_isMixed_72 n_0 (s_zretl d_X0_isMixed_73 rfl (by decide) rfl)
  refine s_iconst d_X0_isMixed_0 n_m1 (s_istore_n (L' := [(3, aI (-1)), (0, aR (some (0, l0))), (1, aI l1), (2, aI l2)]) d_X0_isMixed_1 (b8 rfl) rfl (s_iload_n d_X0_isMixed_2 m3_ (s_aload_n d_X0_isMixed_3 m1_ (s_getN cf d_X0_isMixed_4 fl_X0_18 (s_imul d_X0_isMixed_7 rfl rfl ?_)))))
  refine s_ck (s_istore (L' := [(4, aI (l2 * (gN m 0 l0 0))), (3, aI (-1)), (0, aR (some (0, l0))), (1, aI l1), (2, aI l2)]) d_X0_isMixed_8 (b8 rfl) rfl (s_sub (subc m1_ (subc m0_ (subc m2_ (subc m3_ (subc m4_ sub0))))) (s_lp2 (fun s => [(3, aI (s.1)), (4, aI (s.2)), (0, aR (some (0, l0))), (1, aI l1), (2, aI l2)]) (fun s => m) ((-1), (l2 * (gN m 0 l0 0))) fun k10 hx10 s ih0 => ?_)))
  obtain ⟨l3_10, l4_10⟩ := s
  have ih10 := ih0
  clear ih0
  try dsimp only
  unfold b_X0_isMixed_10
  have hj_X0_isMixed_10_53 : ∀ (l3_53 : Int) (l4_53 : Int) (l5_53 : Int), Sim fx me_X0_isMixed 53 [(0, aR (some (0, l0))), (1, aI l1), (2, aI l2), (3, aI l3_53), (4, aI l4_53), (5, aI l5_53)] [] m ((j_X0_isMixed_10_53 m l0 l1 l2 l3_53 l4_53 l5_53).bind k10) := by
    intro l3_53 l4_53 l5_53
    unfold j_X0_isMixed_10_53
    refine s_iload d_X0_isMixed_53 m5_ (s_iconst d_X0_isMixed_55 n_m1 (s_icmp_ne (tgt := 63) d_X0_isMixed_56 rfl ?_ ?_))
    · exact s_iload d_X0_isMixed_63 m5_ (s_istore_n (L' := [(3, aI l5_53), (0, aR (some (0, l0))), (1, aI l1), (2, aI l2), (4, aI l4_53), (5, aI l5_53)]) d_X0_isMixed_65 (b8 rfl) rfl (s_iinc (L' := [(4, aI (l4_53 + 1)), (3, aI l5_53), (0, aR (some (0, l0))), (1, aI l1), (2, aI l2), (5, aI l5_53)]) d_X0_isMixed_66 m4_ (b8 rfl) rfl (s_goto (tgt := 10) d_X0_isMixed_69 rfl (s_sub (subc m1_ (subc m0_ (subc m2_ (subc m3_ (subc m4_ sub0))))) (s_back (ih10 (l5_53, (l4_53 + 1))))))))
    exact s_iload_n d_X0_isMixed_59 m3_ (s_goto (tgt := 65) d_X0_isMixed_60 rfl (s_istore_n (L' := [(3, aI l3_53), (0, aR (some (0, l0))), (1, aI l1), (2, aI l2), (4, aI l4_53), (5, aI l5_53)]) d_X0_isMixed_65 (b8 rfl) rfl (s_iinc (L' := [(4, aI (l4_53 + 1)), (3, aI l3_53), (0, aR (some (0, l0))), (1, aI l1), (2, aI l2), (5, aI l5_53)]) d_X0_isMixed_66 m4_ (b8 rfl) rfl (s_goto (tgt := 10) d_X0_isMixed_69 rfl (s_sub (subc m1_ (subc m0_ (subc m2_ (subc m3_ (subc m4_ sub0))))) (s_back (ih10 (l3_53, (l4_53 + 1)))))))))
  refine s_iload d_X0_isMixed_10 m1_ (s_iload_n d_X0_isMixed_12 m4_ (s_iconst d_X0_isMixed_13 n_1 (s_iadd d_X0_isMixed_14 rfl rfl (s_aload_n d_X0_isMixed_15 m2_ (s_getN cf d_X0_isMixed_16 fl_X0_18 ?_)))))
  refine s_imul d_X0_isMixed_19 rfl rfl (s_ck (s_icmp_ge (tgt := 72) d_X0_isMixed_20 rfl ?_ ?_))
  · exact s_exit (hx10 _) (s_sub (sub0) (hj_X0_isMixed_0_72 ))
  refine s_aload_n d_X0_isMixed_23 m2_ (s_getR cf d_X0_isMixed_24 fl_X0_68 (s_nk fun i1 => (s_iload_n d_X0_isMixed_27 m3_ (s_ldR d_X0_isMixed_28 ka_17 ta_17 rfl rfl fun r2 => (s_nk fun i3 => ?_)))))
  refine s_iload d_X0_isMixed_29 m1_ (s_ldN d_X0_isMixed_31 ka_18 rfl fun v4 => (s_istore (L' := [(5, aI v4), (3, aI l3_10), (4, aI l4_10), (0, aR (some (0, l0))), (1, aI l1), (2, aI l2)]) d_X0_isMixed_32 (b8 rfl) rfl (s_iload d_X0_isMixed_34 m0_ (s_iconst d_X0_isMixed_36 n_m1 (s_icmp_eq (tgt := 53) d_X0_isMixed_37 rfl ?_ ?_)))))
  · exact s_sub (subc m3_ (subc m4_ (subc m5_ (subc m1_ (subc m2_ (subc m0_ sub0)))))) (hj_X0_isMixed_10_53 l3_10 l4_10 v4)
  refine s_iload_n d_X0_isMixed_40 m1_ (s_iconst d_X0_isMixed_41 n_m1 (s_icmp_eq (tgt := 53) d_X0_isMixed_42 rfl ?_ ?_))
  · exact s_sub (subc m3_ (subc m4_ (subc m5_ (subc m1_ (subc m2_ (subc m0_ sub0)))))) (hj_X0_isMixed_10_53 l3_10 l4_10 v4)
  refine s_iload d_X0_isMixed_45 m0_ (s_iload_n d_X0_isMixed_47 m1_ (s_icmp_eq (tgt := 53) d_X0_isMixed_48 rfl ?_ ?_))
  · exact s_sub (subc m3_ (subc m4_ (subc m5_ (subc m1_ (subc m2_ (subc m0_ sub0)))))) (hj_X0_isMixed_10_53 l3_10 l4_10 v4)
  exact s_iconst d_X0_isMixed_51 n_1 (s_zretl d_X0_isMixed_52 rfl (by decide) ((hx10 _).trans rfl))
theorem d_X11_madeUp_0 : dk me_X11_madeUp 0 (.aload_n 0) 1 1 := And.intro (by decide +kernel) rfl
theorem d_X11_madeUp_1 : dk me_X11_madeUp 1 (.iload_n 1) 1 2 := And.intro (by decide +kernel) rfl
theorem d_X11_madeUp_2 : dk me_X11_madeUp 2 (.invokevirtual 143) 3 5 := And.intro (by decide +kernel) rfl
theorem d_X11_madeUp_5 : dk me_X11_madeUp 5 (.astore_n 3) 1 6 := And.intro (by decide +kernel) rfl
theorem d_X11_madeUp_6 : dk me_X11_madeUp 6 (.aload_n 3) 1 7 := And.intro (by decide +kernel) rfl
theorem d_X11_madeUp_7 : dk me_X11_madeUp 7 (.iload_n 2) 1 8 := And.intro (by decide +kernel) rfl
theorem d_X11_madeUp_8 : dk me_X11_madeUp 8 (.invokevirtual 369) 3 11 := And.intro (by decide +kernel) rfl
theorem d_X11_madeUp_11 : dk me_X11_madeUp 11 (.invokestatic 115) 3 14 := And.intro (by decide +kernel) rfl
theorem d_X11_madeUp_14 : dk me_X11_madeUp 14 (.aload_n 3) 1 15 := And.intro (by decide +kernel) rfl
theorem d_X11_madeUp_15 : dk me_X11_madeUp 15 (.getfield 357) 3 18 := And.intro (by decide +kernel) rfl
theorem d_X11_madeUp_18 : dk me_X11_madeUp 18 (.invokestatic 69) 3 21 := And.intro (by decide +kernel) rfl
theorem d_X11_madeUp_21 : dk me_X11_madeUp 21 (.iconst 0) 1 22 := And.intro (by decide +kernel) rfl
theorem d_X11_madeUp_22 : dk me_X11_madeUp 22 (.istore 4) 2 24 := And.intro (by decide +kernel) rfl
theorem d_X11_madeUp_24 : dk me_X11_madeUp 24 (.iconst 0) 1 25 := And.intro (by decide +kernel) rfl
theorem d_X11_madeUp_25 : dk me_X11_madeUp 25 (.istore 5) 2 27 := And.intro (by decide +kernel) rfl
theorem d_X11_madeUp_27 : dk me_X11_madeUp 27 (.iload 5) 2 29 := And.intro (by decide +kernel) rfl
theorem d_X11_madeUp_29 : dk me_X11_madeUp 29 (.aload_n 3) 1 30 := And.intro (by decide +kernel) rfl
theorem d_X11_madeUp_30 : dk me_X11_madeUp 30 (.getfield 291) 3 33 := And.intro (by decide +kernel) rfl
theorem d_X11_madeUp_33 : dk me_X11_madeUp 33 (.arraylength) 1 34 := And.intro (by decide +kernel) rfl
theorem d_X11_madeUp_34 : dk me_X11_madeUp 34 (.if_icmp .ge 22) 3 37 := And.intro (by decide +kernel) rfl
theorem d_X11_madeUp_37 : dk me_X11_madeUp 37 (.aload_n 3) 1 38 := And.intro (by decide +kernel) rfl
theorem d_X11_madeUp_38 : dk me_X11_madeUp 38 (.iload_n 2) 1 39 := And.intro (by decide +kernel) rfl
theorem d_X11_madeUp_39 : dk me_X11_madeUp 39 (.iload 5) 2 41 := And.intro (by decide +kernel) rfl
theorem d_X11_madeUp_41 : dk me_X11_madeUp 41 (.invokevirtual 399) 3 44 := And.intro (by decide +kernel) rfl
theorem d_X11_madeUp_44 : dk me_X11_madeUp 44 (.ifCond .eq 6) 3 47 := And.intro (by decide +kernel) rfl
theorem d_X11_madeUp_47 : dk me_X11_madeUp 47 (.iinc 4 1) 3 50 := And.intro (by decide +kernel) rfl
theorem d_X11_madeUp_50 : dk me_X11_madeUp 50 (.iinc 5 1) 3 53 := And.intro (by decide +kernel) rfl
theorem d_X11_madeUp_53 : dk me_X11_madeUp 53 (.goto (-26)) 3 56 := And.intro (by decide +kernel) rfl
theorem d_X11_madeUp_56 : dk me_X11_madeUp 56 (.iload 4) 2 58 := And.intro (by decide +kernel) rfl
theorem d_X11_madeUp_58 : dk me_X11_madeUp 58 (.ireturn) 1 59 := And.intro (by decide +kernel) rfl
theorem ms_X11_madeUp {fx : FX} {m : MM} {l0 : Nat} {l1 : Int} {l2 : Int} : MS fx me_X11_madeUp [aR (some (11, l0)), aI l1, aI l2] m (f_X11_madeUp m l0 l1 l2) := by
  refine ms_of rfl mf_X11_madeUp (b8 rfl) ?_
  refine s_top ?_
  show Sim fx me_X11_madeUp 0 [(0, aR (some (11, l0))), (1, aI l1), (2, aI l2)] [] m _
  unfold f_X11_madeUp
  have hj_X11_madeUp_0_56 : ∀ (m_56 : MM) (l4_56 : Int), Sim fx me_X11_madeUp 56 [(4, aI l4_56)] [] m_56 ((j_X11_madeUp_0_56 m_56 l4_56).bind (fun z => some z)) := by
    intro m_56 l4_56
    unfold j_X11_madeUp_0_56
    exact s_iload d_X11_madeUp_56 m0_ (s_iret d_X11_madeUp_58 rfl rfl)
  refine s_aload_n d_X11_madeUp_0 m0_ (s_iload_n d_X11_madeUp_1 m1_ (s_cR (r_V d_X11_madeUp_2 k_X11_bookAt w_814 rfl rfl) ms_X11_bookAt (b8 rfl) rfl rfl rfl (fun h => by cases h) (fun _ _ => Or.inr rfl) fun r2 m1 => (s_nk fun i3 => (s_astore_n (L' := [(3, aR (some (0, i3))), (0, aR (some (11, l0))), (1, aI l1), (2, aI l2)]) d_X11_madeUp_5 (b8 rfl) rfl (s_aload_n d_X11_madeUp_6 m0_ ?_)))))
  refine s_iload_n d_X11_madeUp_7 m3_ (s_pI (r_V d_X11_madeUp_8 k_X0_hasCopy w_1187 rfl rfl) ms_X0_hasCopy (b8 rfl) rfl rfl rfl fun v4 => (s_cV (r_S d_X11_madeUp_11 k_X11_requireIndex w_451 rfl rfl) ms_X11_requireIndex (b8 rfl) rfl rfl rfl (fun h => by cases h) (fun _ _ => Or.inr rfl) fun m5 => (s_aload_n d_X11_madeUp_14 m0_ (s_getB cf d_X11_madeUp_15 fl_X11_357 (s_cV (r_S d_X11_madeUp_18 k_X11_requireState w_363 rfl rfl) ms_X11_requireState (b8 rfl) rfl rfl rfl (fun h => by cases h) (fun _ _ => Or.inr rfl) fun m7 => ?_)))))
  refine s_iconst d_X11_madeUp_21 n_0 (s_istore (L' := [(4, aI 0), (3, aR (some (0, i3))), (0, aR (some (11, l0))), (1, aI l1), (2, aI l2)]) d_X11_madeUp_22 (b8 rfl) rfl (s_iconst d_X11_madeUp_24 n_0 (s_istore (L' := [(5, aI 0), (4, aI 0), (3, aR (some (0, i3))), (0, aR (some (11, l0))), (1, aI l1), (2, aI l2)]) d_X11_madeUp_25 (b8 rfl) rfl (s_sub (subc m1_ (subc m0_ (subc m5_ (subc m2_ sub0)))) (s_lp2 (fun s => [(4, aI (s.1)), (5, aI (s.2)), (2, aI l2), (3, aR (some (0, i3)))]) (fun s => m7) (0, 0) fun k27 hx27 s ih0 => ?_)))))
  obtain ⟨l4_27, l5_27⟩ := s
  have ih27 := ih0
  clear ih0
  try dsimp only
  unfold b_X11_madeUp_27
  refine s_iload d_X11_madeUp_27 m1_ (s_aload_n d_X11_madeUp_29 m3_ (s_getR cf d_X11_madeUp_30 fl_X11_291 (s_nk fun i9 => (s_len d_X11_madeUp_33 ka_15 ta_15 (s_icmp_ge (tgt := 56) d_X11_madeUp_34 rfl ?_ ?_)))))
  · exact s_exit (hx27 _) (s_sub (subc m0_ sub0) (hj_X11_madeUp_0_56 m7 l4_27))
  refine s_aload_n d_X11_madeUp_37 m3_ (s_iload_n d_X11_madeUp_38 m2_ (s_iload d_X11_madeUp_39 m1_ (s_pI (r_V d_X11_madeUp_41 k_X0_isMixed w_1269 rfl rfl) ms_X0_isMixed (b8 rfl) rfl rfl rfl fun v10 => (s_if_eq (tgt := 50) d_X11_madeUp_44 rfl ?_ ?_))))
  · exact s_iinc (L' := [(5, aI (l5_27 + 1)), (4, aI l4_27), (2, aI l2), (3, aR (some (0, i3)))]) d_X11_madeUp_50 m1_ (b8 rfl) rfl (s_goto (tgt := 27) d_X11_madeUp_53 rfl (s_sub (subc m1_ (subc m0_ (subc m2_ (subc m3_ sub0)))) (s_back (ih27 (l4_27, (l5_27 + 1))))))
  exact s_iinc (L' := [(4, aI (l4_27 + 1)), (5, aI l5_27), (2, aI l2), (3, aR (some (0, i3)))]) d_X11_madeUp_47 m0_ (b8 rfl) rfl (s_iinc (L' := [(5, aI (l5_27 + 1)), (4, aI (l4_27 + 1)), (2, aI l2), (3, aR (some (0, i3)))]) d_X11_madeUp_50 m1_ (b8 rfl) rfl (s_goto (tgt := 27) d_X11_madeUp_53 rfl (s_sub (subc m1_ (subc m0_ (subc m2_ (subc m3_ sub0)))) (s_back (ih27 ((l4_27 + 1), (l5_27 + 1)))))))
theorem d_L_madeUp_0 : dk me_L_madeUp 0 (.aload_n 3) 1 1 := And.intro (by decide +kernel) rfl
theorem d_L_madeUp_1 : dk me_L_madeUp 1 (.iconst 0) 1 2 := And.intro (by decide +kernel) rfl
theorem d_L_madeUp_2 : dk me_L_madeUp 2 (.aload_n 0) 1 3 := And.intro (by decide +kernel) rfl
theorem d_L_madeUp_3 : dk me_L_madeUp 3 (.iload_n 1) 1 4 := And.intro (by decide +kernel) rfl
theorem d_L_madeUp_4 : dk me_L_madeUp 4 (.iload_n 2) 1 5 := And.intro (by decide +kernel) rfl
theorem d_L_madeUp_5 : dk me_L_madeUp 5 (.invokevirtual 117) 3 8 := And.intro (by decide +kernel) rfl
theorem d_L_madeUp_8 : dk me_L_madeUp 8 (.i2l) 1 9 := And.intro (by decide +kernel) rfl
theorem d_L_madeUp_9 : dk me_L_madeUp 9 (.lastore) 1 10 := And.intro (by decide +kernel) rfl
theorem d_L_madeUp_10 : dk me_L_madeUp 10 (.goto 11) 3 13 := And.intro (by decide +kernel) rfl
theorem d_L_madeUp_13 : dk me_L_madeUp 13 (.astore 4) 2 15 := And.intro (by decide +kernel) rfl
theorem d_L_madeUp_15 : dk me_L_madeUp 15 (.iconst 1) 1 16 := And.intro (by decide +kernel) rfl
theorem d_L_madeUp_16 : dk me_L_madeUp 16 (.ireturn) 1 17 := And.intro (by decide +kernel) rfl
theorem d_L_madeUp_17 : dk me_L_madeUp 17 (.astore 4) 2 19 := And.intro (by decide +kernel) rfl
theorem d_L_madeUp_19 : dk me_L_madeUp 19 (.iconst 2) 1 20 := And.intro (by decide +kernel) rfl
theorem d_L_madeUp_20 : dk me_L_madeUp 20 (.ireturn) 1 21 := And.intro (by decide +kernel) rfl
theorem d_L_madeUp_21 : dk me_L_madeUp 21 (.iconst 0) 1 22 := And.intro (by decide +kernel) rfl
theorem d_L_madeUp_22 : dk me_L_madeUp 22 (.ireturn) 1 23 := And.intro (by decide +kernel) rfl
theorem ms_L_madeUp {fx : FX} {m : MM} {l0 : Nat} {l1 : Int} {l2 : Int} {l3 : Nat} : MS fx me_L_madeUp [aR (some (11, l0)), aI l1, aI l2, aR (some (131, l3))] m (f_L_madeUp m l0 l1 l2 l3) := by
  refine ms_ofH rfl mf_L_madeUp (b8 rfl) ?_
  refine s_top ?_
  show Sim fx me_L_madeUp 0 [(0, aR (some (11, l0))), (1, aI l1), (2, aI l2), (3, aR (some (131, l3)))] [] m _
  unfold f_L_madeUp
  refine s_aload_n d_L_madeUp_0 m3_ (s_iconst d_L_madeUp_1 n_0 (s_aload_n d_L_madeUp_2 m0_ (s_iload_n d_L_madeUp_3 m1_ (s_iload_n d_L_madeUp_4 m2_ (s_cIC (r_V d_L_madeUp_5 k_X11_madeUp w_1265 rfl rfl) ms_X11_madeUp (b8 rfl) rfl rfl ?_ ?_ ?_ fun v2 m1 => ?_)))))
  · refine fun mx => Or.inr ⟨13, ⟨rfl, by decide, 0, wx_29_0, Or.inl ⟨rfl, rfl⟩⟩, fun qx => ?_⟩
    exact s_astoreV (L' := [(4, aV (.ref qx)), (0, aR (some (11, l0))), (1, aI l1), (2, aI l2), (3, aR (some (131, l3)))]) d_L_madeUp_13 (b8 rfl) rfl (s_iconst d_L_madeUp_15 n_1 (s_iret d_L_madeUp_16 rfl rfl))
  · exact fun _ => Or.inl rfl
  · refine fun mx => Or.inr ⟨17, ⟨rfl, by decide, 0, wx_29_0, Or.inr ⟨by decide, ⟨rfl, by decide, 2, wx_15_2, Or.inl ⟨rfl, rfl⟩⟩⟩⟩, fun qx => ?_⟩
    exact s_astoreV (L' := [(4, aV (.ref qx)), (0, aR (some (11, l0))), (1, aI l1), (2, aI l2), (3, aR (some (131, l3)))]) d_L_madeUp_17 (b8 rfl) rfl (s_iconst d_L_madeUp_19 n_2 (s_iret d_L_madeUp_20 rfl rfl))
  exact s_i2l d_L_madeUp_8 (s_stL d_L_madeUp_9 ka_131 rfl fun m3 => (s_goto (tgt := 21) d_L_madeUp_10 rfl (s_iconst d_L_madeUp_21 n_0 (s_iret d_L_madeUp_22 rfl rfl))))
theorem d_X8_moldOf_0 : dk me_X8_moldOf 0 (.iconst 2) 1 1 := And.intro (by decide +kernel) rfl
theorem d_X8_moldOf_1 : dk me_X8_moldOf 1 (.aload_n 0) 1 2 := And.intro (by decide +kernel) rfl
theorem d_X8_moldOf_2 : dk me_X8_moldOf 2 (.getfield 27) 3 5 := And.intro (by decide +kernel) rfl
theorem d_X8_moldOf_5 : dk me_X8_moldOf 5 (.imul) 1 6 := And.intro (by decide +kernel) rfl
theorem d_X8_moldOf_6 : dk me_X8_moldOf 6 (.aload_n 0) 1 7 := And.intro (by decide +kernel) rfl
theorem d_X8_moldOf_7 : dk me_X8_moldOf 7 (.getfield 30) 3 10 := And.intro (by decide +kernel) rfl
theorem d_X8_moldOf_10 : dk me_X8_moldOf 10 (.iload_n 1) 1 11 := And.intro (by decide +kernel) rfl
theorem d_X8_moldOf_11 : dk me_X8_moldOf 11 (.iadd) 1 12 := And.intro (by decide +kernel) rfl
theorem d_X8_moldOf_12 : dk me_X8_moldOf 12 (.iconst 2) 1 13 := And.intro (by decide +kernel) rfl
theorem d_X8_moldOf_13 : dk me_X8_moldOf 13 (.irem) 1 14 := And.intro (by decide +kernel) rfl
theorem d_X8_moldOf_14 : dk me_X8_moldOf 14 (.iadd) 1 15 := And.intro (by decide +kernel) rfl
theorem d_X8_moldOf_15 : dk me_X8_moldOf 15 (.ireturn) 1 16 := And.intro (by decide +kernel) rfl
theorem ms_X8_moldOf {fx : FX} {m : MM} {l0 : Nat} {l1 : Int} : MS fx me_X8_moldOf [aR (some (8, l0)), aI l1] m ((f_X8_moldOf m l0 l1).bind fun v => some (.inl (some (aI v)), m)) := by
  refine ms_of rfl mf_X8_moldOf (b8 rfl) ?_
  show Sim fx me_X8_moldOf 0 [(0, aR (some (8, l0))), (1, aI l1)] [] m _
  unfold f_X8_moldOf
  refine s_iconst d_X8_moldOf_0 n_2 (s_aload_n d_X8_moldOf_1 m0_ (s_getN cf d_X8_moldOf_2 fl_X8_27 (s_imul d_X8_moldOf_5 rfl rfl (s_aload_n d_X8_moldOf_6 m0_ (s_getN cf d_X8_moldOf_7 fl_X8_30 ?_)))))
  refine s_iload_n d_X8_moldOf_10 m1_ (s_iadd d_X8_moldOf_11 rfl rfl (s_iconst d_X8_moldOf_12 n_2 (s_ck1 (s_irem d_X8_moldOf_13 (s_iadd d_X8_moldOf_14 rfl rfl ?_)))))
  exact s_ck (s_iret d_X8_moldOf_15 rfl rfl)
theorem d_X11_mark_0 : dk me_X11_mark 0 (.aload_n 0) 1 1 := And.intro (by decide +kernel) rfl
theorem d_X11_mark_1 : dk me_X11_mark 1 (.iload_n 1) 1 2 := And.intro (by decide +kernel) rfl
theorem d_X11_mark_2 : dk me_X11_mark 2 (.invokevirtual 143) 3 5 := And.intro (by decide +kernel) rfl
theorem d_X11_mark_5 : dk me_X11_mark 5 (.astore 4) 2 7 := And.intro (by decide +kernel) rfl
theorem d_X11_mark_7 : dk me_X11_mark 7 (.aload 4) 2 9 := And.intro (by decide +kernel) rfl
theorem d_X11_mark_9 : dk me_X11_mark 9 (.iload_n 2) 1 10 := And.intro (by decide +kernel) rfl
theorem d_X11_mark_10 : dk me_X11_mark 10 (.invokevirtual 369) 3 13 := And.intro (by decide +kernel) rfl
theorem d_X11_mark_13 : dk me_X11_mark 13 (.ifCond .eq 16) 3 16 := And.intro (by decide +kernel) rfl
theorem d_X11_mark_16 : dk me_X11_mark 16 (.aload 4) 2 18 := And.intro (by decide +kernel) rfl
theorem d_X11_mark_18 : dk me_X11_mark 18 (.iload_n 3) 1 19 := And.intro (by decide +kernel) rfl
theorem d_X11_mark_19 : dk me_X11_mark 19 (.invokevirtual 372) 3 22 := And.intro (by decide +kernel) rfl
theorem d_X11_mark_22 : dk me_X11_mark 22 (.ifCond .eq 7) 3 25 := And.intro (by decide +kernel) rfl
theorem d_X11_mark_25 : dk me_X11_mark 25 (.iconst 1) 1 26 := And.intro (by decide +kernel) rfl
theorem d_X11_mark_26 : dk me_X11_mark 26 (.goto 4) 3 29 := And.intro (by decide +kernel) rfl
theorem d_X11_mark_29 : dk me_X11_mark 29 (.iconst 0) 1 30 := And.intro (by decide +kernel) rfl
theorem d_X11_mark_30 : dk me_X11_mark 30 (.invokestatic 115) 3 33 := And.intro (by decide +kernel) rfl
theorem d_X11_mark_33 : dk me_X11_mark 33 (.aload 4) 2 35 := And.intro (by decide +kernel) rfl
theorem d_X11_mark_35 : dk me_X11_mark 35 (.getfield 357) 3 38 := And.intro (by decide +kernel) rfl
theorem d_X11_mark_38 : dk me_X11_mark 38 (.invokestatic 69) 3 41 := And.intro (by decide +kernel) rfl
theorem d_X11_mark_41 : dk me_X11_mark 41 (.aload 4) 2 43 := And.intro (by decide +kernel) rfl
theorem d_X11_mark_43 : dk me_X11_mark 43 (.getfield 375) 3 46 := And.intro (by decide +kernel) rfl
theorem d_X11_mark_46 : dk me_X11_mark 46 (.iload_n 2) 1 47 := And.intro (by decide +kernel) rfl
theorem d_X11_mark_47 : dk me_X11_mark 47 (.aaload) 1 48 := And.intro (by decide +kernel) rfl
theorem d_X11_mark_48 : dk me_X11_mark 48 (.iload_n 3) 1 49 := And.intro (by decide +kernel) rfl
theorem d_X11_mark_49 : dk me_X11_mark 49 (.iaload) 1 50 := And.intro (by decide +kernel) rfl
theorem d_X11_mark_50 : dk me_X11_mark 50 (.istore 5) 2 52 := And.intro (by decide +kernel) rfl
theorem d_X11_mark_52 : dk me_X11_mark 52 (.iload 5) 2 54 := And.intro (by decide +kernel) rfl
theorem d_X11_mark_54 : dk me_X11_mark 54 (.iconst (-1)) 1 55 := And.intro (by decide +kernel) rfl
theorem d_X11_mark_55 : dk me_X11_mark 55 (.if_icmp .ne 7) 3 58 := And.intro (by decide +kernel) rfl
theorem d_X11_mark_58 : dk me_X11_mark 58 (.iconst (-1)) 1 59 := And.intro (by decide +kernel) rfl
theorem d_X11_mark_59 : dk me_X11_mark 59 (.goto 21) 3 62 := And.intro (by decide +kernel) rfl
theorem d_X11_mark_62 : dk me_X11_mark 62 (.aload 4) 2 64 := And.intro (by decide +kernel) rfl
theorem d_X11_mark_64 : dk me_X11_mark 64 (.getfield 291) 3 67 := And.intro (by decide +kernel) rfl
theorem d_X11_mark_67 : dk me_X11_mark 67 (.iload_n 3) 1 68 := And.intro (by decide +kernel) rfl
theorem d_X11_mark_68 : dk me_X11_mark 68 (.aload 4) 2 70 := And.intro (by decide +kernel) rfl
theorem d_X11_mark_70 : dk me_X11_mark 70 (.getfield 385) 3 73 := And.intro (by decide +kernel) rfl
theorem d_X11_mark_73 : dk me_X11_mark 73 (.idiv) 1 74 := And.intro (by decide +kernel) rfl
theorem d_X11_mark_74 : dk me_X11_mark 74 (.aaload) 1 75 := And.intro (by decide +kernel) rfl
theorem d_X11_mark_75 : dk me_X11_mark 75 (.iload 5) 2 77 := And.intro (by decide +kernel) rfl
theorem d_X11_mark_77 : dk me_X11_mark 77 (.invokevirtual 388) 3 80 := And.intro (by decide +kernel) rfl
theorem d_X11_mark_80 : dk me_X11_mark 80 (.ireturn) 1 81 := And.intro (by decide +kernel) rfl
theorem ms_X11_mark {fx : FX} {m : MM} {l0 : Nat} {l1 : Int} {l2 : Int} {l3 : Int} : MS fx me_X11_mark [aR (some (11, l0)), aI l1, aI l2, aI l3] m (f_X11_mark m l0 l1 l2 l3) := by
  refine ms_of rfl mf_X11_mark (b8 rfl) ?_
  refine s_top ?_
  show Sim fx me_X11_mark 0 [(0, aR (some (11, l0))), (1, aI l1), (2, aI l2), (3, aI l3)] [] m _
  unfold f_X11_mark
  have hj_X11_mark_0_30 : ∀ (m_30 : MM) (l2_30 : Int) (l3_30 : Int) (l4_30 : Nat) (s0_30 : Int), Sim fx me_X11_mark 30 [(2, aI l2_30), (3, aI l3_30), (4, aR (some (0, l4_30)))] [aI s0_30] m_30 ((j_X11_mark_0_30 m_30 l2_30 l3_30 l4_30 s0_30).bind (fun z => some z)) := by
    intro m_30 l2_30 l3_30 l4_30 s0_30
    unfold j_X11_mark_0_30
    refine s_cV (r_S d_X11_mark_30 k_X11_requireIndex w_451 rfl rfl) ms_X11_requireIndex (b8 rfl) rfl rfl rfl (fun h => by cases h) (fun _ _ => Or.inr rfl) fun m6 => (s_aload d_X11_mark_33 m2_ (s_getB cf d_X11_mark_35 fl_X11_357 (s_cV (r_S d_X11_mark_38 k_X11_requireState w_363 rfl rfl) ms_X11_requireState (b8 rfl) rfl rfl rfl (fun h => by cases h) (fun _ _ => Or.inr rfl) fun m8 => (s_aload d_X11_mark_41 m2_ (s_getR cf d_X11_mark_43 fl_X11_375 ?_)))))
    refine s_nk fun i10 => (s_iload_n d_X11_mark_46 m0_ (s_ldR d_X11_mark_47 ka_17 ta_17 rfl rfl fun r11 => (s_nk fun i12 => (s_iload_n d_X11_mark_48 m1_ (s_ldN d_X11_mark_49 ka_18 rfl fun v13 => ?_)))))
    refine s_istore (L' := [(5, aI v13), (2, aI l2_30), (3, aI l3_30), (4, aR (some (0, l4_30)))]) d_X11_mark_50 (b8 rfl) rfl (s_iload d_X11_mark_52 m0_ (s_iconst d_X11_mark_54 n_m1 (s_icmp_ne (tgt := 62) d_X11_mark_55 rfl ?_ ?_)))
    · refine s_aload d_X11_mark_62 m3_ (s_getR cf d_X11_mark_64 fl_X11_291 (s_nk fun i14 => (s_iload_n d_X11_mark_67 m2_ (s_aload d_X11_mark_68 m3_ (s_getN cf d_X11_mark_70 fl_X11_385 ?_)))))
      exact s_idiv d_X11_mark_73 (s_ldR d_X11_mark_74 ka_15 ta_15 rfl rfl fun r15 => (s_nk fun i16 => (s_iload d_X11_mark_75 m0_ (s_pI (r_V d_X11_mark_77 k_X8_moldOf w_1228 rfl rfl) ms_X8_moldOf (b8 rfl) rfl rfl rfl fun v17 => (s_iret d_X11_mark_80 rfl rfl)))))
    exact s_iconst d_X11_mark_58 n_m1 (s_goto (tgt := 80) d_X11_mark_59 rfl (s_iret d_X11_mark_80 rfl rfl))
  have hj_X11_mark_0_29 : ∀ (m_29 : MM) (l2_29 : Int) (l3_29 : Int) (l4_29 : Nat), Sim fx me_X11_mark 29 [(2, aI l2_29), (3, aI l3_29), (4, aR (some (0, l4_29)))] [] m_29 ((j_X11_mark_0_29 m_29 l2_29 l3_29 l4_29).bind (fun z => some z)) := by
    intro m_29 l2_29 l3_29 l4_29
    unfold j_X11_mark_0_29
    exact s_iconst d_X11_mark_29 n_0 (s_sub (subc m0_ (subc m1_ (subc m2_ sub0))) (hj_X11_mark_0_30 m_29 l2_29 l3_29 l4_29 0))
  refine s_aload_n d_X11_mark_0 m0_ (s_iload_n d_X11_mark_1 m1_ (s_cR (r_V d_X11_mark_2 k_X11_bookAt w_814 rfl rfl) ms_X11_bookAt (b8 rfl) rfl rfl rfl (fun h => by cases h) (fun _ _ => Or.inr rfl) fun r2 m1 => (s_nk fun i3 => (s_astore (L' := [(4, aR (some (0, i3))), (0, aR (some (11, l0))), (1, aI l1), (2, aI l2), (3, aI l3)]) d_X11_mark_5 (b8 rfl) rfl (s_aload d_X11_mark_7 m0_ ?_)))))
  refine s_iload_n d_X11_mark_9 m3_ (s_pI (r_V d_X11_mark_10 k_X0_hasCopy w_1187 rfl rfl) ms_X0_hasCopy (b8 rfl) rfl rfl rfl fun v4 => (s_if_eq (tgt := 29) d_X11_mark_13 rfl ?_ ?_))
  · exact s_sub (subc m3_ (subc m4_ (subc m0_ sub0))) (hj_X11_mark_0_29 m1 l2 l3 i3)
  refine s_aload d_X11_mark_16 m0_ (s_iload_n d_X11_mark_18 m4_ (s_pI (r_V d_X11_mark_19 k_X0_hasLeaf w_1191 rfl rfl) ms_X0_hasLeaf (b8 rfl) rfl rfl rfl fun v5 => (s_if_eq (tgt := 29) d_X11_mark_22 rfl ?_ ?_)))
  · exact s_sub (subc m3_ (subc m4_ (subc m0_ sub0))) (hj_X11_mark_0_29 m1 l2 l3 i3)
  exact s_iconst d_X11_mark_25 n_1 (s_goto (tgt := 30) d_X11_mark_26 rfl (s_sub (subc m3_ (subc m4_ (subc m0_ sub0))) (hj_X11_mark_0_30 m1 l2 l3 i3 1)))
theorem d_L_mark_0 : dk me_L_mark 0 (.aload 4) 2 2 := And.intro (by decide +kernel) rfl
theorem d_L_mark_2 : dk me_L_mark 2 (.iconst 0) 1 3 := And.intro (by decide +kernel) rfl
theorem d_L_mark_3 : dk me_L_mark 3 (.aload_n 0) 1 4 := And.intro (by decide +kernel) rfl
theorem d_L_mark_4 : dk me_L_mark 4 (.iload_n 1) 1 5 := And.intro (by decide +kernel) rfl
theorem d_L_mark_5 : dk me_L_mark 5 (.iload_n 2) 1 6 := And.intro (by decide +kernel) rfl
theorem d_L_mark_6 : dk me_L_mark 6 (.iload_n 3) 1 7 := And.intro (by decide +kernel) rfl
theorem d_L_mark_7 : dk me_L_mark 7 (.invokevirtual 108) 3 10 := And.intro (by decide +kernel) rfl
theorem d_L_mark_10 : dk me_L_mark 10 (.i2l) 1 11 := And.intro (by decide +kernel) rfl
theorem d_L_mark_11 : dk me_L_mark 11 (.lastore) 1 12 := And.intro (by decide +kernel) rfl
theorem d_L_mark_12 : dk me_L_mark 12 (.goto 11) 3 15 := And.intro (by decide +kernel) rfl
theorem d_L_mark_15 : dk me_L_mark 15 (.astore 5) 2 17 := And.intro (by decide +kernel) rfl
theorem d_L_mark_17 : dk me_L_mark 17 (.iconst 1) 1 18 := And.intro (by decide +kernel) rfl
theorem d_L_mark_18 : dk me_L_mark 18 (.ireturn) 1 19 := And.intro (by decide +kernel) rfl
theorem d_L_mark_19 : dk me_L_mark 19 (.astore 5) 2 21 := And.intro (by decide +kernel) rfl
theorem d_L_mark_21 : dk me_L_mark 21 (.iconst 2) 1 22 := And.intro (by decide +kernel) rfl
theorem d_L_mark_22 : dk me_L_mark 22 (.ireturn) 1 23 := And.intro (by decide +kernel) rfl
theorem d_L_mark_23 : dk me_L_mark 23 (.iconst 0) 1 24 := And.intro (by decide +kernel) rfl
theorem d_L_mark_24 : dk me_L_mark 24 (.ireturn) 1 25 := And.intro (by decide +kernel) rfl
theorem ms_L_mark {fx : FX} {m : MM} {l0 : Nat} {l1 : Int} {l2 : Int} {l3 : Int} {l4 : Nat} : MS fx me_L_mark [aR (some (11, l0)), aI l1, aI l2, aI l3, aR (some (131, l4))] m (f_L_mark m l0 l1 l2 l3 l4) := by
  refine ms_ofH rfl mf_L_mark (b8 rfl) ?_
  refine s_top ?_
  show Sim fx me_L_mark 0 [(0, aR (some (11, l0))), (1, aI l1), (2, aI l2), (3, aI l3), (4, aR (some (131, l4)))] [] m _
  unfold f_L_mark
  refine s_aload d_L_mark_0 m4_ (s_iconst d_L_mark_2 n_0 (s_aload_n d_L_mark_3 m0_ (s_iload_n d_L_mark_4 m1_ (s_iload_n d_L_mark_5 m2_ (s_iload_n d_L_mark_6 m3_ ?_)))))
  refine s_cIC (r_V d_L_mark_7 k_X11_mark w_1224 rfl rfl) ms_X11_mark (b8 rfl) rfl rfl ?_ ?_ ?_ fun v2 m1 => ?_
  · refine fun mx => Or.inr ⟨15, ⟨rfl, by decide, 0, wx_29_0, Or.inl ⟨rfl, rfl⟩⟩, fun qx => ?_⟩
    exact s_astoreV (L' := [(5, aV (.ref qx)), (0, aR (some (11, l0))), (1, aI l1), (2, aI l2), (3, aI l3), (4, aR (some (131, l4)))]) d_L_mark_15 (b8 rfl) rfl (s_iconst d_L_mark_17 n_1 (s_iret d_L_mark_18 rfl rfl))
  · exact fun _ => Or.inl rfl
  · refine fun mx => Or.inr ⟨19, ⟨rfl, by decide, 0, wx_29_0, Or.inr ⟨by decide, ⟨rfl, by decide, 2, wx_15_2, Or.inl ⟨rfl, rfl⟩⟩⟩⟩, fun qx => ?_⟩
    exact s_astoreV (L' := [(5, aV (.ref qx)), (0, aR (some (11, l0))), (1, aI l1), (2, aI l2), (3, aI l3), (4, aR (some (131, l4)))]) d_L_mark_19 (b8 rfl) rfl (s_iconst d_L_mark_21 n_2 (s_iret d_L_mark_22 rfl rfl))
  exact s_i2l d_L_mark_10 (s_stL d_L_mark_11 ka_131 rfl fun m3 => (s_goto (tgt := 23) d_L_mark_12 rfl (s_iconst d_L_mark_23 n_0 (s_iret d_L_mark_24 rfl rfl))))
theorem d_X11_men_0 : dk me_X11_men 0 (.aload_n 0) 1 1 := And.intro (by decide +kernel) rfl
theorem d_X11_men_1 : dk me_X11_men 1 (.iload_n 1) 1 2 := And.intro (by decide +kernel) rfl
theorem d_X11_men_2 : dk me_X11_men 2 (.invokevirtual 287) 3 5 := And.intro (by decide +kernel) rfl
theorem d_X11_men_5 : dk me_X11_men 5 (.astore_n 3) 1 6 := And.intro (by decide +kernel) rfl
theorem d_X11_men_6 : dk me_X11_men 6 (.iload_n 2) 1 7 := And.intro (by decide +kernel) rfl
theorem d_X11_men_7 : dk me_X11_men 7 (.ifCond .lt 12) 3 10 := And.intro (by decide +kernel) rfl
theorem d_X11_men_10 : dk me_X11_men 10 (.iload_n 2) 1 11 := And.intro (by decide +kernel) rfl
theorem d_X11_men_11 : dk me_X11_men 11 (.iconst 2) 1 12 := And.intro (by decide +kernel) rfl
theorem d_X11_men_12 : dk me_X11_men 12 (.if_icmp .gt 7) 3 15 := And.intro (by decide +kernel) rfl
theorem d_X11_men_15 : dk me_X11_men 15 (.iconst 1) 1 16 := And.intro (by decide +kernel) rfl
theorem d_X11_men_16 : dk me_X11_men 16 (.goto 4) 3 19 := And.intro (by decide +kernel) rfl
theorem d_X11_men_19 : dk me_X11_men 19 (.iconst 0) 1 20 := And.intro (by decide +kernel) rfl
theorem d_X11_men_20 : dk me_X11_men 20 (.invokestatic 53) 3 23 := And.intro (by decide +kernel) rfl
theorem d_X11_men_23 : dk me_X11_men 23 (.aload_n 3) 1 24 := And.intro (by decide +kernel) rfl
theorem d_X11_men_24 : dk me_X11_men 24 (.getfield 323) 3 27 := And.intro (by decide +kernel) rfl
theorem d_X11_men_27 : dk me_X11_men 27 (.istore 4) 2 29 := And.intro (by decide +kernel) rfl
theorem d_X11_men_29 : dk me_X11_men 29 (.aload_n 3) 1 30 := And.intro (by decide +kernel) rfl
theorem d_X11_men_30 : dk me_X11_men 30 (.iload_n 2) 1 31 := And.intro (by decide +kernel) rfl
theorem d_X11_men_31 : dk me_X11_men 31 (.putfield 323) 3 34 := And.intro (by decide +kernel) rfl
theorem d_X11_men_34 : dk me_X11_men 34 (.iload 4) 2 36 := And.intro (by decide +kernel) rfl
theorem d_X11_men_36 : dk me_X11_men 36 (.ireturn) 1 37 := And.intro (by decide +kernel) rfl
theorem ms_X11_men {fx : FX} {m : MM} {l0 : Nat} {l1 : Int} {l2 : Int} : MS fx me_X11_men [aR (some (11, l0)), aI l1, aI l2] m (f_X11_men m l0 l1 l2) := by
  refine ms_of rfl mf_X11_men (b8 rfl) ?_
  refine s_top ?_
  show Sim fx me_X11_men 0 [(0, aR (some (11, l0))), (1, aI l1), (2, aI l2)] [] m _
  unfold f_X11_men
  have hj_X11_men_0_20 : ∀ (m_20 : MM) (l2_20 : Int) (l3_20 : Nat) (s0_20 : Int), Sim fx me_X11_men 20 [(2, aI l2_20), (3, aR (some (6, l3_20)))] [aI s0_20] m_20 ((j_X11_men_0_20 m_20 l2_20 l3_20 s0_20).bind (fun z => some z)) := by
    intro m_20 l2_20 l3_20 s0_20
    unfold j_X11_men_0_20
    refine s_cV (r_S d_X11_men_20 k_X11_requireArgument w_284 rfl rfl) ms_X11_requireArgument (b8 rfl) rfl rfl rfl (fun h => by cases h) (fun _ _ => Or.inr rfl) fun m4 => (s_aload_n d_X11_men_23 m1_ (s_getN cf d_X11_men_24 fl_X11_323 (s_istore (L' := [(4, aI (gN m4 6 l3_20 1)), (2, aI l2_20), (3, aR (some (6, l3_20)))]) d_X11_men_27 (b8 rfl) rfl (s_aload_n d_X11_men_29 m2_ (s_iload_n d_X11_men_30 m1_ ?_)))))
    exact s_putN cf d_X11_men_31 fl_X11_323 (fun h => by cases h) fun m6 => (s_iload d_X11_men_34 m0_ (s_iret d_X11_men_36 rfl rfl))
  have hj_X11_men_0_19 : ∀ (m_19 : MM) (l2_19 : Int) (l3_19 : Nat), Sim fx me_X11_men 19 [(2, aI l2_19), (3, aR (some (6, l3_19)))] [] m_19 ((j_X11_men_0_19 m_19 l2_19 l3_19).bind (fun z => some z)) := by
    intro m_19 l2_19 l3_19
    unfold j_X11_men_0_19
    exact s_iconst d_X11_men_19 n_0 (s_sub (subc m0_ (subc m1_ sub0)) (hj_X11_men_0_20 m_19 l2_19 l3_19 0))
  refine s_aload_n d_X11_men_0 m0_ (s_iload_n d_X11_men_1 m1_ (s_cR (r_V d_X11_men_2 k_X11_pressAt w_1053 rfl rfl) ms_X11_pressAt (b8 rfl) rfl rfl rfl (fun h => by cases h) (fun _ _ => Or.inr rfl) fun r2 m1 => (s_nk fun i3 => (s_astore_n (L' := [(3, aR (some (6, i3))), (0, aR (some (11, l0))), (1, aI l1), (2, aI l2)]) d_X11_men_5 (b8 rfl) rfl (s_iload_n d_X11_men_6 m3_ ?_)))))
  refine s_if_lt (tgt := 19) d_X11_men_7 rfl ?_ ?_
  · exact s_sub (subc m3_ (subc m0_ sub0)) (hj_X11_men_0_19 m1 l2 i3)
  refine s_iload_n d_X11_men_10 m3_ (s_iconst d_X11_men_11 n_2 (s_icmp_gt (tgt := 19) d_X11_men_12 rfl ?_ ?_))
  · exact s_sub (subc m3_ (subc m0_ sub0)) (hj_X11_men_0_19 m1 l2 i3)
  exact s_iconst d_X11_men_15 n_1 (s_goto (tgt := 20) d_X11_men_16 rfl (s_sub (subc m3_ (subc m0_ sub0)) (hj_X11_men_0_20 m1 l2 i3 1)))
theorem d_L_men_0 : dk me_L_men 0 (.aload_n 3) 1 1 := And.intro (by decide +kernel) rfl
theorem d_L_men_1 : dk me_L_men 1 (.iconst 0) 1 2 := And.intro (by decide +kernel) rfl
theorem d_L_men_2 : dk me_L_men 2 (.aload_n 0) 1 3 := And.intro (by decide +kernel) rfl
theorem d_L_men_3 : dk me_L_men 3 (.iload_n 1) 1 4 := And.intro (by decide +kernel) rfl
theorem d_L_men_4 : dk me_L_men 4 (.iload_n 2) 1 5 := And.intro (by decide +kernel) rfl
theorem d_L_men_5 : dk me_L_men 5 (.invokevirtual 74) 3 8 := And.intro (by decide +kernel) rfl
theorem d_L_men_8 : dk me_L_men 8 (.i2l) 1 9 := And.intro (by decide +kernel) rfl
theorem d_L_men_9 : dk me_L_men 9 (.lastore) 1 10 := And.intro (by decide +kernel) rfl
theorem d_L_men_10 : dk me_L_men 10 (.goto 11) 3 13 := And.intro (by decide +kernel) rfl
theorem d_L_men_13 : dk me_L_men 13 (.astore 4) 2 15 := And.intro (by decide +kernel) rfl
theorem d_L_men_15 : dk me_L_men 15 (.iconst 1) 1 16 := And.intro (by decide +kernel) rfl
theorem d_L_men_16 : dk me_L_men 16 (.ireturn) 1 17 := And.intro (by decide +kernel) rfl
theorem d_L_men_17 : dk me_L_men 17 (.astore 4) 2 19 := And.intro (by decide +kernel) rfl
theorem d_L_men_19 : dk me_L_men 19 (.iconst 2) 1 20 := And.intro (by decide +kernel) rfl
theorem d_L_men_20 : dk me_L_men 20 (.ireturn) 1 21 := And.intro (by decide +kernel) rfl
theorem d_L_men_21 : dk me_L_men 21 (.iconst 0) 1 22 := And.intro (by decide +kernel) rfl
theorem d_L_men_22 : dk me_L_men 22 (.ireturn) 1 23 := And.intro (by decide +kernel) rfl
theorem ms_L_men {fx : FX} {m : MM} {l0 : Nat} {l1 : Int} {l2 : Int} {l3 : Nat} : MS fx me_L_men [aR (some (11, l0)), aI l1, aI l2, aR (some (131, l3))] m (f_L_men m l0 l1 l2 l3) := by
  refine ms_ofH rfl mf_L_men (b8 rfl) ?_
  refine s_top ?_
  show Sim fx me_L_men 0 [(0, aR (some (11, l0))), (1, aI l1), (2, aI l2), (3, aR (some (131, l3)))] [] m _
  unfold f_L_men
  refine s_aload_n d_L_men_0 m3_ (s_iconst d_L_men_1 n_0 (s_aload_n d_L_men_2 m0_ (s_iload_n d_L_men_3 m1_ (s_iload_n d_L_men_4 m2_ (s_cIC (r_V d_L_men_5 k_X11_men w_1073 rfl rfl) ms_X11_men (b8 rfl) rfl rfl ?_ ?_ ?_ fun v2 m1 => ?_)))))
  · refine fun mx => Or.inr ⟨13, ⟨rfl, by decide, 0, wx_29_0, Or.inl ⟨rfl, rfl⟩⟩, fun qx => ?_⟩
    exact s_astoreV (L' := [(4, aV (.ref qx)), (0, aR (some (11, l0))), (1, aI l1), (2, aI l2), (3, aR (some (131, l3)))]) d_L_men_13 (b8 rfl) rfl (s_iconst d_L_men_15 n_1 (s_iret d_L_men_16 rfl rfl))
  · refine fun mx => Or.inr ⟨17, ⟨rfl, by decide, 0, wx_29_0, Or.inr ⟨by decide, ⟨rfl, by decide, 1, wx_13_1, Or.inl ⟨rfl, rfl⟩⟩⟩⟩, fun qx => ?_⟩
    exact s_astoreV (L' := [(4, aV (.ref qx)), (0, aR (some (11, l0))), (1, aI l1), (2, aI l2), (3, aR (some (131, l3)))]) d_L_men_17 (b8 rfl) rfl (s_iconst d_L_men_19 n_2 (s_iret d_L_men_20 rfl rfl))
  · exact fun _ => Or.inl rfl
  exact s_i2l d_L_men_8 (s_stL d_L_men_9 ka_131 rfl fun m3 => (s_goto (tgt := 21) d_L_men_10 rfl (s_iconst d_L_men_21 n_0 (s_iret d_L_men_22 rfl rfl))))
