set_option maxRecDepth 8000
theorem d_X11_shared_0 : dk me_X11_shared 0 (.aload_n 0) 1 1 := And.intro (by decide +kernel) rfl
theorem d_X11_shared_1 : dk me_X11_shared 1 (.iload_n 1) 1 2 := And.intro (by decide +kernel) rfl
theorem d_X11_shared_2 : dk me_X11_shared 2 (.invokevirtual 143) 3 5 := And.intro (by decide +kernel) rfl
theorem d_X11_shared_5 : dk me_X11_shared 5 (.astore 4) 2 7 := And.intro (by decide +kernel) rfl
theorem d_X11_shared_7 : dk me_X11_shared 7 (.aload 4) 2 9 := And.intro (by decide +kernel) rfl
theorem d_X11_shared_9 : dk me_X11_shared 9 (.iload_n 2) 1 10 := And.intro (by decide +kernel) rfl
theorem d_X11_shared_10 : dk me_X11_shared 10 (.invokestatic 269) 3 13 := And.intro (by decide +kernel) rfl
theorem d_X11_shared_13 : dk me_X11_shared 13 (.astore 5) 2 15 := And.intro (by decide +kernel) rfl
theorem d_X11_shared_15 : dk me_X11_shared 15 (.aload 4) 2 17 := And.intro (by decide +kernel) rfl
theorem d_X11_shared_17 : dk me_X11_shared 17 (.iload_n 3) 1 18 := And.intro (by decide +kernel) rfl
theorem d_X11_shared_18 : dk me_X11_shared 18 (.invokestatic 269) 3 21 := And.intro (by decide +kernel) rfl
theorem d_X11_shared_21 : dk me_X11_shared 21 (.astore 6) 2 23 := And.intro (by decide +kernel) rfl
theorem d_X11_shared_23 : dk me_X11_shared 23 (.iload_n 2) 1 24 := And.intro (by decide +kernel) rfl
theorem d_X11_shared_24 : dk me_X11_shared 24 (.iload_n 3) 1 25 := And.intro (by decide +kernel) rfl
theorem d_X11_shared_25 : dk me_X11_shared 25 (.if_icmp .eq 7) 3 28 := And.intro (by decide +kernel) rfl
theorem d_X11_shared_28 : dk me_X11_shared 28 (.iconst 1) 1 29 := And.intro (by decide +kernel) rfl
theorem d_X11_shared_29 : dk me_X11_shared 29 (.goto 4) 3 32 := And.intro (by decide +kernel) rfl
theorem d_X11_shared_32 : dk me_X11_shared 32 (.iconst 0) 1 33 := And.intro (by decide +kernel) rfl
theorem d_X11_shared_33 : dk me_X11_shared 33 (.invokestatic 53) 3 36 := And.intro (by decide +kernel) rfl
theorem d_X11_shared_36 : dk me_X11_shared 36 (.iconst 0) 1 37 := And.intro (by decide +kernel) rfl
theorem d_X11_shared_37 : dk me_X11_shared 37 (.istore 7) 2 39 := And.intro (by decide +kernel) rfl
theorem d_X11_shared_39 : dk me_X11_shared 39 (.iconst 0) 1 40 := And.intro (by decide +kernel) rfl
theorem d_X11_shared_40 : dk me_X11_shared 40 (.istore 8) 2 42 := And.intro (by decide +kernel) rfl
theorem d_X11_shared_42 : dk me_X11_shared 42 (.iload 8) 2 44 := And.intro (by decide +kernel) rfl
theorem d_X11_shared_44 : dk me_X11_shared 44 (.aload_n 0) 1 45 := And.intro (by decide +kernel) rfl
theorem d_X11_shared_45 : dk me_X11_shared 45 (.getfield 19) 3 48 := And.intro (by decide +kernel) rfl
theorem d_X11_shared_48 : dk me_X11_shared 48 (.getfield 108) 3 51 := And.intro (by decide +kernel) rfl
theorem d_X11_shared_51 : dk me_X11_shared 51 (.if_icmp .ge 34) 3 54 := And.intro (by decide +kernel) rfl
theorem d_X11_shared_54 : dk me_X11_shared 54 (.aload 5) 2 56 := And.intro (by decide +kernel) rfl
theorem d_X11_shared_56 : dk me_X11_shared 56 (.getfield 402) 3 59 := And.intro (by decide +kernel) rfl
theorem d_X11_shared_59 : dk me_X11_shared 59 (.iload 8) 2 61 := And.intro (by decide +kernel) rfl
theorem d_X11_shared_61 : dk me_X11_shared 61 (.iaload) 1 62 := And.intro (by decide +kernel) rfl
theorem d_X11_shared_62 : dk me_X11_shared 62 (.ifCond .le 17) 3 65 := And.intro (by decide +kernel) rfl
theorem d_X11_shared_65 : dk me_X11_shared 65 (.aload 6) 2 67 := And.intro (by decide +kernel) rfl
theorem d_X11_shared_67 : dk me_X11_shared 67 (.getfield 402) 3 70 := And.intro (by decide +kernel) rfl
theorem d_X11_shared_70 : dk me_X11_shared 70 (.iload 8) 2 72 := And.intro (by decide +kernel) rfl
theorem d_X11_shared_72 : dk me_X11_shared 72 (.iaload) 1 73 := And.intro (by decide +kernel) rfl
theorem d_X11_shared_73 : dk me_X11_shared 73 (.ifCond .le 6) 3 76 := And.intro (by decide +kernel) rfl
theorem d_X11_shared_76 : dk me_X11_shared 76 (.iinc 7 1) 3 79 := And.intro (by decide +kernel) rfl
theorem d_X11_shared_79 : dk me_X11_shared 79 (.iinc 8 1) 3 82 := And.intro (by decide +kernel) rfl
theorem d_X11_shared_82 : dk me_X11_shared 82 (.goto (-40)) 3 85 := And.intro (by decide +kernel) rfl
theorem d_X11_shared_85 : dk me_X11_shared 85 (.aload 5) 2 87 := And.intro (by decide +kernel) rfl
theorem d_X11_shared_87 : dk me_X11_shared 87 (.getfield 284) 3 90 := And.intro (by decide +kernel) rfl
theorem d_X11_shared_90 : dk me_X11_shared 90 (.iconst (-1)) 1 91 := And.intro (by decide +kernel) rfl
theorem d_X11_shared_91 : dk me_X11_shared 91 (.if_icmp .eq 20) 3 94 := And.intro (by decide +kernel) rfl
theorem d_X11_shared_94 : dk me_X11_shared 94 (.aload 5) 2 96 := And.intro (by decide +kernel) rfl
theorem d_X11_shared_96 : dk me_X11_shared 96 (.getfield 284) 3 99 := And.intro (by decide +kernel) rfl
theorem d_X11_shared_99 : dk me_X11_shared 99 (.aload 6) 2 101 := And.intro (by decide +kernel) rfl
theorem d_X11_shared_101 : dk me_X11_shared 101 (.getfield 284) 3 104 := And.intro (by decide +kernel) rfl
theorem d_X11_shared_104 : dk me_X11_shared 104 (.if_icmp .ne 7) 3 107 := And.intro (by decide +kernel) rfl
theorem d_X11_shared_107 : dk me_X11_shared 107 (.iconst 1) 1 108 := And.intro (by decide +kernel) rfl
theorem d_X11_shared_108 : dk me_X11_shared 108 (.goto 4) 3 111 := And.intro (by decide +kernel) rfl
theorem d_X11_shared_111 : dk me_X11_shared 111 (.iconst 0) 1 112 := And.intro (by decide +kernel) rfl
theorem d_X11_shared_112 : dk me_X11_shared 112 (.istore 8) 2 114 := And.intro (by decide +kernel) rfl
theorem d_X11_shared_114 : dk me_X11_shared 114 (.iload 8) 2 116 := And.intro (by decide +kernel) rfl
theorem d_X11_shared_116 : dk me_X11_shared 116 (.ifCond .eq 12) 3 119 := And.intro (by decide +kernel) rfl
theorem d_X11_shared_119 : dk me_X11_shared 119 (.iload 7) 2 121 := And.intro (by decide +kernel) rfl
theorem d_X11_shared_121 : dk me_X11_shared 121 (.sipush 1000) 3 124 := And.intro (by decide +kernel) rfl
theorem d_X11_shared_124 : dk me_X11_shared 124 (.iadd) 1 125 := And.intro (by decide +kernel) rfl
theorem d_X11_shared_125 : dk me_X11_shared 125 (.goto 5) 3 128 := And.intro (by decide +kernel) rfl
theorem d_X11_shared_128 : dk me_X11_shared 128 (.iload 7) 2 130 := And.intro (by decide +kernel) rfl
theorem d_X11_shared_130 : dk me_X11_shared 130 (.ireturn) 1 131 := And.intro (by decide +kernel) rfl
theorem ms_X11_shared {fx : FX} {m : MM} {l0 : Nat} {l1 : Int} {l2 : Int} {l3 : Int} : MS fx me_X11_shared [aR (some (11, l0)), aI l1, aI l2, aI l3] m (f_X11_shared m l0 l1 l2 l3) := by
  refine ms_of rfl mf_X11_shared (b8 rfl) ?_
  refine s_top ?_
  show Sim fx me_X11_shared 0 [(0, aR (some (11, l0))), (1, aI l1), (2, aI l2), (3, aI l3)] [] m _
  unfold f_X11_shared
  have hj_X11_shared_0_112 : ∀ (m_112 : MM) (l7_112 : Int) (s0_112 : Int), Sim fx me_X11_shared 112 [(7, aI l7_112)] [aI s0_112] m_112 ((j_X11_shared_0_112 m_112 l7_112 s0_112).bind (fun z => some z)) := by
    intro m_112 l7_112 s0_112
    unfold j_X11_shared_0_112
    refine s_istore (L' := [(8, aI s0_112), (7, aI l7_112)]) d_X11_shared_112 (b8 rfl) rfl (s_iload d_X11_shared_114 m0_ (s_if_eq (tgt := 128) d_X11_shared_116 rfl ?_ ?_))
    · exact s_iload d_X11_shared_128 m1_ (s_iret d_X11_shared_130 rfl rfl)
    exact s_iload d_X11_shared_119 m1_ (s_sipush d_X11_shared_121 n_1000 rfl (s_iadd d_X11_shared_124 rfl rfl (s_goto (tgt := 130) d_X11_shared_125 rfl (s_ck (s_iret d_X11_shared_130 rfl rfl)))))
  have hj_X11_shared_0_111 : ∀ (m_111 : MM) (l7_111 : Int), Sim fx me_X11_shared 111 [(7, aI l7_111)] [] m_111 ((j_X11_shared_0_111 m_111 l7_111).bind (fun z => some z)) := by
    intro m_111 l7_111
    unfold j_X11_shared_0_111
    exact s_iconst d_X11_shared_111 n_0 (s_sub (subc m0_ sub0) (hj_X11_shared_0_112 m_111 l7_111 0))
  have hj_X11_shared_0_85 : ∀ (m_85 : MM) (l5_85 : Nat) (l6_85 : Nat) (l7_85 : Int), Sim fx me_X11_shared 85 [(5, aR (some (2, l5_85))), (6, aR (some (2, l6_85))), (7, aI l7_85)] [] m_85 ((j_X11_shared_0_85 m_85 l5_85 l6_85 l7_85).bind (fun z => some z)) := by
    intro m_85 l5_85 l6_85 l7_85
    unfold j_X11_shared_0_85
    refine s_aload d_X11_shared_85 m0_ (s_getN cf d_X11_shared_87 fl_X11_284 (s_iconst d_X11_shared_90 n_m1 (s_icmp_eq (tgt := 111) d_X11_shared_91 rfl ?_ ?_)))
    · exact s_sub (subc m2_ sub0) (hj_X11_shared_0_111 m_85 l7_85)
    refine s_aload d_X11_shared_94 m0_ (s_getN cf d_X11_shared_96 fl_X11_284 (s_aload d_X11_shared_99 m1_ (s_getN cf d_X11_shared_101 fl_X11_284 (s_icmp_ne (tgt := 111) d_X11_shared_104 rfl ?_ ?_))))
    · exact s_sub (subc m2_ sub0) (hj_X11_shared_0_111 m_85 l7_85)
    exact s_iconst d_X11_shared_107 n_1 (s_goto (tgt := 112) d_X11_shared_108 rfl (s_sub (subc m2_ sub0) (hj_X11_shared_0_112 m_85 l7_85 1)))
  have hj_X11_shared_0_33 : ∀ (m_33 : MM) (l0_33 : Nat) (l5_33 : Nat) (l6_33 : Nat) (s0_33 : Int), Sim fx me_X11_shared 33 [(0, aR (some (11, l0_33))), (5, aR (some (2, l5_33))), (6, aR (some (2, l6_33)))] [aI s0_33] m_33 ((j_X11_shared_0_33 m_33 l0_33 l5_33 l6_33 s0_33).bind (fun z => some z)) := by
    intro m_33 l0_33 l5_33 l6_33 s0_33
    unfold j_X11_shared_0_33
    refine s_cV (r_S d_X11_shared_33 k_X11_requireArgument w_284 rfl rfl) ms_X11_requireArgument (b8 rfl) rfl rfl rfl (fun h => by cases h) (fun _ _ => Or.inr rfl) fun m10 => (s_iconst d_X11_shared_36 n_0 (s_istore (L' := [(7, aI 0), (0, aR (some (11, l0_33))), (5, aR (some (2, l5_33))), (6, aR (some (2, l6_33)))]) d_X11_shared_37 (b8 rfl) rfl (s_iconst d_X11_shared_39 n_0 (s_istore (L' := [(8, aI 0), (7, aI 0), (0, aR (some (11, l0_33))), (5, aR (some (2, l5_33))), (6, aR (some (2, l6_33)))]) d_X11_shared_40 (b8 rfl) rfl (s_sub (subc m1_ (subc m0_ (subc m2_ (subc m3_ (subc m4_ sub0))))) (s_lp2 (fun s => [(7, aI (s.1)), (8, aI (s.2)), (0, aR (some (11, l0_33))), (5, aR (some (2, l5_33))), (6, aR (some (2, l6_33)))]) (fun s => m10) (0, 0) fun k42 hx42 s ih0 => ?_))))))
    obtain ⟨l7_42, l8_42⟩ := s
    have ih42 := ih0
    clear ih0
    try dsimp only
    unfold b_X11_shared_42
    refine s_iload d_X11_shared_42 m1_ (s_aload_n d_X11_shared_44 m2_ (s_getR cf d_X11_shared_45 fl_X11_19 (s_nk fun i12 => (s_getN cf d_X11_shared_48 fl_X11_108 (s_icmp_ge (tgt := 85) d_X11_shared_51 rfl ?_ ?_)))))
    · exact s_exit (hx42 _) (s_sub (subc m3_ (subc m4_ (subc m0_ sub0))) (hj_X11_shared_0_85 m10 l5_33 l6_33 l7_42))
    refine s_aload d_X11_shared_54 m3_ (s_getR cf d_X11_shared_56 fl_X11_402 (s_nk fun i13 => (s_iload d_X11_shared_59 m1_ (s_ldN d_X11_shared_61 ka_25 rfl fun v14 => (s_if_le (tgt := 79) d_X11_shared_62 rfl ?_ ?_)))))
    · exact s_iinc (L' := [(8, aI (l8_42 + 1)), (7, aI l7_42), (0, aR (some (11, l0_33))), (5, aR (some (2, l5_33))), (6, aR (some (2, l6_33)))]) d_X11_shared_79 m1_ (b8 rfl) rfl (s_goto (tgt := 42) d_X11_shared_82 rfl (s_sub (subc m1_ (subc m0_ (subc m2_ (subc m3_ (subc m4_ sub0))))) (s_back (ih42 (l7_42, (l8_42 + 1))))))
    refine s_aload d_X11_shared_65 m4_ (s_getR cf d_X11_shared_67 fl_X11_402 (s_nk fun i15 => (s_iload d_X11_shared_70 m1_ (s_ldN d_X11_shared_72 ka_25 rfl fun v16 => (s_if_le (tgt := 79) d_X11_shared_73 rfl ?_ ?_)))))
    · exact s_iinc (L' := [(8, aI (l8_42 + 1)), (7, aI l7_42), (0, aR (some (11, l0_33))), (5, aR (some (2, l5_33))), (6, aR (some (2, l6_33)))]) d_X11_shared_79 m1_ (b8 rfl) rfl (s_goto (tgt := 42) d_X11_shared_82 rfl (s_sub (subc m1_ (subc m0_ (subc m2_ (subc m3_ (subc m4_ sub0))))) (s_back (ih42 (l7_42, (l8_42 + 1))))))
    exact s_iinc (L' := [(7, aI (l7_42 + 1)), (8, aI l8_42), (0, aR (some (11, l0_33))), (5, aR (some (2, l5_33))), (6, aR (some (2, l6_33)))]) d_X11_shared_76 m0_ (b8 rfl) rfl (s_iinc (L' := [(8, aI (l8_42 + 1)), (7, aI (l7_42 + 1)), (0, aR (some (11, l0_33))), (5, aR (some (2, l5_33))), (6, aR (some (2, l6_33)))]) d_X11_shared_79 m1_ (b8 rfl) rfl (s_goto (tgt := 42) d_X11_shared_82 rfl (s_sub (subc m1_ (subc m0_ (subc m2_ (subc m3_ (subc m4_ sub0))))) (s_back (ih42 ((l7_42 + 1), (l8_42 + 1)))))))
  refine s_aload_n d_X11_shared_0 m0_ (s_iload_n d_X11_shared_1 m1_ (s_cR (r_V d_X11_shared_2 k_X11_bookAt w_814 rfl rfl) ms_X11_bookAt (b8 rfl) rfl rfl rfl (fun h => by cases h) (fun _ _ => Or.inr rfl) fun r2 m1 => (s_nk fun i3 => (s_astore (L' := [(4, aR (some (0, i3))), (0, aR (some (11, l0))), (1, aI l1), (2, aI l2), (3, aI l3)]) d_X11_shared_5 (b8 rfl) rfl (s_aload d_X11_shared_7 m0_ ?_)))))
  refine s_iload_n d_X11_shared_9 m3_ (s_cR (r_S d_X11_shared_10 k_X11_formeOf w_1025 rfl rfl) ms_X11_formeOf (b8 rfl) rfl rfl rfl (fun h => by cases h) (fun _ _ => Or.inr rfl) fun r5 m4 => (s_nk fun i6 => (s_astore (L' := [(5, aR (some (2, i6))), (4, aR (some (0, i3))), (0, aR (some (11, l0))), (1, aI l1), (2, aI l2), (3, aI l3)]) d_X11_shared_13 (b8 rfl) rfl (s_aload d_X11_shared_15 m1_ (s_iload_n d_X11_shared_17 m5_ ?_)))))
  refine s_cR (r_S d_X11_shared_18 k_X11_formeOf w_1025 rfl rfl) ms_X11_formeOf (b8 rfl) rfl rfl rfl (fun h => by cases h) (fun _ _ => Or.inr rfl) fun r8 m7 => (s_nk fun i9 => (s_astore (L' := [(6, aR (some (2, i9))), (5, aR (some (2, i6))), (4, aR (some (0, i3))), (0, aR (some (11, l0))), (1, aI l1), (2, aI l2), (3, aI l3)]) d_X11_shared_21 (b8 rfl) rfl (s_iload_n d_X11_shared_23 m5_ (s_iload_n d_X11_shared_24 m6_ (s_icmp_eq (tgt := 32) d_X11_shared_25 rfl ?_ ?_)))))
  · exact s_iconst d_X11_shared_32 n_0 (s_sub (subc m3_ (subc m1_ (subc m0_ sub0))) (hj_X11_shared_0_33 m7 l0 i6 i9 0))
  exact s_iconst d_X11_shared_28 n_1 (s_goto (tgt := 33) d_X11_shared_29 rfl (s_sub (subc m3_ (subc m1_ (subc m0_ sub0))) (hj_X11_shared_0_33 m7 l0 i6 i9 1)))
theorem d_L_shared_0 : dk me_L_shared 0 (.aload 4) 2 2 := And.intro (by decide +kernel) rfl
theorem d_L_shared_2 : dk me_L_shared 2 (.iconst 0) 1 3 := And.intro (by decide +kernel) rfl
theorem d_L_shared_3 : dk me_L_shared 3 (.aload_n 0) 1 4 := And.intro (by decide +kernel) rfl
theorem d_L_shared_4 : dk me_L_shared 4 (.iload_n 1) 1 5 := And.intro (by decide +kernel) rfl
theorem d_L_shared_5 : dk me_L_shared 5 (.iload_n 2) 1 6 := And.intro (by decide +kernel) rfl
theorem d_L_shared_6 : dk me_L_shared 6 (.iload_n 3) 1 7 := And.intro (by decide +kernel) rfl
theorem d_L_shared_7 : dk me_L_shared 7 (.invokevirtual 120) 3 10 := And.intro (by decide +kernel) rfl
theorem d_L_shared_10 : dk me_L_shared 10 (.i2l) 1 11 := And.intro (by decide +kernel) rfl
theorem d_L_shared_11 : dk me_L_shared 11 (.lastore) 1 12 := And.intro (by decide +kernel) rfl
theorem d_L_shared_12 : dk me_L_shared 12 (.goto 11) 3 15 := And.intro (by decide +kernel) rfl
theorem d_L_shared_15 : dk me_L_shared 15 (.astore 5) 2 17 := And.intro (by decide +kernel) rfl
theorem d_L_shared_17 : dk me_L_shared 17 (.iconst 1) 1 18 := And.intro (by decide +kernel) rfl
theorem d_L_shared_18 : dk me_L_shared 18 (.ireturn) 1 19 := And.intro (by decide +kernel) rfl
theorem d_L_shared_19 : dk me_L_shared 19 (.astore 5) 2 21 := And.intro (by decide +kernel) rfl
theorem d_L_shared_21 : dk me_L_shared 21 (.iconst 2) 1 22 := And.intro (by decide +kernel) rfl
theorem d_L_shared_22 : dk me_L_shared 22 (.ireturn) 1 23 := And.intro (by decide +kernel) rfl
theorem d_L_shared_23 : dk me_L_shared 23 (.iconst 0) 1 24 := And.intro (by decide +kernel) rfl
theorem d_L_shared_24 : dk me_L_shared 24 (.ireturn) 1 25 := And.intro (by decide +kernel) rfl
theorem ms_L_shared {fx : FX} {m : MM} {l0 : Nat} {l1 : Int} {l2 : Int} {l3 : Int} {l4 : Nat} : MS fx me_L_shared [aR (some (11, l0)), aI l1, aI l2, aI l3, aR (some (131, l4))] m (f_L_shared m l0 l1 l2 l3 l4) := by
  refine ms_ofH rfl mf_L_shared (b8 rfl) ?_
  refine s_top ?_
  show Sim fx me_L_shared 0 [(0, aR (some (11, l0))), (1, aI l1), (2, aI l2), (3, aI l3), (4, aR (some (131, l4)))] [] m _
  unfold f_L_shared
  refine s_aload d_L_shared_0 m4_ (s_iconst d_L_shared_2 n_0 (s_aload_n d_L_shared_3 m0_ (s_iload_n d_L_shared_4 m1_ (s_iload_n d_L_shared_5 m2_ (s_iload_n d_L_shared_6 m3_ ?_)))))
  refine s_cIC (r_V d_L_shared_7 k_X11_shared w_1276 rfl rfl) ms_X11_shared (b8 rfl) rfl rfl ?_ ?_ ?_ fun v2 m1 => ?_
  · refine fun mx => Or.inr ⟨15, ⟨rfl, by decide, 0, wx_29_0, Or.inl ⟨rfl, rfl⟩⟩, fun qx => ?_⟩
    exact s_astoreV (L' := [(5, aV (.ref qx)), (0, aR (some (11, l0))), (1, aI l1), (2, aI l2), (3, aI l3), (4, aR (some (131, l4)))]) d_L_shared_15 (b8 rfl) rfl (s_iconst d_L_shared_17 n_1 (s_iret d_L_shared_18 rfl rfl))
  · refine fun mx => Or.inr ⟨19, ⟨rfl, by decide, 0, wx_29_0, Or.inr ⟨by decide, ⟨rfl, by decide, 1, wx_13_1, Or.inl ⟨rfl, rfl⟩⟩⟩⟩, fun qx => ?_⟩
    exact s_astoreV (L' := [(5, aV (.ref qx)), (0, aR (some (11, l0))), (1, aI l1), (2, aI l2), (3, aI l3), (4, aR (some (131, l4)))]) d_L_shared_19 (b8 rfl) rfl (s_iconst d_L_shared_21 n_2 (s_iret d_L_shared_22 rfl rfl))
  · exact fun _ => Or.inl rfl
  exact s_i2l d_L_shared_10 (s_stL d_L_shared_11 ka_131 rfl fun m3 => (s_goto (tgt := 23) d_L_shared_12 rfl (s_iconst d_L_shared_23 n_0 (s_iret d_L_shared_24 rfl rfl))))
theorem d_X10_addSpelling_0 : dk me_X10_addSpelling 0 (.aload_n 0) 1 1 := And.intro (by decide +kernel) rfl
theorem d_X10_addSpelling_1 : dk me_X10_addSpelling 1 (.getfield 48) 3 4 := And.intro (by decide +kernel) rfl
theorem d_X10_addSpelling_4 : dk me_X10_addSpelling 4 (.aload_n 0) 1 5 := And.intro (by decide +kernel) rfl
theorem d_X10_addSpelling_5 : dk me_X10_addSpelling 5 (.getfield 23) 3 8 := And.intro (by decide +kernel) rfl
theorem d_X10_addSpelling_8 : dk me_X10_addSpelling 8 (.arraylength) 1 9 := And.intro (by decide +kernel) rfl
theorem d_X10_addSpelling_9 : dk me_X10_addSpelling 9 (.if_icmp .ge 33) 3 12 := And.intro (by decide +kernel) rfl
theorem d_X10_addSpelling_12 : dk me_X10_addSpelling 12 (.aload_n 0) 1 13 := And.intro (by decide +kernel) rfl
theorem d_X10_addSpelling_13 : dk me_X10_addSpelling 13 (.getfield 23) 3 16 := And.intro (by decide +kernel) rfl
theorem d_X10_addSpelling_16 : dk me_X10_addSpelling 16 (.aload_n 0) 1 17 := And.intro (by decide +kernel) rfl
theorem d_X10_addSpelling_17 : dk me_X10_addSpelling 17 (.getfield 48) 3 20 := And.intro (by decide +kernel) rfl
theorem d_X10_addSpelling_20 : dk me_X10_addSpelling 20 (.lload_n 1) 1 21 := And.intro (by decide +kernel) rfl
theorem d_X10_addSpelling_21 : dk me_X10_addSpelling 21 (.lastore) 1 22 := And.intro (by decide +kernel) rfl
theorem d_X10_addSpelling_22 : dk me_X10_addSpelling 22 (.aload_n 0) 1 23 := And.intro (by decide +kernel) rfl
theorem d_X10_addSpelling_23 : dk me_X10_addSpelling 23 (.getfield 26) 3 26 := And.intro (by decide +kernel) rfl
theorem d_X10_addSpelling_26 : dk me_X10_addSpelling 26 (.aload_n 0) 1 27 := And.intro (by decide +kernel) rfl
theorem d_X10_addSpelling_27 : dk me_X10_addSpelling 27 (.getfield 48) 3 30 := And.intro (by decide +kernel) rfl
theorem d_X10_addSpelling_30 : dk me_X10_addSpelling 30 (.lload_n 3) 1 31 := And.intro (by decide +kernel) rfl
theorem d_X10_addSpelling_31 : dk me_X10_addSpelling 31 (.lastore) 1 32 := And.intro (by decide +kernel) rfl
theorem d_X10_addSpelling_32 : dk me_X10_addSpelling 32 (.aload_n 0) 1 33 := And.intro (by decide +kernel) rfl
theorem d_X10_addSpelling_33 : dk me_X10_addSpelling 33 (.dup) 1 34 := And.intro (by decide +kernel) rfl
theorem d_X10_addSpelling_34 : dk me_X10_addSpelling 34 (.getfield 48) 3 37 := And.intro (by decide +kernel) rfl
theorem d_X10_addSpelling_37 : dk me_X10_addSpelling 37 (.iconst 1) 1 38 := And.intro (by decide +kernel) rfl
theorem d_X10_addSpelling_38 : dk me_X10_addSpelling 38 (.iadd) 1 39 := And.intro (by decide +kernel) rfl
theorem d_X10_addSpelling_39 : dk me_X10_addSpelling 39 (.putfield 48) 3 42 := And.intro (by decide +kernel) rfl
theorem d_X10_addSpelling_42 : dk me_X10_addSpelling 42 (.aload_n 0) 1 43 := And.intro (by decide +kernel) rfl
theorem d_X10_addSpelling_43 : dk me_X10_addSpelling 43 (.getfield 48) 3 46 := And.intro (by decide +kernel) rfl
theorem d_X10_addSpelling_46 : dk me_X10_addSpelling 46 (.iconst 1) 1 47 := And.intro (by decide +kernel) rfl
theorem d_X10_addSpelling_47 : dk me_X10_addSpelling 47 (.isub) 1 48 := And.intro (by decide +kernel) rfl
theorem d_X10_addSpelling_48 : dk me_X10_addSpelling 48 (.ireturn) 1 49 := And.intro (by decide +kernel) rfl
theorem ms_X10_addSpelling {fx : FX} {m : MM} {l0 : Nat} {l1 : Int64} {l3 : Int64} : MS fx me_X10_addSpelling [aR (some (10, l0)), aL l1, aL l3] m (f_X10_addSpelling m l0 l1 l3) := by
  refine ms_of rfl mf_X10_addSpelling (b8 rfl) ?_
  refine s_top ?_
  show Sim fx me_X10_addSpelling 0 [(0, aR (some (10, l0))), (1, aL l1), (3, aL l3)] [] m _
  unfold f_X10_addSpelling
  have hj_X10_addSpelling_0_42 : ∀ (m_42 : MM) (l0_42 : Nat), Sim fx me_X10_addSpelling 42 [(0, aR (some (10, l0_42)))] [] m_42 ((j_X10_addSpelling_0_42 m_42 l0_42).bind (fun z => some z)) := by
    intro m_42 l0_42
    unfold j_X10_addSpelling_0_42
    exact s_aload_n d_X10_addSpelling_42 m0_ (s_getN cf d_X10_addSpelling_43 fl_X10_48 (s_iconst d_X10_addSpelling_46 n_1 (s_isub d_X10_addSpelling_47 rfl rfl (s_ck (s_iret d_X10_addSpelling_48 rfl rfl)))))
  refine s_aload_n d_X10_addSpelling_0 m0_ (s_getN cf d_X10_addSpelling_1 fl_X10_48 (s_aload_n d_X10_addSpelling_4 m0_ (s_getR cf d_X10_addSpelling_5 fl_X10_23 (s_nk fun i1 => (s_len d_X10_addSpelling_8 ka_53 ta_53 ?_)))))
  refine s_icmp_ge (tgt := 42) d_X10_addSpelling_9 rfl ?_ ?_
  · exact s_sub (subc m0_ sub0) (hj_X10_addSpelling_0_42 m l0)
  refine s_aload_n d_X10_addSpelling_12 m0_ (s_getR cf d_X10_addSpelling_13 fl_X10_23 (s_nk fun i2 => (s_aload_n d_X10_addSpelling_16 m0_ (s_getN cf d_X10_addSpelling_17 fl_X10_48 (s_lload_n d_X10_addSpelling_20 m1_ ?_)))))
  refine s_stL d_X10_addSpelling_21 ka_53 rfl fun m3 => (s_aload_n d_X10_addSpelling_22 m0_ (s_getR cf d_X10_addSpelling_23 fl_X10_26 (s_nk fun i4 => (s_aload_n d_X10_addSpelling_26 m0_ (s_getN cf d_X10_addSpelling_27 fl_X10_48 ?_)))))
  refine s_lload_n d_X10_addSpelling_30 m2_ (s_stL d_X10_addSpelling_31 ka_54 rfl fun m5 => (s_aload_n d_X10_addSpelling_32 m0_ (s_dup d_X10_addSpelling_33 rfl (s_getN cf d_X10_addSpelling_34 fl_X10_48 (s_iconst d_X10_addSpelling_37 n_1 ?_)))))
  exact s_iadd d_X10_addSpelling_38 rfl rfl (s_ck (s_putN cf d_X10_addSpelling_39 fl_X10_48 (fun h => by cases h) fun m6 => (s_sub (subc m0_ sub0) (hj_X10_addSpelling_0_42 m6 l0))))
theorem d_X10_isPair_0 : dk me_X10_isPair 0 (.aload_n 0) 1 1 := And.intro (by decide +kernel) rfl
theorem d_X10_isPair_1 : dk me_X10_isPair 1 (.invokevirtual 41) 3 4 := And.intro (by decide +kernel) rfl
theorem d_X10_isPair_4 : dk me_X10_isPair 4 (.ifCond .eq 24) 3 7 := And.intro (by decide +kernel) rfl
theorem d_X10_isPair_7 : dk me_X10_isPair 7 (.aload_n 0) 1 8 := And.intro (by decide +kernel) rfl
theorem d_X10_isPair_8 : dk me_X10_isPair 8 (.invokevirtual 45) 3 11 := And.intro (by decide +kernel) rfl
theorem d_X10_isPair_11 : dk me_X10_isPair 11 (.iconst 2) 1 12 := And.intro (by decide +kernel) rfl
theorem d_X10_isPair_12 : dk me_X10_isPair 12 (.if_icmp .ne 16) 3 15 := And.intro (by decide +kernel) rfl
theorem d_X10_isPair_15 : dk me_X10_isPair 15 (.aload_n 0) 1 16 := And.intro (by decide +kernel) rfl
theorem d_X10_isPair_16 : dk me_X10_isPair 16 (.getfield 19) 3 19 := And.intro (by decide +kernel) rfl
theorem d_X10_isPair_19 : dk me_X10_isPair 19 (.iconst 0) 1 20 := And.intro (by decide +kernel) rfl
theorem d_X10_isPair_20 : dk me_X10_isPair 20 (.baload) 1 21 := And.intro (by decide +kernel) rfl
theorem d_X10_isPair_21 : dk me_X10_isPair 21 (.ifCond .ne 7) 3 24 := And.intro (by decide +kernel) rfl
theorem d_X10_isPair_24 : dk me_X10_isPair 24 (.iconst 1) 1 25 := And.intro (by decide +kernel) rfl
theorem d_X10_isPair_25 : dk me_X10_isPair 25 (.goto 4) 3 28 := And.intro (by decide +kernel) rfl
theorem d_X10_isPair_28 : dk me_X10_isPair 28 (.iconst 0) 1 29 := And.intro (by decide +kernel) rfl
theorem d_X10_isPair_29 : dk me_X10_isPair 29 (.ireturn) 1 30 := And.intro (by decide +kernel) rfl
theorem ms_X10_isPair {fx : FX} {m : MM} {l0 : Nat} : MS fx me_X10_isPair [aR (some (10, l0))] m (f_X10_isPair m l0) := by
  refine ms_of rfl mf_X10_isPair (b8 rfl) ?_
  refine s_top ?_
  show Sim fx me_X10_isPair 0 [(0, aR (some (10, l0)))] [] m _
  unfold f_X10_isPair
  refine s_aload_n d_X10_isPair_0 m0_ (s_pI (r_V d_X10_isPair_1 k_X10_isText w_397 rfl rfl) ms_X10_isText (b8 rfl) rfl rfl rfl fun v1 => (s_if_eq (tgt := 28) d_X10_isPair_4 rfl ?_ ?_))
  · exact s_iconst d_X10_isPair_28 n_0 (s_zretl d_X10_isPair_29 rfl (by decide) rfl)
  refine s_aload_n d_X10_isPair_7 m0_ (s_cI (r_V d_X10_isPair_8 k_X10_splitText w_402 rfl rfl) ms_X10_splitText (b8 rfl) rfl rfl rfl (fun _ _ _ => rfl) (fun _ _ => Or.inl rfl) fun v3 m2 => (s_iconst d_X10_isPair_11 n_2 (s_icmp_ne (tgt := 28) d_X10_isPair_12 rfl ?_ ?_)))
  · exact s_iconst d_X10_isPair_28 n_0 (s_zretl d_X10_isPair_29 rfl (by decide) rfl)
  refine s_aload_n d_X10_isPair_15 m0_ (s_getR cf d_X10_isPair_16 fl_X10_19 (s_nk fun i4 => (s_iconst d_X10_isPair_19 n_0 (s_ldB d_X10_isPair_20 ka_52 rfl fun v5 => (s_if_ne (tgt := 28) d_X10_isPair_21 rfl ?_ ?_)))))
  · exact s_iconst d_X10_isPair_28 n_0 (s_zretl d_X10_isPair_29 rfl (by decide) rfl)
  exact s_iconst d_X10_isPair_24 n_1 (s_goto (tgt := 29) d_X10_isPair_25 rfl (s_zretl d_X10_isPair_29 rfl (by decide) rfl))
theorem d_X11_someBookHasCopy_0 : dk me_X11_someBookHasCopy 0 (.aload_n 0) 1 1 := And.intro (by decide +kernel) rfl
theorem d_X11_someBookHasCopy_1 : dk me_X11_someBookHasCopy 1 (.getfield 31) 3 4 := And.intro (by decide +kernel) rfl
theorem d_X11_someBookHasCopy_4 : dk me_X11_someBookHasCopy 4 (.astore_n 1) 1 5 := And.intro (by decide +kernel) rfl
theorem d_X11_someBookHasCopy_5 : dk me_X11_someBookHasCopy 5 (.aload_n 1) 1 6 := And.intro (by decide +kernel) rfl
theorem d_X11_someBookHasCopy_6 : dk me_X11_someBookHasCopy 6 (.arraylength) 1 7 := And.intro (by decide +kernel) rfl
theorem d_X11_someBookHasCopy_7 : dk me_X11_someBookHasCopy 7 (.istore_n 2) 1 8 := And.intro (by decide +kernel) rfl
theorem d_X11_someBookHasCopy_8 : dk me_X11_someBookHasCopy 8 (.iconst 0) 1 9 := And.intro (by decide +kernel) rfl
theorem d_X11_someBookHasCopy_9 : dk me_X11_someBookHasCopy 9 (.istore_n 3) 1 10 := And.intro (by decide +kernel) rfl
theorem d_X11_someBookHasCopy_10 : dk me_X11_someBookHasCopy 10 (.iload_n 3) 1 11 := And.intro (by decide +kernel) rfl
theorem d_X11_someBookHasCopy_11 : dk me_X11_someBookHasCopy 11 (.iload_n 2) 1 12 := And.intro (by decide +kernel) rfl
theorem d_X11_someBookHasCopy_12 : dk me_X11_someBookHasCopy 12 (.if_icmp .ge 32) 3 15 := And.intro (by decide +kernel) rfl
theorem d_X11_someBookHasCopy_15 : dk me_X11_someBookHasCopy 15 (.aload_n 1) 1 16 := And.intro (by decide +kernel) rfl
theorem d_X11_someBookHasCopy_16 : dk me_X11_someBookHasCopy 16 (.iload_n 3) 1 17 := And.intro (by decide +kernel) rfl
theorem d_X11_someBookHasCopy_17 : dk me_X11_someBookHasCopy 17 (.aaload) 1 18 := And.intro (by decide +kernel) rfl
theorem d_X11_someBookHasCopy_18 : dk me_X11_someBookHasCopy 18 (.astore 4) 2 20 := And.intro (by decide +kernel) rfl
theorem d_X11_someBookHasCopy_20 : dk me_X11_someBookHasCopy 20 (.aload 4) 2 22 := And.intro (by decide +kernel) rfl
theorem d_X11_someBookHasCopy_22 : dk me_X11_someBookHasCopy 22 (.ifnull 16) 3 25 := And.intro (by decide +kernel) rfl
theorem d_X11_someBookHasCopy_25 : dk me_X11_someBookHasCopy 25 (.aload 4) 2 27 := And.intro (by decide +kernel) rfl
theorem d_X11_someBookHasCopy_27 : dk me_X11_someBookHasCopy 27 (.getfield 153) 3 30 := And.intro (by decide +kernel) rfl
theorem d_X11_someBookHasCopy_30 : dk me_X11_someBookHasCopy 30 (.getfield 157) 3 33 := And.intro (by decide +kernel) rfl
theorem d_X11_someBookHasCopy_33 : dk me_X11_someBookHasCopy 33 (.ifCond .le 5) 3 36 := And.intro (by decide +kernel) rfl
theorem d_X11_someBookHasCopy_36 : dk me_X11_someBookHasCopy 36 (.iconst 1) 1 37 := And.intro (by decide +kernel) rfl
theorem d_X11_someBookHasCopy_37 : dk me_X11_someBookHasCopy 37 (.ireturn) 1 38 := And.intro (by decide +kernel) rfl
theorem d_X11_someBookHasCopy_38 : dk me_X11_someBookHasCopy 38 (.iinc 3 1) 3 41 := And.intro (by decide +kernel) rfl
theorem d_X11_someBookHasCopy_41 : dk me_X11_someBookHasCopy 41 (.goto (-31)) 3 44 := And.intro (by decide +kernel) rfl
theorem d_X11_someBookHasCopy_44 : dk me_X11_someBookHasCopy 44 (.iconst 0) 1 45 := And.intro (by decide +kernel) rfl
theorem d_X11_someBookHasCopy_45 : dk me_X11_someBookHasCopy 45 (.ireturn) 1 46 := And.intro (by decide +kernel) rfl
theorem ms_X11_someBookHasCopy {fx : FX} {m : MM} {l0 : Nat} : MS fx me_X11_someBookHasCopy [aR (some (11, l0))] m ((f_X11_someBookHasCopy m l0).bind fun v => some (.inl (some (aI v)), m)) := by
  refine ms_of rfl mf_X11_someBookHasCopy (b8 rfl) ?_
  show Sim fx me_X11_someBookHasCopy 0 [(0, aR (some (11, l0)))] [] m _
  unfold f_X11_someBookHasCopy
  have hj_X11_someBookHasCopy_0_44 : Sim fx me_X11_someBookHasCopy 44 [] [] m ((j_X11_someBookHasCopy_0_44 m).bind (fun v => some (.inl (some (aI v)), m))) := by
    unfold j_X11_someBookHasCopy_0_44
    exact s_iconst d_X11_someBookHasCopy_44 n_0 (s_zretl d_X11_someBookHasCopy_45 rfl (by decide) rfl)
  refine s_aload_n d_X11_someBookHasCopy_0 m0_ (s_getR cf d_X11_someBookHasCopy_1 fl_X11_31 (s_nk fun i1 => (s_astore_n (L' := [(1, aR (some (56, i1))), (0, aR (some (11, l0)))]) d_X11_someBookHasCopy_4 (b8 rfl) rfl (s_aload_n d_X11_someBookHasCopy_5 m0_ (s_len d_X11_someBookHasCopy_6 ka_56 ta_56 ?_)))))
  refine s_istore_n (L' := [(2, aI (lenI m 56 i1)), (1, aR (some (56, i1))), (0, aR (some (11, l0)))]) d_X11_someBookHasCopy_7 (b8 rfl) rfl (s_iconst d_X11_someBookHasCopy_8 n_0 (s_istore_n (L' := [(3, aI 0), (2, aI (lenI m 56 i1)), (1, aR (some (56, i1))), (0, aR (some (11, l0)))]) d_X11_someBookHasCopy_9 (b8 rfl) rfl (s_sub (subc m0_ (subc m2_ (subc m1_ sub0))) (s_lp2 (fun s => [(3, aI s), (1, aR (some (56, i1))), (2, aI (lenI m 56 i1))]) (fun s => m) 0 fun k10 hx10 s ih0 => ?_))))
  obtain ⟨l3_10, rfl⟩ : ∃ q, q = s := ⟨s, rfl⟩
  have ih10 := ih0
  clear ih0
  try dsimp only
  unfold b_X11_someBookHasCopy_10
  refine s_iload_n d_X11_someBookHasCopy_10 m0_ (s_iload_n d_X11_someBookHasCopy_11 m2_ (s_icmp_ge (tgt := 44) d_X11_someBookHasCopy_12 rfl ?_ ?_))
  · exact s_exit (hx10 _) (s_sub (sub0) (hj_X11_someBookHasCopy_0_44 ))
  refine s_aload_n d_X11_someBookHasCopy_15 m1_ (s_iload_n d_X11_someBookHasCopy_16 m0_ (s_ldR d_X11_someBookHasCopy_17 ka_56 ta_56 rfl rfl fun r2 => (s_astore (L' := [(4, aR r2), (3, aI l3_10), (1, aR (some (56, i1))), (2, aI (lenI m 56 i1))]) d_X11_someBookHasCopy_18 (b8 rfl) rfl (s_aload d_X11_someBookHasCopy_20 m0_ (s_ifnull (tgt := 38) d_X11_someBookHasCopy_22 rfl ?_ ?_)))))
  · exact s_iinc (L' := [(3, aI (l3_10 + 1)), (4, aR r2), (1, aR (some (56, i1))), (2, aI (lenI m 56 i1))]) d_X11_someBookHasCopy_38 m1_ (b8 rfl) rfl (s_goto (tgt := 10) d_X11_someBookHasCopy_41 rfl (s_sub (subc m0_ (subc m2_ (subc m3_ sub0))) (s_back (ih10 (l3_10 + 1)))))
  refine s_aload d_X11_someBookHasCopy_25 m0_ (s_nk fun i3 => (s_getR cf d_X11_someBookHasCopy_27 fl_X11_153 (s_nk fun i4 => (s_getN cf d_X11_someBookHasCopy_30 fl_X11_157 (s_if_le (tgt := 38) d_X11_someBookHasCopy_33 rfl ?_ ?_)))))
  · exact s_iinc (L' := [(3, aI (l3_10 + 1)), (4, aR r2), (1, aR (some (56, i1))), (2, aI (lenI m 56 i1))]) d_X11_someBookHasCopy_38 m1_ (b8 rfl) rfl (s_goto (tgt := 10) d_X11_someBookHasCopy_41 rfl (s_sub (subc m0_ (subc m2_ (subc m3_ sub0))) (s_back (ih10 (l3_10 + 1)))))
  exact s_iconst d_X11_someBookHasCopy_36 n_1 (s_zretl d_X11_someBookHasCopy_37 rfl (by decide) ((hx10 _).trans rfl))
theorem d_X11_spelling_0 : dk me_X11_spelling 0 (.aload_n 0) 1 1 := And.intro (by decide +kernel) rfl
theorem d_X11_spelling_1 : dk me_X11_spelling 1 (.getfield 10) 3 4 := And.intro (by decide +kernel) rfl
theorem d_X11_spelling_4 : dk me_X11_spelling 4 (.invokevirtual 80) 3 7 := And.intro (by decide +kernel) rfl
theorem d_X11_spelling_7 : dk me_X11_spelling 7 (.invokestatic 53) 3 10 := And.intro (by decide +kernel) rfl
theorem d_X11_spelling_10 : dk me_X11_spelling 10 (.aload_n 0) 1 11 := And.intro (by decide +kernel) rfl
theorem d_X11_spelling_11 : dk me_X11_spelling 11 (.getfield 10) 3 14 := And.intro (by decide +kernel) rfl
theorem d_X11_spelling_14 : dk me_X11_spelling 14 (.getfield 84) 3 17 := And.intro (by decide +kernel) rfl
theorem d_X11_spelling_17 : dk me_X11_spelling 17 (.iconst 0) 1 18 := And.intro (by decide +kernel) rfl
theorem d_X11_spelling_18 : dk me_X11_spelling 18 (.laload) 1 19 := And.intro (by decide +kernel) rfl
theorem d_X11_spelling_19 : dk me_X11_spelling 19 (.lstore_n 1) 1 20 := And.intro (by decide +kernel) rfl
theorem d_X11_spelling_20 : dk me_X11_spelling 20 (.aload_n 0) 1 21 := And.intro (by decide +kernel) rfl
theorem d_X11_spelling_21 : dk me_X11_spelling 21 (.getfield 10) 3 24 := And.intro (by decide +kernel) rfl
theorem d_X11_spelling_24 : dk me_X11_spelling 24 (.getfield 84) 3 27 := And.intro (by decide +kernel) rfl
theorem d_X11_spelling_27 : dk me_X11_spelling 27 (.iconst 1) 1 28 := And.intro (by decide +kernel) rfl
theorem d_X11_spelling_28 : dk me_X11_spelling 28 (.laload) 1 29 := And.intro (by decide +kernel) rfl
theorem d_X11_spelling_29 : dk me_X11_spelling 29 (.lstore_n 3) 1 30 := And.intro (by decide +kernel) rfl
theorem d_X11_spelling_30 : dk me_X11_spelling 30 (.lload_n 3) 1 31 := And.intro (by decide +kernel) rfl
theorem d_X11_spelling_31 : dk me_X11_spelling 31 (.invokestatic 88) 3 34 := And.intro (by decide +kernel) rfl
theorem d_X11_spelling_34 : dk me_X11_spelling 34 (.lload_n 1) 1 35 := And.intro (by decide +kernel) rfl
theorem d_X11_spelling_35 : dk me_X11_spelling 35 (.invokestatic 88) 3 38 := And.intro (by decide +kernel) rfl
theorem d_X11_spelling_38 : dk me_X11_spelling 38 (.isub) 1 39 := And.intro (by decide +kernel) rfl
theorem d_X11_spelling_39 : dk me_X11_spelling 39 (.istore 5) 2 41 := And.intro (by decide +kernel) rfl
theorem d_X11_spelling_41 : dk me_X11_spelling 41 (.iload 5) 2 43 := And.intro (by decide +kernel) rfl
theorem d_X11_spelling_43 : dk me_X11_spelling 43 (.iconst 1) 1 44 := And.intro (by decide +kernel) rfl
theorem d_X11_spelling_44 : dk me_X11_spelling 44 (.if_icmp .lt 13) 3 47 := And.intro (by decide +kernel) rfl
theorem d_X11_spelling_47 : dk me_X11_spelling 47 (.iload 5) 2 49 := And.intro (by decide +kernel) rfl
theorem d_X11_spelling_49 : dk me_X11_spelling 49 (.iconst 3) 1 50 := And.intro (by decide +kernel) rfl
theorem d_X11_spelling_50 : dk me_X11_spelling 50 (.if_icmp .gt 7) 3 53 := And.intro (by decide +kernel) rfl
theorem d_X11_spelling_53 : dk me_X11_spelling 53 (.iconst 1) 1 54 := And.intro (by decide +kernel) rfl
theorem d_X11_spelling_54 : dk me_X11_spelling 54 (.goto 4) 3 57 := And.intro (by decide +kernel) rfl
theorem d_X11_spelling_57 : dk me_X11_spelling 57 (.iconst 0) 1 58 := And.intro (by decide +kernel) rfl
theorem d_X11_spelling_58 : dk me_X11_spelling 58 (.invokestatic 53) 3 61 := And.intro (by decide +kernel) rfl
theorem d_X11_spelling_61 : dk me_X11_spelling 61 (.aload_n 0) 1 62 := And.intro (by decide +kernel) rfl
theorem d_X11_spelling_62 : dk me_X11_spelling 62 (.getfield 10) 3 65 := And.intro (by decide +kernel) rfl
theorem d_X11_spelling_65 : dk me_X11_spelling 65 (.lload_n 1) 1 66 := And.intro (by decide +kernel) rfl
theorem d_X11_spelling_66 : dk me_X11_spelling 66 (.invokevirtual 92) 3 69 := And.intro (by decide +kernel) rfl
theorem d_X11_spelling_69 : dk me_X11_spelling 69 (.iconst (-1)) 1 70 := And.intro (by decide +kernel) rfl
theorem d_X11_spelling_70 : dk me_X11_spelling 70 (.if_icmp .ne 19) 3 73 := And.intro (by decide +kernel) rfl
theorem d_X11_spelling_73 : dk me_X11_spelling 73 (.aload_n 0) 1 74 := And.intro (by decide +kernel) rfl
theorem d_X11_spelling_74 : dk me_X11_spelling 74 (.getfield 10) 3 77 := And.intro (by decide +kernel) rfl
theorem d_X11_spelling_77 : dk me_X11_spelling 77 (.lload_n 3) 1 78 := And.intro (by decide +kernel) rfl
theorem d_X11_spelling_78 : dk me_X11_spelling 78 (.invokevirtual 92) 3 81 := And.intro (by decide +kernel) rfl
theorem d_X11_spelling_81 : dk me_X11_spelling 81 (.iconst (-1)) 1 82 := And.intro (by decide +kernel) rfl
theorem d_X11_spelling_82 : dk me_X11_spelling 82 (.if_icmp .ne 7) 3 85 := And.intro (by decide +kernel) rfl
theorem d_X11_spelling_85 : dk me_X11_spelling 85 (.iconst 1) 1 86 := And.intro (by decide +kernel) rfl
theorem d_X11_spelling_86 : dk me_X11_spelling 86 (.goto 4) 3 89 := And.intro (by decide +kernel) rfl
theorem d_X11_spelling_89 : dk me_X11_spelling 89 (.iconst 0) 1 90 := And.intro (by decide +kernel) rfl
theorem d_X11_spelling_90 : dk me_X11_spelling 90 (.invokestatic 53) 3 93 := And.intro (by decide +kernel) rfl
theorem d_X11_spelling_93 : dk me_X11_spelling 93 (.aload_n 0) 1 94 := And.intro (by decide +kernel) rfl
theorem d_X11_spelling_94 : dk me_X11_spelling 94 (.getfield 10) 3 97 := And.intro (by decide +kernel) rfl
theorem d_X11_spelling_97 : dk me_X11_spelling 97 (.getfield 95) 3 100 := And.intro (by decide +kernel) rfl
theorem d_X11_spelling_100 : dk me_X11_spelling 100 (.bipush 6) 2 102 := And.intro (by decide +kernel) rfl
theorem d_X11_spelling_102 : dk me_X11_spelling 102 (.if_icmp .ge 14) 3 105 := And.intro (by decide +kernel) rfl
theorem d_X11_spelling_105 : dk me_X11_spelling 105 (.aload_n 0) 1 106 := And.intro (by decide +kernel) rfl
theorem d_X11_spelling_106 : dk me_X11_spelling 106 (.invokevirtual 98) 3 109 := And.intro (by decide +kernel) rfl
theorem d_X11_spelling_109 : dk me_X11_spelling 109 (.ifCond .ne 7) 3 112 := And.intro (by decide +kernel) rfl
theorem d_X11_spelling_112 : dk me_X11_spelling 112 (.iconst 1) 1 113 := And.intro (by decide +kernel) rfl
theorem d_X11_spelling_113 : dk me_X11_spelling 113 (.goto 4) 3 116 := And.intro (by decide +kernel) rfl
theorem d_X11_spelling_116 : dk me_X11_spelling 116 (.iconst 0) 1 117 := And.intro (by decide +kernel) rfl
theorem d_X11_spelling_117 : dk me_X11_spelling 117 (.invokestatic 69) 3 120 := And.intro (by decide +kernel) rfl
theorem d_X11_spelling_120 : dk me_X11_spelling 120 (.aload_n 0) 1 121 := And.intro (by decide +kernel) rfl
theorem d_X11_spelling_121 : dk me_X11_spelling 121 (.getfield 10) 3 124 := And.intro (by decide +kernel) rfl
theorem d_X11_spelling_124 : dk me_X11_spelling 124 (.iconst 0) 1 125 := And.intro (by decide +kernel) rfl
theorem d_X11_spelling_125 : dk me_X11_spelling 125 (.putfield 65) 3 128 := And.intro (by decide +kernel) rfl
theorem d_X11_spelling_128 : dk me_X11_spelling 128 (.aload_n 0) 1 129 := And.intro (by decide +kernel) rfl
theorem d_X11_spelling_129 : dk me_X11_spelling 129 (.getfield 10) 3 132 := And.intro (by decide +kernel) rfl
theorem d_X11_spelling_132 : dk me_X11_spelling 132 (.lload_n 1) 1 133 := And.intro (by decide +kernel) rfl
theorem d_X11_spelling_133 : dk me_X11_spelling 133 (.lload_n 3) 1 134 := And.intro (by decide +kernel) rfl
theorem d_X11_spelling_134 : dk me_X11_spelling 134 (.invokevirtual 101) 3 137 := And.intro (by decide +kernel) rfl
theorem d_X11_spelling_137 : dk me_X11_spelling 137 (.ireturn) 1 138 := And.intro (by decide +kernel) rfl
theorem ms_X11_spelling {fx : FX} {m : MM} {l0 : Nat} : MS fx me_X11_spelling [aR (some (11, l0))] m (f_X11_spelling m l0) := by
  refine ms_of rfl mf_X11_spelling (b8 rfl) ?_
  refine s_top ?_
  show Sim fx me_X11_spelling 0 [(0, aR (some (11, l0)))] [] m _
  unfold f_X11_spelling
  have hj_X11_spelling_0_117 : ∀ (m_117 : MM) (l0_117 : Nat) (l1_117 : Int64) (l3_117 : Int64) (s0_117 : Int), Sim fx me_X11_spelling 117 [(0, aR (some (11, l0_117))), (1, aL l1_117), (3, aL l3_117)] [aI s0_117] m_117 ((j_X11_spelling_0_117 m_117 l0_117 l1_117 l3_117 s0_117).bind (fun z => some z)) := by
    intro m_117 l0_117 l1_117 l3_117 s0_117
    unfold j_X11_spelling_0_117
    refine s_cV (r_S d_X11_spelling_117 k_X11_requireState w_363 rfl rfl) ms_X11_requireState (b8 rfl) rfl rfl rfl (fun h => by cases h) (fun _ _ => Or.inr rfl) fun m24 => (s_aload_n d_X11_spelling_120 m0_ (s_getR cf d_X11_spelling_121 fl_X11_10 (s_nk fun i26 => (s_iconst d_X11_spelling_124 n_0 (s_putN cf d_X11_spelling_125 fl_X11_65 (fun h => by cases h) fun m27 => ?_)))))
    refine s_aload_n d_X11_spelling_128 m0_ (s_getR cf d_X11_spelling_129 fl_X11_10 (s_nk fun i28 => (s_lload_n d_X11_spelling_132 m1_ (s_lload_n d_X11_spelling_133 m2_ (s_cI (r_V d_X11_spelling_134 k_X10_addSpelling w_417 rfl rfl) ms_X10_addSpelling (b8 rfl) rfl rfl rfl (fun _ _ _ => rfl) (fun _ _ => Or.inl rfl) fun v30 m29 => ?_)))))
    exact s_iret d_X11_spelling_137 rfl rfl
  have hj_X11_spelling_0_116 : ∀ (m_116 : MM) (l0_116 : Nat) (l1_116 : Int64) (l3_116 : Int64), Sim fx me_X11_spelling 116 [(0, aR (some (11, l0_116))), (1, aL l1_116), (3, aL l3_116)] [] m_116 ((j_X11_spelling_0_116 m_116 l0_116 l1_116 l3_116).bind (fun z => some z)) := by
    intro m_116 l0_116 l1_116 l3_116
    unfold j_X11_spelling_0_116
    exact s_iconst d_X11_spelling_116 n_0 (s_sub (subc m0_ (subc m1_ (subc m2_ sub0))) (hj_X11_spelling_0_117 m_116 l0_116 l1_116 l3_116 0))
  have hj_X11_spelling_0_90 : ∀ (m_90 : MM) (l0_90 : Nat) (l1_90 : Int64) (l3_90 : Int64) (s0_90 : Int), Sim fx me_X11_spelling 90 [(0, aR (some (11, l0_90))), (1, aL l1_90), (3, aL l3_90)] [aI s0_90] m_90 ((j_X11_spelling_0_90 m_90 l0_90 l1_90 l3_90 s0_90).bind (fun z => some z)) := by
    intro m_90 l0_90 l1_90 l3_90 s0_90
    unfold j_X11_spelling_0_90
    refine s_cV (r_S d_X11_spelling_90 k_X11_requireArgument w_284 rfl rfl) ms_X11_requireArgument (b8 rfl) rfl rfl rfl (fun h => by cases h) (fun _ _ => Or.inr rfl) fun m20 => (s_aload_n d_X11_spelling_93 m0_ (s_getR cf d_X11_spelling_94 fl_X11_10 (s_nk fun i22 => (s_getN cf d_X11_spelling_97 fl_X11_95 (s_bipush d_X11_spelling_100 n_6 rfl ?_)))))
    refine s_icmp_ge (tgt := 116) d_X11_spelling_102 rfl ?_ ?_
    · exact s_sub (subc m0_ (subc m1_ (subc m2_ sub0))) (hj_X11_spelling_0_116 m20 l0_90 l1_90 l3_90)
    refine s_aload_n d_X11_spelling_105 m0_ (s_pI (r_V d_X11_spelling_106 k_X11_someBookHasCopy w_413 rfl rfl) ms_X11_someBookHasCopy (b8 rfl) rfl rfl rfl fun v23 => (s_if_ne (tgt := 116) d_X11_spelling_109 rfl ?_ ?_))
    · exact s_sub (subc m0_ (subc m1_ (subc m2_ sub0))) (hj_X11_spelling_0_116 m20 l0_90 l1_90 l3_90)
    exact s_iconst d_X11_spelling_112 n_1 (s_goto (tgt := 117) d_X11_spelling_113 rfl (s_sub (subc m0_ (subc m1_ (subc m2_ sub0))) (hj_X11_spelling_0_117 m20 l0_90 l1_90 l3_90 1)))
  have hj_X11_spelling_0_89 : ∀ (m_89 : MM) (l0_89 : Nat) (l1_89 : Int64) (l3_89 : Int64), Sim fx me_X11_spelling 89 [(0, aR (some (11, l0_89))), (1, aL l1_89), (3, aL l3_89)] [] m_89 ((j_X11_spelling_0_89 m_89 l0_89 l1_89 l3_89).bind (fun z => some z)) := by
    intro m_89 l0_89 l1_89 l3_89
    unfold j_X11_spelling_0_89
    exact s_iconst d_X11_spelling_89 n_0 (s_sub (subc m0_ (subc m1_ (subc m2_ sub0))) (hj_X11_spelling_0_90 m_89 l0_89 l1_89 l3_89 0))
  have hj_X11_spelling_0_58 : ∀ (m_58 : MM) (l0_58 : Nat) (l1_58 : Int64) (l3_58 : Int64) (s0_58 : Int), Sim fx me_X11_spelling 58 [(0, aR (some (11, l0_58))), (1, aL l1_58), (3, aL l3_58)] [aI s0_58] m_58 ((j_X11_spelling_0_58 m_58 l0_58 l1_58 l3_58 s0_58).bind (fun z => some z)) := by
    intro m_58 l0_58 l1_58 l3_58 s0_58
    unfold j_X11_spelling_0_58
    refine s_cV (r_S d_X11_spelling_58 k_X11_requireArgument w_284 rfl rfl) ms_X11_requireArgument (b8 rfl) rfl rfl rfl (fun h => by cases h) (fun _ _ => Or.inr rfl) fun m14 => (s_aload_n d_X11_spelling_61 m0_ (s_getR cf d_X11_spelling_62 fl_X11_10 (s_nk fun i16 => (s_lload_n d_X11_spelling_65 m1_ (s_pI (r_V d_X11_spelling_66 k_X10_spellingOf w_409 rfl rfl) ms_X10_spellingOf (b8 rfl) rfl rfl rfl fun v17 => ?_)))))
    refine s_iconst d_X11_spelling_69 n_m1 (s_icmp_ne (tgt := 89) d_X11_spelling_70 rfl ?_ ?_)
    · exact s_sub (subc m0_ (subc m1_ (subc m2_ sub0))) (hj_X11_spelling_0_89 m14 l0_58 l1_58 l3_58)
    refine s_aload_n d_X11_spelling_73 m0_ (s_getR cf d_X11_spelling_74 fl_X11_10 (s_nk fun i18 => (s_lload_n d_X11_spelling_77 m2_ (s_pI (r_V d_X11_spelling_78 k_X10_spellingOf w_409 rfl rfl) ms_X10_spellingOf (b8 rfl) rfl rfl rfl fun v19 => (s_iconst d_X11_spelling_81 n_m1 ?_)))))
    refine s_icmp_ne (tgt := 89) d_X11_spelling_82 rfl ?_ ?_
    · exact s_sub (subc m0_ (subc m1_ (subc m2_ sub0))) (hj_X11_spelling_0_89 m14 l0_58 l1_58 l3_58)
    exact s_iconst d_X11_spelling_85 n_1 (s_goto (tgt := 90) d_X11_spelling_86 rfl (s_sub (subc m0_ (subc m1_ (subc m2_ sub0))) (hj_X11_spelling_0_90 m14 l0_58 l1_58 l3_58 1)))
  have hj_X11_spelling_0_57 : ∀ (m_57 : MM) (l0_57 : Nat) (l1_57 : Int64) (l3_57 : Int64), Sim fx me_X11_spelling 57 [(0, aR (some (11, l0_57))), (1, aL l1_57), (3, aL l3_57)] [] m_57 ((j_X11_spelling_0_57 m_57 l0_57 l1_57 l3_57).bind (fun z => some z)) := by
    intro m_57 l0_57 l1_57 l3_57
    unfold j_X11_spelling_0_57
    exact s_iconst d_X11_spelling_57 n_0 (s_sub (subc m0_ (subc m1_ (subc m2_ sub0))) (hj_X11_spelling_0_58 m_57 l0_57 l1_57 l3_57 0))
  refine s_aload_n d_X11_spelling_0 m0_ (s_getR cf d_X11_spelling_1 fl_X11_10 (s_nk fun i1 => (s_cI (r_V d_X11_spelling_4 k_X10_isPair w_393 rfl rfl) ms_X10_isPair (b8 rfl) rfl rfl rfl (fun _ _ _ => rfl) (fun _ _ => Or.inl rfl) fun v3 m2 => (s_cV (r_S d_X11_spelling_7 k_X11_requireArgument w_284 rfl rfl) ms_X11_requireArgument (b8 rfl) rfl rfl rfl (fun h => by cases h) (fun _ _ => Or.inr rfl) fun m4 => (s_aload_n d_X11_spelling_10 m0_ ?_)))))
  refine s_getR cf d_X11_spelling_11 fl_X11_10 (s_nk fun i6 => (s_getR cf d_X11_spelling_14 fl_X11_84 (s_nk fun i7 => (s_iconst d_X11_spelling_17 n_0 (s_ldL d_X11_spelling_18 ka_51 rfl fun v8 => ?_)))))
  refine s_lstore_n (L' := [(1, aL v8), (0, aR (some (11, l0)))]) d_X11_spelling_19 (b8 rfl) rfl (s_aload_n d_X11_spelling_20 m1_ (s_getR cf d_X11_spelling_21 fl_X11_10 (s_nk fun i9 => (s_getR cf d_X11_spelling_24 fl_X11_84 (s_nk fun i10 => ?_)))))
  refine s_iconst d_X11_spelling_27 n_1 (s_ldL d_X11_spelling_28 ka_51 rfl fun v11 => (s_lstore_n (L' := [(3, aL v11), (1, aL v8), (0, aR (some (11, l0)))]) d_X11_spelling_29 (b8 rfl) rfl (s_lload_n d_X11_spelling_30 m0_ (s_pI (r_S d_X11_spelling_31 k_X11_letters w_406 rfl rfl) ms_X11_letters (b8 rfl) rfl rfl rfl fun v12 => (s_lload_n d_X11_spelling_34 m1_ ?_)))))
  refine s_pI (r_S d_X11_spelling_35 k_X11_letters w_406 rfl rfl) ms_X11_letters (b8 rfl) rfl rfl rfl fun v13 => (s_isub d_X11_spelling_38 rfl rfl (s_ck (s_istore (L' := [(5, aI (v12 - v13)), (3, aL v11), (1, aL v8), (0, aR (some (11, l0)))]) d_X11_spelling_39 (b8 rfl) rfl (s_iload d_X11_spelling_41 m0_ (s_iconst d_X11_spelling_43 n_1 ?_)))))
  refine s_icmp_lt (tgt := 57) d_X11_spelling_44 rfl ?_ ?_
  · exact s_sub (subc m3_ (subc m2_ (subc m1_ sub0))) (hj_X11_spelling_0_57 m4 l0 v8 v11)
  refine s_iload d_X11_spelling_47 m0_ (s_iconst d_X11_spelling_49 n_3 (s_icmp_gt (tgt := 57) d_X11_spelling_50 rfl ?_ ?_))
  · exact s_sub (subc m3_ (subc m2_ (subc m1_ sub0))) (hj_X11_spelling_0_57 m4 l0 v8 v11)
  exact s_iconst d_X11_spelling_53 n_1 (s_goto (tgt := 58) d_X11_spelling_54 rfl (s_sub (subc m3_ (subc m2_ (subc m1_ sub0))) (hj_X11_spelling_0_58 m4 l0 v8 v11 1)))
theorem d_L_spelling_0 : dk me_L_spelling 0 (.aload_n 1) 1 1 := And.intro (by decide +kernel) rfl
theorem d_L_spelling_1 : dk me_L_spelling 1 (.iconst 0) 1 2 := And.intro (by decide +kernel) rfl
theorem d_L_spelling_2 : dk me_L_spelling 2 (.aload_n 0) 1 3 := And.intro (by decide +kernel) rfl
theorem d_L_spelling_3 : dk me_L_spelling 3 (.invokevirtual 17) 3 6 := And.intro (by decide +kernel) rfl
theorem d_L_spelling_6 : dk me_L_spelling 6 (.i2l) 1 7 := And.intro (by decide +kernel) rfl
theorem d_L_spelling_7 : dk me_L_spelling 7 (.lastore) 1 8 := And.intro (by decide +kernel) rfl
theorem d_L_spelling_8 : dk me_L_spelling 8 (.goto 9) 3 11 := And.intro (by decide +kernel) rfl
theorem d_L_spelling_11 : dk me_L_spelling 11 (.astore_n 2) 1 12 := And.intro (by decide +kernel) rfl
theorem d_L_spelling_12 : dk me_L_spelling 12 (.iconst 1) 1 13 := And.intro (by decide +kernel) rfl
theorem d_L_spelling_13 : dk me_L_spelling 13 (.ireturn) 1 14 := And.intro (by decide +kernel) rfl
theorem d_L_spelling_14 : dk me_L_spelling 14 (.astore_n 2) 1 15 := And.intro (by decide +kernel) rfl
theorem d_L_spelling_15 : dk me_L_spelling 15 (.iconst 2) 1 16 := And.intro (by decide +kernel) rfl
theorem d_L_spelling_16 : dk me_L_spelling 16 (.ireturn) 1 17 := And.intro (by decide +kernel) rfl
theorem d_L_spelling_17 : dk me_L_spelling 17 (.iconst 0) 1 18 := And.intro (by decide +kernel) rfl
theorem d_L_spelling_18 : dk me_L_spelling 18 (.ireturn) 1 19 := And.intro (by decide +kernel) rfl
theorem ms_L_spelling {fx : FX} {m : MM} {l0 : Nat} {l1 : Nat} : MS fx me_L_spelling [aR (some (11, l0)), aR (some (131, l1))] m (f_L_spelling m l0 l1) := by
  refine ms_ofH rfl mf_L_spelling (b8 rfl) ?_
  refine s_top ?_
  show Sim fx me_L_spelling 0 [(0, aR (some (11, l0))), (1, aR (some (131, l1)))] [] m _
  unfold f_L_spelling
  refine s_aload_n d_L_spelling_0 m1_ (s_iconst d_L_spelling_1 n_0 (s_aload_n d_L_spelling_2 m0_ (s_cIC (r_V d_L_spelling_3 k_X11_spelling w_389 rfl rfl) ms_X11_spelling (b8 rfl) rfl rfl ?_ ?_ ?_ fun v2 m1 => ?_)))
  · exact fun _ => Or.inl rfl
  · refine fun mx => Or.inr ⟨11, ⟨rfl, by decide, 1, wx_13_1, Or.inl ⟨rfl, rfl⟩⟩, fun qx => ?_⟩
    exact s_astoreV_n (L' := [(2, aV (.ref qx)), (0, aR (some (11, l0))), (1, aR (some (131, l1)))]) d_L_spelling_11 (b8 rfl) rfl (s_iconst d_L_spelling_12 n_1 (s_iret d_L_spelling_13 rfl rfl))
  · refine fun mx => Or.inr ⟨14, ⟨rfl, by decide, 1, wx_13_1, Or.inr ⟨by decide, ⟨rfl, by decide, 2, wx_15_2, Or.inl ⟨rfl, rfl⟩⟩⟩⟩, fun qx => ?_⟩
    exact s_astoreV_n (L' := [(2, aV (.ref qx)), (0, aR (some (11, l0))), (1, aR (some (131, l1)))]) d_L_spelling_14 (b8 rfl) rfl (s_iconst d_L_spelling_15 n_2 (s_iret d_L_spelling_16 rfl rfl))
  exact s_i2l d_L_spelling_6 (s_stL d_L_spelling_7 ka_131 rfl fun m3 => (s_goto (tgt := 17) d_L_spelling_8 rfl (s_iconst d_L_spelling_17 n_0 (s_iret d_L_spelling_18 rfl rfl))))
theorem d_X11_state_0 : dk me_X11_state 0 (.aload_n 0) 1 1 := And.intro (by decide +kernel) rfl
theorem d_X11_state_1 : dk me_X11_state 1 (.iload_n 1) 1 2 := And.intro (by decide +kernel) rfl
theorem d_X11_state_2 : dk me_X11_state 2 (.invokevirtual 143) 3 5 := And.intro (by decide +kernel) rfl
theorem d_X11_state_5 : dk me_X11_state 5 (.astore 4) 2 7 := And.intro (by decide +kernel) rfl
theorem d_X11_state_7 : dk me_X11_state 7 (.aload 4) 2 9 := And.intro (by decide +kernel) rfl
theorem d_X11_state_9 : dk me_X11_state 9 (.iload_n 2) 1 10 := And.intro (by decide +kernel) rfl
theorem d_X11_state_10 : dk me_X11_state 10 (.invokevirtual 369) 3 13 := And.intro (by decide +kernel) rfl
theorem d_X11_state_13 : dk me_X11_state 13 (.ifCond .eq 16) 3 16 := And.intro (by decide +kernel) rfl
theorem d_X11_state_16 : dk me_X11_state 16 (.aload 4) 2 18 := And.intro (by decide +kernel) rfl
theorem d_X11_state_18 : dk me_X11_state 18 (.iload_n 3) 1 19 := And.intro (by decide +kernel) rfl
theorem d_X11_state_19 : dk me_X11_state 19 (.invokevirtual 379) 3 22 := And.intro (by decide +kernel) rfl
theorem d_X11_state_22 : dk me_X11_state 22 (.ifCond .eq 7) 3 25 := And.intro (by decide +kernel) rfl
theorem d_X11_state_25 : dk me_X11_state 25 (.iconst 1) 1 26 := And.intro (by decide +kernel) rfl
theorem d_X11_state_26 : dk me_X11_state 26 (.goto 4) 3 29 := And.intro (by decide +kernel) rfl
theorem d_X11_state_29 : dk me_X11_state 29 (.iconst 0) 1 30 := And.intro (by decide +kernel) rfl
theorem d_X11_state_30 : dk me_X11_state 30 (.invokestatic 115) 3 33 := And.intro (by decide +kernel) rfl
theorem d_X11_state_33 : dk me_X11_state 33 (.aload 4) 2 35 := And.intro (by decide +kernel) rfl
theorem d_X11_state_35 : dk me_X11_state 35 (.getfield 357) 3 38 := And.intro (by decide +kernel) rfl
theorem d_X11_state_38 : dk me_X11_state 38 (.invokestatic 69) 3 41 := And.intro (by decide +kernel) rfl
theorem d_X11_state_41 : dk me_X11_state 41 (.aload 4) 2 43 := And.intro (by decide +kernel) rfl
theorem d_X11_state_43 : dk me_X11_state 43 (.iload_n 2) 1 44 := And.intro (by decide +kernel) rfl
theorem d_X11_state_44 : dk me_X11_state 44 (.iload_n 3) 1 45 := And.intro (by decide +kernel) rfl
theorem d_X11_state_45 : dk me_X11_state 45 (.invokevirtual 382) 3 48 := And.intro (by decide +kernel) rfl
theorem d_X11_state_48 : dk me_X11_state 48 (.ireturn) 1 49 := And.intro (by decide +kernel) rfl
theorem ms_X11_state {fx : FX} {m : MM} {l0 : Nat} {l1 : Int} {l2 : Int} {l3 : Int} : MS fx me_X11_state [aR (some (11, l0)), aI l1, aI l2, aI l3] m (f_X11_state m l0 l1 l2 l3) := by
  refine ms_of rfl mf_X11_state (b8 rfl) ?_
  refine s_top ?_
  show Sim fx me_X11_state 0 [(0, aR (some (11, l0))), (1, aI l1), (2, aI l2), (3, aI l3)] [] m _
  unfold f_X11_state
  have hj_X11_state_0_30 : ∀ (m_30 : MM) (l2_30 : Int) (l3_30 : Int) (l4_30 : Nat) (s0_30 : Int), Sim fx me_X11_state 30 [(2, aI l2_30), (3, aI l3_30), (4, aR (some (0, l4_30)))] [aI s0_30] m_30 ((j_X11_state_0_30 m_30 l2_30 l3_30 l4_30 s0_30).bind (fun z => some z)) := by
    intro m_30 l2_30 l3_30 l4_30 s0_30
    unfold j_X11_state_0_30
    refine s_cV (r_S d_X11_state_30 k_X11_requireIndex w_451 rfl rfl) ms_X11_requireIndex (b8 rfl) rfl rfl rfl (fun h => by cases h) (fun _ _ => Or.inr rfl) fun m6 => (s_aload d_X11_state_33 m2_ (s_getB cf d_X11_state_35 fl_X11_357 (s_cV (r_S d_X11_state_38 k_X11_requireState w_363 rfl rfl) ms_X11_requireState (b8 rfl) rfl rfl rfl (fun h => by cases h) (fun _ _ => Or.inr rfl) fun m8 => (s_aload d_X11_state_41 m2_ (s_iload_n d_X11_state_43 m0_ ?_)))))
    exact s_iload_n d_X11_state_44 m1_ (s_pI (r_V d_X11_state_45 k_X0_stateIn w_1209 rfl rfl) ms_X0_stateIn (b8 rfl) rfl rfl rfl fun v10 => (s_iret d_X11_state_48 rfl rfl))
  have hj_X11_state_0_29 : ∀ (m_29 : MM) (l2_29 : Int) (l3_29 : Int) (l4_29 : Nat), Sim fx me_X11_state 29 [(2, aI l2_29), (3, aI l3_29), (4, aR (some (0, l4_29)))] [] m_29 ((j_X11_state_0_29 m_29 l2_29 l3_29 l4_29).bind (fun z => some z)) := by
    intro m_29 l2_29 l3_29 l4_29
    unfold j_X11_state_0_29
    exact s_iconst d_X11_state_29 n_0 (s_sub (subc m0_ (subc m1_ (subc m2_ sub0))) (hj_X11_state_0_30 m_29 l2_29 l3_29 l4_29 0))
  refine s_aload_n d_X11_state_0 m0_ (s_iload_n d_X11_state_1 m1_ (s_cR (r_V d_X11_state_2 k_X11_bookAt w_814 rfl rfl) ms_X11_bookAt (b8 rfl) rfl rfl rfl (fun h => by cases h) (fun _ _ => Or.inr rfl) fun r2 m1 => (s_nk fun i3 => (s_astore (L' := [(4, aR (some (0, i3))), (0, aR (some (11, l0))), (1, aI l1), (2, aI l2), (3, aI l3)]) d_X11_state_5 (b8 rfl) rfl (s_aload d_X11_state_7 m0_ ?_)))))
  refine s_iload_n d_X11_state_9 m3_ (s_pI (r_V d_X11_state_10 k_X0_hasCopy w_1187 rfl rfl) ms_X0_hasCopy (b8 rfl) rfl rfl rfl fun v4 => (s_if_eq (tgt := 29) d_X11_state_13 rfl ?_ ?_))
  · exact s_sub (subc m3_ (subc m4_ (subc m0_ sub0))) (hj_X11_state_0_29 m1 l2 l3 i3)
  refine s_aload d_X11_state_16 m0_ (s_iload_n d_X11_state_18 m4_ (s_pI (r_V d_X11_state_19 k_X0_hasPage w_887 rfl rfl) ms_X0_hasPage (b8 rfl) rfl rfl rfl fun v5 => (s_if_eq (tgt := 29) d_X11_state_22 rfl ?_ ?_)))
  · exact s_sub (subc m3_ (subc m4_ (subc m0_ sub0))) (hj_X11_state_0_29 m1 l2 l3 i3)
  exact s_iconst d_X11_state_25 n_1 (s_goto (tgt := 30) d_X11_state_26 rfl (s_sub (subc m3_ (subc m4_ (subc m0_ sub0))) (hj_X11_state_0_30 m1 l2 l3 i3 1)))
theorem d_L_state_0 : dk me_L_state 0 (.aload 4) 2 2 := And.intro (by decide +kernel) rfl
theorem d_L_state_2 : dk me_L_state 2 (.iconst 0) 1 3 := And.intro (by decide +kernel) rfl
theorem d_L_state_3 : dk me_L_state 3 (.aload_n 0) 1 4 := And.intro (by decide +kernel) rfl
theorem d_L_state_4 : dk me_L_state 4 (.iload_n 1) 1 5 := And.intro (by decide +kernel) rfl
theorem d_L_state_5 : dk me_L_state 5 (.iload_n 2) 1 6 := And.intro (by decide +kernel) rfl
theorem d_L_state_6 : dk me_L_state 6 (.iload_n 3) 1 7 := And.intro (by decide +kernel) rfl
theorem d_L_state_7 : dk me_L_state 7 (.invokevirtual 105) 3 10 := And.intro (by decide +kernel) rfl
theorem d_L_state_10 : dk me_L_state 10 (.i2l) 1 11 := And.intro (by decide +kernel) rfl
theorem d_L_state_11 : dk me_L_state 11 (.lastore) 1 12 := And.intro (by decide +kernel) rfl
theorem d_L_state_12 : dk me_L_state 12 (.goto 11) 3 15 := And.intro (by decide +kernel) rfl
theorem d_L_state_15 : dk me_L_state 15 (.astore 5) 2 17 := And.intro (by decide +kernel) rfl
theorem d_L_state_17 : dk me_L_state 17 (.iconst 1) 1 18 := And.intro (by decide +kernel) rfl
theorem d_L_state_18 : dk me_L_state 18 (.ireturn) 1 19 := And.intro (by decide +kernel) rfl
theorem d_L_state_19 : dk me_L_state 19 (.astore 5) 2 21 := And.intro (by decide +kernel) rfl
theorem d_L_state_21 : dk me_L_state 21 (.iconst 2) 1 22 := And.intro (by decide +kernel) rfl
theorem d_L_state_22 : dk me_L_state 22 (.ireturn) 1 23 := And.intro (by decide +kernel) rfl
theorem d_L_state_23 : dk me_L_state 23 (.iconst 0) 1 24 := And.intro (by decide +kernel) rfl
theorem d_L_state_24 : dk me_L_state 24 (.ireturn) 1 25 := And.intro (by decide +kernel) rfl
theorem ms_L_state {fx : FX} {m : MM} {l0 : Nat} {l1 : Int} {l2 : Int} {l3 : Int} {l4 : Nat} : MS fx me_L_state [aR (some (11, l0)), aI l1, aI l2, aI l3, aR (some (131, l4))] m (f_L_state m l0 l1 l2 l3 l4) := by
  refine ms_ofH rfl mf_L_state (b8 rfl) ?_
  refine s_top ?_
  show Sim fx me_L_state 0 [(0, aR (some (11, l0))), (1, aI l1), (2, aI l2), (3, aI l3), (4, aR (some (131, l4)))] [] m _
  unfold f_L_state
  refine s_aload d_L_state_0 m4_ (s_iconst d_L_state_2 n_0 (s_aload_n d_L_state_3 m0_ (s_iload_n d_L_state_4 m1_ (s_iload_n d_L_state_5 m2_ (s_iload_n d_L_state_6 m3_ ?_)))))
  refine s_cIC (r_V d_L_state_7 k_X11_state w_1205 rfl rfl) ms_X11_state (b8 rfl) rfl rfl ?_ ?_ ?_ fun v2 m1 => ?_
  · refine fun mx => Or.inr ⟨15, ⟨rfl, by decide, 0, wx_29_0, Or.inl ⟨rfl, rfl⟩⟩, fun qx => ?_⟩
    exact s_astoreV (L' := [(5, aV (.ref qx)), (0, aR (some (11, l0))), (1, aI l1), (2, aI l2), (3, aI l3), (4, aR (some (131, l4)))]) d_L_state_15 (b8 rfl) rfl (s_iconst d_L_state_17 n_1 (s_iret d_L_state_18 rfl rfl))
  · exact fun _ => Or.inl rfl
  · refine fun mx => Or.inr ⟨19, ⟨rfl, by decide, 0, wx_29_0, Or.inr ⟨by decide, ⟨rfl, by decide, 2, wx_15_2, Or.inl ⟨rfl, rfl⟩⟩⟩⟩, fun qx => ?_⟩
    exact s_astoreV (L' := [(5, aV (.ref qx)), (0, aR (some (11, l0))), (1, aI l1), (2, aI l2), (3, aI l3), (4, aR (some (131, l4)))]) d_L_state_19 (b8 rfl) rfl (s_iconst d_L_state_21 n_2 (s_iret d_L_state_22 rfl rfl))
  exact s_i2l d_L_state_10 (s_stL d_L_state_11 ka_131 rfl fun m3 => (s_goto (tgt := 23) d_L_state_12 rfl (s_iconst d_L_state_23 n_0 (s_iret d_L_state_24 rfl rfl))))
theorem d_X10_add_0 : dk me_X10_add 0 (.aload_n 0) 1 1 := And.intro (by decide +kernel) rfl
theorem d_X10_add_1 : dk me_X10_add 1 (.getfield 29) 3 4 := And.intro (by decide +kernel) rfl
theorem d_X10_add_4 : dk me_X10_add 4 (.aload_n 0) 1 5 := And.intro (by decide +kernel) rfl
theorem d_X10_add_5 : dk me_X10_add 5 (.getfield 9) 3 8 := And.intro (by decide +kernel) rfl
theorem d_X10_add_8 : dk me_X10_add 8 (.arraylength) 1 9 := And.intro (by decide +kernel) rfl
theorem d_X10_add_9 : dk me_X10_add 9 (.if_icmp .ge 23) 3 12 := And.intro (by decide +kernel) rfl
theorem d_X10_add_12 : dk me_X10_add 12 (.aload_n 0) 1 13 := And.intro (by decide +kernel) rfl
theorem d_X10_add_13 : dk me_X10_add 13 (.getfield 9) 3 16 := And.intro (by decide +kernel) rfl
theorem d_X10_add_16 : dk me_X10_add 16 (.aload_n 0) 1 17 := And.intro (by decide +kernel) rfl
theorem d_X10_add_17 : dk me_X10_add 17 (.getfield 29) 3 20 := And.intro (by decide +kernel) rfl
theorem d_X10_add_20 : dk me_X10_add 20 (.iload_n 1) 1 21 := And.intro (by decide +kernel) rfl
theorem d_X10_add_21 : dk me_X10_add 21 (.iastore) 1 22 := And.intro (by decide +kernel) rfl
theorem d_X10_add_22 : dk me_X10_add 22 (.aload_n 0) 1 23 := And.intro (by decide +kernel) rfl
theorem d_X10_add_23 : dk me_X10_add 23 (.dup) 1 24 := And.intro (by decide +kernel) rfl
theorem d_X10_add_24 : dk me_X10_add 24 (.getfield 29) 3 27 := And.intro (by decide +kernel) rfl
theorem d_X10_add_27 : dk me_X10_add 27 (.iconst 1) 1 28 := And.intro (by decide +kernel) rfl
theorem d_X10_add_28 : dk me_X10_add 28 (.iadd) 1 29 := And.intro (by decide +kernel) rfl
theorem d_X10_add_29 : dk me_X10_add 29 (.putfield 29) 3 32 := And.intro (by decide +kernel) rfl
theorem d_X10_add_32 : dk me_X10_add 32 (.return_) 1 33 := And.intro (by decide +kernel) rfl
theorem ms_X10_add {fx : FX} {m : MM} {l0 : Nat} {l1 : Int} : MS fx me_X10_add [aR (some (10, l0)), aI l1] m (f_X10_add m l0 l1) := by
  refine ms_of rfl mf_X10_add (b8 rfl) ?_
  refine s_top ?_
  show Sim fx me_X10_add 0 [(0, aR (some (10, l0))), (1, aI l1)] [] m _
  unfold f_X10_add
  refine s_aload_n d_X10_add_0 m0_ (s_getN cf d_X10_add_1 fl_X10_29 (s_aload_n d_X10_add_4 m0_ (s_getR cf d_X10_add_5 fl_X10_9 (s_nk fun i1 => (s_len d_X10_add_8 ka_50 ta_50 ?_)))))
  refine s_icmp_ge (tgt := 32) d_X10_add_9 rfl ?_ ?_
  · exact s_vret d_X10_add_32 rfl rfl
  refine s_aload_n d_X10_add_12 m0_ (s_getR cf d_X10_add_13 fl_X10_9 (s_nk fun i2 => (s_aload_n d_X10_add_16 m0_ (s_getN cf d_X10_add_17 fl_X10_29 (s_iload_n d_X10_add_20 m1_ ?_)))))
  refine s_stN d_X10_add_21 ka_50 rfl fun m3 => (s_aload_n d_X10_add_22 m0_ (s_dup d_X10_add_23 rfl (s_getN cf d_X10_add_24 fl_X10_29 (s_iconst d_X10_add_27 n_1 (s_iadd d_X10_add_28 rfl rfl ?_)))))
  exact s_ck (s_putN cf d_X10_add_29 fl_X10_29 (fun h => by cases h) fun m4 => (s_vret d_X10_add_32 rfl rfl))
theorem d_X11_isSign_0 : dk me_X11_isSign 0 (.iload_n 0) 1 1 := And.intro (by decide +kernel) rfl
theorem d_X11_isSign_1 : dk me_X11_isSign 1 (.invokestatic 488) 3 4 := And.intro (by decide +kernel) rfl
theorem d_X11_isSign_4 : dk me_X11_isSign 4 (.ifCond .ne 15) 3 7 := And.intro (by decide +kernel) rfl
theorem d_X11_isSign_7 : dk me_X11_isSign 7 (.iload_n 0) 1 8 := And.intro (by decide +kernel) rfl
theorem d_X11_isSign_8 : dk me_X11_isSign 8 (.bipush 32) 2 10 := And.intro (by decide +kernel) rfl
theorem d_X11_isSign_10 : dk me_X11_isSign 10 (.if_icmp .eq 9) 3 13 := And.intro (by decide +kernel) rfl
theorem d_X11_isSign_13 : dk me_X11_isSign 13 (.iload_n 0) 1 14 := And.intro (by decide +kernel) rfl
theorem d_X11_isSign_14 : dk me_X11_isSign 14 (.bipush 47) 2 16 := And.intro (by decide +kernel) rfl
theorem d_X11_isSign_16 : dk me_X11_isSign 16 (.if_icmp .ne 7) 3 19 := And.intro (by decide +kernel) rfl
theorem d_X11_isSign_19 : dk me_X11_isSign 19 (.iconst 1) 1 20 := And.intro (by decide +kernel) rfl
theorem d_X11_isSign_20 : dk me_X11_isSign 20 (.goto 4) 3 23 := And.intro (by decide +kernel) rfl
theorem d_X11_isSign_23 : dk me_X11_isSign 23 (.iconst 0) 1 24 := And.intro (by decide +kernel) rfl
theorem d_X11_isSign_24 : dk me_X11_isSign 24 (.ireturn) 1 25 := And.intro (by decide +kernel) rfl
theorem ms_X11_isSign {fx : FX} {m : MM} {l0 : Int} : MS fx me_X11_isSign [aI l0] m ((f_X11_isSign m l0).bind fun v => some (.inl (some (aI v)), m)) := by
  refine ms_of rfl mf_X11_isSign (b8 rfl) ?_
  show Sim fx me_X11_isSign 0 [(0, aI l0)] [] m _
  unfold f_X11_isSign
  refine s_iload_n d_X11_isSign_0 m0_ (s_pI (r_S d_X11_isSign_1 k_X11_isLetter w_362 rfl rfl) ms_X11_isLetter (b8 rfl) rfl rfl rfl fun v1 => (s_if_ne (tgt := 19) d_X11_isSign_4 rfl ?_ ?_))
  · exact s_iconst d_X11_isSign_19 n_1 (s_goto (tgt := 24) d_X11_isSign_20 rfl (s_zretl d_X11_isSign_24 rfl (by decide) rfl))
  refine s_iload_n d_X11_isSign_7 m0_ (s_bipush d_X11_isSign_8 n_32 rfl (s_icmp_eq (tgt := 19) d_X11_isSign_10 rfl ?_ ?_))
  · exact s_iconst d_X11_isSign_19 n_1 (s_goto (tgt := 24) d_X11_isSign_20 rfl (s_zretl d_X11_isSign_24 rfl (by decide) rfl))
  refine s_iload_n d_X11_isSign_13 m0_ (s_bipush d_X11_isSign_14 n_47 rfl (s_icmp_ne (tgt := 23) d_X11_isSign_16 rfl ?_ ?_))
  · exact s_iconst d_X11_isSign_23 n_0 (s_zretl d_X11_isSign_24 rfl (by decide) rfl)
  exact s_iconst d_X11_isSign_19 n_1 (s_goto (tgt := 24) d_X11_isSign_20 rfl (s_zretl d_X11_isSign_24 rfl (by decide) rfl))
theorem d_X11_type_0 : dk me_X11_type 0 (.iload_n 3) 1 1 := And.intro (by decide +kernel) rfl
theorem d_X11_type_1 : dk me_X11_type 1 (.iconst 1) 1 2 := And.intro (by decide +kernel) rfl
theorem d_X11_type_2 : dk me_X11_type 2 (.if_icmp .lt 13) 3 5 := And.intro (by decide +kernel) rfl
theorem d_X11_type_5 : dk me_X11_type 5 (.iload_n 3) 1 6 := And.intro (by decide +kernel) rfl
theorem d_X11_type_6 : dk me_X11_type 6 (.bipush 8) 2 8 := And.intro (by decide +kernel) rfl
theorem d_X11_type_8 : dk me_X11_type 8 (.if_icmp .gt 7) 3 11 := And.intro (by decide +kernel) rfl
theorem d_X11_type_11 : dk me_X11_type 11 (.iconst 1) 1 12 := And.intro (by decide +kernel) rfl
theorem d_X11_type_12 : dk me_X11_type 12 (.goto 4) 3 15 := And.intro (by decide +kernel) rfl
theorem d_X11_type_15 : dk me_X11_type 15 (.iconst 0) 1 16 := And.intro (by decide +kernel) rfl
theorem d_X11_type_16 : dk me_X11_type 16 (.invokestatic 53) 3 19 := And.intro (by decide +kernel) rfl
theorem d_X11_type_19 : dk me_X11_type 19 (.iconst 0) 1 20 := And.intro (by decide +kernel) rfl
theorem d_X11_type_20 : dk me_X11_type 20 (.istore 4) 2 22 := And.intro (by decide +kernel) rfl
theorem d_X11_type_22 : dk me_X11_type 22 (.iload 4) 2 24 := And.intro (by decide +kernel) rfl
theorem d_X11_type_24 : dk me_X11_type 24 (.iload_n 3) 1 25 := And.intro (by decide +kernel) rfl
theorem d_X11_type_25 : dk me_X11_type 25 (.if_icmp .ge 21) 3 28 := And.intro (by decide +kernel) rfl
theorem d_X11_type_28 : dk me_X11_type 28 (.lload_n 1) 1 29 := And.intro (by decide +kernel) rfl
theorem d_X11_type_29 : dk me_X11_type 29 (.iload 4) 2 31 := And.intro (by decide +kernel) rfl
theorem d_X11_type_31 : dk me_X11_type 31 (.invokestatic 57) 3 34 := And.intro (by decide +kernel) rfl
theorem d_X11_type_34 : dk me_X11_type 34 (.invokestatic 61) 3 37 := And.intro (by decide +kernel) rfl
theorem d_X11_type_37 : dk me_X11_type 37 (.invokestatic 53) 3 40 := And.intro (by decide +kernel) rfl
theorem d_X11_type_40 : dk me_X11_type 40 (.iinc 4 1) 3 43 := And.intro (by decide +kernel) rfl
theorem d_X11_type_43 : dk me_X11_type 43 (.goto (-21)) 3 46 := And.intro (by decide +kernel) rfl
theorem d_X11_type_46 : dk me_X11_type 46 (.aload_n 0) 1 47 := And.intro (by decide +kernel) rfl
theorem d_X11_type_47 : dk me_X11_type 47 (.getfield 10) 3 50 := And.intro (by decide +kernel) rfl
theorem d_X11_type_50 : dk me_X11_type 50 (.getfield 65) 3 53 := And.intro (by decide +kernel) rfl
theorem d_X11_type_53 : dk me_X11_type 53 (.iload_n 3) 1 54 := And.intro (by decide +kernel) rfl
theorem d_X11_type_54 : dk me_X11_type 54 (.iadd) 1 55 := And.intro (by decide +kernel) rfl
theorem d_X11_type_55 : dk me_X11_type 55 (.bipush 40) 2 57 := And.intro (by decide +kernel) rfl
theorem d_X11_type_57 : dk me_X11_type 57 (.if_icmp .gt 7) 3 60 := And.intro (by decide +kernel) rfl
theorem d_X11_type_60 : dk me_X11_type 60 (.iconst 1) 1 61 := And.intro (by decide +kernel) rfl
theorem d_X11_type_61 : dk me_X11_type 61 (.goto 4) 3 64 := And.intro (by decide +kernel) rfl
theorem d_X11_type_64 : dk me_X11_type 64 (.iconst 0) 1 65 := And.intro (by decide +kernel) rfl
theorem d_X11_type_65 : dk me_X11_type 65 (.invokestatic 69) 3 68 := And.intro (by decide +kernel) rfl
theorem d_X11_type_68 : dk me_X11_type 68 (.iconst 0) 1 69 := And.intro (by decide +kernel) rfl
theorem d_X11_type_69 : dk me_X11_type 69 (.istore 4) 2 71 := And.intro (by decide +kernel) rfl
theorem d_X11_type_71 : dk me_X11_type 71 (.iload 4) 2 73 := And.intro (by decide +kernel) rfl
theorem d_X11_type_73 : dk me_X11_type 73 (.iload_n 3) 1 74 := And.intro (by decide +kernel) rfl
theorem d_X11_type_74 : dk me_X11_type 74 (.if_icmp .ge 22) 3 77 := And.intro (by decide +kernel) rfl
theorem d_X11_type_77 : dk me_X11_type 77 (.aload_n 0) 1 78 := And.intro (by decide +kernel) rfl
theorem d_X11_type_78 : dk me_X11_type 78 (.getfield 10) 3 81 := And.intro (by decide +kernel) rfl
theorem d_X11_type_81 : dk me_X11_type 81 (.lload_n 1) 1 82 := And.intro (by decide +kernel) rfl
theorem d_X11_type_82 : dk me_X11_type 82 (.iload 4) 2 84 := And.intro (by decide +kernel) rfl
theorem d_X11_type_84 : dk me_X11_type 84 (.invokestatic 57) 3 87 := And.intro (by decide +kernel) rfl
theorem d_X11_type_87 : dk me_X11_type 87 (.invokevirtual 72) 3 90 := And.intro (by decide +kernel) rfl
theorem d_X11_type_90 : dk me_X11_type 90 (.iinc 4 1) 3 93 := And.intro (by decide +kernel) rfl
theorem d_X11_type_93 : dk me_X11_type 93 (.goto (-22)) 3 96 := And.intro (by decide +kernel) rfl
theorem d_X11_type_96 : dk me_X11_type 96 (.aload_n 0) 1 97 := And.intro (by decide +kernel) rfl
theorem d_X11_type_97 : dk me_X11_type 97 (.getfield 10) 3 100 := And.intro (by decide +kernel) rfl
theorem d_X11_type_100 : dk me_X11_type 100 (.getfield 65) 3 103 := And.intro (by decide +kernel) rfl
theorem d_X11_type_103 : dk me_X11_type 103 (.ireturn) 1 104 := And.intro (by decide +kernel) rfl
theorem ms_X11_type {fx : FX} {m : MM} {l0 : Nat} {l1 : Int64} {l3 : Int} : MS fx me_X11_type [aR (some (11, l0)), aL l1, aI l3] m (f_X11_type m l0 l1 l3) := by
  refine ms_of rfl mf_X11_type (b8 rfl) ?_
  refine s_top ?_
  show Sim fx me_X11_type 0 [(0, aR (some (11, l0))), (1, aL l1), (3, aI l3)] [] m _
  unfold f_X11_type
  have hj_X11_type_0_96 : ∀ (m_96 : MM) (l0_96 : Nat), Sim fx me_X11_type 96 [(0, aR (some (11, l0_96)))] [] m_96 ((j_X11_type_0_96 m_96 l0_96).bind (fun z => some z)) := by
    intro m_96 l0_96
    unfold j_X11_type_0_96
    exact s_aload_n d_X11_type_96 m0_ (s_getR cf d_X11_type_97 fl_X11_10 (s_nk fun i14 => (s_getN cf d_X11_type_100 fl_X11_65 (s_iret d_X11_type_103 rfl rfl))))
  have hj_X11_type_0_65 : ∀ (m_65 : MM) (l0_65 : Nat) (l1_65 : Int64) (l3_65 : Int) (s0_65 : Int), Sim fx me_X11_type 65 [(0, aR (some (11, l0_65))), (1, aL l1_65), (3, aI l3_65)] [aI s0_65] m_65 ((j_X11_type_0_65 m_65 l0_65 l1_65 l3_65 s0_65).bind (fun z => some z)) := by
    intro m_65 l0_65 l1_65 l3_65 s0_65
    unfold j_X11_type_0_65
    refine s_cV (r_S d_X11_type_65 k_X11_requireState w_363 rfl rfl) ms_X11_requireState (b8 rfl) rfl rfl rfl (fun h => by cases h) (fun _ _ => Or.inr rfl) fun m8 => (s_iconst d_X11_type_68 n_0 (s_istore (L' := [(4, aI 0), (0, aR (some (11, l0_65))), (1, aL l1_65), (3, aI l3_65)]) d_X11_type_69 (b8 rfl) rfl (s_sub (subc m0_ (subc m1_ (subc m2_ (subc m3_ sub0)))) (s_lp2 (fun s => [(4, aI (s.1)), (0, aR (some (11, l0_65))), (1, aL l1_65), (3, aI l3_65)]) (fun s => s.2) (0, m8) fun k71 hx71 s ih0 => ?_))))
    obtain ⟨l4_71, mm_71⟩ := s
    have ih71 := ih0
    clear ih0
    try dsimp only
    unfold b_X11_type_71
    refine s_iload d_X11_type_71 m0_ (s_iload_n d_X11_type_73 m3_ (s_icmp_ge (tgt := 96) d_X11_type_74 rfl ?_ ?_))
    · exact s_exit (hx71 _) (s_sub (subc m1_ sub0) (hj_X11_type_0_96 mm_71 l0_65))
    refine s_aload_n d_X11_type_77 m1_ (s_getR cf d_X11_type_78 fl_X11_10 (s_nk fun i10 => (s_lload_n d_X11_type_81 m2_ (s_iload d_X11_type_82 m0_ (s_pI (r_S d_X11_type_84 k_X11_letterAt w_355 rfl rfl) ms_X11_letterAt (b8 rfl) rfl rfl rfl fun v11 => ?_)))))
    exact s_cV (r_V d_X11_type_87 k_X10_add w_382 rfl rfl) ms_X10_add (b8 rfl) rfl rfl rfl (fun _ _ _ => rfl) (fun _ _ => Or.inl rfl) fun m12 => (s_iinc (L' := [(4, aI (l4_71 + 1)), (0, aR (some (11, l0_65))), (1, aL l1_65), (3, aI l3_65)]) d_X11_type_90 m0_ (b8 rfl) rfl (s_goto (tgt := 71) d_X11_type_93 rfl (s_sub (subc m0_ (subc m1_ (subc m2_ (subc m3_ sub0)))) (s_back (ih71 ((l4_71 + 1), m12))))))
  have hj_X11_type_0_46 : ∀ (m_46 : MM) (l0_46 : Nat) (l1_46 : Int64) (l3_46 : Int), Sim fx me_X11_type 46 [(0, aR (some (11, l0_46))), (1, aL l1_46), (3, aI l3_46)] [] m_46 ((j_X11_type_0_46 m_46 l0_46 l1_46 l3_46).bind (fun z => some z)) := by
    intro m_46 l0_46 l1_46 l3_46
    unfold j_X11_type_0_46
    refine s_aload_n d_X11_type_46 m0_ (s_getR cf d_X11_type_47 fl_X11_10 (s_nk fun i7 => (s_getN cf d_X11_type_50 fl_X11_65 (s_iload_n d_X11_type_53 m2_ (s_iadd d_X11_type_54 rfl rfl ?_)))))
    refine s_bipush d_X11_type_55 n_40 rfl (s_ck1 (s_icmp_gt (tgt := 64) d_X11_type_57 rfl ?_ ?_))
    · exact s_iconst d_X11_type_64 n_0 (s_sub (subc m0_ (subc m1_ (subc m2_ sub0))) (hj_X11_type_0_65 m_46 l0_46 l1_46 l3_46 0))
    exact s_iconst d_X11_type_60 n_1 (s_goto (tgt := 65) d_X11_type_61 rfl (s_sub (subc m0_ (subc m1_ (subc m2_ sub0))) (hj_X11_type_0_65 m_46 l0_46 l1_46 l3_46 1)))
  have hj_X11_type_0_16 : ∀ (m_16 : MM) (l0_16 : Nat) (l1_16 : Int64) (l3_16 : Int) (s0_16 : Int), Sim fx me_X11_type 16 [(0, aR (some (11, l0_16))), (1, aL l1_16), (3, aI l3_16)] [aI s0_16] m_16 ((j_X11_type_0_16 m_16 l0_16 l1_16 l3_16 s0_16).bind (fun z => some z)) := by
    intro m_16 l0_16 l1_16 l3_16 s0_16
    unfold j_X11_type_0_16
    refine s_cV (r_S d_X11_type_16 k_X11_requireArgument w_284 rfl rfl) ms_X11_requireArgument (b8 rfl) rfl rfl rfl (fun h => by cases h) (fun _ _ => Or.inr rfl) fun m1 => (s_iconst d_X11_type_19 n_0 (s_istore (L' := [(4, aI 0), (0, aR (some (11, l0_16))), (1, aL l1_16), (3, aI l3_16)]) d_X11_type_20 (b8 rfl) rfl (s_sub (subc m0_ (subc m1_ (subc m2_ (subc m3_ sub0)))) (s_lp2 (fun s => [(4, aI (s.1)), (0, aR (some (11, l0_16))), (1, aL l1_16), (3, aI l3_16)]) (fun s => s.2) (0, m1) fun k22 hx22 s ih0 => ?_))))
    obtain ⟨l4_22, mm_22⟩ := s
    have ih22 := ih0
    clear ih0
    try dsimp only
    unfold b_X11_type_22
    refine s_iload d_X11_type_22 m0_ (s_iload_n d_X11_type_24 m3_ (s_icmp_ge (tgt := 46) d_X11_type_25 rfl ?_ ?_))
    · exact s_exit (hx22 _) (s_sub (subc m1_ (subc m2_ (subc m3_ sub0))) (hj_X11_type_0_46 mm_22 l0_16 l1_16 l3_16))
    refine s_lload_n d_X11_type_28 m2_ (s_iload d_X11_type_29 m0_ (s_pI (r_S d_X11_type_31 k_X11_letterAt w_355 rfl rfl) ms_X11_letterAt (b8 rfl) rfl rfl rfl fun v3 => (s_pI (r_S d_X11_type_34 k_X11_isSign w_359 rfl rfl) ms_X11_isSign (b8 rfl) rfl rfl rfl fun v4 => (s_cV (r_S d_X11_type_37 k_X11_requireArgument w_284 rfl rfl) ms_X11_requireArgument (b8 rfl) rfl rfl rfl (fun h => by cases h) (fun _ _ => Or.inr ((hx22 _).trans rfl)) fun m5 => (s_iinc (L' := [(4, aI (l4_22 + 1)), (0, aR (some (11, l0_16))), (1, aL l1_16), (3, aI l3_16)]) d_X11_type_40 m0_ (b8 rfl) rfl ?_)))))
    exact s_goto (tgt := 22) d_X11_type_43 rfl (s_sub (subc m0_ (subc m1_ (subc m2_ (subc m3_ sub0)))) (s_back (ih22 ((l4_22 + 1), m5))))
  have hj_X11_type_0_15 : ∀ (m_15 : MM) (l0_15 : Nat) (l1_15 : Int64) (l3_15 : Int), Sim fx me_X11_type 15 [(0, aR (some (11, l0_15))), (1, aL l1_15), (3, aI l3_15)] [] m_15 ((j_X11_type_0_15 m_15 l0_15 l1_15 l3_15).bind (fun z => some z)) := by
    intro m_15 l0_15 l1_15 l3_15
    unfold j_X11_type_0_15
    exact s_iconst d_X11_type_15 n_0 (s_sub (subc m0_ (subc m1_ (subc m2_ sub0))) (hj_X11_type_0_16 m_15 l0_15 l1_15 l3_15 0))
  refine s_iload_n d_X11_type_0 m2_ (s_iconst d_X11_type_1 n_1 (s_icmp_lt (tgt := 15) d_X11_type_2 rfl ?_ ?_))
  · exact s_sub (subc m0_ (subc m1_ (subc m2_ sub0))) (hj_X11_type_0_15 m l0 l1 l3)
  refine s_iload_n d_X11_type_5 m2_ (s_bipush d_X11_type_6 n_8 rfl (s_icmp_gt (tgt := 15) d_X11_type_8 rfl ?_ ?_))
  · exact s_sub (subc m0_ (subc m1_ (subc m2_ sub0))) (hj_X11_type_0_15 m l0 l1 l3)
  exact s_iconst d_X11_type_11 n_1 (s_goto (tgt := 16) d_X11_type_12 rfl (s_sub (subc m0_ (subc m1_ (subc m2_ sub0))) (hj_X11_type_0_16 m l0 l1 l3 1)))
theorem d_L_type_0 : dk me_L_type 0 (.aload 4) 2 2 := And.intro (by decide +kernel) rfl
theorem d_L_type_2 : dk me_L_type 2 (.iconst 0) 1 3 := And.intro (by decide +kernel) rfl
theorem d_L_type_3 : dk me_L_type 3 (.aload_n 0) 1 4 := And.intro (by decide +kernel) rfl
theorem d_L_type_4 : dk me_L_type 4 (.lload_n 1) 1 5 := And.intro (by decide +kernel) rfl
theorem d_L_type_5 : dk me_L_type 5 (.iload_n 3) 1 6 := And.intro (by decide +kernel) rfl
theorem d_L_type_6 : dk me_L_type 6 (.invokevirtual 7) 3 9 := And.intro (by decide +kernel) rfl
theorem d_L_type_9 : dk me_L_type 9 (.i2l) 1 10 := And.intro (by decide +kernel) rfl
theorem d_L_type_10 : dk me_L_type 10 (.lastore) 1 11 := And.intro (by decide +kernel) rfl
theorem d_L_type_11 : dk me_L_type 11 (.goto 11) 3 14 := And.intro (by decide +kernel) rfl
theorem d_L_type_14 : dk me_L_type 14 (.astore 5) 2 16 := And.intro (by decide +kernel) rfl
theorem d_L_type_16 : dk me_L_type 16 (.iconst 1) 1 17 := And.intro (by decide +kernel) rfl
theorem d_L_type_17 : dk me_L_type 17 (.ireturn) 1 18 := And.intro (by decide +kernel) rfl
theorem d_L_type_18 : dk me_L_type 18 (.astore 5) 2 20 := And.intro (by decide +kernel) rfl
theorem d_L_type_20 : dk me_L_type 20 (.iconst 2) 1 21 := And.intro (by decide +kernel) rfl
theorem d_L_type_21 : dk me_L_type 21 (.ireturn) 1 22 := And.intro (by decide +kernel) rfl
theorem d_L_type_22 : dk me_L_type 22 (.iconst 0) 1 23 := And.intro (by decide +kernel) rfl
theorem d_L_type_23 : dk me_L_type 23 (.ireturn) 1 24 := And.intro (by decide +kernel) rfl
theorem ms_L_type {fx : FX} {m : MM} {l0 : Nat} {l1 : Int64} {l3 : Int} {l4 : Nat} : MS fx me_L_type [aR (some (11, l0)), aL l1, aI l3, aR (some (131, l4))] m (f_L_type m l0 l1 l3 l4) := by
  refine ms_ofH rfl mf_L_type (b8 rfl) ?_
  refine s_top ?_
  show Sim fx me_L_type 0 [(0, aR (some (11, l0))), (1, aL l1), (3, aI l3), (4, aR (some (131, l4)))] [] m _
  unfold f_L_type
  refine s_aload d_L_type_0 m3_ (s_iconst d_L_type_2 n_0 (s_aload_n d_L_type_3 m0_ (s_lload_n d_L_type_4 m1_ (s_iload_n d_L_type_5 m2_ (s_cIC (r_V d_L_type_6 k_X11_type w_280 rfl rfl) ms_X11_type (b8 rfl) rfl rfl ?_ ?_ ?_ fun v2 m1 => ?_)))))
  · exact fun _ => Or.inl rfl
  · refine fun mx => Or.inr ⟨14, ⟨rfl, by decide, 1, wx_13_1, Or.inl ⟨rfl, rfl⟩⟩, fun qx => ?_⟩
    exact s_astoreV (L' := [(5, aV (.ref qx)), (0, aR (some (11, l0))), (1, aL l1), (3, aI l3), (4, aR (some (131, l4)))]) d_L_type_14 (b8 rfl) rfl (s_iconst d_L_type_16 n_1 (s_iret d_L_type_17 rfl rfl))
  · refine fun mx => Or.inr ⟨18, ⟨rfl, by decide, 1, wx_13_1, Or.inr ⟨by decide, ⟨rfl, by decide, 2, wx_15_2, Or.inl ⟨rfl, rfl⟩⟩⟩⟩, fun qx => ?_⟩
    exact s_astoreV (L' := [(5, aV (.ref qx)), (0, aR (some (11, l0))), (1, aL l1), (3, aI l3), (4, aR (some (131, l4)))]) d_L_type_18 (b8 rfl) rfl (s_iconst d_L_type_20 n_2 (s_iret d_L_type_21 rfl rfl))
  exact s_i2l d_L_type_9 (s_stL d_L_type_10 ka_131 rfl fun m3 => (s_goto (tgt := 22) d_L_type_11 rfl (s_iconst d_L_type_22 n_0 (s_iret d_L_type_23 rfl rfl))))
theorem d_X11_wear_0 : dk me_X11_wear 0 (.aload_n 0) 1 1 := And.intro (by decide +kernel) rfl
theorem d_X11_wear_1 : dk me_X11_wear 1 (.getfield 19) 3 4 := And.intro (by decide +kernel) rfl
theorem d_X11_wear_4 : dk me_X11_wear 4 (.iload_n 1) 1 5 := And.intro (by decide +kernel) rfl
theorem d_X11_wear_5 : dk me_X11_wear 5 (.invokevirtual 112) 3 8 := And.intro (by decide +kernel) rfl
theorem d_X11_wear_8 : dk me_X11_wear 8 (.invokestatic 115) 3 11 := And.intro (by decide +kernel) rfl
theorem d_X11_wear_11 : dk me_X11_wear 11 (.aload_n 0) 1 12 := And.intro (by decide +kernel) rfl
theorem d_X11_wear_12 : dk me_X11_wear 12 (.getfield 19) 3 15 := And.intro (by decide +kernel) rfl
theorem d_X11_wear_15 : dk me_X11_wear 15 (.getfield 118) 3 18 := And.intro (by decide +kernel) rfl
theorem d_X11_wear_18 : dk me_X11_wear 18 (.iload_n 1) 1 19 := And.intro (by decide +kernel) rfl
theorem d_X11_wear_19 : dk me_X11_wear 19 (.iaload) 1 20 := And.intro (by decide +kernel) rfl
theorem d_X11_wear_20 : dk me_X11_wear 20 (.iconst 3) 1 21 := And.intro (by decide +kernel) rfl
theorem d_X11_wear_21 : dk me_X11_wear 21 (.if_icmp .ge 7) 3 24 := And.intro (by decide +kernel) rfl
theorem d_X11_wear_24 : dk me_X11_wear 24 (.iconst 1) 1 25 := And.intro (by decide +kernel) rfl
theorem d_X11_wear_25 : dk me_X11_wear 25 (.goto 4) 3 28 := And.intro (by decide +kernel) rfl
theorem d_X11_wear_28 : dk me_X11_wear 28 (.iconst 0) 1 29 := And.intro (by decide +kernel) rfl
theorem d_X11_wear_29 : dk me_X11_wear 29 (.invokestatic 69) 3 32 := And.intro (by decide +kernel) rfl
theorem d_X11_wear_32 : dk me_X11_wear 32 (.aload_n 0) 1 33 := And.intro (by decide +kernel) rfl
theorem d_X11_wear_33 : dk me_X11_wear 33 (.getfield 19) 3 36 := And.intro (by decide +kernel) rfl
theorem d_X11_wear_36 : dk me_X11_wear 36 (.getfield 118) 3 39 := And.intro (by decide +kernel) rfl
theorem d_X11_wear_39 : dk me_X11_wear 39 (.iload_n 1) 1 40 := And.intro (by decide +kernel) rfl
theorem d_X11_wear_40 : dk me_X11_wear 40 (.dup2) 1 41 := And.intro (by decide +kernel) rfl
theorem d_X11_wear_41 : dk me_X11_wear 41 (.iaload) 1 42 := And.intro (by decide +kernel) rfl
theorem d_X11_wear_42 : dk me_X11_wear 42 (.iconst 1) 1 43 := And.intro (by decide +kernel) rfl
theorem d_X11_wear_43 : dk me_X11_wear 43 (.iadd) 1 44 := And.intro (by decide +kernel) rfl
theorem d_X11_wear_44 : dk me_X11_wear 44 (.iastore) 1 45 := And.intro (by decide +kernel) rfl
theorem d_X11_wear_45 : dk me_X11_wear 45 (.aload_n 0) 1 46 := And.intro (by decide +kernel) rfl
theorem d_X11_wear_46 : dk me_X11_wear 46 (.getfield 19) 3 49 := And.intro (by decide +kernel) rfl
theorem d_X11_wear_49 : dk me_X11_wear 49 (.getfield 118) 3 52 := And.intro (by decide +kernel) rfl
theorem d_X11_wear_52 : dk me_X11_wear 52 (.iload_n 1) 1 53 := And.intro (by decide +kernel) rfl
theorem d_X11_wear_53 : dk me_X11_wear 53 (.iaload) 1 54 := And.intro (by decide +kernel) rfl
theorem d_X11_wear_54 : dk me_X11_wear 54 (.ireturn) 1 55 := And.intro (by decide +kernel) rfl
theorem ms_X11_wear {fx : FX} {m : MM} {l0 : Nat} {l1 : Int} : MS fx me_X11_wear [aR (some (11, l0)), aI l1] m (f_X11_wear m l0 l1) := by
  refine ms_of rfl mf_X11_wear (b8 rfl) ?_
  refine s_top ?_
  show Sim fx me_X11_wear 0 [(0, aR (some (11, l0))), (1, aI l1)] [] m _
  unfold f_X11_wear
  have hj_X11_wear_0_29 : ∀ (m_29 : MM) (l0_29 : Nat) (l1_29 : Int) (s0_29 : Int), Sim fx me_X11_wear 29 [(0, aR (some (11, l0_29))), (1, aI l1_29)] [aI s0_29] m_29 ((j_X11_wear_0_29 m_29 l0_29 l1_29 s0_29).bind (fun z => some z)) := by
    intro m_29 l0_29 l1_29 s0_29
    unfold j_X11_wear_0_29
    refine s_cV (r_S d_X11_wear_29 k_X11_requireState w_363 rfl rfl) ms_X11_requireState (b8 rfl) rfl rfl rfl (fun h => by cases h) (fun _ _ => Or.inr rfl) fun m8 => (s_aload_n d_X11_wear_32 m0_ (s_getR cf d_X11_wear_33 fl_X11_19 (s_nk fun i10 => (s_getR cf d_X11_wear_36 fl_X11_118 (s_nk fun i11 => ?_)))))
    refine s_iload_n d_X11_wear_39 m1_ (s_dup2 d_X11_wear_40 rfl rfl (s_ldN d_X11_wear_41 ka_21 rfl fun v12 => (s_iconst d_X11_wear_42 n_1 (s_iadd d_X11_wear_43 rfl rfl (s_ck ?_)))))
    refine s_stN d_X11_wear_44 ka_21 rfl fun m13 => (s_aload_n d_X11_wear_45 m0_ (s_getR cf d_X11_wear_46 fl_X11_19 (s_nk fun i14 => (s_getR cf d_X11_wear_49 fl_X11_118 (s_nk fun i15 => ?_)))))
    exact s_iload_n d_X11_wear_52 m1_ (s_ldN d_X11_wear_53 ka_21 rfl fun v16 => (s_iret d_X11_wear_54 rfl rfl))
  refine s_aload_n d_X11_wear_0 m0_ (s_getR cf d_X11_wear_1 fl_X11_19 (s_nk fun i1 => (s_iload_n d_X11_wear_4 m1_ (s_pI (r_V d_X11_wear_5 k_X1_has w_447 rfl rfl) ms_X1_has (b8 rfl) rfl rfl rfl fun v2 => (s_cV (r_S d_X11_wear_8 k_X11_requireIndex w_451 rfl rfl) ms_X11_requireIndex (b8 rfl) rfl rfl rfl (fun h => by cases h) (fun _ _ => Or.inr rfl) fun m3 => ?_)))))
  refine s_aload_n d_X11_wear_11 m0_ (s_getR cf d_X11_wear_12 fl_X11_19 (s_nk fun i5 => (s_getR cf d_X11_wear_15 fl_X11_118 (s_nk fun i6 => (s_iload_n d_X11_wear_18 m1_ ?_)))))
  refine s_ldN d_X11_wear_19 ka_21 rfl fun v7 => (s_iconst d_X11_wear_20 n_3 (s_icmp_ge (tgt := 28) d_X11_wear_21 rfl ?_ ?_))
  · exact s_iconst d_X11_wear_28 n_0 (s_sub (subc m0_ (subc m1_ sub0)) (hj_X11_wear_0_29 m3 l0 l1 0))
  exact s_iconst d_X11_wear_24 n_1 (s_goto (tgt := 29) d_X11_wear_25 rfl (s_sub (subc m0_ (subc m1_ sub0)) (hj_X11_wear_0_29 m3 l0 l1 1)))
theorem d_L_wear_0 : dk me_L_wear 0 (.aload_n 2) 1 1 := And.intro (by decide +kernel) rfl
theorem d_L_wear_1 : dk me_L_wear 1 (.iconst 0) 1 2 := And.intro (by decide +kernel) rfl
theorem d_L_wear_2 : dk me_L_wear 2 (.aload_n 0) 1 3 := And.intro (by decide +kernel) rfl
theorem d_L_wear_3 : dk me_L_wear 3 (.iload_n 1) 1 4 := And.intro (by decide +kernel) rfl
theorem d_L_wear_4 : dk me_L_wear 4 (.invokevirtual 25) 3 7 := And.intro (by decide +kernel) rfl
theorem d_L_wear_7 : dk me_L_wear 7 (.i2l) 1 8 := And.intro (by decide +kernel) rfl
theorem d_L_wear_8 : dk me_L_wear 8 (.lastore) 1 9 := And.intro (by decide +kernel) rfl
theorem d_L_wear_9 : dk me_L_wear 9 (.goto 9) 3 12 := And.intro (by decide +kernel) rfl
theorem d_L_wear_12 : dk me_L_wear 12 (.astore_n 3) 1 13 := And.intro (by decide +kernel) rfl
theorem d_L_wear_13 : dk me_L_wear 13 (.iconst 1) 1 14 := And.intro (by decide +kernel) rfl
theorem d_L_wear_14 : dk me_L_wear 14 (.ireturn) 1 15 := And.intro (by decide +kernel) rfl
theorem d_L_wear_15 : dk me_L_wear 15 (.astore_n 3) 1 16 := And.intro (by decide +kernel) rfl
theorem d_L_wear_16 : dk me_L_wear 16 (.iconst 2) 1 17 := And.intro (by decide +kernel) rfl
theorem d_L_wear_17 : dk me_L_wear 17 (.ireturn) 1 18 := And.intro (by decide +kernel) rfl
theorem d_L_wear_18 : dk me_L_wear 18 (.iconst 0) 1 19 := And.intro (by decide +kernel) rfl
theorem d_L_wear_19 : dk me_L_wear 19 (.ireturn) 1 20 := And.intro (by decide +kernel) rfl
theorem ms_L_wear {fx : FX} {m : MM} {l0 : Nat} {l1 : Int} {l2 : Nat} : MS fx me_L_wear [aR (some (11, l0)), aI l1, aR (some (131, l2))] m (f_L_wear m l0 l1 l2) := by
  refine ms_ofH rfl mf_L_wear (b8 rfl) ?_
  refine s_top ?_
  show Sim fx me_L_wear 0 [(0, aR (some (11, l0))), (1, aI l1), (2, aR (some (131, l2)))] [] m _
  unfold f_L_wear
  refine s_aload_n d_L_wear_0 m2_ (s_iconst d_L_wear_1 n_0 (s_aload_n d_L_wear_2 m0_ (s_iload_n d_L_wear_3 m1_ (s_cIC (r_V d_L_wear_4 k_X11_wear w_443 rfl rfl) ms_X11_wear (b8 rfl) rfl rfl ?_ ?_ ?_ fun v2 m1 => ?_))))
  · refine fun mx => Or.inr ⟨12, ⟨rfl, by decide, 0, wx_29_0, Or.inl ⟨rfl, rfl⟩⟩, fun qx => ?_⟩
    exact s_astoreV_n (L' := [(3, aV (.ref qx)), (0, aR (some (11, l0))), (1, aI l1), (2, aR (some (131, l2)))]) d_L_wear_12 (b8 rfl) rfl (s_iconst d_L_wear_13 n_1 (s_iret d_L_wear_14 rfl rfl))
  · exact fun _ => Or.inl rfl
  · refine fun mx => Or.inr ⟨15, ⟨rfl, by decide, 0, wx_29_0, Or.inr ⟨by decide, ⟨rfl, by decide, 2, wx_15_2, Or.inl ⟨rfl, rfl⟩⟩⟩⟩, fun qx => ?_⟩
    exact s_astoreV_n (L' := [(3, aV (.ref qx)), (0, aR (some (11, l0))), (1, aI l1), (2, aR (some (131, l2)))]) d_L_wear_15 (b8 rfl) rfl (s_iconst d_L_wear_16 n_2 (s_iret d_L_wear_17 rfl rfl))
  exact s_i2l d_L_wear_7 (s_stL d_L_wear_8 ka_131 rfl fun m3 => (s_goto (tgt := 18) d_L_wear_9 rfl (s_iconst d_L_wear_18 n_0 (s_iret d_L_wear_19 rfl rfl))))
theorem d_X11_fault_0 : dk me_X11_fault 0 (.aload_n 0) 1 1 := And.intro (by decide +kernel) rfl
theorem d_X11_fault_1 : dk me_X11_fault 1 (.getfield 10) 3 4 := And.intro (by decide +kernel) rfl
theorem d_X11_fault_4 : dk me_X11_fault 4 (.invokevirtual 76) 3 7 := And.intro (by decide +kernel) rfl
theorem d_X11_fault_7 : dk me_X11_fault 7 (.ireturn) 1 8 := And.intro (by decide +kernel) rfl
theorem ms_X11_fault {fx : FX} {m : MM} {l0 : Nat} : MS fx me_X11_fault [aR (some (11, l0))] m ((f_X11_fault m l0).bind fun v => some (.inl (some (aI v)), m)) := by
  refine ms_of rfl mf_X11_fault (b8 rfl) ?_
  show Sim fx me_X11_fault 0 [(0, aR (some (11, l0)))] [] m _
  unfold f_X11_fault
  exact s_aload_n d_X11_fault_0 m0_ (s_getR cf d_X11_fault_1 fl_X11_10 (s_nk fun i1 => (s_pI (r_V d_X11_fault_4 k_X10_faultPlace w_264 rfl rfl) ms_X10_faultPlace (b8 rfl) rfl rfl rfl fun v2 => (s_iret d_X11_fault_7 rfl rfl))))
theorem d_X11_hour_0 : dk me_X11_hour 0 (.aload_n 0) 1 1 := And.intro (by decide +kernel) rfl
theorem d_X11_hour_1 : dk me_X11_hour 1 (.getfield 317) 3 4 := And.intro (by decide +kernel) rfl
theorem d_X11_hour_4 : dk me_X11_hour 4 (.ireturn) 1 5 := And.intro (by decide +kernel) rfl
theorem ms_X11_hour {fx : FX} {m : MM} {l0 : Nat} : MS fx me_X11_hour [aR (some (11, l0))] m ((f_X11_hour m l0).bind fun v => some (.inl (some (aI v)), m)) := by
  refine ms_of rfl mf_X11_hour (b8 rfl) ?_
  show Sim fx me_X11_hour 0 [(0, aR (some (11, l0)))] [] m _
  unfold f_X11_hour
  exact s_aload_n d_X11_hour_0 m0_ (s_getN cf d_X11_hour_1 fl_X11_317 (s_iret d_X11_hour_4 rfl rfl))
theorem d_X10_init_0 : dk me_X10_init 0 (.aload_n 0) 1 1 := And.intro (by decide +kernel) rfl
theorem d_X10_init_1 : dk me_X10_init 1 (.invokespecial 3) 3 4 := And.intro (by decide +kernel) rfl
theorem d_X10_init_4 : dk me_X10_init 4 (.aload_n 0) 1 5 := And.intro (by decide +kernel) rfl
theorem d_X10_init_5 : dk me_X10_init 5 (.bipush 40) 2 7 := And.intro (by decide +kernel) rfl
theorem d_X10_init_7 : dk me_X10_init 7 (.newarray .int) 2 9 := And.intro (by decide +kernel) rfl
theorem d_X10_init_9 : dk me_X10_init 9 (.putfield 9) 3 12 := And.intro (by decide +kernel) rfl
theorem d_X10_init_12 : dk me_X10_init 12 (.aload_n 0) 1 13 := And.intro (by decide +kernel) rfl
theorem d_X10_init_13 : dk me_X10_init 13 (.bipush 40) 2 15 := And.intro (by decide +kernel) rfl
theorem d_X10_init_15 : dk me_X10_init 15 (.newarray .long) 2 17 := And.intro (by decide +kernel) rfl
theorem d_X10_init_17 : dk me_X10_init 17 (.putfield 15) 3 20 := And.intro (by decide +kernel) rfl
theorem d_X10_init_20 : dk me_X10_init 20 (.aload_n 0) 1 21 := And.intro (by decide +kernel) rfl
theorem d_X10_init_21 : dk me_X10_init 21 (.bipush 40) 2 23 := And.intro (by decide +kernel) rfl
theorem d_X10_init_23 : dk me_X10_init 23 (.newarray .boolean) 2 25 := And.intro (by decide +kernel) rfl
theorem d_X10_init_25 : dk me_X10_init 25 (.putfield 19) 3 28 := And.intro (by decide +kernel) rfl
theorem d_X10_init_28 : dk me_X10_init 28 (.aload_n 0) 1 29 := And.intro (by decide +kernel) rfl
theorem d_X10_init_29 : dk me_X10_init 29 (.bipush 6) 2 31 := And.intro (by decide +kernel) rfl
theorem d_X10_init_31 : dk me_X10_init 31 (.newarray .long) 2 33 := And.intro (by decide +kernel) rfl
theorem d_X10_init_33 : dk me_X10_init 33 (.putfield 23) 3 36 := And.intro (by decide +kernel) rfl
theorem d_X10_init_36 : dk me_X10_init 36 (.aload_n 0) 1 37 := And.intro (by decide +kernel) rfl
theorem d_X10_init_37 : dk me_X10_init 37 (.bipush 6) 2 39 := And.intro (by decide +kernel) rfl
theorem d_X10_init_39 : dk me_X10_init 39 (.newarray .long) 2 41 := And.intro (by decide +kernel) rfl
theorem d_X10_init_41 : dk me_X10_init 41 (.putfield 26) 3 44 := And.intro (by decide +kernel) rfl
theorem d_X10_init_44 : dk me_X10_init 44 (.return_) 1 45 := And.intro (by decide +kernel) rfl
theorem ms_X10_init {fx : FX} {m : MM} {l0 : Nat} : MS fx me_X10_init [aR (some (10, l0))] m (f_X10_init m l0) := by
  refine ms_of rfl mf_X10_init (b8 rfl) ?_
  refine s_top ?_
  show Sim fx me_X10_init 0 [(0, aR (some (10, l0)))] [] m _
  unfold f_X10_init
  refine s_aload_n d_X10_init_0 m0_ (s_objInit d_X10_init_1 w_101 wo_1 wo_2 (b8 rfl) (b8 rfl) (s_aload_n d_X10_init_4 m0_ (s_bipush d_X10_init_5 n_40 rfl (s_newA d_X10_init_7 ka_50 rfl ty_int w_130 rfl fun m1 => (s_putR cf d_X10_init_9 fl_X10_9 (fun _ => ⟨rfl, _, rfl, rfl⟩) fun m2 => ?_)))))
  refine s_aload_n d_X10_init_12 m0_ (s_bipush d_X10_init_13 n_40 rfl (s_newA d_X10_init_15 ka_51 rfl ty_long w_131 rfl fun m3 => (s_putR cf d_X10_init_17 fl_X10_15 (fun _ => ⟨rfl, _, rfl, rfl⟩) fun m4 => (s_aload_n d_X10_init_20 m0_ (s_bipush d_X10_init_21 n_40 rfl ?_)))))
  refine s_newA d_X10_init_23 ka_52 rfl ty_boolean w_132 rfl fun m5 => (s_putR cf d_X10_init_25 fl_X10_19 (fun _ => ⟨rfl, _, rfl, rfl⟩) fun m6 => (s_aload_n d_X10_init_28 m0_ (s_bipush d_X10_init_29 n_6 rfl (s_newA d_X10_init_31 ka_53 rfl ty_long w_131 rfl fun m7 => (s_putR cf d_X10_init_33 fl_X10_23 (fun _ => ⟨rfl, _, rfl, rfl⟩) fun m8 => ?_)))))
  exact s_aload_n d_X10_init_36 m0_ (s_bipush d_X10_init_37 n_6 rfl (s_newA d_X10_init_39 ka_54 rfl ty_long w_131 rfl fun m9 => (s_putR cf d_X10_init_41 fl_X10_26 (fun _ => ⟨rfl, _, rfl, rfl⟩) fun m10 => (s_vret d_X10_init_44 rfl rfl))))
theorem d_X1_init_0 : dk me_X1_init 0 (.aload_n 0) 1 1 := And.intro (by decide +kernel) rfl
theorem d_X1_init_1 : dk me_X1_init 1 (.invokespecial 3) 3 4 := And.intro (by decide +kernel) rfl
theorem d_X1_init_4 : dk me_X1_init 4 (.aload_n 0) 1 5 := And.intro (by decide +kernel) rfl
theorem d_X1_init_5 : dk me_X1_init 5 (.sipush 400) 3 8 := And.intro (by decide +kernel) rfl
theorem d_X1_init_8 : dk me_X1_init 8 (.newarray .int) 2 10 := And.intro (by decide +kernel) rfl
theorem d_X1_init_10 : dk me_X1_init 10 (.putfield 9) 3 13 := And.intro (by decide +kernel) rfl
theorem d_X1_init_13 : dk me_X1_init 13 (.aload_n 0) 1 14 := And.intro (by decide +kernel) rfl
theorem d_X1_init_14 : dk me_X1_init 14 (.sipush 400) 3 17 := And.intro (by decide +kernel) rfl
theorem d_X1_init_17 : dk me_X1_init 17 (.newarray .int) 2 19 := And.intro (by decide +kernel) rfl
theorem d_X1_init_19 : dk me_X1_init 19 (.putfield 15) 3 22 := And.intro (by decide +kernel) rfl
theorem d_X1_init_22 : dk me_X1_init 22 (.aload_n 0) 1 23 := And.intro (by decide +kernel) rfl
theorem d_X1_init_23 : dk me_X1_init 23 (.sipush 400) 3 26 := And.intro (by decide +kernel) rfl
theorem d_X1_init_26 : dk me_X1_init 26 (.newarray .int) 2 28 := And.intro (by decide +kernel) rfl
theorem d_X1_init_28 : dk me_X1_init 28 (.putfield 18) 3 31 := And.intro (by decide +kernel) rfl
theorem d_X1_init_31 : dk me_X1_init 31 (.aload_n 0) 1 32 := And.intro (by decide +kernel) rfl
theorem d_X1_init_32 : dk me_X1_init 32 (.sipush 400) 3 35 := And.intro (by decide +kernel) rfl
theorem d_X1_init_35 : dk me_X1_init 35 (.newarray .int) 2 37 := And.intro (by decide +kernel) rfl
theorem d_X1_init_37 : dk me_X1_init 37 (.putfield 21) 3 40 := And.intro (by decide +kernel) rfl
theorem d_X1_init_40 : dk me_X1_init 40 (.aload_n 0) 1 41 := And.intro (by decide +kernel) rfl
theorem d_X1_init_41 : dk me_X1_init 41 (.bipush 28) 2 43 := And.intro (by decide +kernel) rfl
theorem d_X1_init_43 : dk me_X1_init 43 (.newarray .int) 2 45 := And.intro (by decide +kernel) rfl
theorem d_X1_init_45 : dk me_X1_init 45 (.putfield 24) 3 48 := And.intro (by decide +kernel) rfl
theorem d_X1_init_48 : dk me_X1_init 48 (.iconst 0) 1 49 := And.intro (by decide +kernel) rfl
theorem d_X1_init_49 : dk me_X1_init 49 (.istore_n 1) 1 50 := And.intro (by decide +kernel) rfl
theorem d_X1_init_50 : dk me_X1_init 50 (.iload_n 1) 1 51 := And.intro (by decide +kernel) rfl
theorem d_X1_init_51 : dk me_X1_init 51 (.bipush 28) 2 53 := And.intro (by decide +kernel) rfl
theorem d_X1_init_53 : dk me_X1_init 53 (.if_icmp .ge 16) 3 56 := And.intro (by decide +kernel) rfl
theorem d_X1_init_56 : dk me_X1_init 56 (.aload_n 0) 1 57 := And.intro (by decide +kernel) rfl
theorem d_X1_init_57 : dk me_X1_init 57 (.getfield 24) 3 60 := And.intro (by decide +kernel) rfl
theorem d_X1_init_60 : dk me_X1_init 60 (.iload_n 1) 1 61 := And.intro (by decide +kernel) rfl
theorem d_X1_init_61 : dk me_X1_init 61 (.iconst (-1)) 1 62 := And.intro (by decide +kernel) rfl
theorem d_X1_init_62 : dk me_X1_init 62 (.iastore) 1 63 := And.intro (by decide +kernel) rfl
theorem d_X1_init_63 : dk me_X1_init 63 (.iinc 1 1) 3 66 := And.intro (by decide +kernel) rfl
theorem d_X1_init_66 : dk me_X1_init 66 (.goto (-16)) 3 69 := And.intro (by decide +kernel) rfl
theorem d_X1_init_69 : dk me_X1_init 69 (.return_) 1 70 := And.intro (by decide +kernel) rfl
theorem ms_X1_init {fx : FX} {m : MM} {l0 : Nat} : MS fx me_X1_init [aR (some (1, l0))] m (f_X1_init m l0) := by
  refine ms_of rfl mf_X1_init (b8 rfl) ?_
  refine s_top ?_
  show Sim fx me_X1_init 0 [(0, aR (some (1, l0)))] [] m _
  unfold f_X1_init
  have hj_X1_init_0_69 : ∀ (m_69 : MM), Sim fx me_X1_init 69 [] [] m_69 ((j_X1_init_0_69 m_69).bind (fun z => some z)) := by
    intro m_69
    unfold j_X1_init_0_69
    exact s_vret d_X1_init_69 rfl rfl
  refine s_aload_n d_X1_init_0 m0_ (s_objInit d_X1_init_1 w_138 wo_1 wo_2 (b8 rfl) (b8 rfl) (s_aload_n d_X1_init_4 m0_ (s_sipush d_X1_init_5 n_400 rfl (s_newA d_X1_init_8 ka_20 rfl ty_int w_130 rfl fun m1 => (s_putR cf d_X1_init_10 fl_X1_9 (fun _ => ⟨rfl, _, rfl, rfl⟩) fun m2 => ?_)))))
  refine s_aload_n d_X1_init_13 m0_ (s_sipush d_X1_init_14 n_400 rfl (s_newA d_X1_init_17 ka_21 rfl ty_int w_130 rfl fun m3 => (s_putR cf d_X1_init_19 fl_X1_15 (fun _ => ⟨rfl, _, rfl, rfl⟩) fun m4 => (s_aload_n d_X1_init_22 m0_ (s_sipush d_X1_init_23 n_400 rfl ?_)))))
  refine s_newA d_X1_init_26 ka_22 rfl ty_int w_130 rfl fun m5 => (s_putR cf d_X1_init_28 fl_X1_18 (fun _ => ⟨rfl, _, rfl, rfl⟩) fun m6 => (s_aload_n d_X1_init_31 m0_ (s_sipush d_X1_init_32 n_400 rfl (s_newA d_X1_init_35 ka_23 rfl ty_int w_130 rfl fun m7 => (s_putR cf d_X1_init_37 fl_X1_21 (fun _ => ⟨rfl, _, rfl, rfl⟩) fun m8 => ?_)))))
  refine s_aload_n d_X1_init_40 m0_ (s_bipush d_X1_init_41 n_28 rfl (s_newA d_X1_init_43 ka_24 rfl ty_int w_130 rfl fun m9 => (s_putR cf d_X1_init_45 fl_X1_24 (fun _ => ⟨rfl, _, rfl, rfl⟩) fun m10 => (s_iconst d_X1_init_48 n_0 (s_istore_n (L' := [(1, aI 0), (0, aR (some (1, l0)))]) d_X1_init_49 (b8 rfl) rfl ?_)))))
  refine s_sub (subc m0_ (subc m1_ sub0)) (s_lp2 (fun s => [(1, aI (s.1)), (0, aR (some (1, l0)))]) (fun s => s.2) (0, m10) fun k50 hx50 s ih0 => ?_)
  obtain ⟨l1_50, mm_50⟩ := s
  have ih50 := ih0
  clear ih0
  try dsimp only
  unfold b_X1_init_50
  refine s_iload_n d_X1_init_50 m0_ (s_bipush d_X1_init_51 n_28 rfl (s_icmp_ge (tgt := 69) d_X1_init_53 rfl ?_ ?_))
  · exact s_exit (hx50 _) (s_sub (sub0) (hj_X1_init_0_69 mm_50))
  refine s_aload_n d_X1_init_56 m1_ (s_getR cf d_X1_init_57 fl_X1_24 (s_nk fun i11 => (s_iload_n d_X1_init_60 m0_ (s_iconst d_X1_init_61 n_m1 (s_stN d_X1_init_62 ka_24 rfl fun m12 => ?_)))))
  exact s_iinc (L' := [(1, aI (l1_50 + 1)), (0, aR (some (1, l0)))]) d_X1_init_63 m0_ (b8 rfl) rfl (s_goto (tgt := 50) d_X1_init_66 rfl (s_sub (subc m0_ (subc m1_ sub0)) (s_back (ih50 ((l1_50 + 1), m12)))))
theorem d_X6_init_0 : dk me_X6_init 0 (.aload_n 0) 1 1 := And.intro (by decide +kernel) rfl
theorem d_X6_init_1 : dk me_X6_init 1 (.invokespecial 1) 3 4 := And.intro (by decide +kernel) rfl
theorem d_X6_init_4 : dk me_X6_init 4 (.aload_n 0) 1 5 := And.intro (by decide +kernel) rfl
theorem d_X6_init_5 : dk me_X6_init 5 (.iconst 1) 1 6 := And.intro (by decide +kernel) rfl
theorem d_X6_init_6 : dk me_X6_init 6 (.putfield 7) 3 9 := And.intro (by decide +kernel) rfl
theorem d_X6_init_9 : dk me_X6_init 9 (.return_) 1 10 := And.intro (by decide +kernel) rfl
theorem ms_X6_init {fx : FX} {m : MM} {l0 : Nat} : MS fx me_X6_init [aR (some (6, l0))] m (f_X6_init m l0) := by
  refine ms_of rfl mf_X6_init (b8 rfl) ?_
  refine s_top ?_
  show Sim fx me_X6_init 0 [(0, aR (some (6, l0)))] [] m _
  unfold f_X6_init
  exact s_aload_n d_X6_init_0 m0_ (s_objInit d_X6_init_1 w_179 wo_1 wo_2 (b8 rfl) (b8 rfl) (s_aload_n d_X6_init_4 m0_ (s_iconst d_X6_init_5 n_1 (s_putN cf d_X6_init_6 fl_X6_7 (fun h => by cases h) fun m1 => (s_vret d_X6_init_9 rfl rfl)))))
theorem d_X7_init_0 : dk me_X7_init 0 (.aload_n 0) 1 1 := And.intro (by decide +kernel) rfl
theorem d_X7_init_1 : dk me_X7_init 1 (.invokespecial 3) 3 4 := And.intro (by decide +kernel) rfl
theorem d_X7_init_4 : dk me_X7_init 4 (.aload_n 0) 1 5 := And.intro (by decide +kernel) rfl
theorem d_X7_init_5 : dk me_X7_init 5 (.bipush 8) 2 7 := And.intro (by decide +kernel) rfl
theorem d_X7_init_7 : dk me_X7_init 7 (.newarray .int) 2 9 := And.intro (by decide +kernel) rfl
theorem d_X7_init_9 : dk me_X7_init 9 (.putfield 9) 3 12 := And.intro (by decide +kernel) rfl
theorem d_X7_init_12 : dk me_X7_init 12 (.aload_n 0) 1 13 := And.intro (by decide +kernel) rfl
theorem d_X7_init_13 : dk me_X7_init 13 (.sipush 256) 3 16 := And.intro (by decide +kernel) rfl
theorem d_X7_init_16 : dk me_X7_init 16 (.newarray .int) 2 18 := And.intro (by decide +kernel) rfl
theorem d_X7_init_18 : dk me_X7_init 18 (.putfield 15) 3 21 := And.intro (by decide +kernel) rfl
theorem d_X7_init_21 : dk me_X7_init 21 (.aload_n 0) 1 22 := And.intro (by decide +kernel) rfl
theorem d_X7_init_22 : dk me_X7_init 22 (.bipush 16) 2 24 := And.intro (by decide +kernel) rfl
theorem d_X7_init_24 : dk me_X7_init 24 (.newarray .int) 2 26 := And.intro (by decide +kernel) rfl
theorem d_X7_init_26 : dk me_X7_init 26 (.putfield 18) 3 29 := And.intro (by decide +kernel) rfl
theorem d_X7_init_29 : dk me_X7_init 29 (.aload_n 0) 1 30 := And.intro (by decide +kernel) rfl
theorem d_X7_init_30 : dk me_X7_init 30 (.bipush 16) 2 32 := And.intro (by decide +kernel) rfl
theorem d_X7_init_32 : dk me_X7_init 32 (.newarray .int) 2 34 := And.intro (by decide +kernel) rfl
theorem d_X7_init_34 : dk me_X7_init 34 (.putfield 21) 3 37 := And.intro (by decide +kernel) rfl
theorem d_X7_init_37 : dk me_X7_init 37 (.aload_n 0) 1 38 := And.intro (by decide +kernel) rfl
theorem d_X7_init_38 : dk me_X7_init 38 (.bipush 16) 2 40 := And.intro (by decide +kernel) rfl
theorem d_X7_init_40 : dk me_X7_init 40 (.newarray .int) 2 42 := And.intro (by decide +kernel) rfl
theorem d_X7_init_42 : dk me_X7_init 42 (.putfield 24) 3 45 := And.intro (by decide +kernel) rfl
theorem d_X7_init_45 : dk me_X7_init 45 (.aload_n 0) 1 46 := And.intro (by decide +kernel) rfl
theorem d_X7_init_46 : dk me_X7_init 46 (.bipush 16) 2 48 := And.intro (by decide +kernel) rfl
theorem d_X7_init_48 : dk me_X7_init 48 (.newarray .int) 2 50 := And.intro (by decide +kernel) rfl
theorem d_X7_init_50 : dk me_X7_init 50 (.putfield 27) 3 53 := And.intro (by decide +kernel) rfl
theorem d_X7_init_53 : dk me_X7_init 53 (.return_) 1 54 := And.intro (by decide +kernel) rfl
theorem ms_X7_init {fx : FX} {m : MM} {l0 : Nat} : MS fx me_X7_init [aR (some (7, l0))] m (f_X7_init m l0) := by
  refine ms_of rfl mf_X7_init (b8 rfl) ?_
  refine s_top ?_
  show Sim fx me_X7_init 0 [(0, aR (some (7, l0)))] [] m _
  unfold f_X7_init
  refine s_aload_n d_X7_init_0 m0_ (s_objInit d_X7_init_1 w_202 wo_1 wo_2 (b8 rfl) (b8 rfl) (s_aload_n d_X7_init_4 m0_ (s_bipush d_X7_init_5 n_8 rfl (s_newA d_X7_init_7 ka_39 rfl ty_int w_130 rfl fun m1 => (s_putR cf d_X7_init_9 fl_X7_9 (fun _ => ⟨rfl, _, rfl, rfl⟩) fun m2 => ?_)))))
  refine s_aload_n d_X7_init_12 m0_ (s_sipush d_X7_init_13 n_256 rfl (s_newA d_X7_init_16 ka_40 rfl ty_int w_130 rfl fun m3 => (s_putR cf d_X7_init_18 fl_X7_15 (fun _ => ⟨rfl, _, rfl, rfl⟩) fun m4 => (s_aload_n d_X7_init_21 m0_ (s_bipush d_X7_init_22 n_16 rfl ?_)))))
  refine s_newA d_X7_init_24 ka_41 rfl ty_int w_130 rfl fun m5 => (s_putR cf d_X7_init_26 fl_X7_18 (fun _ => ⟨rfl, _, rfl, rfl⟩) fun m6 => (s_aload_n d_X7_init_29 m0_ (s_bipush d_X7_init_30 n_16 rfl (s_newA d_X7_init_32 ka_42 rfl ty_int w_130 rfl fun m7 => (s_putR cf d_X7_init_34 fl_X7_21 (fun _ => ⟨rfl, _, rfl, rfl⟩) fun m8 => ?_)))))
  refine s_aload_n d_X7_init_37 m0_ (s_bipush d_X7_init_38 n_16 rfl (s_newA d_X7_init_40 ka_43 rfl ty_int w_130 rfl fun m9 => (s_putR cf d_X7_init_42 fl_X7_24 (fun _ => ⟨rfl, _, rfl, rfl⟩) fun m10 => (s_aload_n d_X7_init_45 m0_ (s_bipush d_X7_init_46 n_16 rfl ?_)))))
  exact s_newA d_X7_init_48 ka_44 rfl ty_int w_130 rfl fun m11 => (s_putR cf d_X7_init_50 fl_X7_27 (fun _ => ⟨rfl, _, rfl, rfl⟩) fun m12 => (s_vret d_X7_init_53 rfl rfl))
theorem d_X11_init_0 : dk me_X11_init 0 (.aload_n 0) 1 1 := And.intro (by decide +kernel) rfl
theorem d_X11_init_1 : dk me_X11_init 1 (.invokespecial 1) 3 4 := And.intro (by decide +kernel) rfl
theorem d_X11_init_4 : dk me_X11_init 4 (.aload_n 0) 1 5 := And.intro (by decide +kernel) rfl
theorem d_X11_init_5 : dk me_X11_init 5 (.new 7) 3 8 := And.intro (by decide +kernel) rfl
theorem d_X11_init_8 : dk me_X11_init 8 (.dup) 1 9 := And.intro (by decide +kernel) rfl
theorem d_X11_init_9 : dk me_X11_init 9 (.invokespecial 9) 3 12 := And.intro (by decide +kernel) rfl
theorem d_X11_init_12 : dk me_X11_init 12 (.putfield 10) 3 15 := And.intro (by decide +kernel) rfl
theorem d_X11_init_15 : dk me_X11_init 15 (.aload_n 0) 1 16 := And.intro (by decide +kernel) rfl
theorem d_X11_init_16 : dk me_X11_init 16 (.new 16) 3 19 := And.intro (by decide +kernel) rfl
theorem d_X11_init_19 : dk me_X11_init 19 (.dup) 1 20 := And.intro (by decide +kernel) rfl
theorem d_X11_init_20 : dk me_X11_init 20 (.invokespecial 18) 3 23 := And.intro (by decide +kernel) rfl
theorem d_X11_init_23 : dk me_X11_init 23 (.putfield 19) 3 26 := And.intro (by decide +kernel) rfl
theorem d_X11_init_26 : dk me_X11_init 26 (.aload_n 0) 1 27 := And.intro (by decide +kernel) rfl
theorem d_X11_init_27 : dk me_X11_init 27 (.iconst 4) 1 28 := And.intro (by decide +kernel) rfl
theorem d_X11_init_28 : dk me_X11_init 28 (.anewarray 23) 3 31 := And.intro (by decide +kernel) rfl
theorem d_X11_init_31 : dk me_X11_init 31 (.putfield 25) 3 34 := And.intro (by decide +kernel) rfl
theorem d_X11_init_34 : dk me_X11_init 34 (.aload_n 0) 1 35 := And.intro (by decide +kernel) rfl
theorem d_X11_init_35 : dk me_X11_init 35 (.iconst 3) 1 36 := And.intro (by decide +kernel) rfl
theorem d_X11_init_36 : dk me_X11_init 36 (.anewarray 29) 3 39 := And.intro (by decide +kernel) rfl
theorem d_X11_init_39 : dk me_X11_init 39 (.putfield 31) 3 42 := And.intro (by decide +kernel) rfl
theorem d_X11_init_42 : dk me_X11_init 42 (.aload_n 0) 1 43 := And.intro (by decide +kernel) rfl
theorem d_X11_init_43 : dk me_X11_init 43 (.iconst 3) 1 44 := And.intro (by decide +kernel) rfl
theorem d_X11_init_44 : dk me_X11_init 44 (.anewarray 35) 3 47 := And.intro (by decide +kernel) rfl
theorem d_X11_init_47 : dk me_X11_init 47 (.putfield 37) 3 50 := And.intro (by decide +kernel) rfl
theorem d_X11_init_50 : dk me_X11_init 50 (.iconst 0) 1 51 := And.intro (by decide +kernel) rfl
theorem d_X11_init_51 : dk me_X11_init 51 (.istore_n 1) 1 52 := And.intro (by decide +kernel) rfl
theorem d_X11_init_52 : dk me_X11_init 52 (.iload_n 1) 1 53 := And.intro (by decide +kernel) rfl
theorem d_X11_init_53 : dk me_X11_init 53 (.iconst 3) 1 54 := And.intro (by decide +kernel) rfl
theorem d_X11_init_54 : dk me_X11_init 54 (.if_icmp .ge 22) 3 57 := And.intro (by decide +kernel) rfl
theorem d_X11_init_57 : dk me_X11_init 57 (.aload_n 0) 1 58 := And.intro (by decide +kernel) rfl
theorem d_X11_init_58 : dk me_X11_init 58 (.getfield 37) 3 61 := And.intro (by decide +kernel) rfl
theorem d_X11_init_61 : dk me_X11_init 61 (.iload_n 1) 1 62 := And.intro (by decide +kernel) rfl
theorem d_X11_init_62 : dk me_X11_init 62 (.new 35) 3 65 := And.intro (by decide +kernel) rfl
theorem d_X11_init_65 : dk me_X11_init 65 (.dup) 1 66 := And.intro (by decide +kernel) rfl
theorem d_X11_init_66 : dk me_X11_init 66 (.invokespecial 41) 3 69 := And.intro (by decide +kernel) rfl
theorem d_X11_init_69 : dk me_X11_init 69 (.aastore) 1 70 := And.intro (by decide +kernel) rfl
theorem d_X11_init_70 : dk me_X11_init 70 (.iinc 1 1) 3 73 := And.intro (by decide +kernel) rfl
theorem d_X11_init_73 : dk me_X11_init 73 (.goto (-21)) 3 76 := And.intro (by decide +kernel) rfl
theorem d_X11_init_76 : dk me_X11_init 76 (.aload_n 0) 1 77 := And.intro (by decide +kernel) rfl
theorem d_X11_init_77 : dk me_X11_init 77 (.iconst 4) 1 78 := And.intro (by decide +kernel) rfl
theorem d_X11_init_78 : dk me_X11_init 78 (.newarray .int) 2 80 := And.intro (by decide +kernel) rfl
theorem d_X11_init_80 : dk me_X11_init 80 (.putfield 42) 3 83 := And.intro (by decide +kernel) rfl
theorem d_X11_init_83 : dk me_X11_init 83 (.aload_n 0) 1 84 := And.intro (by decide +kernel) rfl
theorem d_X11_init_84 : dk me_X11_init 84 (.new 46) 3 87 := And.intro (by decide +kernel) rfl
theorem d_X11_init_87 : dk me_X11_init 87 (.dup) 1 88 := And.intro (by decide +kernel) rfl
theorem d_X11_init_88 : dk me_X11_init 88 (.invokespecial 48) 3 91 := And.intro (by decide +kernel) rfl
theorem d_X11_init_91 : dk me_X11_init 91 (.putfield 49) 3 94 := And.intro (by decide +kernel) rfl
theorem d_X11_init_94 : dk me_X11_init 94 (.return_) 1 95 := And.intro (by decide +kernel) rfl
theorem ms_X11_init {fx : FX} {m : MM} {l0 : Nat} : MS fx me_X11_init [aR (some (11, l0))] m (f_X11_init m l0) := by
  refine ms_of rfl mf_X11_init (b8 rfl) ?_
  refine s_top ?_
  show Sim fx me_X11_init 0 [(0, aR (some (11, l0)))] [] m _
  unfold f_X11_init
  have hj_X11_init_0_76 : ∀ (m_76 : MM) (l0_76 : Nat), Sim fx me_X11_init 76 [(0, aR (some (11, l0_76)))] [] m_76 ((j_X11_init_0_76 m_76 l0_76).bind (fun z => some z)) := by
    intro m_76 l0_76
    unfold j_X11_init_0_76
    refine s_aload_n d_X11_init_76 m0_ (s_iconst d_X11_init_77 n_4 (s_newA d_X11_init_78 ka_58 rfl ty_int w_130 rfl fun m20 => (s_putR cf d_X11_init_80 fl_X11_42 (fun _ => ⟨rfl, _, rfl, rfl⟩) fun m21 => (s_aload_n d_X11_init_83 m0_ (s_new cf d_X11_init_84 nw_X11_46 fun m22 => ?_)))))
    exact s_dup d_X11_init_87 rfl (s_cV (r_IN d_X11_init_88 k_X7_init ne_2 rfl rfl) ms_X7_init (b8 rfl) rfl rfl rfl (fun _ _ _ => rfl) (fun _ _ => Or.inl rfl) fun m23 => (s_putR cf d_X11_init_91 fl_X11_49 (fun _ => ⟨rfl, _, rfl, rfl⟩) fun m25 => (s_vret d_X11_init_94 rfl rfl)))
  refine s_aload_n d_X11_init_0 m0_ (s_objInit d_X11_init_1 w_93 wo_1 wo_2 (b8 rfl) (b8 rfl) (s_aload_n d_X11_init_4 m0_ (s_new cf d_X11_init_5 nw_X11_7 fun m1 => (s_dup d_X11_init_8 rfl (s_cV (r_IN d_X11_init_9 k_X10_init ne_0 rfl rfl) ms_X10_init (b8 rfl) rfl rfl rfl (fun _ _ _ => rfl) (fun _ _ => Or.inl rfl) fun m2 => ?_)))))
  refine s_putR cf d_X11_init_12 fl_X11_10 (fun _ => ⟨rfl, _, rfl, rfl⟩) fun m4 => (s_aload_n d_X11_init_15 m0_ (s_new cf d_X11_init_16 nw_X11_16 fun m5 => (s_dup d_X11_init_19 rfl (s_cV (r_I d_X11_init_20 k_X1_init w_135 rfl rfl) ms_X1_init (b8 rfl) rfl rfl rfl (fun _ _ _ => rfl) (fun _ _ => Or.inl rfl) fun m6 => (s_putR cf d_X11_init_23 fl_X11_19 (fun _ => ⟨rfl, _, rfl, rfl⟩) fun m8 => ?_)))))
  refine s_aload_n d_X11_init_26 m0_ (s_iconst d_X11_init_27 n_4 (s_newQ d_X11_init_28 ka_55 (by decide) (by decide) w_169 rfl fun m9 => (s_putR cf d_X11_init_31 fl_X11_25 (fun _ => ⟨rfl, _, rfl, rfl⟩) fun m10 => (s_aload_n d_X11_init_34 m0_ (s_iconst d_X11_init_35 n_3 ?_)))))
  refine s_newQ d_X11_init_36 ka_56 (by decide) (by decide) w_171 rfl fun m11 => (s_putR cf d_X11_init_39 fl_X11_31 (fun _ => ⟨rfl, _, rfl, rfl⟩) fun m12 => (s_aload_n d_X11_init_42 m0_ (s_iconst d_X11_init_43 n_3 (s_newQ d_X11_init_44 ka_57 (by decide) (by decide) w_173 rfl fun m13 => (s_putR cf d_X11_init_47 fl_X11_37 (fun _ => ⟨rfl, _, rfl, rfl⟩) fun m14 => ?_)))))
  refine s_iconst d_X11_init_50 n_0 (s_istore_n (L' := [(1, aI 0), (0, aR (some (11, l0)))]) d_X11_init_51 (b8 rfl) rfl (s_sub (subc m0_ (subc m1_ sub0)) (s_lp2 (fun s => [(1, aI (s.1)), (0, aR (some (11, l0)))]) (fun s => s.2) (0, m14) fun k52 hx52 s ih0 => ?_)))
  obtain ⟨l1_52, mm_52⟩ := s
  have ih52 := ih0
  clear ih0
  try dsimp only
  unfold b_X11_init_52
  refine s_iload_n d_X11_init_52 m0_ (s_iconst d_X11_init_53 n_3 (s_icmp_ge (tgt := 76) d_X11_init_54 rfl ?_ ?_))
  · exact s_exit (hx52 _) (s_sub (subc m1_ sub0) (hj_X11_init_0_76 mm_52 l0))
  refine s_aload_n d_X11_init_57 m1_ (s_getR cf d_X11_init_58 fl_X11_37 (s_nk fun i15 => (s_iload_n d_X11_init_61 m0_ (s_new cf d_X11_init_62 nw_X11_35 fun m16 => (s_dup d_X11_init_65 rfl ?_)))))
  exact s_cV (r_IN d_X11_init_66 k_X6_init ne_1 rfl rfl) ms_X6_init (b8 rfl) rfl rfl rfl (fun _ _ _ => rfl) (fun _ _ => Or.inl rfl) fun m17 => (s_stR d_X11_init_69 ka_57 (by decide) (b8 rfl) rfl rfl fun m19 => (s_iinc (L' := [(1, aI (l1_52 + 1)), (0, aR (some (11, l0)))]) d_X11_init_70 m0_ (b8 rfl) rfl (s_goto (tgt := 52) d_X11_init_73 rfl (s_sub (subc m0_ (subc m1_ sub0)) (s_back (ih52 ((l1_52 + 1), m19)))))))
theorem d_X11_wipe_0 : dk me_X11_wipe 0 (.aload_n 0) 1 1 := And.intro (by decide +kernel) rfl
theorem d_X11_wipe_1 : dk me_X11_wipe 1 (.getfield 10) 3 4 := And.intro (by decide +kernel) rfl
theorem d_X11_wipe_4 : dk me_X11_wipe 4 (.getfield 65) 3 7 := And.intro (by decide +kernel) rfl
theorem d_X11_wipe_7 : dk me_X11_wipe 7 (.istore_n 1) 1 8 := And.intro (by decide +kernel) rfl
theorem d_X11_wipe_8 : dk me_X11_wipe 8 (.aload_n 0) 1 9 := And.intro (by decide +kernel) rfl
theorem d_X11_wipe_9 : dk me_X11_wipe 9 (.getfield 10) 3 12 := And.intro (by decide +kernel) rfl
theorem d_X11_wipe_12 : dk me_X11_wipe 12 (.iconst 0) 1 13 := And.intro (by decide +kernel) rfl
theorem d_X11_wipe_13 : dk me_X11_wipe 13 (.putfield 65) 3 16 := And.intro (by decide +kernel) rfl
theorem d_X11_wipe_16 : dk me_X11_wipe 16 (.iload_n 1) 1 17 := And.intro (by decide +kernel) rfl
theorem d_X11_wipe_17 : dk me_X11_wipe 17 (.ireturn) 1 18 := And.intro (by decide +kernel) rfl
theorem ms_X11_wipe {fx : FX} {m : MM} {l0 : Nat} : MS fx me_X11_wipe [aR (some (11, l0))] m (f_X11_wipe m l0) := by
  refine ms_of rfl mf_X11_wipe (b8 rfl) ?_
  refine s_top ?_
  show Sim fx me_X11_wipe 0 [(0, aR (some (11, l0)))] [] m _
  unfold f_X11_wipe
  refine s_aload_n d_X11_wipe_0 m0_ (s_getR cf d_X11_wipe_1 fl_X11_10 (s_nk fun i1 => (s_getN cf d_X11_wipe_4 fl_X11_65 (s_istore_n (L' := [(1, aI (gN m 10 i1 5)), (0, aR (some (11, l0)))]) d_X11_wipe_7 (b8 rfl) rfl (s_aload_n d_X11_wipe_8 m1_ ?_)))))
  exact s_getR cf d_X11_wipe_9 fl_X11_10 (s_nk fun i2 => (s_iconst d_X11_wipe_12 n_0 (s_putN cf d_X11_wipe_13 fl_X11_65 (fun h => by cases h) fun m3 => (s_iload_n d_X11_wipe_16 m0_ (s_iret d_X11_wipe_17 rfl rfl)))))
theorem d_X12_holds_0 : dk me_X12_holds 0 (.aload_n 0) 1 1 := And.intro (by decide +kernel) rfl
theorem d_X12_holds_1 : dk me_X12_holds 1 (.iload_n 1) 1 2 := And.intro (by decide +kernel) rfl
theorem d_X12_holds_2 : dk me_X12_holds 2 (.putfield 228) 3 5 := And.intro (by decide +kernel) rfl
theorem d_X12_holds_5 : dk me_X12_holds 5 (.iload_n 1) 1 6 := And.intro (by decide +kernel) rfl
theorem d_X12_holds_6 : dk me_X12_holds 6 (.ifCond .ne 7) 3 9 := And.intro (by decide +kernel) rfl
theorem d_X12_holds_9 : dk me_X12_holds 9 (.iconst 1) 1 10 := And.intro (by decide +kernel) rfl
theorem d_X12_holds_10 : dk me_X12_holds 10 (.goto 4) 3 13 := And.intro (by decide +kernel) rfl
theorem d_X12_holds_13 : dk me_X12_holds 13 (.iconst 0) 1 14 := And.intro (by decide +kernel) rfl
theorem d_X12_holds_14 : dk me_X12_holds 14 (.ireturn) 1 15 := And.intro (by decide +kernel) rfl
theorem ms_X12_holds {fx : FX} {m : MM} {l0 : Nat} {l1 : Int} : MS fx me_X12_holds [aR (some (12, l0)), aI l1] m (f_X12_holds m l0 l1) := by
  refine ms_of rfl mf_X12_holds (b8 rfl) ?_
  refine s_top ?_
  show Sim fx me_X12_holds 0 [(0, aR (some (12, l0))), (1, aI l1)] [] m _
  unfold f_X12_holds
  refine s_aload_n d_X12_holds_0 m0_ (s_iload_n d_X12_holds_1 m1_ (s_putN cf d_X12_holds_2 fl_X12_228 (fun h => by cases h) fun m1 => (s_iload_n d_X12_holds_5 m1_ (s_if_ne (tgt := 13) d_X12_holds_6 rfl ?_ ?_))))
  · exact s_iconst d_X12_holds_13 n_0 (s_zretl d_X12_holds_14 rfl (by decide) rfl)
  exact s_iconst d_X12_holds_9 n_1 (s_goto (tgt := 14) d_X12_holds_10 rfl (s_zretl d_X12_holds_14 rfl (by decide) rfl))
theorem d_X12_isIn_0 : dk me_X12_isIn 0 (.iload_n 0) 1 1 := And.intro (by decide +kernel) rfl
theorem d_X12_isIn_1 : dk me_X12_isIn 1 (.iload_n 1) 1 2 := And.intro (by decide +kernel) rfl
theorem d_X12_isIn_2 : dk me_X12_isIn 2 (.if_icmp .lt 12) 3 5 := And.intro (by decide +kernel) rfl
theorem d_X12_isIn_5 : dk me_X12_isIn 5 (.iload_n 0) 1 6 := And.intro (by decide +kernel) rfl
theorem d_X12_isIn_6 : dk me_X12_isIn 6 (.iload_n 2) 1 7 := And.intro (by decide +kernel) rfl
theorem d_X12_isIn_7 : dk me_X12_isIn 7 (.if_icmp .gt 7) 3 10 := And.intro (by decide +kernel) rfl
theorem d_X12_isIn_10 : dk me_X12_isIn 10 (.iconst 1) 1 11 := And.intro (by decide +kernel) rfl
theorem d_X12_isIn_11 : dk me_X12_isIn 11 (.goto 4) 3 14 := And.intro (by decide +kernel) rfl
theorem d_X12_isIn_14 : dk me_X12_isIn 14 (.iconst 0) 1 15 := And.intro (by decide +kernel) rfl
theorem d_X12_isIn_15 : dk me_X12_isIn 15 (.ireturn) 1 16 := And.intro (by decide +kernel) rfl
theorem ms_X12_isIn {fx : FX} {m : MM} {l0 : Int} {l1 : Int} {l2 : Int} : MS fx me_X12_isIn [aI l0, aI l1, aI l2] m ((f_X12_isIn m l0 l1 l2).bind fun v => some (.inl (some (aI v)), m)) := by
  refine ms_of rfl mf_X12_isIn (b8 rfl) ?_
  show Sim fx me_X12_isIn 0 [(0, aI l0), (1, aI l1), (2, aI l2)] [] m _
  unfold f_X12_isIn
  refine s_iload_n d_X12_isIn_0 m0_ (s_iload_n d_X12_isIn_1 m1_ (s_icmp_lt (tgt := 14) d_X12_isIn_2 rfl ?_ ?_))
  · exact s_iconst d_X12_isIn_14 n_0 (s_zretl d_X12_isIn_15 rfl (by decide) rfl)
  refine s_iload_n d_X12_isIn_5 m0_ (s_iload_n d_X12_isIn_6 m2_ (s_icmp_gt (tgt := 14) d_X12_isIn_7 rfl ?_ ?_))
  · exact s_iconst d_X12_isIn_14 n_0 (s_zretl d_X12_isIn_15 rfl (by decide) rfl)
  exact s_iconst d_X12_isIn_10 n_1 (s_goto (tgt := 15) d_X12_isIn_11 rfl (s_zretl d_X12_isIn_15 rfl (by decide) rfl))
theorem d_X12_isHand_0 : dk me_X12_isHand 0 (.iload_n 1) 1 1 := And.intro (by decide +kernel) rfl
theorem d_X12_isHand_1 : dk me_X12_isHand 1 (.iconst 0) 1 2 := And.intro (by decide +kernel) rfl
theorem d_X12_isHand_2 : dk me_X12_isHand 2 (.aload_n 0) 1 3 := And.intro (by decide +kernel) rfl
theorem d_X12_isHand_3 : dk me_X12_isHand 3 (.getfield 247) 3 6 := And.intro (by decide +kernel) rfl
theorem d_X12_isHand_6 : dk me_X12_isHand 6 (.iconst 1) 1 7 := And.intro (by decide +kernel) rfl
theorem d_X12_isHand_7 : dk me_X12_isHand 7 (.isub) 1 8 := And.intro (by decide +kernel) rfl
theorem d_X12_isHand_8 : dk me_X12_isHand 8 (.invokestatic 235) 3 11 := And.intro (by decide +kernel) rfl
theorem d_X12_isHand_11 : dk me_X12_isHand 11 (.ireturn) 1 12 := And.intro (by decide +kernel) rfl
theorem ms_X12_isHand {fx : FX} {m : MM} {l0 : Nat} {l1 : Int} : MS fx me_X12_isHand [aR (some (12, l0)), aI l1] m ((f_X12_isHand m l0 l1).bind fun v => some (.inl (some (aI v)), m)) := by
  refine ms_of rfl mf_X12_isHand (b8 rfl) ?_
  show Sim fx me_X12_isHand 0 [(0, aR (some (12, l0))), (1, aI l1)] [] m _
  unfold f_X12_isHand
  refine s_iload_n d_X12_isHand_0 m1_ (s_iconst d_X12_isHand_1 n_0 (s_aload_n d_X12_isHand_2 m0_ (s_getN cf d_X12_isHand_3 fl_X12_247 (s_iconst d_X12_isHand_6 n_1 (s_isub d_X12_isHand_7 rfl rfl ?_)))))
  exact s_ck (s_pI (r_S d_X12_isHand_8 k_X12_isIn w_1664 rfl rfl) ms_X12_isIn (b8 rfl) rfl rfl rfl fun v1 => (s_zret d_X12_isHand_11 rfl rfl))
theorem d_X12_account_0 : dk me_X12_account 0 (.iload_n 1) 1 1 := And.intro (by decide +kernel) rfl
theorem d_X12_account_1 : dk me_X12_account 1 (.iconst 0) 1 2 := And.intro (by decide +kernel) rfl
theorem d_X12_account_2 : dk me_X12_account 2 (.iconst 4) 1 3 := And.intro (by decide +kernel) rfl
theorem d_X12_account_3 : dk me_X12_account 3 (.invokestatic 235) 3 6 := And.intro (by decide +kernel) rfl
theorem d_X12_account_6 : dk me_X12_account 6 (.istore_n 3) 1 7 := And.intro (by decide +kernel) rfl
theorem d_X12_account_7 : dk me_X12_account 7 (.iload_n 1) 1 8 := And.intro (by decide +kernel) rfl
theorem d_X12_account_8 : dk me_X12_account 8 (.iconst 2) 1 9 := And.intro (by decide +kernel) rfl
theorem d_X12_account_9 : dk me_X12_account 9 (.if_icmp .ge 11) 3 12 := And.intro (by decide +kernel) rfl
theorem d_X12_account_12 : dk me_X12_account 12 (.aload_n 0) 1 13 := And.intro (by decide +kernel) rfl
theorem d_X12_account_13 : dk me_X12_account 13 (.iload_n 2) 1 14 := And.intro (by decide +kernel) rfl
theorem d_X12_account_14 : dk me_X12_account 14 (.invokevirtual 337) 3 17 := And.intro (by decide +kernel) rfl
theorem d_X12_account_17 : dk me_X12_account 17 (.goto 18) 3 20 := And.intro (by decide +kernel) rfl
theorem d_X12_account_20 : dk me_X12_account 20 (.iload_n 2) 1 21 := And.intro (by decide +kernel) rfl
theorem d_X12_account_21 : dk me_X12_account 21 (.iconst 0) 1 22 := And.intro (by decide +kernel) rfl
theorem d_X12_account_22 : dk me_X12_account 22 (.iload_n 1) 1 23 := And.intro (by decide +kernel) rfl
theorem d_X12_account_23 : dk me_X12_account 23 (.iconst 4) 1 24 := And.intro (by decide +kernel) rfl
theorem d_X12_account_24 : dk me_X12_account 24 (.if_icmp .ge 7) 3 27 := And.intro (by decide +kernel) rfl
theorem d_X12_account_27 : dk me_X12_account 27 (.iconst 2) 1 28 := And.intro (by decide +kernel) rfl
theorem d_X12_account_28 : dk me_X12_account 28 (.goto 4) 3 31 := And.intro (by decide +kernel) rfl
theorem d_X12_account_31 : dk me_X12_account 31 (.iconst 3) 1 32 := And.intro (by decide +kernel) rfl
theorem d_X12_account_32 : dk me_X12_account 32 (.invokestatic 235) 3 35 := And.intro (by decide +kernel) rfl
theorem d_X12_account_35 : dk me_X12_account 35 (.istore 4) 2 37 := And.intro (by decide +kernel) rfl
theorem d_X12_account_37 : dk me_X12_account 37 (.aload_n 0) 1 38 := And.intro (by decide +kernel) rfl
theorem d_X12_account_38 : dk me_X12_account 38 (.iload_n 3) 1 39 := And.intro (by decide +kernel) rfl
theorem d_X12_account_39 : dk me_X12_account 39 (.ifCond .ne 7) 3 42 := And.intro (by decide +kernel) rfl
theorem d_X12_account_42 : dk me_X12_account 42 (.iconst 1) 1 43 := And.intro (by decide +kernel) rfl
theorem d_X12_account_43 : dk me_X12_account 43 (.goto 13) 3 46 := And.intro (by decide +kernel) rfl
theorem d_X12_account_46 : dk me_X12_account 46 (.iload 4) 2 48 := And.intro (by decide +kernel) rfl
theorem d_X12_account_48 : dk me_X12_account 48 (.ifCond .eq 7) 3 51 := And.intro (by decide +kernel) rfl
theorem d_X12_account_51 : dk me_X12_account 51 (.iconst 0) 1 52 := And.intro (by decide +kernel) rfl
theorem d_X12_account_52 : dk me_X12_account 52 (.goto 4) 3 55 := And.intro (by decide +kernel) rfl
theorem d_X12_account_55 : dk me_X12_account 55 (.iconst 2) 1 56 := And.intro (by decide +kernel) rfl
theorem d_X12_account_56 : dk me_X12_account 56 (.invokevirtual 260) 3 59 := And.intro (by decide +kernel) rfl
theorem d_X12_account_59 : dk me_X12_account 59 (.ifCond .ne 5) 3 62 := And.intro (by decide +kernel) rfl
theorem d_X12_account_62 : dk me_X12_account 62 (.iconst 0) 1 63 := And.intro (by decide +kernel) rfl
theorem d_X12_account_63 : dk me_X12_account 63 (.ireturn) 1 64 := And.intro (by decide +kernel) rfl
theorem d_X12_account_64 : dk me_X12_account 64 (.iload_n 1) 1 65 := And.intro (by decide +kernel) rfl
theorem d_X12_account_65 : dk me_X12_account 65 (.ifCond .ne 12) 3 68 := And.intro (by decide +kernel) rfl
theorem d_X12_account_68 : dk me_X12_account 68 (.aload_n 0) 1 69 := And.intro (by decide +kernel) rfl
theorem d_X12_account_69 : dk me_X12_account 69 (.getfield 47) 3 72 := And.intro (by decide +kernel) rfl
theorem d_X12_account_72 : dk me_X12_account 72 (.iload_n 2) 1 73 := And.intro (by decide +kernel) rfl
theorem d_X12_account_73 : dk me_X12_account 73 (.iaload) 1 74 := And.intro (by decide +kernel) rfl
theorem d_X12_account_74 : dk me_X12_account 74 (.goto 51) 3 77 := And.intro (by decide +kernel) rfl
theorem d_X12_account_77 : dk me_X12_account 77 (.iload_n 1) 1 78 := And.intro (by decide +kernel) rfl
theorem d_X12_account_78 : dk me_X12_account 78 (.iconst 1) 1 79 := And.intro (by decide +kernel) rfl
theorem d_X12_account_79 : dk me_X12_account 79 (.if_icmp .ne 12) 3 82 := And.intro (by decide +kernel) rfl
theorem d_X12_account_82 : dk me_X12_account 82 (.aload_n 0) 1 83 := And.intro (by decide +kernel) rfl
theorem d_X12_account_83 : dk me_X12_account 83 (.getfield 50) 3 86 := And.intro (by decide +kernel) rfl
theorem d_X12_account_86 : dk me_X12_account 86 (.iload_n 2) 1 87 := And.intro (by decide +kernel) rfl
theorem d_X12_account_87 : dk me_X12_account 87 (.iaload) 1 88 := And.intro (by decide +kernel) rfl
theorem d_X12_account_88 : dk me_X12_account 88 (.goto 37) 3 91 := And.intro (by decide +kernel) rfl
theorem d_X12_account_91 : dk me_X12_account 91 (.iload_n 1) 1 92 := And.intro (by decide +kernel) rfl
theorem d_X12_account_92 : dk me_X12_account 92 (.iconst 2) 1 93 := And.intro (by decide +kernel) rfl
theorem d_X12_account_93 : dk me_X12_account 93 (.if_icmp .ne 12) 3 96 := And.intro (by decide +kernel) rfl
theorem d_X12_account_96 : dk me_X12_account 96 (.aload_n 0) 1 97 := And.intro (by decide +kernel) rfl
theorem d_X12_account_97 : dk me_X12_account 97 (.getfield 204) 3 100 := And.intro (by decide +kernel) rfl
theorem d_X12_account_100 : dk me_X12_account 100 (.iload_n 2) 1 101 := And.intro (by decide +kernel) rfl
theorem d_X12_account_101 : dk me_X12_account 101 (.iaload) 1 102 := And.intro (by decide +kernel) rfl
theorem d_X12_account_102 : dk me_X12_account 102 (.goto 23) 3 105 := And.intro (by decide +kernel) rfl
theorem d_X12_account_105 : dk me_X12_account 105 (.iload_n 1) 1 106 := And.intro (by decide +kernel) rfl
theorem d_X12_account_106 : dk me_X12_account 106 (.iconst 3) 1 107 := And.intro (by decide +kernel) rfl
theorem d_X12_account_107 : dk me_X12_account 107 (.if_icmp .ne 12) 3 110 := And.intro (by decide +kernel) rfl
theorem d_X12_account_110 : dk me_X12_account 110 (.aload_n 0) 1 111 := And.intro (by decide +kernel) rfl
theorem d_X12_account_111 : dk me_X12_account 111 (.getfield 207) 3 114 := And.intro (by decide +kernel) rfl
theorem d_X12_account_114 : dk me_X12_account 114 (.iload_n 2) 1 115 := And.intro (by decide +kernel) rfl
theorem d_X12_account_115 : dk me_X12_account 115 (.iaload) 1 116 := And.intro (by decide +kernel) rfl
theorem d_X12_account_116 : dk me_X12_account 116 (.goto 9) 3 119 := And.intro (by decide +kernel) rfl
theorem d_X12_account_119 : dk me_X12_account 119 (.aload_n 0) 1 120 := And.intro (by decide +kernel) rfl
theorem d_X12_account_120 : dk me_X12_account 120 (.getfield 210) 3 123 := And.intro (by decide +kernel) rfl
theorem d_X12_account_123 : dk me_X12_account 123 (.iload_n 2) 1 124 := And.intro (by decide +kernel) rfl
theorem d_X12_account_124 : dk me_X12_account 124 (.iaload) 1 125 := And.intro (by decide +kernel) rfl
theorem d_X12_account_125 : dk me_X12_account 125 (.ireturn) 1 126 := And.intro (by decide +kernel) rfl
theorem ms_X12_account {fx : FX} {m : MM} {l0 : Nat} {l1 : Int} {l2 : Int} : MS fx me_X12_account [aR (some (12, l0)), aI l1, aI l2] m (f_X12_account m l0 l1 l2) := by
  refine ms_of rfl mf_X12_account (b8 rfl) ?_
  refine s_top ?_
  show Sim fx me_X12_account 0 [(0, aR (some (12, l0))), (1, aI l1), (2, aI l2)] [] m _
  unfold f_X12_account
  have hj_X12_account_0_56 : ∀ (m_56 : MM) (l0_56 : Nat) (l1_56 : Int) (l2_56 : Int) (s0_56 : Nat) (s1_56 : Int), Sim fx me_X12_account 56 [(0, aR (some (12, l0_56))), (1, aI l1_56), (2, aI l2_56)] [aI s1_56, aR (some (12, s0_56))] m_56 ((j_X12_account_0_56 m_56 l0_56 l1_56 l2_56 s0_56 s1_56).bind (fun z => some z)) := by
    intro m_56 l0_56 l1_56 l2_56 s0_56 s1_56
    unfold j_X12_account_0_56
    refine s_cI (r_V d_X12_account_56 k_X12_holds w_1668 rfl rfl) ms_X12_holds (b8 rfl) rfl rfl rfl (fun _ _ _ => rfl) (fun _ _ => Or.inl rfl) fun v5 m4 => (s_if_ne (tgt := 64) d_X12_account_59 rfl ?_ ?_)
    · refine s_iload_n d_X12_account_64 m1_ (s_if_ne (tgt := 77) d_X12_account_65 rfl ?_ ?_)
      · refine s_iload_n d_X12_account_77 m1_ (s_iconst d_X12_account_78 n_1 (s_icmp_ne (tgt := 91) d_X12_account_79 rfl ?_ ?_))
        · refine s_iload_n d_X12_account_91 m1_ (s_iconst d_X12_account_92 n_2 (s_icmp_ne (tgt := 105) d_X12_account_93 rfl ?_ ?_))
          · refine s_iload_n d_X12_account_105 m1_ (s_iconst d_X12_account_106 n_3 (s_icmp_ne (tgt := 119) d_X12_account_107 rfl ?_ ?_))
            · exact s_aload_n d_X12_account_119 m0_ (s_getR cf d_X12_account_120 fl_X12_210 (s_nk fun i6 => (s_iload_n d_X12_account_123 m2_ (s_ldN d_X12_account_124 ka_125 rfl fun v7 => (s_iret d_X12_account_125 rfl rfl)))))
            refine s_aload_n d_X12_account_110 m0_ (s_getR cf d_X12_account_111 fl_X12_207 (s_nk fun i8 => (s_iload_n d_X12_account_114 m2_ (s_ldN d_X12_account_115 ka_124 rfl fun v9 => (s_goto (tgt := 125) d_X12_account_116 rfl ?_)))))
            exact s_iret d_X12_account_125 rfl rfl
          refine s_aload_n d_X12_account_96 m0_ (s_getR cf d_X12_account_97 fl_X12_204 (s_nk fun i10 => (s_iload_n d_X12_account_100 m2_ (s_ldN d_X12_account_101 ka_123 rfl fun v11 => (s_goto (tgt := 125) d_X12_account_102 rfl ?_)))))
          exact s_iret d_X12_account_125 rfl rfl
        refine s_aload_n d_X12_account_82 m0_ (s_getR cf d_X12_account_83 fl_X12_50 (s_nk fun i12 => (s_iload_n d_X12_account_86 m2_ (s_ldN d_X12_account_87 ka_72 rfl fun v13 => (s_goto (tgt := 125) d_X12_account_88 rfl ?_)))))
        exact s_iret d_X12_account_125 rfl rfl
      refine s_aload_n d_X12_account_68 m0_ (s_getR cf d_X12_account_69 fl_X12_47 (s_nk fun i14 => (s_iload_n d_X12_account_72 m2_ (s_ldN d_X12_account_73 ka_71 rfl fun v15 => (s_goto (tgt := 125) d_X12_account_74 rfl ?_)))))
      exact s_iret d_X12_account_125 rfl rfl
    exact s_iconst d_X12_account_62 n_0 (s_iret d_X12_account_63 rfl rfl)
  have hj_X12_account_0_35 : ∀ (m_35 : MM) (l0_35 : Nat) (l1_35 : Int) (l2_35 : Int) (l3_35 : Int) (s0_35 : Int), Sim fx me_X12_account 35 [(0, aR (some (12, l0_35))), (1, aI l1_35), (2, aI l2_35), (3, aI l3_35)] [aI s0_35] m_35 ((j_X12_account_0_35 m_35 l0_35 l1_35 l2_35 l3_35 s0_35).bind (fun z => some z)) := by
    intro m_35 l0_35 l1_35 l2_35 l3_35 s0_35
    unfold j_X12_account_0_35
    refine s_istore (L' := [(4, aI s0_35), (0, aR (some (12, l0_35))), (1, aI l1_35), (2, aI l2_35), (3, aI l3_35)]) d_X12_account_35 (b8 rfl) rfl (s_aload_n d_X12_account_37 m1_ (s_iload_n d_X12_account_38 m4_ (s_if_ne (tgt := 46) d_X12_account_39 rfl ?_ ?_)))
    · refine s_iload d_X12_account_46 m0_ (s_if_eq (tgt := 55) d_X12_account_48 rfl ?_ ?_)
      · exact s_iconst d_X12_account_55 n_2 (s_sub (subc m1_ (subc m2_ (subc m3_ sub0))) (hj_X12_account_0_56 m_35 l0_35 l1_35 l2_35 l0_35 2))
      exact s_iconst d_X12_account_51 n_0 (s_goto (tgt := 56) d_X12_account_52 rfl (s_sub (subc m1_ (subc m2_ (subc m3_ sub0))) (hj_X12_account_0_56 m_35 l0_35 l1_35 l2_35 l0_35 0)))
    exact s_iconst d_X12_account_42 n_1 (s_goto (tgt := 56) d_X12_account_43 rfl (s_sub (subc m1_ (subc m2_ (subc m3_ sub0))) (hj_X12_account_0_56 m_35 l0_35 l1_35 l2_35 l0_35 1)))
  have hj_X12_account_0_32 : ∀ (m_32 : MM) (l0_32 : Nat) (l1_32 : Int) (l2_32 : Int) (l3_32 : Int) (s0_32 : Int) (s1_32 : Int) (s2_32 : Int), Sim fx me_X12_account 32 [(0, aR (some (12, l0_32))), (1, aI l1_32), (2, aI l2_32), (3, aI l3_32)] [aI s2_32, aI s1_32, aI s0_32] m_32 ((j_X12_account_0_32 m_32 l0_32 l1_32 l2_32 l3_32 s0_32 s1_32 s2_32).bind (fun z => some z)) := by
    intro m_32 l0_32 l1_32 l2_32 l3_32 s0_32 s1_32 s2_32
    unfold j_X12_account_0_32
    exact s_pI (r_S d_X12_account_32 k_X12_isIn w_1664 rfl rfl) ms_X12_isIn (b8 rfl) rfl rfl rfl fun v3 => (s_sub (subc m0_ (subc m1_ (subc m2_ (subc m3_ sub0)))) (hj_X12_account_0_35 m_32 l0_32 l1_32 l2_32 l3_32 v3))
  refine s_iload_n d_X12_account_0 m1_ (s_iconst d_X12_account_1 n_0 (s_iconst d_X12_account_2 n_4 (s_pI (r_S d_X12_account_3 k_X12_isIn w_1664 rfl rfl) ms_X12_isIn (b8 rfl) rfl rfl rfl fun v1 => (s_istore_n (L' := [(3, aI v1), (0, aR (some (12, l0))), (1, aI l1), (2, aI l2)]) d_X12_account_6 (b8 rfl) rfl (s_iload_n d_X12_account_7 m2_ ?_)))))
  refine s_iconst d_X12_account_8 n_2 (s_icmp_ge (tgt := 20) d_X12_account_9 rfl ?_ ?_)
  · refine s_iload_n d_X12_account_20 m3_ (s_iconst d_X12_account_21 n_0 (s_iload_n d_X12_account_22 m2_ (s_iconst d_X12_account_23 n_4 (s_icmp_ge (tgt := 31) d_X12_account_24 rfl ?_ ?_))))
    · exact s_iconst d_X12_account_31 n_3 (s_sub (subc m1_ (subc m2_ (subc m3_ (subc m0_ sub0)))) (hj_X12_account_0_32 m l0 l1 l2 v1 l2 0 3))
    exact s_iconst d_X12_account_27 n_2 (s_goto (tgt := 32) d_X12_account_28 rfl (s_sub (subc m1_ (subc m2_ (subc m3_ (subc m0_ sub0)))) (hj_X12_account_0_32 m l0 l1 l2 v1 l2 0 2)))
  exact s_aload_n d_X12_account_12 m1_ (s_iload_n d_X12_account_13 m3_ (s_pI (r_V d_X12_account_14 k_X12_isHand w_1783 rfl rfl) ms_X12_isHand (b8 rfl) rfl rfl rfl fun v2 => (s_goto (tgt := 35) d_X12_account_17 rfl (s_sub (subc m1_ (subc m2_ (subc m3_ (subc m0_ sub0)))) (hj_X12_account_0_35 m l0 l1 l2 v1 v2)))))
theorem d_X12_formeOf_0 : dk me_X12_formeOf 0 (.iload_n 2) 1 1 := And.intro (by decide +kernel) rfl
theorem d_X12_formeOf_1 : dk me_X12_formeOf 1 (.iconst 2) 1 2 := And.intro (by decide +kernel) rfl
theorem d_X12_formeOf_2 : dk me_X12_formeOf 2 (.aload_n 0) 1 3 := And.intro (by decide +kernel) rfl
theorem d_X12_formeOf_3 : dk me_X12_formeOf 3 (.getfield 53) 3 6 := And.intro (by decide +kernel) rfl
theorem d_X12_formeOf_6 : dk me_X12_formeOf 6 (.iload_n 1) 1 7 := And.intro (by decide +kernel) rfl
theorem d_X12_formeOf_7 : dk me_X12_formeOf 7 (.iaload) 1 8 := And.intro (by decide +kernel) rfl
theorem d_X12_formeOf_8 : dk me_X12_formeOf 8 (.imul) 1 9 := And.intro (by decide +kernel) rfl
theorem d_X12_formeOf_9 : dk me_X12_formeOf 9 (.irem) 1 10 := And.intro (by decide +kernel) rfl
theorem d_X12_formeOf_10 : dk me_X12_formeOf 10 (.iconst 1) 1 11 := And.intro (by decide +kernel) rfl
theorem d_X12_formeOf_11 : dk me_X12_formeOf 11 (.iadd) 1 12 := And.intro (by decide +kernel) rfl
theorem d_X12_formeOf_12 : dk me_X12_formeOf 12 (.istore_n 3) 1 13 := And.intro (by decide +kernel) rfl
theorem d_X12_formeOf_13 : dk me_X12_formeOf 13 (.iconst 2) 1 14 := And.intro (by decide +kernel) rfl
theorem d_X12_formeOf_14 : dk me_X12_formeOf 14 (.iload_n 2) 1 15 := And.intro (by decide +kernel) rfl
theorem d_X12_formeOf_15 : dk me_X12_formeOf 15 (.iconst 2) 1 16 := And.intro (by decide +kernel) rfl
theorem d_X12_formeOf_16 : dk me_X12_formeOf 16 (.aload_n 0) 1 17 := And.intro (by decide +kernel) rfl
theorem d_X12_formeOf_17 : dk me_X12_formeOf 17 (.getfield 53) 3 20 := And.intro (by decide +kernel) rfl
theorem d_X12_formeOf_20 : dk me_X12_formeOf 20 (.iload_n 1) 1 21 := And.intro (by decide +kernel) rfl
theorem d_X12_formeOf_21 : dk me_X12_formeOf 21 (.iaload) 1 22 := And.intro (by decide +kernel) rfl
theorem d_X12_formeOf_22 : dk me_X12_formeOf 22 (.imul) 1 23 := And.intro (by decide +kernel) rfl
theorem d_X12_formeOf_23 : dk me_X12_formeOf 23 (.idiv) 1 24 := And.intro (by decide +kernel) rfl
theorem d_X12_formeOf_24 : dk me_X12_formeOf 24 (.imul) 1 25 := And.intro (by decide +kernel) rfl
theorem d_X12_formeOf_25 : dk me_X12_formeOf 25 (.iload_n 3) 1 26 := And.intro (by decide +kernel) rfl
theorem d_X12_formeOf_26 : dk me_X12_formeOf 26 (.iconst 4) 1 27 := And.intro (by decide +kernel) rfl
theorem d_X12_formeOf_27 : dk me_X12_formeOf 27 (.irem) 1 28 := And.intro (by decide +kernel) rfl
theorem d_X12_formeOf_28 : dk me_X12_formeOf 28 (.iconst 2) 1 29 := And.intro (by decide +kernel) rfl
theorem d_X12_formeOf_29 : dk me_X12_formeOf 29 (.if_icmp .ge 7) 3 32 := And.intro (by decide +kernel) rfl
theorem d_X12_formeOf_32 : dk me_X12_formeOf 32 (.iconst 0) 1 33 := And.intro (by decide +kernel) rfl
theorem d_X12_formeOf_33 : dk me_X12_formeOf 33 (.goto 4) 3 36 := And.intro (by decide +kernel) rfl
theorem d_X12_formeOf_36 : dk me_X12_formeOf 36 (.iconst 1) 1 37 := And.intro (by decide +kernel) rfl
theorem d_X12_formeOf_37 : dk me_X12_formeOf 37 (.iadd) 1 38 := And.intro (by decide +kernel) rfl
theorem d_X12_formeOf_38 : dk me_X12_formeOf 38 (.ireturn) 1 39 := And.intro (by decide +kernel) rfl
theorem ms_X12_formeOf {fx : FX} {m : MM} {l0 : Nat} {l1 : Int} {l2 : Int} : MS fx me_X12_formeOf [aR (some (12, l0)), aI l1, aI l2] m ((f_X12_formeOf m l0 l1 l2).bind fun v => some (.inl (some (aI v)), m)) := by
  refine ms_of rfl mf_X12_formeOf (b8 rfl) ?_
  show Sim fx me_X12_formeOf 0 [(0, aR (some (12, l0))), (1, aI l1), (2, aI l2)] [] m _
  unfold f_X12_formeOf
  refine s_iload_n d_X12_formeOf_0 m2_ (s_iconst d_X12_formeOf_1 n_2 (s_aload_n d_X12_formeOf_2 m0_ (s_getR cf d_X12_formeOf_3 fl_X12_53 (s_nk fun i1 => (s_iload_n d_X12_formeOf_6 m1_ ?_)))))
  refine s_ldN d_X12_formeOf_7 ka_73 rfl fun v2 => (s_imul d_X12_formeOf_8 rfl rfl (s_ck (s_irem d_X12_formeOf_9 (s_iconst d_X12_formeOf_10 n_1 (s_iadd d_X12_formeOf_11 rfl rfl ?_)))))
  refine s_ck (s_istore_n (L' := [(3, aI ((l2 % (2 * v2)) + 1)), (0, aR (some (12, l0))), (1, aI l1), (2, aI l2)]) d_X12_formeOf_12 (b8 rfl) rfl (s_iconst d_X12_formeOf_13 n_2 (s_iload_n d_X12_formeOf_14 m3_ (s_iconst d_X12_formeOf_15 n_2 (s_aload_n d_X12_formeOf_16 m1_ ?_)))))
  refine s_getR cf d_X12_formeOf_17 fl_X12_53 (s_nk fun i3 => (s_iload_n d_X12_formeOf_20 m2_ (s_ldN d_X12_formeOf_21 ka_73 rfl fun v4 => (s_imul d_X12_formeOf_22 rfl rfl (s_ck ?_)))))
  refine s_idiv d_X12_formeOf_23 (s_imul d_X12_formeOf_24 rfl rfl (s_iload_n d_X12_formeOf_25 m0_ (s_iconst d_X12_formeOf_26 n_4 (s_irem d_X12_formeOf_27 (s_iconst d_X12_formeOf_28 n_2 ?_)))))
  refine s_icmp_ge (tgt := 36) d_X12_formeOf_29 rfl ?_ ?_
  · exact s_iconst d_X12_formeOf_36 n_1 (s_iadd d_X12_formeOf_37 rfl rfl (s_ck (s_iret d_X12_formeOf_38 rfl rfl)))
  exact s_iconst d_X12_formeOf_32 n_0 (s_goto (tgt := 37) d_X12_formeOf_33 rfl (s_iadd d_X12_formeOf_37 rfl rfl (s_ck (s_iret d_X12_formeOf_38 rfl rfl))))
theorem d_X12_pagesOf_0 : dk me_X12_pagesOf 0 (.iconst 2) 1 1 := And.intro (by decide +kernel) rfl
theorem d_X12_pagesOf_1 : dk me_X12_pagesOf 1 (.aload_n 0) 1 2 := And.intro (by decide +kernel) rfl
theorem d_X12_pagesOf_2 : dk me_X12_pagesOf 2 (.getfield 53) 3 5 := And.intro (by decide +kernel) rfl
theorem d_X12_pagesOf_5 : dk me_X12_pagesOf 5 (.iload_n 1) 1 6 := And.intro (by decide +kernel) rfl
theorem d_X12_pagesOf_6 : dk me_X12_pagesOf 6 (.iaload) 1 7 := And.intro (by decide +kernel) rfl
theorem d_X12_pagesOf_7 : dk me_X12_pagesOf 7 (.imul) 1 8 := And.intro (by decide +kernel) rfl
theorem d_X12_pagesOf_8 : dk me_X12_pagesOf 8 (.aload_n 0) 1 9 := And.intro (by decide +kernel) rfl
theorem d_X12_pagesOf_9 : dk me_X12_pagesOf 9 (.getfield 56) 3 12 := And.intro (by decide +kernel) rfl
theorem d_X12_pagesOf_12 : dk me_X12_pagesOf 12 (.iload_n 1) 1 13 := And.intro (by decide +kernel) rfl
theorem d_X12_pagesOf_13 : dk me_X12_pagesOf 13 (.iaload) 1 14 := And.intro (by decide +kernel) rfl
theorem d_X12_pagesOf_14 : dk me_X12_pagesOf 14 (.imul) 1 15 := And.intro (by decide +kernel) rfl
theorem d_X12_pagesOf_15 : dk me_X12_pagesOf 15 (.ireturn) 1 16 := And.intro (by decide +kernel) rfl
theorem ms_X12_pagesOf {fx : FX} {m : MM} {l0 : Nat} {l1 : Int} : MS fx me_X12_pagesOf [aR (some (12, l0)), aI l1] m ((f_X12_pagesOf m l0 l1).bind fun v => some (.inl (some (aI v)), m)) := by
  refine ms_of rfl mf_X12_pagesOf (b8 rfl) ?_
  show Sim fx me_X12_pagesOf 0 [(0, aR (some (12, l0))), (1, aI l1)] [] m _
  unfold f_X12_pagesOf
  refine s_iconst d_X12_pagesOf_0 n_2 (s_aload_n d_X12_pagesOf_1 m0_ (s_getR cf d_X12_pagesOf_2 fl_X12_53 (s_nk fun i1 => (s_iload_n d_X12_pagesOf_5 m1_ (s_ldN d_X12_pagesOf_6 ka_73 rfl fun v2 => ?_)))))
  refine s_imul d_X12_pagesOf_7 rfl rfl (s_aload_n d_X12_pagesOf_8 m0_ (s_getR cf d_X12_pagesOf_9 fl_X12_56 (s_nk fun i3 => (s_iload_n d_X12_pagesOf_12 m1_ (s_ldN d_X12_pagesOf_13 ka_74 rfl fun v4 => ?_)))))
  exact s_imul d_X12_pagesOf_14 rfl rfl (s_ck (s_iret d_X12_pagesOf_15 rfl rfl))
theorem d_X12_seenIn_0 : dk me_X12_seenIn 0 (.aload_n 0) 1 1 := And.intro (by decide +kernel) rfl
theorem d_X12_seenIn_1 : dk me_X12_seenIn 1 (.getfield 159) 3 4 := And.intro (by decide +kernel) rfl
theorem d_X12_seenIn_4 : dk me_X12_seenIn 4 (.bipush 8) 2 6 := And.intro (by decide +kernel) rfl
theorem d_X12_seenIn_6 : dk me_X12_seenIn 6 (.iload_n 1) 1 7 := And.intro (by decide +kernel) rfl
theorem d_X12_seenIn_7 : dk me_X12_seenIn 7 (.imul) 1 8 := And.intro (by decide +kernel) rfl
theorem d_X12_seenIn_8 : dk me_X12_seenIn 8 (.iload_n 2) 1 9 := And.intro (by decide +kernel) rfl
theorem d_X12_seenIn_9 : dk me_X12_seenIn 9 (.iadd) 1 10 := And.intro (by decide +kernel) rfl
theorem d_X12_seenIn_10 : dk me_X12_seenIn 10 (.iaload) 1 11 := And.intro (by decide +kernel) rfl
theorem d_X12_seenIn_11 : dk me_X12_seenIn 11 (.iconst 3) 1 12 := And.intro (by decide +kernel) rfl
theorem d_X12_seenIn_12 : dk me_X12_seenIn 12 (.if_icmp .ge 5) 3 15 := And.intro (by decide +kernel) rfl
theorem d_X12_seenIn_15 : dk me_X12_seenIn 15 (.iconst 0) 1 16 := And.intro (by decide +kernel) rfl
theorem d_X12_seenIn_16 : dk me_X12_seenIn 16 (.ireturn) 1 17 := And.intro (by decide +kernel) rfl
theorem d_X12_seenIn_17 : dk me_X12_seenIn 17 (.iconst 0) 1 18 := And.intro (by decide +kernel) rfl
theorem d_X12_seenIn_18 : dk me_X12_seenIn 18 (.istore 4) 2 20 := And.intro (by decide +kernel) rfl
theorem d_X12_seenIn_20 : dk me_X12_seenIn 20 (.iload 4) 2 22 := And.intro (by decide +kernel) rfl
theorem d_X12_seenIn_22 : dk me_X12_seenIn 22 (.aload_n 0) 1 23 := And.intro (by decide +kernel) rfl
theorem d_X12_seenIn_23 : dk me_X12_seenIn 23 (.iload_n 1) 1 24 := And.intro (by decide +kernel) rfl
theorem d_X12_seenIn_24 : dk me_X12_seenIn 24 (.invokevirtual 243) 3 27 := And.intro (by decide +kernel) rfl
theorem d_X12_seenIn_27 : dk me_X12_seenIn 27 (.if_icmp .ge 81) 3 30 := And.intro (by decide +kernel) rfl
theorem d_X12_seenIn_30 : dk me_X12_seenIn 30 (.bipush 16) 2 32 := And.intro (by decide +kernel) rfl
theorem d_X12_seenIn_32 : dk me_X12_seenIn 32 (.iload_n 1) 1 33 := And.intro (by decide +kernel) rfl
theorem d_X12_seenIn_33 : dk me_X12_seenIn 33 (.imul) 1 34 := And.intro (by decide +kernel) rfl
theorem d_X12_seenIn_34 : dk me_X12_seenIn 34 (.iload 4) 2 36 := And.intro (by decide +kernel) rfl
theorem d_X12_seenIn_36 : dk me_X12_seenIn 36 (.iadd) 1 37 := And.intro (by decide +kernel) rfl
theorem d_X12_seenIn_37 : dk me_X12_seenIn 37 (.istore 5) 2 39 := And.intro (by decide +kernel) rfl
theorem d_X12_seenIn_39 : dk me_X12_seenIn 39 (.sipush 150) 3 42 := And.intro (by decide +kernel) rfl
theorem d_X12_seenIn_42 : dk me_X12_seenIn 42 (.iload 5) 2 44 := And.intro (by decide +kernel) rfl
theorem d_X12_seenIn_44 : dk me_X12_seenIn 44 (.imul) 1 45 := And.intro (by decide +kernel) rfl
theorem d_X12_seenIn_45 : dk me_X12_seenIn 45 (.istore 6) 2 47 := And.intro (by decide +kernel) rfl
theorem d_X12_seenIn_47 : dk me_X12_seenIn 47 (.iload 6) 2 49 := And.intro (by decide +kernel) rfl
theorem d_X12_seenIn_49 : dk me_X12_seenIn 49 (.sipush 150) 3 52 := And.intro (by decide +kernel) rfl
theorem d_X12_seenIn_52 : dk me_X12_seenIn 52 (.iload 5) 2 54 := And.intro (by decide +kernel) rfl
theorem d_X12_seenIn_54 : dk me_X12_seenIn 54 (.imul) 1 55 := And.intro (by decide +kernel) rfl
theorem d_X12_seenIn_55 : dk me_X12_seenIn 55 (.aload_n 0) 1 56 := And.intro (by decide +kernel) rfl
theorem d_X12_seenIn_56 : dk me_X12_seenIn 56 (.getfield 105) 3 59 := And.intro (by decide +kernel) rfl
theorem d_X12_seenIn_59 : dk me_X12_seenIn 59 (.iload 5) 2 61 := And.intro (by decide +kernel) rfl
theorem d_X12_seenIn_61 : dk me_X12_seenIn 61 (.iaload) 1 62 := And.intro (by decide +kernel) rfl
theorem d_X12_seenIn_62 : dk me_X12_seenIn 62 (.iadd) 1 63 := And.intro (by decide +kernel) rfl
theorem d_X12_seenIn_63 : dk me_X12_seenIn 63 (.if_icmp .ge 39) 3 66 := And.intro (by decide +kernel) rfl
theorem d_X12_seenIn_66 : dk me_X12_seenIn 66 (.aload_n 0) 1 67 := And.intro (by decide +kernel) rfl
theorem d_X12_seenIn_67 : dk me_X12_seenIn 67 (.iload_n 1) 1 68 := And.intro (by decide +kernel) rfl
theorem d_X12_seenIn_68 : dk me_X12_seenIn 68 (.iload 4) 2 70 := And.intro (by decide +kernel) rfl
theorem d_X12_seenIn_70 : dk me_X12_seenIn 70 (.invokevirtual 360) 3 73 := And.intro (by decide +kernel) rfl
theorem d_X12_seenIn_73 : dk me_X12_seenIn 73 (.iload_n 2) 1 74 := And.intro (by decide +kernel) rfl
theorem d_X12_seenIn_74 : dk me_X12_seenIn 74 (.if_icmp .ne 28) 3 77 := And.intro (by decide +kernel) rfl
theorem d_X12_seenIn_77 : dk me_X12_seenIn 77 (.aload_n 0) 1 78 := And.intro (by decide +kernel) rfl
theorem d_X12_seenIn_78 : dk me_X12_seenIn 78 (.getfield 144) 3 81 := And.intro (by decide +kernel) rfl
theorem d_X12_seenIn_81 : dk me_X12_seenIn 81 (.iload 6) 2 83 := And.intro (by decide +kernel) rfl
theorem d_X12_seenIn_83 : dk me_X12_seenIn 83 (.iaload) 1 84 := And.intro (by decide +kernel) rfl
theorem d_X12_seenIn_84 : dk me_X12_seenIn 84 (.iload_n 3) 1 85 := And.intro (by decide +kernel) rfl
theorem d_X12_seenIn_85 : dk me_X12_seenIn 85 (.if_icmp .ne 11) 3 88 := And.intro (by decide +kernel) rfl
theorem d_X12_seenIn_88 : dk me_X12_seenIn 88 (.aload_n 0) 1 89 := And.intro (by decide +kernel) rfl
theorem d_X12_seenIn_89 : dk me_X12_seenIn 89 (.getfield 147) 3 92 := And.intro (by decide +kernel) rfl
theorem d_X12_seenIn_92 : dk me_X12_seenIn 92 (.iload 6) 2 94 := And.intro (by decide +kernel) rfl
theorem d_X12_seenIn_94 : dk me_X12_seenIn 94 (.iaload) 1 95 := And.intro (by decide +kernel) rfl
theorem d_X12_seenIn_95 : dk me_X12_seenIn 95 (.ireturn) 1 96 := And.intro (by decide +kernel) rfl
theorem d_X12_seenIn_96 : dk me_X12_seenIn 96 (.iinc 6 1) 3 99 := And.intro (by decide +kernel) rfl
theorem d_X12_seenIn_99 : dk me_X12_seenIn 99 (.goto (-52)) 3 102 := And.intro (by decide +kernel) rfl
theorem d_X12_seenIn_102 : dk me_X12_seenIn 102 (.iinc 4 1) 3 105 := And.intro (by decide +kernel) rfl
theorem d_X12_seenIn_105 : dk me_X12_seenIn 105 (.goto (-85)) 3 108 := And.intro (by decide +kernel) rfl
theorem d_X12_seenIn_108 : dk me_X12_seenIn 108 (.iconst 0) 1 109 := And.intro (by decide +kernel) rfl
theorem d_X12_seenIn_109 : dk me_X12_seenIn 109 (.ireturn) 1 110 := And.intro (by decide +kernel) rfl
theorem ms_X12_seenIn {fx : FX} {m : MM} {l0 : Nat} {l1 : Int} {l2 : Int} {l3 : Int} : MS fx me_X12_seenIn [aR (some (12, l0)), aI l1, aI l2, aI l3] m ((f_X12_seenIn m l0 l1 l2 l3).bind fun v => some (.inl (some (aI v)), m)) := by
  refine ms_of rfl mf_X12_seenIn (b8 rfl) ?_
  show Sim fx me_X12_seenIn 0 [(0, aR (some (12, l0))), (1, aI l1), (2, aI l2), (3, aI l3)] [] m _
  unfold f_X12_seenIn
  have hj_X12_seenIn_0_108 : Sim fx me_X12_seenIn 108 [] [] m ((j_X12_seenIn_0_108 m).bind (fun v => some (.inl (some (aI v)), m))) := by
    unfold j_X12_seenIn_0_108
    exact s_iconst d_X12_seenIn_108 n_0 (s_iret d_X12_seenIn_109 rfl rfl)
  refine s_aload_n d_X12_seenIn_0 m0_ (s_getR cf d_X12_seenIn_1 fl_X12_159 (s_nk fun i1 => (s_bipush d_X12_seenIn_4 n_8 rfl (s_iload_n d_X12_seenIn_6 m1_ (s_imul d_X12_seenIn_7 rfl rfl ?_)))))
  refine s_iload_n d_X12_seenIn_8 m2_ (s_iadd d_X12_seenIn_9 rfl rfl (s_ldN d_X12_seenIn_10 ka_108 rfl fun v2 => (s_iconst d_X12_seenIn_11 n_3 (s_icmp_ge (tgt := 17) d_X12_seenIn_12 rfl ?_ ?_))))
  · refine s_iconst d_X12_seenIn_17 n_0 (s_istore (L' := [(4, aI 0), (0, aR (some (12, l0))), (1, aI l1), (2, aI l2), (3, aI l3)]) d_X12_seenIn_18 (b8 rfl) rfl (s_sub (subc m0_ (subc m1_ (subc m2_ (subc m3_ (subc m4_ sub0))))) (s_lp2 (fun s => [(4, aI s), (0, aR (some (12, l0))), (1, aI l1), (2, aI l2), (3, aI l3)]) (fun s => m) 0 fun k20 hx20 s ih0 => ?_)))
    obtain ⟨l4_20, rfl⟩ : ∃ q, q = s := ⟨s, rfl⟩
    have ih20 := ih0
    clear ih0
    try dsimp only
    unfold b_X12_seenIn_20
    have hj_X12_seenIn_20_102 : ∀ (l4_102 : Int), Sim fx me_X12_seenIn 102 [(0, aR (some (12, l0))), (1, aI l1), (2, aI l2), (3, aI l3), (4, aI l4_102)] [] m ((j_X12_seenIn_20_102 m l0 l1 l2 l3 l4_102).bind k20) := by
      intro l4_102
      unfold j_X12_seenIn_20_102
      exact s_iinc (L' := [(4, aI (l4_102 + 1)), (0, aR (some (12, l0))), (1, aI l1), (2, aI l2), (3, aI l3)]) d_X12_seenIn_102 m4_ (b8 rfl) rfl (s_goto (tgt := 20) d_X12_seenIn_105 rfl (s_sub (subc m0_ (subc m1_ (subc m2_ (subc m3_ (subc m4_ sub0))))) (s_back (ih20 (l4_102 + 1)))))
    refine s_iload d_X12_seenIn_20 m0_ (s_aload_n d_X12_seenIn_22 m1_ (s_iload_n d_X12_seenIn_23 m2_ (s_pI (r_V d_X12_seenIn_24 k_X12_pagesOf w_1755 rfl rfl) ms_X12_pagesOf (b8 rfl) rfl rfl rfl fun v3 => (s_icmp_ge (tgt := 108) d_X12_seenIn_27 rfl ?_ ?_))))
    · exact s_exit (hx20 _) (s_sub (sub0) (hj_X12_seenIn_0_108 ))
    refine s_bipush d_X12_seenIn_30 n_16 rfl (s_iload_n d_X12_seenIn_32 m2_ (s_imul d_X12_seenIn_33 rfl rfl (s_iload d_X12_seenIn_34 m0_ (s_iadd d_X12_seenIn_36 rfl rfl (s_ck ?_)))))
    refine s_istore (L' := [(5, aI ((16 * l1) + l4_20)), (4, aI l4_20), (0, aR (some (12, l0))), (1, aI l1), (2, aI l2), (3, aI l3)]) d_X12_seenIn_37 (b8 rfl) rfl (s_sipush d_X12_seenIn_39 n_150 rfl (s_iload d_X12_seenIn_42 m0_ (s_imul d_X12_seenIn_44 rfl rfl (s_ck (s_istore (L' := [(6, aI (150 * ((16 * l1) + l4_20))), (5, aI ((16 * l1) + l4_20)), (4, aI l4_20), (0, aR (some (12, l0))), (1, aI l1), (2, aI l2), (3, aI l3)]) d_X12_seenIn_45 (b8 rfl) rfl ?_)))))
    refine s_sub (subc m0_ (subc m3_ (subc m4_ (subc m5_ (subc m6_ (subc m2_ (subc m1_ sub0))))))) (s_lp2 (fun s => [(6, aI s), (0, aR (some (12, l0))), (1, aI l1), (2, aI l2), (3, aI l3), (4, aI l4_20), (5, aI ((16 * l1) + l4_20))]) (fun s => m) (150 * ((16 * l1) + l4_20)) fun k47 hx47 s ih0 => ?_)
    obtain ⟨l6_47, rfl⟩ : ∃ q, q = s := ⟨s, rfl⟩
    have ih47 := ih0
    clear ih0
    try dsimp only
    unfold b_X12_seenIn_47
    refine s_iload d_X12_seenIn_47 m0_ (s_sipush d_X12_seenIn_49 n_150 rfl (s_iload d_X12_seenIn_52 m6_ (s_imul d_X12_seenIn_54 rfl rfl (s_aload_n d_X12_seenIn_55 m1_ (s_getR cf d_X12_seenIn_56 fl_X12_105 ?_)))))
    refine s_nk fun i4 => (s_iload d_X12_seenIn_59 m6_ (s_ldN d_X12_seenIn_61 ka_90 rfl fun v5 => (s_iadd d_X12_seenIn_62 rfl rfl (s_ck (s_icmp_ge (tgt := 102) d_X12_seenIn_63 rfl ?_ ?_)))))
    · exact s_exit (hx47 _) (s_sub (subc m1_ (subc m2_ (subc m3_ (subc m4_ (subc m5_ sub0))))) (hj_X12_seenIn_20_102 l4_20))
    refine s_aload_n d_X12_seenIn_66 m1_ (s_iload_n d_X12_seenIn_67 m2_ (s_iload d_X12_seenIn_68 m5_ (s_pI (r_V d_X12_seenIn_70 k_X12_formeOf w_1842 rfl rfl) ms_X12_formeOf (b8 rfl) rfl rfl rfl fun v6 => (s_iload_n d_X12_seenIn_73 m3_ (s_icmp_ne (tgt := 102) d_X12_seenIn_74 rfl ?_ ?_)))))
    · exact s_exit (hx47 _) (s_sub (subc m1_ (subc m2_ (subc m3_ (subc m4_ (subc m5_ sub0))))) (hj_X12_seenIn_20_102 l4_20))
    refine s_aload_n d_X12_seenIn_77 m1_ (s_getR cf d_X12_seenIn_78 fl_X12_144 (s_nk fun i7 => (s_iload d_X12_seenIn_81 m0_ (s_ldN d_X12_seenIn_83 ka_103 rfl fun v8 => (s_iload_n d_X12_seenIn_84 m4_ ?_)))))
    refine s_icmp_ne (tgt := 96) d_X12_seenIn_85 rfl ?_ ?_
    · exact s_iinc (L' := [(6, aI (l6_47 + 1)), (0, aR (some (12, l0))), (1, aI l1), (2, aI l2), (3, aI l3), (4, aI l4_20), (5, aI ((16 * l1) + l4_20))]) d_X12_seenIn_96 m0_ (b8 rfl) rfl (s_goto (tgt := 47) d_X12_seenIn_99 rfl (s_sub (subc m0_ (subc m1_ (subc m2_ (subc m3_ (subc m4_ (subc m5_ (subc m6_ sub0))))))) (s_back (ih47 (l6_47 + 1)))))
    exact s_aload_n d_X12_seenIn_88 m1_ (s_getR cf d_X12_seenIn_89 fl_X12_147 (s_nk fun i9 => (s_iload d_X12_seenIn_92 m0_ (s_ldN d_X12_seenIn_94 ka_104 rfl fun v10 => (s_iret d_X12_seenIn_95 rfl ((hx47 _).trans ((hx20 _).trans rfl)))))))
  exact s_iconst d_X12_seenIn_15 n_0 (s_iret d_X12_seenIn_16 rfl rfl)
theorem d_X12_findSure_0 : dk me_X12_findSure 0 (.iconst 2) 1 1 := And.intro (by decide +kernel) rfl
theorem d_X12_findSure_1 : dk me_X12_findSure 1 (.aload_n 0) 1 2 := And.intro (by decide +kernel) rfl
theorem d_X12_findSure_2 : dk me_X12_findSure 2 (.getfield 56) 3 5 := And.intro (by decide +kernel) rfl
theorem d_X12_findSure_5 : dk me_X12_findSure 5 (.iload_n 1) 1 6 := And.intro (by decide +kernel) rfl
theorem d_X12_findSure_6 : dk me_X12_findSure 6 (.iaload) 1 7 := And.intro (by decide +kernel) rfl
theorem d_X12_findSure_7 : dk me_X12_findSure 7 (.imul) 1 8 := And.intro (by decide +kernel) rfl
theorem d_X12_findSure_8 : dk me_X12_findSure 8 (.istore_n 2) 1 9 := And.intro (by decide +kernel) rfl
theorem d_X12_findSure_9 : dk me_X12_findSure 9 (.iconst 0) 1 10 := And.intro (by decide +kernel) rfl
theorem d_X12_findSure_10 : dk me_X12_findSure 10 (.istore_n 3) 1 11 := And.intro (by decide +kernel) rfl
theorem d_X12_findSure_11 : dk me_X12_findSure 11 (.iload_n 3) 1 12 := And.intro (by decide +kernel) rfl
theorem d_X12_findSure_12 : dk me_X12_findSure 12 (.iload_n 2) 1 13 := And.intro (by decide +kernel) rfl
theorem d_X12_findSure_13 : dk me_X12_findSure 13 (.if_icmp .ge 16) 3 16 := And.intro (by decide +kernel) rfl
theorem d_X12_findSure_16 : dk me_X12_findSure 16 (.aload_n 0) 1 17 := And.intro (by decide +kernel) rfl
theorem d_X12_findSure_17 : dk me_X12_findSure 17 (.getfield 216) 3 20 := And.intro (by decide +kernel) rfl
theorem d_X12_findSure_20 : dk me_X12_findSure 20 (.iload_n 3) 1 21 := And.intro (by decide +kernel) rfl
theorem d_X12_findSure_21 : dk me_X12_findSure 21 (.iconst 0) 1 22 := And.intro (by decide +kernel) rfl
theorem d_X12_findSure_22 : dk me_X12_findSure 22 (.iastore) 1 23 := And.intro (by decide +kernel) rfl
theorem d_X12_findSure_23 : dk me_X12_findSure 23 (.iinc 3 1) 3 26 := And.intro (by decide +kernel) rfl
theorem d_X12_findSure_26 : dk me_X12_findSure 26 (.goto (-15)) 3 29 := And.intro (by decide +kernel) rfl
theorem d_X12_findSure_29 : dk me_X12_findSure 29 (.iconst 0) 1 30 := And.intro (by decide +kernel) rfl
theorem d_X12_findSure_30 : dk me_X12_findSure 30 (.istore_n 3) 1 31 := And.intro (by decide +kernel) rfl
theorem d_X12_findSure_31 : dk me_X12_findSure 31 (.iload_n 3) 1 32 := And.intro (by decide +kernel) rfl
theorem d_X12_findSure_32 : dk me_X12_findSure 32 (.aload_n 0) 1 33 := And.intro (by decide +kernel) rfl
theorem d_X12_findSure_33 : dk me_X12_findSure 33 (.getfield 291) 3 36 := And.intro (by decide +kernel) rfl
theorem d_X12_findSure_36 : dk me_X12_findSure 36 (.if_icmp .ge 102) 3 39 := And.intro (by decide +kernel) rfl
theorem d_X12_findSure_39 : dk me_X12_findSure 39 (.iconst 0) 1 40 := And.intro (by decide +kernel) rfl
theorem d_X12_findSure_40 : dk me_X12_findSure 40 (.istore 4) 2 42 := And.intro (by decide +kernel) rfl
theorem d_X12_findSure_42 : dk me_X12_findSure 42 (.iload 4) 2 44 := And.intro (by decide +kernel) rfl
theorem d_X12_findSure_44 : dk me_X12_findSure 44 (.iload_n 2) 1 45 := And.intro (by decide +kernel) rfl
theorem d_X12_findSure_45 : dk me_X12_findSure 45 (.if_icmp .ge 87) 3 48 := And.intro (by decide +kernel) rfl
theorem d_X12_findSure_48 : dk me_X12_findSure 48 (.aload_n 0) 1 49 := And.intro (by decide +kernel) rfl
theorem d_X12_findSure_49 : dk me_X12_findSure 49 (.getfield 23) 3 52 := And.intro (by decide +kernel) rfl
theorem d_X12_findSure_52 : dk me_X12_findSure 52 (.iload_n 3) 1 53 := And.intro (by decide +kernel) rfl
theorem d_X12_findSure_53 : dk me_X12_findSure 53 (.iaload) 1 54 := And.intro (by decide +kernel) rfl
theorem d_X12_findSure_54 : dk me_X12_findSure 54 (.iconst 1) 1 55 := And.intro (by decide +kernel) rfl
theorem d_X12_findSure_55 : dk me_X12_findSure 55 (.if_icmp .le 77) 3 58 := And.intro (by decide +kernel) rfl
theorem d_X12_findSure_58 : dk me_X12_findSure 58 (.aload_n 0) 1 59 := And.intro (by decide +kernel) rfl
theorem d_X12_findSure_59 : dk me_X12_findSure 59 (.iload_n 1) 1 60 := And.intro (by decide +kernel) rfl
theorem d_X12_findSure_60 : dk me_X12_findSure 60 (.iload 4) 2 62 := And.intro (by decide +kernel) rfl
theorem d_X12_findSure_62 : dk me_X12_findSure 62 (.iload_n 3) 1 63 := And.intro (by decide +kernel) rfl
theorem d_X12_findSure_63 : dk me_X12_findSure 63 (.invokevirtual 415) 3 66 := And.intro (by decide +kernel) rfl
theorem d_X12_findSure_66 : dk me_X12_findSure 66 (.istore 5) 2 68 := And.intro (by decide +kernel) rfl
theorem d_X12_findSure_68 : dk me_X12_findSure 68 (.iconst 0) 1 69 := And.intro (by decide +kernel) rfl
theorem d_X12_findSure_69 : dk me_X12_findSure 69 (.istore 6) 2 71 := And.intro (by decide +kernel) rfl
theorem d_X12_findSure_71 : dk me_X12_findSure 71 (.iload 6) 2 73 := And.intro (by decide +kernel) rfl
theorem d_X12_findSure_73 : dk me_X12_findSure 73 (.iload_n 2) 1 74 := And.intro (by decide +kernel) rfl
theorem d_X12_findSure_74 : dk me_X12_findSure 74 (.if_icmp .ge 52) 3 77 := And.intro (by decide +kernel) rfl
theorem d_X12_findSure_77 : dk me_X12_findSure 77 (.iload 5) 2 79 := And.intro (by decide +kernel) rfl
theorem d_X12_findSure_79 : dk me_X12_findSure 79 (.ifCond .le 47) 3 82 := And.intro (by decide +kernel) rfl
theorem d_X12_findSure_82 : dk me_X12_findSure 82 (.aload_n 0) 1 83 := And.intro (by decide +kernel) rfl
theorem d_X12_findSure_83 : dk me_X12_findSure 83 (.getfield 216) 3 86 := And.intro (by decide +kernel) rfl
theorem d_X12_findSure_86 : dk me_X12_findSure 86 (.iload 4) 2 88 := And.intro (by decide +kernel) rfl
theorem d_X12_findSure_88 : dk me_X12_findSure 88 (.dup2) 1 89 := And.intro (by decide +kernel) rfl
theorem d_X12_findSure_89 : dk me_X12_findSure 89 (.iaload) 1 90 := And.intro (by decide +kernel) rfl
theorem d_X12_findSure_90 : dk me_X12_findSure 90 (.iload 6) 2 92 := And.intro (by decide +kernel) rfl
theorem d_X12_findSure_92 : dk me_X12_findSure 92 (.iload 4) 2 94 := And.intro (by decide +kernel) rfl
theorem d_X12_findSure_94 : dk me_X12_findSure 94 (.if_icmp .eq 23) 3 97 := And.intro (by decide +kernel) rfl
theorem d_X12_findSure_97 : dk me_X12_findSure 97 (.aload_n 0) 1 98 := And.intro (by decide +kernel) rfl
theorem d_X12_findSure_98 : dk me_X12_findSure 98 (.iload_n 1) 1 99 := And.intro (by decide +kernel) rfl
theorem d_X12_findSure_99 : dk me_X12_findSure 99 (.iload 6) 2 101 := And.intro (by decide +kernel) rfl
theorem d_X12_findSure_101 : dk me_X12_findSure 101 (.iload_n 3) 1 102 := And.intro (by decide +kernel) rfl
theorem d_X12_findSure_102 : dk me_X12_findSure 102 (.invokevirtual 415) 3 105 := And.intro (by decide +kernel) rfl
theorem d_X12_findSure_105 : dk me_X12_findSure 105 (.iload 5) 2 107 := And.intro (by decide +kernel) rfl
theorem d_X12_findSure_107 : dk me_X12_findSure 107 (.if_icmp .le 10) 3 110 := And.intro (by decide +kernel) rfl
theorem d_X12_findSure_110 : dk me_X12_findSure 110 (.iconst 1) 1 111 := And.intro (by decide +kernel) rfl
theorem d_X12_findSure_111 : dk me_X12_findSure 111 (.iload 6) 2 113 := And.intro (by decide +kernel) rfl
theorem d_X12_findSure_113 : dk me_X12_findSure 113 (.ishl) 1 114 := And.intro (by decide +kernel) rfl
theorem d_X12_findSure_114 : dk me_X12_findSure 114 (.goto 4) 3 117 := And.intro (by decide +kernel) rfl
theorem d_X12_findSure_117 : dk me_X12_findSure 117 (.iconst 0) 1 118 := And.intro (by decide +kernel) rfl
theorem d_X12_findSure_118 : dk me_X12_findSure 118 (.ior) 1 119 := And.intro (by decide +kernel) rfl
theorem d_X12_findSure_119 : dk me_X12_findSure 119 (.iastore) 1 120 := And.intro (by decide +kernel) rfl
theorem d_X12_findSure_120 : dk me_X12_findSure 120 (.iinc 6 1) 3 123 := And.intro (by decide +kernel) rfl
theorem d_X12_findSure_123 : dk me_X12_findSure 123 (.goto (-52)) 3 126 := And.intro (by decide +kernel) rfl
theorem d_X12_findSure_126 : dk me_X12_findSure 126 (.iinc 4 1) 3 129 := And.intro (by decide +kernel) rfl
theorem d_X12_findSure_129 : dk me_X12_findSure 129 (.goto (-87)) 3 132 := And.intro (by decide +kernel) rfl
theorem d_X12_findSure_132 : dk me_X12_findSure 132 (.iinc 3 1) 3 135 := And.intro (by decide +kernel) rfl
theorem d_X12_findSure_135 : dk me_X12_findSure 135 (.goto (-104)) 3 138 := And.intro (by decide +kernel) rfl
theorem d_X12_findSure_138 : dk me_X12_findSure 138 (.return_) 1 139 := And.intro (by decide +kernel) rfl
theorem ms_X12_findSure {fx : FX} {m : MM} {l0 : Nat} {l1 : Int} : MS fx me_X12_findSure [aR (some (12, l0)), aI l1] m (f_X12_findSure m l0 l1) := by
  refine ms_of rfl mf_X12_findSure (b8 rfl) ?_
  refine s_top ?_
  show Sim fx me_X12_findSure 0 [(0, aR (some (12, l0))), (1, aI l1)] [] m _
  unfold f_X12_findSure
  have hj_X12_findSure_0_138 : ∀ (m_138 : MM), Sim fx me_X12_findSure 138 [] [] m_138 ((j_X12_findSure_0_138 m_138).bind (fun z => some z)) := by
    intro m_138
    unfold j_X12_findSure_0_138
    exact s_vret d_X12_findSure_138 rfl rfl
  have hj_X12_findSure_0_29 : ∀ (m_29 : MM) (l0_29 : Nat) (l1_29 : Int) (l2_29 : Int), Sim fx me_X12_findSure 29 [(0, aR (some (12, l0_29))), (1, aI l1_29), (2, aI l2_29)] [] m_29 ((j_X12_findSure_0_29 m_29 l0_29 l1_29 l2_29).bind (fun z => some z)) := by
    intro m_29 l0_29 l1_29 l2_29
    unfold j_X12_findSure_0_29
    refine s_iconst d_X12_findSure_29 n_0 (s_istore_n (L' := [(3, aI 0), (0, aR (some (12, l0_29))), (1, aI l1_29), (2, aI l2_29)]) d_X12_findSure_30 (b8 rfl) rfl (s_sub (subc m0_ (subc m1_ (subc m2_ (subc m3_ sub0)))) (s_lp2 (fun s => [(3, aI (s.1)), (0, aR (some (12, l0_29))), (1, aI l1_29), (2, aI l2_29)]) (fun s => s.2) (0, m_29) fun k31 hx31 s ih0 => ?_)))
    obtain ⟨l3_31, mm_31⟩ := s
    have ih31 := ih0
    clear ih0
    try dsimp only
    unfold b_X12_findSure_31
    have hj_X12_findSure_31_132 : ∀ (m_132 : MM) (l3_132 : Int), Sim fx me_X12_findSure 132 [(0, aR (some (12, l0_29))), (1, aI l1_29), (2, aI l2_29), (3, aI l3_132)] [] m_132 ((j_X12_findSure_31_132 m_132 l0_29 l1_29 l2_29 l3_132).bind k31) := by
      intro m_132 l3_132
      unfold j_X12_findSure_31_132
      exact s_iinc (L' := [(3, aI (l3_132 + 1)), (0, aR (some (12, l0_29))), (1, aI l1_29), (2, aI l2_29)]) d_X12_findSure_132 m3_ (b8 rfl) rfl (s_goto (tgt := 31) d_X12_findSure_135 rfl (s_sub (subc m0_ (subc m1_ (subc m2_ (subc m3_ sub0)))) (s_back (ih31 ((l3_132 + 1), m_132)))))
    refine s_iload_n d_X12_findSure_31 m0_ (s_aload_n d_X12_findSure_32 m1_ (s_getN cf d_X12_findSure_33 fl_X12_291 (s_icmp_ge (tgt := 138) d_X12_findSure_36 rfl ?_ ?_)))
    · exact s_exit (hx31 _) (s_sub (sub0) (hj_X12_findSure_0_138 mm_31))
    refine s_iconst d_X12_findSure_39 n_0 (s_istore (L' := [(4, aI 0), (3, aI l3_31), (0, aR (some (12, l0_29))), (1, aI l1_29), (2, aI l2_29)]) d_X12_findSure_40 (b8 rfl) rfl (s_sub (subc m0_ (subc m2_ (subc m3_ (subc m4_ (subc m1_ sub0))))) (s_lp2 (fun s => [(4, aI (s.1)), (0, aR (some (12, l0_29))), (1, aI l1_29), (2, aI l2_29), (3, aI l3_31)]) (fun s => s.2) (0, mm_31) fun k42 hx42 s ih0 => ?_)))
    obtain ⟨l4_42, mm_42⟩ := s
    have ih42 := ih0
    clear ih0
    try dsimp only
    unfold b_X12_findSure_42
    have hj_X12_findSure_42_126 : ∀ (m_126 : MM) (l4_126 : Int), Sim fx me_X12_findSure 126 [(0, aR (some (12, l0_29))), (1, aI l1_29), (2, aI l2_29), (3, aI l3_31), (4, aI l4_126)] [] m_126 ((j_X12_findSure_42_126 m_126 l0_29 l1_29 l2_29 l3_31 l4_126).bind k42) := by
      intro m_126 l4_126
      unfold j_X12_findSure_42_126
      exact s_iinc (L' := [(4, aI (l4_126 + 1)), (0, aR (some (12, l0_29))), (1, aI l1_29), (2, aI l2_29), (3, aI l3_31)]) d_X12_findSure_126 m4_ (b8 rfl) rfl (s_goto (tgt := 42) d_X12_findSure_129 rfl (s_sub (subc m0_ (subc m1_ (subc m2_ (subc m3_ (subc m4_ sub0))))) (s_back (ih42 ((l4_126 + 1), m_126)))))
    refine s_iload d_X12_findSure_42 m0_ (s_iload_n d_X12_findSure_44 m3_ (s_icmp_ge (tgt := 132) d_X12_findSure_45 rfl ?_ ?_))
    · exact s_exit (hx42 _) (s_sub (subc m1_ (subc m2_ (subc m3_ (subc m4_ sub0)))) (hj_X12_findSure_31_132 mm_42 l3_31))
    refine s_aload_n d_X12_findSure_48 m1_ (s_getR cf d_X12_findSure_49 fl_X12_23 (s_nk fun i5 => (s_iload_n d_X12_findSure_52 m4_ (s_ldN d_X12_findSure_53 ka_63 rfl fun v6 => (s_iconst d_X12_findSure_54 n_1 ?_)))))
    refine s_icmp_le (tgt := 132) d_X12_findSure_55 rfl ?_ ?_
    · exact s_exit (hx42 _) (s_sub (subc m1_ (subc m2_ (subc m3_ (subc m4_ sub0)))) (hj_X12_findSure_31_132 mm_42 l3_31))
    refine s_aload_n d_X12_findSure_58 m1_ (s_iload_n d_X12_findSure_59 m2_ (s_iload d_X12_findSure_60 m0_ (s_iload_n d_X12_findSure_62 m4_ (s_pI (r_V d_X12_findSure_63 k_X12_seenIn w_1984 rfl rfl) ms_X12_seenIn (b8 rfl) rfl rfl rfl fun v7 => (s_istore (L' := [(5, aI v7), (4, aI l4_42), (0, aR (some (12, l0_29))), (1, aI l1_29), (2, aI l2_29), (3, aI l3_31)]) d_X12_findSure_66 (b8 rfl) rfl ?_)))))
    refine s_iconst d_X12_findSure_68 n_0 (s_istore (L' := [(6, aI 0), (5, aI v7), (4, aI l4_42), (0, aR (some (12, l0_29))), (1, aI l1_29), (2, aI l2_29), (3, aI l3_31)]) d_X12_findSure_69 (b8 rfl) rfl (s_sub (subc m0_ (subc m3_ (subc m4_ (subc m5_ (subc m6_ (subc m2_ (subc m1_ sub0))))))) (s_lp2 (fun s => [(6, aI (s.1)), (0, aR (some (12, l0_29))), (1, aI l1_29), (2, aI l2_29), (3, aI l3_31), (4, aI l4_42), (5, aI v7)]) (fun s => s.2) (0, mm_42) fun k71 hx71 s ih0 => ?_)))
    obtain ⟨l6_71, mm_71⟩ := s
    have ih71 := ih0
    clear ih0
    try dsimp only
    unfold b_X12_findSure_71
    have hj_X12_findSure_71_118 : ∀ (m_118 : MM) (l6_118 : Int) (s0_118 : Nat) (s1_118 : Int) (s2_118 : Int) (s3_118 : Int), Sim fx me_X12_findSure 118 [(0, aR (some (12, l0_29))), (1, aI l1_29), (2, aI l2_29), (3, aI l3_31), (4, aI l4_42), (5, aI v7), (6, aI l6_118)] [aI s3_118, aI s2_118, aI s1_118, aR (some (127, s0_118))] m_118 ((j_X12_findSure_71_118 m_118 l0_29 l1_29 l2_29 l3_31 l4_42 v7 l6_118 s0_118 s1_118 s2_118 s3_118).bind k71) := by
      intro m_118 l6_118 s0_118 s1_118 s2_118 s3_118
      unfold j_X12_findSure_71_118
      exact s_ior d_X12_findSure_118 (s_stN d_X12_findSure_119 ka_127 rfl fun m11 => (s_iinc (L' := [(6, aI (l6_118 + 1)), (0, aR (some (12, l0_29))), (1, aI l1_29), (2, aI l2_29), (3, aI l3_31), (4, aI l4_42), (5, aI v7)]) d_X12_findSure_120 m6_ (b8 rfl) rfl (s_goto (tgt := 71) d_X12_findSure_123 rfl (s_sub (subc m0_ (subc m1_ (subc m2_ (subc m3_ (subc m4_ (subc m5_ (subc m6_ sub0))))))) (s_back (ih71 ((l6_118 + 1), m11)))))))
    have hj_X12_findSure_71_117 : ∀ (m_117 : MM) (l6_117 : Int) (s0_117 : Nat) (s1_117 : Int) (s2_117 : Int), Sim fx me_X12_findSure 117 [(0, aR (some (12, l0_29))), (1, aI l1_29), (2, aI l2_29), (3, aI l3_31), (4, aI l4_42), (5, aI v7), (6, aI l6_117)] [aI s2_117, aI s1_117, aR (some (127, s0_117))] m_117 ((j_X12_findSure_71_117 m_117 l0_29 l1_29 l2_29 l3_31 l4_42 v7 l6_117 s0_117 s1_117 s2_117).bind k71) := by
      intro m_117 l6_117 s0_117 s1_117 s2_117
      unfold j_X12_findSure_71_117
      exact s_iconst d_X12_findSure_117 n_0 (s_sub (subc m0_ (subc m1_ (subc m2_ (subc m3_ (subc m4_ (subc m5_ (subc m6_ sub0))))))) (hj_X12_findSure_71_118 m_117 l6_117 s0_117 s1_117 s2_117 0))
    refine s_iload d_X12_findSure_71 m0_ (s_iload_n d_X12_findSure_73 m3_ (s_icmp_ge (tgt := 126) d_X12_findSure_74 rfl ?_ ?_))
    · exact s_exit (hx71 _) (s_sub (subc m1_ (subc m2_ (subc m3_ (subc m4_ (subc m5_ sub0))))) (hj_X12_findSure_42_126 mm_71 l4_42))
    refine s_iload d_X12_findSure_77 m6_ (s_if_le (tgt := 126) d_X12_findSure_79 rfl ?_ ?_)
    · exact s_exit (hx71 _) (s_sub (subc m1_ (subc m2_ (subc m3_ (subc m4_ (subc m5_ sub0))))) (hj_X12_findSure_42_126 mm_71 l4_42))
    refine s_aload_n d_X12_findSure_82 m1_ (s_getR cf d_X12_findSure_83 fl_X12_216 (s_nk fun i8 => (s_iload d_X12_findSure_86 m5_ (s_dup2 d_X12_findSure_88 rfl rfl (s_ldN d_X12_findSure_89 ka_127 rfl fun v9 => ?_)))))
    refine s_iload d_X12_findSure_90 m0_ (s_iload d_X12_findSure_92 m5_ (s_icmp_eq (tgt := 117) d_X12_findSure_94 rfl ?_ ?_))
    · exact s_sub (subc m1_ (subc m2_ (subc m3_ (subc m4_ (subc m5_ (subc m6_ (subc m0_ sub0))))))) (hj_X12_findSure_71_117 mm_71 l6_71 i8 l4_42 v9)
    refine s_aload_n d_X12_findSure_97 m1_ (s_iload_n d_X12_findSure_98 m2_ (s_iload d_X12_findSure_99 m0_ (s_iload_n d_X12_findSure_101 m4_ (s_pI (r_V d_X12_findSure_102 k_X12_seenIn w_1984 rfl rfl) ms_X12_seenIn (b8 rfl) rfl rfl rfl fun v10 => (s_iload d_X12_findSure_105 m6_ ?_)))))
    refine s_icmp_le (tgt := 117) d_X12_findSure_107 rfl ?_ ?_
    · exact s_sub (subc m1_ (subc m2_ (subc m3_ (subc m4_ (subc m5_ (subc m6_ (subc m0_ sub0))))))) (hj_X12_findSure_71_117 mm_71 l6_71 i8 l4_42 v9)
    exact s_iconst d_X12_findSure_110 n_1 (s_iload d_X12_findSure_111 m0_ (s_ishl d_X12_findSure_113 (s_goto (tgt := 118) d_X12_findSure_114 rfl (s_sub (subc m1_ (subc m2_ (subc m3_ (subc m4_ (subc m5_ (subc m6_ (subc m0_ sub0))))))) (hj_X12_findSure_71_118 mm_71 l6_71 i8 l4_42 v9 (ishl 1 l6_71))))))
  refine s_iconst d_X12_findSure_0 n_2 (s_aload_n d_X12_findSure_1 m0_ (s_getR cf d_X12_findSure_2 fl_X12_56 (s_nk fun i1 => (s_iload_n d_X12_findSure_5 m1_ (s_ldN d_X12_findSure_6 ka_74 rfl fun v2 => ?_)))))
  refine s_imul d_X12_findSure_7 rfl rfl (s_ck (s_istore_n (L' := [(2, aI (2 * v2)), (0, aR (some (12, l0))), (1, aI l1)]) d_X12_findSure_8 (b8 rfl) rfl (s_iconst d_X12_findSure_9 n_0 (s_istore_n (L' := [(3, aI 0), (2, aI (2 * v2)), (0, aR (some (12, l0))), (1, aI l1)]) d_X12_findSure_10 (b8 rfl) rfl (s_sub (subc m0_ (subc m2_ (subc m3_ (subc m1_ sub0)))) (s_lp2 (fun s => [(3, aI (s.1)), (0, aR (some (12, l0))), (1, aI l1), (2, aI (2 * v2))]) (fun s => s.2) (0, m) fun k11 hx11 s ih0 => ?_))))))
  obtain ⟨l3_11, mm_11⟩ := s
  have ih11 := ih0
  clear ih0
  try dsimp only
  unfold b_X12_findSure_11
  refine s_iload_n d_X12_findSure_11 m0_ (s_iload_n d_X12_findSure_12 m3_ (s_icmp_ge (tgt := 29) d_X12_findSure_13 rfl ?_ ?_))
  · exact s_exit (hx11 _) (s_sub (subc m1_ (subc m2_ (subc m3_ sub0))) (hj_X12_findSure_0_29 mm_11 l0 l1 (2 * v2)))
  refine s_aload_n d_X12_findSure_16 m1_ (s_getR cf d_X12_findSure_17 fl_X12_216 (s_nk fun i3 => (s_iload_n d_X12_findSure_20 m0_ (s_iconst d_X12_findSure_21 n_0 (s_stN d_X12_findSure_22 ka_127 rfl fun m4 => ?_)))))
  exact s_iinc (L' := [(3, aI (l3_11 + 1)), (0, aR (some (12, l0))), (1, aI l1), (2, aI (2 * v2))]) d_X12_findSure_23 m0_ (b8 rfl) rfl (s_goto (tgt := 11) d_X12_findSure_26 rfl (s_sub (subc m0_ (subc m1_ (subc m2_ (subc m3_ sub0)))) (s_back (ih11 ((l3_11 + 1), m4)))))
theorem d_X12_isBook_0 : dk me_X12_isBook 0 (.iload_n 1) 1 1 := And.intro (by decide +kernel) rfl
theorem d_X12_isBook_1 : dk me_X12_isBook 1 (.iconst 0) 1 2 := And.intro (by decide +kernel) rfl
theorem d_X12_isBook_2 : dk me_X12_isBook 2 (.aload_n 0) 1 3 := And.intro (by decide +kernel) rfl
theorem d_X12_isBook_3 : dk me_X12_isBook 3 (.getfield 232) 3 6 := And.intro (by decide +kernel) rfl
theorem d_X12_isBook_6 : dk me_X12_isBook 6 (.iconst 1) 1 7 := And.intro (by decide +kernel) rfl
theorem d_X12_isBook_7 : dk me_X12_isBook 7 (.isub) 1 8 := And.intro (by decide +kernel) rfl
theorem d_X12_isBook_8 : dk me_X12_isBook 8 (.invokestatic 235) 3 11 := And.intro (by decide +kernel) rfl
theorem d_X12_isBook_11 : dk me_X12_isBook 11 (.ireturn) 1 12 := And.intro (by decide +kernel) rfl
theorem ms_X12_isBook {fx : FX} {m : MM} {l0 : Nat} {l1 : Int} : MS fx me_X12_isBook [aR (some (12, l0)), aI l1] m ((f_X12_isBook m l0 l1).bind fun v => some (.inl (some (aI v)), m)) := by
  refine ms_of rfl mf_X12_isBook (b8 rfl) ?_
  show Sim fx me_X12_isBook 0 [(0, aR (some (12, l0))), (1, aI l1)] [] m _
  unfold f_X12_isBook
  refine s_iload_n d_X12_isBook_0 m1_ (s_iconst d_X12_isBook_1 n_0 (s_aload_n d_X12_isBook_2 m0_ (s_getN cf d_X12_isBook_3 fl_X12_232 (s_iconst d_X12_isBook_6 n_1 (s_isub d_X12_isBook_7 rfl rfl ?_)))))
  exact s_ck (s_pI (r_S d_X12_isBook_8 k_X12_isIn w_1664 rfl rfl) ms_X12_isIn (b8 rfl) rfl rfl rfl fun v1 => (s_zret d_X12_isBook_11 rfl rfl))
theorem d_X12_isForme_0 : dk me_X12_isForme 0 (.aload_n 0) 1 1 := And.intro (by decide +kernel) rfl
theorem d_X12_isForme_1 : dk me_X12_isForme 1 (.iload_n 1) 1 2 := And.intro (by decide +kernel) rfl
theorem d_X12_isForme_2 : dk me_X12_isForme 2 (.invokevirtual 239) 3 5 := And.intro (by decide +kernel) rfl
theorem d_X12_isForme_5 : dk me_X12_isForme 5 (.ifCond .eq 25) 3 8 := And.intro (by decide +kernel) rfl
theorem d_X12_isForme_8 : dk me_X12_isForme 8 (.iload_n 2) 1 9 := And.intro (by decide +kernel) rfl
theorem d_X12_isForme_9 : dk me_X12_isForme 9 (.iconst 0) 1 10 := And.intro (by decide +kernel) rfl
theorem d_X12_isForme_10 : dk me_X12_isForme 10 (.iconst 2) 1 11 := And.intro (by decide +kernel) rfl
theorem d_X12_isForme_11 : dk me_X12_isForme 11 (.aload_n 0) 1 12 := And.intro (by decide +kernel) rfl
theorem d_X12_isForme_12 : dk me_X12_isForme 12 (.getfield 56) 3 15 := And.intro (by decide +kernel) rfl
theorem d_X12_isForme_15 : dk me_X12_isForme 15 (.iload_n 1) 1 16 := And.intro (by decide +kernel) rfl
theorem d_X12_isForme_16 : dk me_X12_isForme 16 (.iaload) 1 17 := And.intro (by decide +kernel) rfl
theorem d_X12_isForme_17 : dk me_X12_isForme 17 (.imul) 1 18 := And.intro (by decide +kernel) rfl
theorem d_X12_isForme_18 : dk me_X12_isForme 18 (.iconst 1) 1 19 := And.intro (by decide +kernel) rfl
theorem d_X12_isForme_19 : dk me_X12_isForme 19 (.isub) 1 20 := And.intro (by decide +kernel) rfl
theorem d_X12_isForme_20 : dk me_X12_isForme 20 (.invokestatic 235) 3 23 := And.intro (by decide +kernel) rfl
theorem d_X12_isForme_23 : dk me_X12_isForme 23 (.ifCond .eq 7) 3 26 := And.intro (by decide +kernel) rfl
theorem d_X12_isForme_26 : dk me_X12_isForme 26 (.iconst 1) 1 27 := And.intro (by decide +kernel) rfl
theorem d_X12_isForme_27 : dk me_X12_isForme 27 (.goto 4) 3 30 := And.intro (by decide +kernel) rfl
theorem d_X12_isForme_30 : dk me_X12_isForme 30 (.iconst 0) 1 31 := And.intro (by decide +kernel) rfl
theorem d_X12_isForme_31 : dk me_X12_isForme 31 (.ireturn) 1 32 := And.intro (by decide +kernel) rfl
theorem ms_X12_isForme {fx : FX} {m : MM} {l0 : Nat} {l1 : Int} {l2 : Int} : MS fx me_X12_isForme [aR (some (12, l0)), aI l1, aI l2] m ((f_X12_isForme m l0 l1 l2).bind fun v => some (.inl (some (aI v)), m)) := by
  refine ms_of rfl mf_X12_isForme (b8 rfl) ?_
  show Sim fx me_X12_isForme 0 [(0, aR (some (12, l0))), (1, aI l1), (2, aI l2)] [] m _
  unfold f_X12_isForme
  refine s_aload_n d_X12_isForme_0 m0_ (s_iload_n d_X12_isForme_1 m1_ (s_pI (r_V d_X12_isForme_2 k_X12_isBook w_1747 rfl rfl) ms_X12_isBook (b8 rfl) rfl rfl rfl fun v1 => (s_if_eq (tgt := 30) d_X12_isForme_5 rfl ?_ ?_)))
  · exact s_iconst d_X12_isForme_30 n_0 (s_zretl d_X12_isForme_31 rfl (by decide) rfl)
  refine s_iload_n d_X12_isForme_8 m2_ (s_iconst d_X12_isForme_9 n_0 (s_iconst d_X12_isForme_10 n_2 (s_aload_n d_X12_isForme_11 m0_ (s_getR cf d_X12_isForme_12 fl_X12_56 (s_nk fun i2 => ?_)))))
  refine s_iload_n d_X12_isForme_15 m1_ (s_ldN d_X12_isForme_16 ka_74 rfl fun v3 => (s_imul d_X12_isForme_17 rfl rfl (s_iconst d_X12_isForme_18 n_1 (s_isub d_X12_isForme_19 rfl rfl (s_ck ?_)))))
  refine s_pI (r_S d_X12_isForme_20 k_X12_isIn w_1664 rfl rfl) ms_X12_isIn (b8 rfl) rfl rfl rfl fun v4 => (s_if_eq (tgt := 30) d_X12_isForme_23 rfl ?_ ?_)
  · exact s_iconst d_X12_isForme_30 n_0 (s_zretl d_X12_isForme_31 rfl (by decide) rfl)
  exact s_iconst d_X12_isForme_26 n_1 (s_goto (tgt := 31) d_X12_isForme_27 rfl (s_zretl d_X12_isForme_31 rfl (by decide) rfl))
theorem d_X12_ahead_0 : dk me_X12_ahead 0 (.aload_n 0) 1 1 := And.intro (by decide +kernel) rfl
theorem d_X12_ahead_1 : dk me_X12_ahead 1 (.iload_n 1) 1 2 := And.intro (by decide +kernel) rfl
theorem d_X12_ahead_2 : dk me_X12_ahead 2 (.iload_n 2) 1 3 := And.intro (by decide +kernel) rfl
theorem d_X12_ahead_3 : dk me_X12_ahead 3 (.invokevirtual 370) 3 6 := And.intro (by decide +kernel) rfl
theorem d_X12_ahead_6 : dk me_X12_ahead 6 (.ifCond .eq 16) 3 9 := And.intro (by decide +kernel) rfl
theorem d_X12_ahead_9 : dk me_X12_ahead 9 (.aload_n 0) 1 10 := And.intro (by decide +kernel) rfl
theorem d_X12_ahead_10 : dk me_X12_ahead 10 (.iload_n 1) 1 11 := And.intro (by decide +kernel) rfl
theorem d_X12_ahead_11 : dk me_X12_ahead 11 (.iload_n 3) 1 12 := And.intro (by decide +kernel) rfl
theorem d_X12_ahead_12 : dk me_X12_ahead 12 (.invokevirtual 370) 3 15 := And.intro (by decide +kernel) rfl
theorem d_X12_ahead_15 : dk me_X12_ahead 15 (.ifCond .eq 7) 3 18 := And.intro (by decide +kernel) rfl
theorem d_X12_ahead_18 : dk me_X12_ahead 18 (.iconst 1) 1 19 := And.intro (by decide +kernel) rfl
theorem d_X12_ahead_19 : dk me_X12_ahead 19 (.goto 4) 3 22 := And.intro (by decide +kernel) rfl
theorem d_X12_ahead_22 : dk me_X12_ahead 22 (.iconst 0) 1 23 := And.intro (by decide +kernel) rfl
theorem d_X12_ahead_23 : dk me_X12_ahead 23 (.istore 4) 2 25 := And.intro (by decide +kernel) rfl
theorem d_X12_ahead_25 : dk me_X12_ahead 25 (.aload_n 0) 1 26 := And.intro (by decide +kernel) rfl
theorem d_X12_ahead_26 : dk me_X12_ahead 26 (.iload 4) 2 28 := And.intro (by decide +kernel) rfl
theorem d_X12_ahead_28 : dk me_X12_ahead 28 (.ifCond .ne 7) 3 31 := And.intro (by decide +kernel) rfl
theorem d_X12_ahead_31 : dk me_X12_ahead 31 (.iconst 1) 1 32 := And.intro (by decide +kernel) rfl
theorem d_X12_ahead_32 : dk me_X12_ahead 32 (.goto 13) 3 35 := And.intro (by decide +kernel) rfl
theorem d_X12_ahead_35 : dk me_X12_ahead 35 (.iload_n 2) 1 36 := And.intro (by decide +kernel) rfl
theorem d_X12_ahead_36 : dk me_X12_ahead 36 (.iload_n 3) 1 37 := And.intro (by decide +kernel) rfl
theorem d_X12_ahead_37 : dk me_X12_ahead 37 (.if_icmp .ne 7) 3 40 := And.intro (by decide +kernel) rfl
theorem d_X12_ahead_40 : dk me_X12_ahead 40 (.iconst 2) 1 41 := And.intro (by decide +kernel) rfl
theorem d_X12_ahead_41 : dk me_X12_ahead 41 (.goto 4) 3 44 := And.intro (by decide +kernel) rfl
theorem d_X12_ahead_44 : dk me_X12_ahead 44 (.iconst 0) 1 45 := And.intro (by decide +kernel) rfl
theorem d_X12_ahead_45 : dk me_X12_ahead 45 (.invokevirtual 260) 3 48 := And.intro (by decide +kernel) rfl
theorem d_X12_ahead_48 : dk me_X12_ahead 48 (.ifCond .ne 5) 3 51 := And.intro (by decide +kernel) rfl
theorem d_X12_ahead_51 : dk me_X12_ahead 51 (.iconst 0) 1 52 := And.intro (by decide +kernel) rfl
theorem d_X12_ahead_52 : dk me_X12_ahead 52 (.ireturn) 1 53 := And.intro (by decide +kernel) rfl
theorem d_X12_ahead_53 : dk me_X12_ahead 53 (.iconst 2) 1 54 := And.intro (by decide +kernel) rfl
theorem d_X12_ahead_54 : dk me_X12_ahead 54 (.aload_n 0) 1 55 := And.intro (by decide +kernel) rfl
theorem d_X12_ahead_55 : dk me_X12_ahead 55 (.getfield 56) 3 58 := And.intro (by decide +kernel) rfl
theorem d_X12_ahead_58 : dk me_X12_ahead 58 (.iload_n 1) 1 59 := And.intro (by decide +kernel) rfl
theorem d_X12_ahead_59 : dk me_X12_ahead 59 (.iaload) 1 60 := And.intro (by decide +kernel) rfl
theorem d_X12_ahead_60 : dk me_X12_ahead 60 (.imul) 1 61 := And.intro (by decide +kernel) rfl
theorem d_X12_ahead_61 : dk me_X12_ahead 61 (.istore 5) 2 63 := And.intro (by decide +kernel) rfl
theorem d_X12_ahead_63 : dk me_X12_ahead 63 (.aload_n 0) 1 64 := And.intro (by decide +kernel) rfl
theorem d_X12_ahead_64 : dk me_X12_ahead 64 (.iload_n 1) 1 65 := And.intro (by decide +kernel) rfl
theorem d_X12_ahead_65 : dk me_X12_ahead 65 (.invokevirtual 418) 3 68 := And.intro (by decide +kernel) rfl
theorem d_X12_ahead_68 : dk me_X12_ahead 68 (.iconst 0) 1 69 := And.intro (by decide +kernel) rfl
theorem d_X12_ahead_69 : dk me_X12_ahead 69 (.istore 6) 2 71 := And.intro (by decide +kernel) rfl
theorem d_X12_ahead_71 : dk me_X12_ahead 71 (.iload 6) 2 73 := And.intro (by decide +kernel) rfl
theorem d_X12_ahead_73 : dk me_X12_ahead 73 (.iload 5) 2 75 := And.intro (by decide +kernel) rfl
theorem d_X12_ahead_75 : dk me_X12_ahead 75 (.if_icmp .ge 62) 3 78 := And.intro (by decide +kernel) rfl
theorem d_X12_ahead_78 : dk me_X12_ahead 78 (.iconst 0) 1 79 := And.intro (by decide +kernel) rfl
theorem d_X12_ahead_79 : dk me_X12_ahead 79 (.istore 7) 2 81 := And.intro (by decide +kernel) rfl
theorem d_X12_ahead_81 : dk me_X12_ahead 81 (.iload 7) 2 83 := And.intro (by decide +kernel) rfl
theorem d_X12_ahead_83 : dk me_X12_ahead 83 (.iload 5) 2 85 := And.intro (by decide +kernel) rfl
theorem d_X12_ahead_85 : dk me_X12_ahead 85 (.if_icmp .ge 46) 3 88 := And.intro (by decide +kernel) rfl
theorem d_X12_ahead_88 : dk me_X12_ahead 88 (.aload_n 0) 1 89 := And.intro (by decide +kernel) rfl
theorem d_X12_ahead_89 : dk me_X12_ahead 89 (.getfield 216) 3 92 := And.intro (by decide +kernel) rfl
theorem d_X12_ahead_92 : dk me_X12_ahead 92 (.iload 7) 2 94 := And.intro (by decide +kernel) rfl
theorem d_X12_ahead_94 : dk me_X12_ahead 94 (.dup2) 1 95 := And.intro (by decide +kernel) rfl
theorem d_X12_ahead_95 : dk me_X12_ahead 95 (.iaload) 1 96 := And.intro (by decide +kernel) rfl
theorem d_X12_ahead_96 : dk me_X12_ahead 96 (.aload_n 0) 1 97 := And.intro (by decide +kernel) rfl
theorem d_X12_ahead_97 : dk me_X12_ahead 97 (.getfield 216) 3 100 := And.intro (by decide +kernel) rfl
theorem d_X12_ahead_100 : dk me_X12_ahead 100 (.iload 7) 2 102 := And.intro (by decide +kernel) rfl
theorem d_X12_ahead_102 : dk me_X12_ahead 102 (.iaload) 1 103 := And.intro (by decide +kernel) rfl
theorem d_X12_ahead_103 : dk me_X12_ahead 103 (.iload 6) 2 105 := And.intro (by decide +kernel) rfl
theorem d_X12_ahead_105 : dk me_X12_ahead 105 (.ishr) 1 106 := And.intro (by decide +kernel) rfl
theorem d_X12_ahead_106 : dk me_X12_ahead 106 (.iconst 1) 1 107 := And.intro (by decide +kernel) rfl
theorem d_X12_ahead_107 : dk me_X12_ahead 107 (.iand) 1 108 := And.intro (by decide +kernel) rfl
theorem d_X12_ahead_108 : dk me_X12_ahead 108 (.iconst 1) 1 109 := And.intro (by decide +kernel) rfl
theorem d_X12_ahead_109 : dk me_X12_ahead 109 (.if_icmp .ne 13) 3 112 := And.intro (by decide +kernel) rfl
theorem d_X12_ahead_112 : dk me_X12_ahead 112 (.aload_n 0) 1 113 := And.intro (by decide +kernel) rfl
theorem d_X12_ahead_113 : dk me_X12_ahead 113 (.getfield 216) 3 116 := And.intro (by decide +kernel) rfl
theorem d_X12_ahead_116 : dk me_X12_ahead 116 (.iload 6) 2 118 := And.intro (by decide +kernel) rfl
theorem d_X12_ahead_118 : dk me_X12_ahead 118 (.iaload) 1 119 := And.intro (by decide +kernel) rfl
theorem d_X12_ahead_119 : dk me_X12_ahead 119 (.goto 4) 3 122 := And.intro (by decide +kernel) rfl
theorem d_X12_ahead_122 : dk me_X12_ahead 122 (.iconst 0) 1 123 := And.intro (by decide +kernel) rfl
theorem d_X12_ahead_123 : dk me_X12_ahead 123 (.ior) 1 124 := And.intro (by decide +kernel) rfl
theorem d_X12_ahead_124 : dk me_X12_ahead 124 (.iastore) 1 125 := And.intro (by decide +kernel) rfl
theorem d_X12_ahead_125 : dk me_X12_ahead 125 (.iinc 7 1) 3 128 := And.intro (by decide +kernel) rfl
theorem d_X12_ahead_128 : dk me_X12_ahead 128 (.goto (-47)) 3 131 := And.intro (by decide +kernel) rfl
theorem d_X12_ahead_131 : dk me_X12_ahead 131 (.iinc 6 1) 3 134 := And.intro (by decide +kernel) rfl
theorem d_X12_ahead_134 : dk me_X12_ahead 134 (.goto (-63)) 3 137 := And.intro (by decide +kernel) rfl
theorem d_X12_ahead_137 : dk me_X12_ahead 137 (.aload_n 0) 1 138 := And.intro (by decide +kernel) rfl
theorem d_X12_ahead_138 : dk me_X12_ahead 138 (.getfield 216) 3 141 := And.intro (by decide +kernel) rfl
theorem d_X12_ahead_141 : dk me_X12_ahead 141 (.iload_n 2) 1 142 := And.intro (by decide +kernel) rfl
theorem d_X12_ahead_142 : dk me_X12_ahead 142 (.iaload) 1 143 := And.intro (by decide +kernel) rfl
theorem d_X12_ahead_143 : dk me_X12_ahead 143 (.iload_n 3) 1 144 := And.intro (by decide +kernel) rfl
theorem d_X12_ahead_144 : dk me_X12_ahead 144 (.ishr) 1 145 := And.intro (by decide +kernel) rfl
theorem d_X12_ahead_145 : dk me_X12_ahead 145 (.iconst 1) 1 146 := And.intro (by decide +kernel) rfl
theorem d_X12_ahead_146 : dk me_X12_ahead 146 (.iand) 1 147 := And.intro (by decide +kernel) rfl
theorem d_X12_ahead_147 : dk me_X12_ahead 147 (.iconst 1) 1 148 := And.intro (by decide +kernel) rfl
theorem d_X12_ahead_148 : dk me_X12_ahead 148 (.if_icmp .ne 7) 3 151 := And.intro (by decide +kernel) rfl
theorem d_X12_ahead_151 : dk me_X12_ahead 151 (.iconst 1) 1 152 := And.intro (by decide +kernel) rfl
theorem d_X12_ahead_152 : dk me_X12_ahead 152 (.goto 22) 3 155 := And.intro (by decide +kernel) rfl
theorem d_X12_ahead_155 : dk me_X12_ahead 155 (.aload_n 0) 1 156 := And.intro (by decide +kernel) rfl
theorem d_X12_ahead_156 : dk me_X12_ahead 156 (.getfield 216) 3 159 := And.intro (by decide +kernel) rfl
theorem d_X12_ahead_159 : dk me_X12_ahead 159 (.iload_n 3) 1 160 := And.intro (by decide +kernel) rfl
theorem d_X12_ahead_160 : dk me_X12_ahead 160 (.iaload) 1 161 := And.intro (by decide +kernel) rfl
theorem d_X12_ahead_161 : dk me_X12_ahead 161 (.iload_n 2) 1 162 := And.intro (by decide +kernel) rfl
theorem d_X12_ahead_162 : dk me_X12_ahead 162 (.ishr) 1 163 := And.intro (by decide +kernel) rfl
theorem d_X12_ahead_163 : dk me_X12_ahead 163 (.iconst 1) 1 164 := And.intro (by decide +kernel) rfl
theorem d_X12_ahead_164 : dk me_X12_ahead 164 (.iand) 1 165 := And.intro (by decide +kernel) rfl
theorem d_X12_ahead_165 : dk me_X12_ahead 165 (.iconst 1) 1 166 := And.intro (by decide +kernel) rfl
theorem d_X12_ahead_166 : dk me_X12_ahead 166 (.if_icmp .ne 7) 3 169 := And.intro (by decide +kernel) rfl
theorem d_X12_ahead_169 : dk me_X12_ahead 169 (.iconst (-1)) 1 170 := And.intro (by decide +kernel) rfl
theorem d_X12_ahead_170 : dk me_X12_ahead 170 (.goto 4) 3 173 := And.intro (by decide +kernel) rfl
theorem d_X12_ahead_173 : dk me_X12_ahead 173 (.iconst 0) 1 174 := And.intro (by decide +kernel) rfl
theorem d_X12_ahead_174 : dk me_X12_ahead 174 (.ireturn) 1 175 := And.intro (by decide +kernel) rfl
theorem ms_X12_ahead {fx : FX} {m : MM} {l0 : Nat} {l1 : Int} {l2 : Int} {l3 : Int} : MS fx me_X12_ahead [aR (some (12, l0)), aI l1, aI l2, aI l3] m (f_X12_ahead m l0 l1 l2 l3) := by
  refine ms_of rfl mf_X12_ahead (b8 rfl) ?_
  refine s_top ?_
  show Sim fx me_X12_ahead 0 [(0, aR (some (12, l0))), (1, aI l1), (2, aI l2), (3, aI l3)] [] m _
  unfold f_X12_ahead
  have hj_X12_ahead_0_137 : ∀ (m_137 : MM) (l0_137 : Nat) (l2_137 : Int) (l3_137 : Int), Sim fx me_X12_ahead 137 [(0, aR (some (12, l0_137))), (2, aI l2_137), (3, aI l3_137)] [] m_137 ((j_X12_ahead_0_137 m_137 l0_137 l2_137 l3_137).bind (fun z => some z)) := by
    intro m_137 l0_137 l2_137 l3_137
    unfold j_X12_ahead_0_137
    refine s_aload_n d_X12_ahead_137 m0_ (s_getR cf d_X12_ahead_138 fl_X12_216 (s_nk fun i16 => (s_iload_n d_X12_ahead_141 m1_ (s_ldN d_X12_ahead_142 ka_127 rfl fun v17 => (s_iload_n d_X12_ahead_143 m2_ ?_)))))
    refine s_ishr d_X12_ahead_144 (s_iconst d_X12_ahead_145 n_1 (s_iand d_X12_ahead_146 (s_iconst d_X12_ahead_147 n_1 (s_icmp_ne (tgt := 155) d_X12_ahead_148 rfl ?_ ?_))))
    · refine s_aload_n d_X12_ahead_155 m0_ (s_getR cf d_X12_ahead_156 fl_X12_216 (s_nk fun i18 => (s_iload_n d_X12_ahead_159 m2_ (s_ldN d_X12_ahead_160 ka_127 rfl fun v19 => (s_iload_n d_X12_ahead_161 m1_ ?_)))))
      refine s_ishr d_X12_ahead_162 (s_iconst d_X12_ahead_163 n_1 (s_iand d_X12_ahead_164 (s_iconst d_X12_ahead_165 n_1 (s_icmp_ne (tgt := 173) d_X12_ahead_166 rfl ?_ ?_))))
      · exact s_iconst d_X12_ahead_173 n_0 (s_iret d_X12_ahead_174 rfl rfl)
      exact s_iconst d_X12_ahead_169 n_m1 (s_goto (tgt := 174) d_X12_ahead_170 rfl (s_iret d_X12_ahead_174 rfl rfl))
    exact s_iconst d_X12_ahead_151 n_1 (s_goto (tgt := 174) d_X12_ahead_152 rfl (s_iret d_X12_ahead_174 rfl rfl))
  have hj_X12_ahead_0_45 : ∀ (m_45 : MM) (l0_45 : Nat) (l1_45 : Int) (l2_45 : Int) (l3_45 : Int) (s0_45 : Nat) (s1_45 : Int), Sim fx me_X12_ahead 45 [(0, aR (some (12, l0_45))), (1, aI l1_45), (2, aI l2_45), (3, aI l3_45)] [aI s1_45, aR (some (12, s0_45))] m_45 ((j_X12_ahead_0_45 m_45 l0_45 l1_45 l2_45 l3_45 s0_45 s1_45).bind (fun z => some z)) := by
    intro m_45 l0_45 l1_45 l2_45 l3_45 s0_45 s1_45
    unfold j_X12_ahead_0_45
    refine s_cI (r_V d_X12_ahead_45 k_X12_holds w_1668 rfl rfl) ms_X12_holds (b8 rfl) rfl rfl rfl (fun _ _ _ => rfl) (fun _ _ => Or.inl rfl) fun v4 m3 => (s_if_ne (tgt := 53) d_X12_ahead_48 rfl ?_ ?_)
    · refine s_iconst d_X12_ahead_53 n_2 (s_aload_n d_X12_ahead_54 m0_ (s_getR cf d_X12_ahead_55 fl_X12_56 (s_nk fun i5 => (s_iload_n d_X12_ahead_58 m1_ (s_ldN d_X12_ahead_59 ka_74 rfl fun v6 => ?_)))))
      refine s_imul d_X12_ahead_60 rfl rfl (s_ck (s_istore (L' := [(5, aI (2 * v6)), (0, aR (some (12, l0_45))), (1, aI l1_45), (2, aI l2_45), (3, aI l3_45)]) d_X12_ahead_61 (b8 rfl) rfl (s_aload_n d_X12_ahead_63 m1_ (s_iload_n d_X12_ahead_64 m2_ (s_cV (r_V d_X12_ahead_65 k_X12_findSure w_1996 rfl rfl) ms_X12_findSure (b8 rfl) rfl rfl rfl (fun _ _ _ => rfl) (fun _ _ => Or.inl rfl) fun m7 => ?_)))))
      refine s_iconst d_X12_ahead_68 n_0 (s_istore (L' := [(6, aI 0), (5, aI (2 * v6)), (0, aR (some (12, l0_45))), (1, aI l1_45), (2, aI l2_45), (3, aI l3_45)]) d_X12_ahead_69 (b8 rfl) rfl (s_sub (subc m0_ (subc m2_ (subc m4_ (subc m5_ (subc m1_ sub0))))) (s_lp2 (fun s => [(6, aI (s.1)), (0, aR (some (12, l0_45))), (2, aI l2_45), (3, aI l3_45), (5, aI (2 * v6))]) (fun s => s.2) (0, m7) fun k71 hx71 s ih0 => ?_)))
      obtain ⟨l6_71, mm_71⟩ := s
      have ih71 := ih0
      clear ih0
      try dsimp only
      unfold b_X12_ahead_71
      have hj_X12_ahead_71_131 : ∀ (m_131 : MM) (l6_131 : Int), Sim fx me_X12_ahead 131 [(0, aR (some (12, l0_45))), (2, aI l2_45), (3, aI l3_45), (5, aI (2 * v6)), (6, aI l6_131)] [] m_131 ((j_X12_ahead_71_131 m_131 l0_45 l2_45 l3_45 (2 * v6) l6_131).bind k71) := by
        intro m_131 l6_131
        unfold j_X12_ahead_71_131
        exact s_iinc (L' := [(6, aI (l6_131 + 1)), (0, aR (some (12, l0_45))), (2, aI l2_45), (3, aI l3_45), (5, aI (2 * v6))]) d_X12_ahead_131 m4_ (b8 rfl) rfl (s_goto (tgt := 71) d_X12_ahead_134 rfl (s_sub (subc m0_ (subc m1_ (subc m2_ (subc m3_ (subc m4_ sub0))))) (s_back (ih71 ((l6_131 + 1), m_131)))))
      refine s_iload d_X12_ahead_71 m0_ (s_iload d_X12_ahead_73 m4_ (s_icmp_ge (tgt := 137) d_X12_ahead_75 rfl ?_ ?_))
      · exact s_exit (hx71 _) (s_sub (subc m1_ (subc m2_ (subc m3_ sub0))) (hj_X12_ahead_0_137 mm_71 l0_45 l2_45 l3_45))
      refine s_iconst d_X12_ahead_78 n_0 (s_istore (L' := [(7, aI 0), (6, aI l6_71), (0, aR (some (12, l0_45))), (2, aI l2_45), (3, aI l3_45), (5, aI (2 * v6))]) d_X12_ahead_79 (b8 rfl) rfl (s_sub (subc m0_ (subc m2_ (subc m3_ (subc m4_ (subc m5_ (subc m1_ sub0)))))) (s_lp2 (fun s => [(7, aI (s.1)), (0, aR (some (12, l0_45))), (2, aI l2_45), (3, aI l3_45), (5, aI (2 * v6)), (6, aI l6_71)]) (fun s => s.2) (0, mm_71) fun k81 hx81 s ih0 => ?_)))
      obtain ⟨l7_81, mm_81⟩ := s
      have ih81 := ih0
      clear ih0
      try dsimp only
      unfold b_X12_ahead_81
      have hj_X12_ahead_81_123 : ∀ (m_123 : MM) (l7_123 : Int) (s0_123 : Nat) (s1_123 : Int) (s2_123 : Int) (s3_123 : Int), Sim fx me_X12_ahead 123 [(0, aR (some (12, l0_45))), (2, aI l2_45), (3, aI l3_45), (5, aI (2 * v6)), (6, aI l6_71), (7, aI l7_123)] [aI s3_123, aI s2_123, aI s1_123, aR (some (127, s0_123))] m_123 ((j_X12_ahead_81_123 m_123 l0_45 l2_45 l3_45 (2 * v6) l6_71 l7_123 s0_123 s1_123 s2_123 s3_123).bind k81) := by
        intro m_123 l7_123 s0_123 s1_123 s2_123 s3_123
        unfold j_X12_ahead_81_123
        exact s_ior d_X12_ahead_123 (s_stN d_X12_ahead_124 ka_127 rfl fun m15 => (s_iinc (L' := [(7, aI (l7_123 + 1)), (0, aR (some (12, l0_45))), (2, aI l2_45), (3, aI l3_45), (5, aI (2 * v6)), (6, aI l6_71)]) d_X12_ahead_125 m5_ (b8 rfl) rfl (s_goto (tgt := 81) d_X12_ahead_128 rfl (s_sub (subc m0_ (subc m1_ (subc m2_ (subc m3_ (subc m4_ (subc m5_ sub0)))))) (s_back (ih81 ((l7_123 + 1), m15)))))))
      refine s_iload d_X12_ahead_81 m0_ (s_iload d_X12_ahead_83 m4_ (s_icmp_ge (tgt := 131) d_X12_ahead_85 rfl ?_ ?_))
      · exact s_exit (hx81 _) (s_sub (subc m1_ (subc m2_ (subc m3_ (subc m4_ (subc m5_ sub0))))) (hj_X12_ahead_71_131 mm_81 l6_71))
      refine s_aload_n d_X12_ahead_88 m1_ (s_getR cf d_X12_ahead_89 fl_X12_216 (s_nk fun i9 => (s_iload d_X12_ahead_92 m0_ (s_dup2 d_X12_ahead_94 rfl rfl (s_ldN d_X12_ahead_95 ka_127 rfl fun v10 => ?_)))))
      refine s_aload_n d_X12_ahead_96 m1_ (s_getR cf d_X12_ahead_97 fl_X12_216 (s_nk fun i11 => (s_iload d_X12_ahead_100 m0_ (s_ldN d_X12_ahead_102 ka_127 rfl fun v12 => (s_iload d_X12_ahead_103 m5_ ?_)))))
      refine s_ishr d_X12_ahead_105 (s_iconst d_X12_ahead_106 n_1 (s_iand d_X12_ahead_107 (s_iconst d_X12_ahead_108 n_1 (s_icmp_ne (tgt := 122) d_X12_ahead_109 rfl ?_ ?_))))
      · exact s_iconst d_X12_ahead_122 n_0 (s_sub (subc m1_ (subc m2_ (subc m3_ (subc m4_ (subc m5_ (subc m0_ sub0)))))) (hj_X12_ahead_81_123 mm_81 l7_81 i9 l7_81 v10 0))
      refine s_aload_n d_X12_ahead_112 m1_ (s_getR cf d_X12_ahead_113 fl_X12_216 (s_nk fun i13 => (s_iload d_X12_ahead_116 m5_ (s_ldN d_X12_ahead_118 ka_127 rfl fun v14 => (s_goto (tgt := 123) d_X12_ahead_119 rfl ?_)))))
      exact s_sub (subc m1_ (subc m2_ (subc m3_ (subc m4_ (subc m5_ (subc m0_ sub0)))))) (hj_X12_ahead_81_123 mm_81 l7_81 i9 l7_81 v10 v14)
    exact s_iconst d_X12_ahead_51 n_0 (s_iret d_X12_ahead_52 rfl rfl)
  have hj_X12_ahead_0_23 : ∀ (m_23 : MM) (l0_23 : Nat) (l1_23 : Int) (l2_23 : Int) (l3_23 : Int) (s0_23 : Int), Sim fx me_X12_ahead 23 [(0, aR (some (12, l0_23))), (1, aI l1_23), (2, aI l2_23), (3, aI l3_23)] [aI s0_23] m_23 ((j_X12_ahead_0_23 m_23 l0_23 l1_23 l2_23 l3_23 s0_23).bind (fun z => some z)) := by
    intro m_23 l0_23 l1_23 l2_23 l3_23 s0_23
    unfold j_X12_ahead_0_23
    refine s_istore (L' := [(4, aI s0_23), (0, aR (some (12, l0_23))), (1, aI l1_23), (2, aI l2_23), (3, aI l3_23)]) d_X12_ahead_23 (b8 rfl) rfl (s_aload_n d_X12_ahead_25 m1_ (s_iload d_X12_ahead_26 m0_ (s_if_ne (tgt := 35) d_X12_ahead_28 rfl ?_ ?_)))
    · refine s_iload_n d_X12_ahead_35 m3_ (s_iload_n d_X12_ahead_36 m4_ (s_icmp_ne (tgt := 44) d_X12_ahead_37 rfl ?_ ?_))
      · exact s_iconst d_X12_ahead_44 n_0 (s_sub (subc m1_ (subc m2_ (subc m3_ (subc m4_ sub0)))) (hj_X12_ahead_0_45 m_23 l0_23 l1_23 l2_23 l3_23 l0_23 0))
      exact s_iconst d_X12_ahead_40 n_2 (s_goto (tgt := 45) d_X12_ahead_41 rfl (s_sub (subc m1_ (subc m2_ (subc m3_ (subc m4_ sub0)))) (hj_X12_ahead_0_45 m_23 l0_23 l1_23 l2_23 l3_23 l0_23 2)))
    exact s_iconst d_X12_ahead_31 n_1 (s_goto (tgt := 45) d_X12_ahead_32 rfl (s_sub (subc m1_ (subc m2_ (subc m3_ (subc m4_ sub0)))) (hj_X12_ahead_0_45 m_23 l0_23 l1_23 l2_23 l3_23 l0_23 1)))
  have hj_X12_ahead_0_22 : ∀ (m_22 : MM) (l0_22 : Nat) (l1_22 : Int) (l2_22 : Int) (l3_22 : Int), Sim fx me_X12_ahead 22 [(0, aR (some (12, l0_22))), (1, aI l1_22), (2, aI l2_22), (3, aI l3_22)] [] m_22 ((j_X12_ahead_0_22 m_22 l0_22 l1_22 l2_22 l3_22).bind (fun z => some z)) := by
    intro m_22 l0_22 l1_22 l2_22 l3_22
    unfold j_X12_ahead_0_22
    exact s_iconst d_X12_ahead_22 n_0 (s_sub (subc m0_ (subc m1_ (subc m2_ (subc m3_ sub0)))) (hj_X12_ahead_0_23 m_22 l0_22 l1_22 l2_22 l3_22 0))
  refine s_aload_n d_X12_ahead_0 m0_ (s_iload_n d_X12_ahead_1 m1_ (s_iload_n d_X12_ahead_2 m2_ (s_pI (r_V d_X12_ahead_3 k_X12_isForme w_1866 rfl rfl) ms_X12_isForme (b8 rfl) rfl rfl rfl fun v1 => (s_if_eq (tgt := 22) d_X12_ahead_6 rfl ?_ ?_))))
  · exact s_sub (subc m0_ (subc m1_ (subc m2_ (subc m3_ sub0)))) (hj_X12_ahead_0_22 m l0 l1 l2 l3)
  refine s_aload_n d_X12_ahead_9 m0_ (s_iload_n d_X12_ahead_10 m1_ (s_iload_n d_X12_ahead_11 m3_ (s_pI (r_V d_X12_ahead_12 k_X12_isForme w_1866 rfl rfl) ms_X12_isForme (b8 rfl) rfl rfl rfl fun v2 => (s_if_eq (tgt := 22) d_X12_ahead_15 rfl ?_ ?_))))
  · exact s_sub (subc m0_ (subc m1_ (subc m2_ (subc m3_ sub0)))) (hj_X12_ahead_0_22 m l0 l1 l2 l3)
  exact s_iconst d_X12_ahead_18 n_1 (s_goto (tgt := 23) d_X12_ahead_19 rfl (s_sub (subc m0_ (subc m1_ (subc m2_ (subc m3_ sub0)))) (hj_X12_ahead_0_23 m l0 l1 l2 l3 1)))
theorem d_X12_isCopy_0 : dk me_X12_isCopy 0 (.aload_n 0) 1 1 := And.intro (by decide +kernel) rfl
theorem d_X12_isCopy_1 : dk me_X12_isCopy 1 (.iload_n 1) 1 2 := And.intro (by decide +kernel) rfl
theorem d_X12_isCopy_2 : dk me_X12_isCopy 2 (.invokevirtual 239) 3 5 := And.intro (by decide +kernel) rfl
theorem d_X12_isCopy_5 : dk me_X12_isCopy 5 (.ifCond .eq 23) 3 8 := And.intro (by decide +kernel) rfl
theorem d_X12_isCopy_8 : dk me_X12_isCopy 8 (.iload_n 2) 1 9 := And.intro (by decide +kernel) rfl
theorem d_X12_isCopy_9 : dk me_X12_isCopy 9 (.iconst 0) 1 10 := And.intro (by decide +kernel) rfl
theorem d_X12_isCopy_10 : dk me_X12_isCopy 10 (.aload_n 0) 1 11 := And.intro (by decide +kernel) rfl
theorem d_X12_isCopy_11 : dk me_X12_isCopy 11 (.getfield 65) 3 14 := And.intro (by decide +kernel) rfl
theorem d_X12_isCopy_14 : dk me_X12_isCopy 14 (.iload_n 1) 1 15 := And.intro (by decide +kernel) rfl
theorem d_X12_isCopy_15 : dk me_X12_isCopy 15 (.iaload) 1 16 := And.intro (by decide +kernel) rfl
theorem d_X12_isCopy_16 : dk me_X12_isCopy 16 (.iconst 1) 1 17 := And.intro (by decide +kernel) rfl
theorem d_X12_isCopy_17 : dk me_X12_isCopy 17 (.isub) 1 18 := And.intro (by decide +kernel) rfl
theorem d_X12_isCopy_18 : dk me_X12_isCopy 18 (.invokestatic 235) 3 21 := And.intro (by decide +kernel) rfl
theorem d_X12_isCopy_21 : dk me_X12_isCopy 21 (.ifCond .eq 7) 3 24 := And.intro (by decide +kernel) rfl
theorem d_X12_isCopy_24 : dk me_X12_isCopy 24 (.iconst 1) 1 25 := And.intro (by decide +kernel) rfl
theorem d_X12_isCopy_25 : dk me_X12_isCopy 25 (.goto 4) 3 28 := And.intro (by decide +kernel) rfl
theorem d_X12_isCopy_28 : dk me_X12_isCopy 28 (.iconst 0) 1 29 := And.intro (by decide +kernel) rfl
theorem d_X12_isCopy_29 : dk me_X12_isCopy 29 (.ireturn) 1 30 := And.intro (by decide +kernel) rfl
theorem ms_X12_isCopy {fx : FX} {m : MM} {l0 : Nat} {l1 : Int} {l2 : Int} : MS fx me_X12_isCopy [aR (some (12, l0)), aI l1, aI l2] m ((f_X12_isCopy m l0 l1 l2).bind fun v => some (.inl (some (aI v)), m)) := by
  refine ms_of rfl mf_X12_isCopy (b8 rfl) ?_
  show Sim fx me_X12_isCopy 0 [(0, aR (some (12, l0))), (1, aI l1), (2, aI l2)] [] m _
  unfold f_X12_isCopy
  refine s_aload_n d_X12_isCopy_0 m0_ (s_iload_n d_X12_isCopy_1 m1_ (s_pI (r_V d_X12_isCopy_2 k_X12_isBook w_1747 rfl rfl) ms_X12_isBook (b8 rfl) rfl rfl rfl fun v1 => (s_if_eq (tgt := 28) d_X12_isCopy_5 rfl ?_ ?_)))
  · exact s_iconst d_X12_isCopy_28 n_0 (s_zretl d_X12_isCopy_29 rfl (by decide) rfl)
  refine s_iload_n d_X12_isCopy_8 m2_ (s_iconst d_X12_isCopy_9 n_0 (s_aload_n d_X12_isCopy_10 m0_ (s_getR cf d_X12_isCopy_11 fl_X12_65 (s_nk fun i2 => (s_iload_n d_X12_isCopy_14 m1_ ?_)))))
  refine s_ldN d_X12_isCopy_15 ka_77 rfl fun v3 => (s_iconst d_X12_isCopy_16 n_1 (s_isub d_X12_isCopy_17 rfl rfl (s_ck (s_pI (r_S d_X12_isCopy_18 k_X12_isIn w_1664 rfl rfl) ms_X12_isIn (b8 rfl) rfl rfl rfl fun v4 => (s_if_eq (tgt := 28) d_X12_isCopy_21 rfl ?_ ?_)))))
  · exact s_iconst d_X12_isCopy_28 n_0 (s_zretl d_X12_isCopy_29 rfl (by decide) rfl)
  exact s_iconst d_X12_isCopy_24 n_1 (s_goto (tgt := 29) d_X12_isCopy_25 rfl (s_zretl d_X12_isCopy_29 rfl (by decide) rfl))
theorem d_X12_leafAt_0 : dk me_X12_leafAt 0 (.bipush 8) 2 2 := And.intro (by decide +kernel) rfl
theorem d_X12_leafAt_2 : dk me_X12_leafAt 2 (.bipush 24) 2 4 := And.intro (by decide +kernel) rfl
theorem d_X12_leafAt_4 : dk me_X12_leafAt 4 (.iload_n 0) 1 5 := And.intro (by decide +kernel) rfl
theorem d_X12_leafAt_5 : dk me_X12_leafAt 5 (.imul) 1 6 := And.intro (by decide +kernel) rfl
theorem d_X12_leafAt_6 : dk me_X12_leafAt 6 (.iload_n 1) 1 7 := And.intro (by decide +kernel) rfl
theorem d_X12_leafAt_7 : dk me_X12_leafAt 7 (.iadd) 1 8 := And.intro (by decide +kernel) rfl
theorem d_X12_leafAt_8 : dk me_X12_leafAt 8 (.imul) 1 9 := And.intro (by decide +kernel) rfl
theorem d_X12_leafAt_9 : dk me_X12_leafAt 9 (.iload_n 2) 1 10 := And.intro (by decide +kernel) rfl
theorem d_X12_leafAt_10 : dk me_X12_leafAt 10 (.iadd) 1 11 := And.intro (by decide +kernel) rfl
theorem d_X12_leafAt_11 : dk me_X12_leafAt 11 (.ireturn) 1 12 := And.intro (by decide +kernel) rfl
theorem ms_X12_leafAt {fx : FX} {m : MM} {l0 : Int} {l1 : Int} {l2 : Int} : MS fx me_X12_leafAt [aI l0, aI l1, aI l2] m ((f_X12_leafAt m l0 l1 l2).bind fun v => some (.inl (some (aI v)), m)) := by
  refine ms_of rfl mf_X12_leafAt (b8 rfl) ?_
  show Sim fx me_X12_leafAt 0 [(0, aI l0), (1, aI l1), (2, aI l2)] [] m _
  unfold f_X12_leafAt
  refine s_bipush d_X12_leafAt_0 n_8 rfl (s_bipush d_X12_leafAt_2 n_24 rfl (s_iload_n d_X12_leafAt_4 m0_ (s_imul d_X12_leafAt_5 rfl rfl (s_iload_n d_X12_leafAt_6 m1_ (s_iadd d_X12_leafAt_7 rfl rfl ?_)))))
  exact s_imul d_X12_leafAt_8 rfl rfl (s_iload_n d_X12_leafAt_9 m2_ (s_iadd d_X12_leafAt_10 rfl rfl (s_ck (s_iret d_X12_leafAt_11 rfl rfl))))
theorem d_X12_stateIn_0 : dk me_X12_stateIn 0 (.aload_n 0) 1 1 := And.intro (by decide +kernel) rfl
theorem d_X12_stateIn_1 : dk me_X12_stateIn 1 (.getfield 213) 3 4 := And.intro (by decide +kernel) rfl
theorem d_X12_stateIn_4 : dk me_X12_stateIn 4 (.iload_n 1) 1 5 := And.intro (by decide +kernel) rfl
theorem d_X12_stateIn_5 : dk me_X12_stateIn 5 (.iload_n 2) 1 6 := And.intro (by decide +kernel) rfl
theorem d_X12_stateIn_6 : dk me_X12_stateIn 6 (.iload_n 3) 1 7 := And.intro (by decide +kernel) rfl
theorem d_X12_stateIn_7 : dk me_X12_stateIn 7 (.iconst 2) 1 8 := And.intro (by decide +kernel) rfl
theorem d_X12_stateIn_8 : dk me_X12_stateIn 8 (.idiv) 1 9 := And.intro (by decide +kernel) rfl
theorem d_X12_stateIn_9 : dk me_X12_stateIn 9 (.invokestatic 400) 3 12 := And.intro (by decide +kernel) rfl
theorem d_X12_stateIn_12 : dk me_X12_stateIn 12 (.iaload) 1 13 := And.intro (by decide +kernel) rfl
theorem d_X12_stateIn_13 : dk me_X12_stateIn 13 (.istore 4) 2 15 := And.intro (by decide +kernel) rfl
theorem d_X12_stateIn_15 : dk me_X12_stateIn 15 (.iload 4) 2 17 := And.intro (by decide +kernel) rfl
theorem d_X12_stateIn_17 : dk me_X12_stateIn 17 (.iconst (-1)) 1 18 := And.intro (by decide +kernel) rfl
theorem d_X12_stateIn_18 : dk me_X12_stateIn 18 (.if_icmp .ne 5) 3 21 := And.intro (by decide +kernel) rfl
theorem d_X12_stateIn_21 : dk me_X12_stateIn 21 (.iconst (-1)) 1 22 := And.intro (by decide +kernel) rfl
theorem d_X12_stateIn_22 : dk me_X12_stateIn 22 (.ireturn) 1 23 := And.intro (by decide +kernel) rfl
theorem d_X12_stateIn_23 : dk me_X12_stateIn 23 (.bipush 8) 2 25 := And.intro (by decide +kernel) rfl
theorem d_X12_stateIn_25 : dk me_X12_stateIn 25 (.iload_n 1) 1 26 := And.intro (by decide +kernel) rfl
theorem d_X12_stateIn_26 : dk me_X12_stateIn 26 (.imul) 1 27 := And.intro (by decide +kernel) rfl
theorem d_X12_stateIn_27 : dk me_X12_stateIn 27 (.aload_n 0) 1 28 := And.intro (by decide +kernel) rfl
theorem d_X12_stateIn_28 : dk me_X12_stateIn 28 (.iload_n 1) 1 29 := And.intro (by decide +kernel) rfl
theorem d_X12_stateIn_29 : dk me_X12_stateIn 29 (.iload_n 3) 1 30 := And.intro (by decide +kernel) rfl
theorem d_X12_stateIn_30 : dk me_X12_stateIn 30 (.invokevirtual 360) 3 33 := And.intro (by decide +kernel) rfl
theorem d_X12_stateIn_33 : dk me_X12_stateIn 33 (.iadd) 1 34 := And.intro (by decide +kernel) rfl
theorem d_X12_stateIn_34 : dk me_X12_stateIn 34 (.istore 5) 2 36 := And.intro (by decide +kernel) rfl
theorem d_X12_stateIn_36 : dk me_X12_stateIn 36 (.aload_n 0) 1 37 := And.intro (by decide +kernel) rfl
theorem d_X12_stateIn_37 : dk me_X12_stateIn 37 (.getfield 183) 3 40 := And.intro (by decide +kernel) rfl
theorem d_X12_stateIn_40 : dk me_X12_stateIn 40 (.iload 5) 2 42 := And.intro (by decide +kernel) rfl
theorem d_X12_stateIn_42 : dk me_X12_stateIn 42 (.baload) 1 43 := And.intro (by decide +kernel) rfl
theorem d_X12_stateIn_43 : dk me_X12_stateIn 43 (.ifCond .eq 8) 3 46 := And.intro (by decide +kernel) rfl
theorem d_X12_stateIn_46 : dk me_X12_stateIn 46 (.iload 4) 2 48 := And.intro (by decide +kernel) rfl
theorem d_X12_stateIn_48 : dk me_X12_stateIn 48 (.goto 14) 3 51 := And.intro (by decide +kernel) rfl
theorem d_X12_stateIn_51 : dk me_X12_stateIn 51 (.aload_n 0) 1 52 := And.intro (by decide +kernel) rfl
theorem d_X12_stateIn_52 : dk me_X12_stateIn 52 (.getfield 65) 3 55 := And.intro (by decide +kernel) rfl
theorem d_X12_stateIn_55 : dk me_X12_stateIn 55 (.iload_n 1) 1 56 := And.intro (by decide +kernel) rfl
theorem d_X12_stateIn_56 : dk me_X12_stateIn 56 (.iaload) 1 57 := And.intro (by decide +kernel) rfl
theorem d_X12_stateIn_57 : dk me_X12_stateIn 57 (.iconst 1) 1 58 := And.intro (by decide +kernel) rfl
theorem d_X12_stateIn_58 : dk me_X12_stateIn 58 (.isub) 1 59 := And.intro (by decide +kernel) rfl
theorem d_X12_stateIn_59 : dk me_X12_stateIn 59 (.iload 4) 2 61 := And.intro (by decide +kernel) rfl
theorem d_X12_stateIn_61 : dk me_X12_stateIn 61 (.isub) 1 62 := And.intro (by decide +kernel) rfl
theorem d_X12_stateIn_62 : dk me_X12_stateIn 62 (.istore 6) 2 64 := And.intro (by decide +kernel) rfl
theorem d_X12_stateIn_64 : dk me_X12_stateIn 64 (.iconst 0) 1 65 := And.intro (by decide +kernel) rfl
theorem d_X12_stateIn_65 : dk me_X12_stateIn 65 (.istore 7) 2 67 := And.intro (by decide +kernel) rfl
theorem d_X12_stateIn_67 : dk me_X12_stateIn 67 (.iconst 1) 1 68 := And.intro (by decide +kernel) rfl
theorem d_X12_stateIn_68 : dk me_X12_stateIn 68 (.istore 8) 2 70 := And.intro (by decide +kernel) rfl
theorem d_X12_stateIn_70 : dk me_X12_stateIn 70 (.iload 8) 2 72 := And.intro (by decide +kernel) rfl
theorem d_X12_stateIn_72 : dk me_X12_stateIn 72 (.aload_n 0) 1 73 := And.intro (by decide +kernel) rfl
theorem d_X12_stateIn_73 : dk me_X12_stateIn 73 (.getfield 168) 3 76 := And.intro (by decide +kernel) rfl
theorem d_X12_stateIn_76 : dk me_X12_stateIn 76 (.iload 5) 2 78 := And.intro (by decide +kernel) rfl
theorem d_X12_stateIn_78 : dk me_X12_stateIn 78 (.iaload) 1 79 := And.intro (by decide +kernel) rfl
theorem d_X12_stateIn_79 : dk me_X12_stateIn 79 (.if_icmp .ge 36) 3 82 := And.intro (by decide +kernel) rfl
theorem d_X12_stateIn_82 : dk me_X12_stateIn 82 (.aload_n 0) 1 83 := And.intro (by decide +kernel) rfl
theorem d_X12_stateIn_83 : dk me_X12_stateIn 83 (.getfield 171) 3 86 := And.intro (by decide +kernel) rfl
theorem d_X12_stateIn_86 : dk me_X12_stateIn 86 (.bipush 26) 2 88 := And.intro (by decide +kernel) rfl
theorem d_X12_stateIn_88 : dk me_X12_stateIn 88 (.iload 5) 2 90 := And.intro (by decide +kernel) rfl
theorem d_X12_stateIn_90 : dk me_X12_stateIn 90 (.imul) 1 91 := And.intro (by decide +kernel) rfl
theorem d_X12_stateIn_91 : dk me_X12_stateIn 91 (.iload 8) 2 93 := And.intro (by decide +kernel) rfl
theorem d_X12_stateIn_93 : dk me_X12_stateIn 93 (.iadd) 1 94 := And.intro (by decide +kernel) rfl
theorem d_X12_stateIn_94 : dk me_X12_stateIn 94 (.iaload) 1 95 := And.intro (by decide +kernel) rfl
theorem d_X12_stateIn_95 : dk me_X12_stateIn 95 (.iload 6) 2 97 := And.intro (by decide +kernel) rfl
theorem d_X12_stateIn_97 : dk me_X12_stateIn 97 (.if_icmp .gt 8) 3 100 := And.intro (by decide +kernel) rfl
theorem d_X12_stateIn_100 : dk me_X12_stateIn 100 (.iload 8) 2 102 := And.intro (by decide +kernel) rfl
theorem d_X12_stateIn_102 : dk me_X12_stateIn 102 (.goto 5) 3 105 := And.intro (by decide +kernel) rfl
theorem d_X12_stateIn_105 : dk me_X12_stateIn 105 (.iload 7) 2 107 := And.intro (by decide +kernel) rfl
theorem d_X12_stateIn_107 : dk me_X12_stateIn 107 (.istore 7) 2 109 := And.intro (by decide +kernel) rfl
theorem d_X12_stateIn_109 : dk me_X12_stateIn 109 (.iinc 8 1) 3 112 := And.intro (by decide +kernel) rfl
theorem d_X12_stateIn_112 : dk me_X12_stateIn 112 (.goto (-42)) 3 115 := And.intro (by decide +kernel) rfl
theorem d_X12_stateIn_115 : dk me_X12_stateIn 115 (.iload 7) 2 117 := And.intro (by decide +kernel) rfl
theorem d_X12_stateIn_117 : dk me_X12_stateIn 117 (.ireturn) 1 118 := And.intro (by decide +kernel) rfl
theorem ms_X12_stateIn {fx : FX} {m : MM} {l0 : Nat} {l1 : Int} {l2 : Int} {l3 : Int} : MS fx me_X12_stateIn [aR (some (12, l0)), aI l1, aI l2, aI l3] m ((f_X12_stateIn m l0 l1 l2 l3).bind fun v => some (.inl (some (aI v)), m)) := by
  refine ms_of rfl mf_X12_stateIn (b8 rfl) ?_
  show Sim fx me_X12_stateIn 0 [(0, aR (some (12, l0))), (1, aI l1), (2, aI l2), (3, aI l3)] [] m _
  unfold f_X12_stateIn
  have hj_X12_stateIn_0_115 : ∀ (l7_115 : Int), Sim fx me_X12_stateIn 115 [(7, aI l7_115)] [] m ((j_X12_stateIn_0_115 m l7_115).bind (fun v => some (.inl (some (aI v)), m))) := by
    intro l7_115
    unfold j_X12_stateIn_0_115
    exact s_iload d_X12_stateIn_115 m0_ (s_iret d_X12_stateIn_117 rfl rfl)
  have hj_X12_stateIn_0_62 : ∀ (l0_62 : Nat) (l5_62 : Int) (s0_62 : Int), Sim fx me_X12_stateIn 62 [(0, aR (some (12, l0_62))), (5, aI l5_62)] [aI s0_62] m ((j_X12_stateIn_0_62 m l0_62 l5_62 s0_62).bind (fun v => some (.inl (some (aI v)), m))) := by
    intro l0_62 l5_62 s0_62
    unfold j_X12_stateIn_0_62
    refine s_istore (L' := [(6, aI s0_62), (0, aR (some (12, l0_62))), (5, aI l5_62)]) d_X12_stateIn_62 (b8 rfl) rfl (s_iconst d_X12_stateIn_64 n_0 (s_istore (L' := [(7, aI 0), (6, aI s0_62), (0, aR (some (12, l0_62))), (5, aI l5_62)]) d_X12_stateIn_65 (b8 rfl) rfl (s_iconst d_X12_stateIn_67 n_1 (s_istore (L' := [(8, aI 1), (7, aI 0), (6, aI s0_62), (0, aR (some (12, l0_62))), (5, aI l5_62)]) d_X12_stateIn_68 (b8 rfl) rfl (s_sub (subc m1_ (subc m0_ (subc m3_ (subc m4_ (subc m2_ sub0))))) (s_lp2 (fun s => [(7, aI (s.1)), (8, aI (s.2)), (0, aR (some (12, l0_62))), (5, aI l5_62), (6, aI s0_62)]) (fun s => m) (0, 1) fun k70 hx70 s ih0 => ?_))))))
    obtain ⟨l7_70, l8_70⟩ := s
    have ih70 := ih0
    clear ih0
    try dsimp only
    unfold b_X12_stateIn_70
    refine s_iload d_X12_stateIn_70 m1_ (s_aload_n d_X12_stateIn_72 m2_ (s_getR cf d_X12_stateIn_73 fl_X12_168 (s_nk fun i9 => (s_iload d_X12_stateIn_76 m3_ (s_ldN d_X12_stateIn_78 ka_111 rfl fun v10 => ?_)))))
    refine s_icmp_ge (tgt := 115) d_X12_stateIn_79 rfl ?_ ?_
    · exact s_exit (hx70 _) (s_sub (subc m0_ sub0) (hj_X12_stateIn_0_115 l7_70))
    refine s_aload_n d_X12_stateIn_82 m2_ (s_getR cf d_X12_stateIn_83 fl_X12_171 (s_nk fun i11 => (s_bipush d_X12_stateIn_86 n_26 rfl (s_iload d_X12_stateIn_88 m3_ (s_imul d_X12_stateIn_90 rfl rfl ?_)))))
    refine s_iload d_X12_stateIn_91 m1_ (s_iadd d_X12_stateIn_93 rfl rfl (s_ldN d_X12_stateIn_94 ka_112 rfl fun v12 => (s_iload d_X12_stateIn_95 m4_ (s_icmp_gt (tgt := 105) d_X12_stateIn_97 rfl ?_ ?_))))
    · exact s_iload d_X12_stateIn_105 m0_ (s_istore (L' := [(7, aI l7_70), (8, aI l8_70), (0, aR (some (12, l0_62))), (5, aI l5_62), (6, aI s0_62)]) d_X12_stateIn_107 (b8 rfl) rfl (s_iinc (L' := [(8, aI (l8_70 + 1)), (7, aI l7_70), (0, aR (some (12, l0_62))), (5, aI l5_62), (6, aI s0_62)]) d_X12_stateIn_109 m1_ (b8 rfl) rfl (s_goto (tgt := 70) d_X12_stateIn_112 rfl (s_sub (subc m1_ (subc m0_ (subc m2_ (subc m3_ (subc m4_ sub0))))) (s_back (ih70 (l7_70, (l8_70 + 1))))))))
    exact s_iload d_X12_stateIn_100 m1_ (s_goto (tgt := 107) d_X12_stateIn_102 rfl (s_istore (L' := [(7, aI l8_70), (8, aI l8_70), (0, aR (some (12, l0_62))), (5, aI l5_62), (6, aI s0_62)]) d_X12_stateIn_107 (b8 rfl) rfl (s_iinc (L' := [(8, aI (l8_70 + 1)), (7, aI l8_70), (0, aR (some (12, l0_62))), (5, aI l5_62), (6, aI s0_62)]) d_X12_stateIn_109 m1_ (b8 rfl) rfl (s_goto (tgt := 70) d_X12_stateIn_112 rfl (s_sub (subc m1_ (subc m0_ (subc m2_ (subc m3_ (subc m4_ sub0))))) (s_back (ih70 (l8_70, (l8_70 + 1)))))))))
  refine s_aload_n d_X12_stateIn_0 m0_ (s_getR cf d_X12_stateIn_1 fl_X12_213 (s_nk fun i1 => (s_iload_n d_X12_stateIn_4 m1_ (s_iload_n d_X12_stateIn_5 m2_ (s_iload_n d_X12_stateIn_6 m3_ ?_)))))
  refine s_iconst d_X12_stateIn_7 n_2 (s_idiv d_X12_stateIn_8 (s_pI (r_S d_X12_stateIn_9 k_X12_leafAt w_1933 rfl rfl) ms_X12_leafAt (b8 rfl) rfl rfl rfl fun v2 => (s_ldN d_X12_stateIn_12 ka_126 rfl fun v3 => (s_istore (L' := [(4, aI v3), (0, aR (some (12, l0))), (1, aI l1), (2, aI l2), (3, aI l3)]) d_X12_stateIn_13 (b8 rfl) rfl (s_iload d_X12_stateIn_15 m0_ ?_)))))
  refine s_iconst d_X12_stateIn_17 n_m1 (s_icmp_ne (tgt := 23) d_X12_stateIn_18 rfl ?_ ?_)
  · refine s_bipush d_X12_stateIn_23 n_8 rfl (s_iload_n d_X12_stateIn_25 m2_ (s_imul d_X12_stateIn_26 rfl rfl (s_aload_n d_X12_stateIn_27 m1_ (s_iload_n d_X12_stateIn_28 m2_ (s_iload_n d_X12_stateIn_29 m4_ ?_)))))
    refine s_pI (r_V d_X12_stateIn_30 k_X12_formeOf w_1842 rfl rfl) ms_X12_formeOf (b8 rfl) rfl rfl rfl fun v4 => (s_iadd d_X12_stateIn_33 rfl rfl (s_ck (s_istore (L' := [(5, aI ((8 * l1) + v4)), (4, aI v3), (0, aR (some (12, l0))), (1, aI l1), (2, aI l2), (3, aI l3)]) d_X12_stateIn_34 (b8 rfl) rfl (s_aload_n d_X12_stateIn_36 m2_ (s_getR cf d_X12_stateIn_37 fl_X12_183 ?_)))))
    refine s_nk fun i5 => (s_iload d_X12_stateIn_40 m0_ (s_ldB d_X12_stateIn_42 ka_116 rfl fun v6 => (s_if_eq (tgt := 51) d_X12_stateIn_43 rfl ?_ ?_)))
    · refine s_aload_n d_X12_stateIn_51 m2_ (s_getR cf d_X12_stateIn_52 fl_X12_65 (s_nk fun i7 => (s_iload_n d_X12_stateIn_55 m3_ (s_ldN d_X12_stateIn_56 ka_77 rfl fun v8 => (s_iconst d_X12_stateIn_57 n_1 ?_)))))
      exact s_isub d_X12_stateIn_58 rfl rfl (s_iload d_X12_stateIn_59 m1_ (s_isub d_X12_stateIn_61 rfl rfl (s_ck (s_sub (subc m2_ (subc m0_ sub0)) (hj_X12_stateIn_0_62 l0 ((8 * l1) + v4) ((v8 - 1) - v3))))))
    exact s_iload d_X12_stateIn_46 m1_ (s_goto (tgt := 62) d_X12_stateIn_48 rfl (s_sub (subc m2_ (subc m0_ sub0)) (hj_X12_stateIn_0_62 l0 ((8 * l1) + v4) v3)))
  exact s_iconst d_X12_stateIn_21 n_m1 (s_iret d_X12_stateIn_22 rfl rfl)
theorem d_X12_alike_0 : dk me_X12_alike 0 (.aload_n 0) 1 1 := And.intro (by decide +kernel) rfl
theorem d_X12_alike_1 : dk me_X12_alike 1 (.aload_n 0) 1 2 := And.intro (by decide +kernel) rfl
theorem d_X12_alike_2 : dk me_X12_alike 2 (.iload_n 1) 1 3 := And.intro (by decide +kernel) rfl
theorem d_X12_alike_3 : dk me_X12_alike 3 (.iload_n 2) 1 4 := And.intro (by decide +kernel) rfl
theorem d_X12_alike_4 : dk me_X12_alike 4 (.invokevirtual 403) 3 7 := And.intro (by decide +kernel) rfl
theorem d_X12_alike_7 : dk me_X12_alike 7 (.ifCond .ne 7) 3 10 := And.intro (by decide +kernel) rfl
theorem d_X12_alike_10 : dk me_X12_alike 10 (.iconst 1) 1 11 := And.intro (by decide +kernel) rfl
theorem d_X12_alike_11 : dk me_X12_alike 11 (.goto 17) 3 14 := And.intro (by decide +kernel) rfl
theorem d_X12_alike_14 : dk me_X12_alike 14 (.aload_n 0) 1 15 := And.intro (by decide +kernel) rfl
theorem d_X12_alike_15 : dk me_X12_alike 15 (.getfield 71) 3 18 := And.intro (by decide +kernel) rfl
theorem d_X12_alike_18 : dk me_X12_alike 18 (.iload_n 1) 1 19 := And.intro (by decide +kernel) rfl
theorem d_X12_alike_19 : dk me_X12_alike 19 (.baload) 1 20 := And.intro (by decide +kernel) rfl
theorem d_X12_alike_20 : dk me_X12_alike 20 (.ifCond .eq 7) 3 23 := And.intro (by decide +kernel) rfl
theorem d_X12_alike_23 : dk me_X12_alike 23 (.iconst 0) 1 24 := And.intro (by decide +kernel) rfl
theorem d_X12_alike_24 : dk me_X12_alike 24 (.goto 4) 3 27 := And.intro (by decide +kernel) rfl
theorem d_X12_alike_27 : dk me_X12_alike 27 (.iconst 2) 1 28 := And.intro (by decide +kernel) rfl
theorem d_X12_alike_28 : dk me_X12_alike 28 (.invokevirtual 260) 3 31 := And.intro (by decide +kernel) rfl
theorem d_X12_alike_31 : dk me_X12_alike 31 (.ifCond .ne 5) 3 34 := And.intro (by decide +kernel) rfl
theorem d_X12_alike_34 : dk me_X12_alike 34 (.iconst 0) 1 35 := And.intro (by decide +kernel) rfl
theorem d_X12_alike_35 : dk me_X12_alike 35 (.ireturn) 1 36 := And.intro (by decide +kernel) rfl
theorem d_X12_alike_36 : dk me_X12_alike 36 (.iconst 0) 1 37 := And.intro (by decide +kernel) rfl
theorem d_X12_alike_37 : dk me_X12_alike 37 (.istore_n 3) 1 38 := And.intro (by decide +kernel) rfl
theorem d_X12_alike_38 : dk me_X12_alike 38 (.iconst 0) 1 39 := And.intro (by decide +kernel) rfl
theorem d_X12_alike_39 : dk me_X12_alike 39 (.istore 4) 2 41 := And.intro (by decide +kernel) rfl
theorem d_X12_alike_41 : dk me_X12_alike 41 (.iload 4) 2 43 := And.intro (by decide +kernel) rfl
theorem d_X12_alike_43 : dk me_X12_alike 43 (.aload_n 0) 1 44 := And.intro (by decide +kernel) rfl
theorem d_X12_alike_44 : dk me_X12_alike 44 (.getfield 65) 3 47 := And.intro (by decide +kernel) rfl
theorem d_X12_alike_47 : dk me_X12_alike 47 (.iload_n 1) 1 48 := And.intro (by decide +kernel) rfl
theorem d_X12_alike_48 : dk me_X12_alike 48 (.iaload) 1 49 := And.intro (by decide +kernel) rfl
theorem d_X12_alike_49 : dk me_X12_alike 49 (.if_icmp .ge 76) 3 52 := And.intro (by decide +kernel) rfl
theorem d_X12_alike_52 : dk me_X12_alike 52 (.iconst 1) 1 53 := And.intro (by decide +kernel) rfl
theorem d_X12_alike_53 : dk me_X12_alike 53 (.istore 5) 2 55 := And.intro (by decide +kernel) rfl
theorem d_X12_alike_55 : dk me_X12_alike 55 (.iconst 0) 1 56 := And.intro (by decide +kernel) rfl
theorem d_X12_alike_56 : dk me_X12_alike 56 (.istore 6) 2 58 := And.intro (by decide +kernel) rfl
theorem d_X12_alike_58 : dk me_X12_alike 58 (.iload 6) 2 60 := And.intro (by decide +kernel) rfl
theorem d_X12_alike_60 : dk me_X12_alike 60 (.aload_n 0) 1 61 := And.intro (by decide +kernel) rfl
theorem d_X12_alike_61 : dk me_X12_alike 61 (.iload_n 1) 1 62 := And.intro (by decide +kernel) rfl
theorem d_X12_alike_62 : dk me_X12_alike 62 (.invokevirtual 243) 3 65 := And.intro (by decide +kernel) rfl
theorem d_X12_alike_65 : dk me_X12_alike 65 (.if_icmp .ge 41) 3 68 := And.intro (by decide +kernel) rfl
theorem d_X12_alike_68 : dk me_X12_alike 68 (.iload 5) 2 70 := And.intro (by decide +kernel) rfl
theorem d_X12_alike_70 : dk me_X12_alike 70 (.ifCond .eq 36) 3 73 := And.intro (by decide +kernel) rfl
theorem d_X12_alike_73 : dk me_X12_alike 73 (.aload_n 0) 1 74 := And.intro (by decide +kernel) rfl
theorem d_X12_alike_74 : dk me_X12_alike 74 (.iload_n 1) 1 75 := And.intro (by decide +kernel) rfl
theorem d_X12_alike_75 : dk me_X12_alike 75 (.iload 4) 2 77 := And.intro (by decide +kernel) rfl
theorem d_X12_alike_77 : dk me_X12_alike 77 (.iload 6) 2 79 := And.intro (by decide +kernel) rfl
theorem d_X12_alike_79 : dk me_X12_alike 79 (.invokevirtual 409) 3 82 := And.intro (by decide +kernel) rfl
theorem d_X12_alike_82 : dk me_X12_alike 82 (.aload_n 0) 1 83 := And.intro (by decide +kernel) rfl
theorem d_X12_alike_83 : dk me_X12_alike 83 (.iload_n 1) 1 84 := And.intro (by decide +kernel) rfl
theorem d_X12_alike_84 : dk me_X12_alike 84 (.iload_n 2) 1 85 := And.intro (by decide +kernel) rfl
theorem d_X12_alike_85 : dk me_X12_alike 85 (.iload 6) 2 87 := And.intro (by decide +kernel) rfl
theorem d_X12_alike_87 : dk me_X12_alike 87 (.invokevirtual 409) 3 90 := And.intro (by decide +kernel) rfl
theorem d_X12_alike_90 : dk me_X12_alike 90 (.if_icmp .ne 7) 3 93 := And.intro (by decide +kernel) rfl
theorem d_X12_alike_93 : dk me_X12_alike 93 (.iconst 1) 1 94 := And.intro (by decide +kernel) rfl
theorem d_X12_alike_94 : dk me_X12_alike 94 (.goto 4) 3 97 := And.intro (by decide +kernel) rfl
theorem d_X12_alike_97 : dk me_X12_alike 97 (.iconst 0) 1 98 := And.intro (by decide +kernel) rfl
theorem d_X12_alike_98 : dk me_X12_alike 98 (.istore 5) 2 100 := And.intro (by decide +kernel) rfl
theorem d_X12_alike_100 : dk me_X12_alike 100 (.iinc 6 1) 3 103 := And.intro (by decide +kernel) rfl
theorem d_X12_alike_103 : dk me_X12_alike 103 (.goto (-45)) 3 106 := And.intro (by decide +kernel) rfl
theorem d_X12_alike_106 : dk me_X12_alike 106 (.iload_n 3) 1 107 := And.intro (by decide +kernel) rfl
theorem d_X12_alike_107 : dk me_X12_alike 107 (.iload 5) 2 109 := And.intro (by decide +kernel) rfl
theorem d_X12_alike_109 : dk me_X12_alike 109 (.ifCond .eq 7) 3 112 := And.intro (by decide +kernel) rfl
theorem d_X12_alike_112 : dk me_X12_alike 112 (.iconst 1) 1 113 := And.intro (by decide +kernel) rfl
theorem d_X12_alike_113 : dk me_X12_alike 113 (.goto 4) 3 116 := And.intro (by decide +kernel) rfl
theorem d_X12_alike_116 : dk me_X12_alike 116 (.iconst 0) 1 117 := And.intro (by decide +kernel) rfl
theorem d_X12_alike_117 : dk me_X12_alike 117 (.iadd) 1 118 := And.intro (by decide +kernel) rfl
theorem d_X12_alike_118 : dk me_X12_alike 118 (.istore_n 3) 1 119 := And.intro (by decide +kernel) rfl
theorem d_X12_alike_119 : dk me_X12_alike 119 (.iinc 4 1) 3 122 := And.intro (by decide +kernel) rfl
theorem d_X12_alike_122 : dk me_X12_alike 122 (.goto (-81)) 3 125 := And.intro (by decide +kernel) rfl
theorem d_X12_alike_125 : dk me_X12_alike 125 (.iload_n 3) 1 126 := And.intro (by decide +kernel) rfl
theorem d_X12_alike_126 : dk me_X12_alike 126 (.ireturn) 1 127 := And.intro (by decide +kernel) rfl
theorem ms_X12_alike {fx : FX} {m : MM} {l0 : Nat} {l1 : Int} {l2 : Int} : MS fx me_X12_alike [aR (some (12, l0)), aI l1, aI l2] m (f_X12_alike m l0 l1 l2) := by
  refine ms_of rfl mf_X12_alike (b8 rfl) ?_
  refine s_top ?_
  show Sim fx me_X12_alike 0 [(0, aR (some (12, l0))), (1, aI l1), (2, aI l2)] [] m _
  unfold f_X12_alike
  have hj_X12_alike_0_125 : ∀ (m_125 : MM) (l3_125 : Int), Sim fx me_X12_alike 125 [(3, aI l3_125)] [] m_125 ((j_X12_alike_0_125 m_125 l3_125).bind (fun z => some z)) := by
    intro m_125 l3_125
    unfold j_X12_alike_0_125
    exact s_iload_n d_X12_alike_125 m0_ (s_iret d_X12_alike_126 rfl rfl)
  have hj_X12_alike_0_28 : ∀ (m_28 : MM) (l0_28 : Nat) (l1_28 : Int) (l2_28 : Int) (s0_28 : Nat) (s1_28 : Int), Sim fx me_X12_alike 28 [(0, aR (some (12, l0_28))), (1, aI l1_28), (2, aI l2_28)] [aI s1_28, aR (some (12, s0_28))] m_28 ((j_X12_alike_0_28 m_28 l0_28 l1_28 l2_28 s0_28 s1_28).bind (fun z => some z)) := by
    intro m_28 l0_28 l1_28 l2_28 s0_28 s1_28
    unfold j_X12_alike_0_28
    refine s_cI (r_V d_X12_alike_28 k_X12_holds w_1668 rfl rfl) ms_X12_holds (b8 rfl) rfl rfl rfl (fun _ _ _ => rfl) (fun _ _ => Or.inl rfl) fun v5 m4 => (s_if_ne (tgt := 36) d_X12_alike_31 rfl ?_ ?_)
    · refine s_iconst d_X12_alike_36 n_0 (s_istore_n (L' := [(3, aI 0), (0, aR (some (12, l0_28))), (1, aI l1_28), (2, aI l2_28)]) d_X12_alike_37 (b8 rfl) rfl (s_iconst d_X12_alike_38 n_0 (s_istore (L' := [(4, aI 0), (3, aI 0), (0, aR (some (12, l0_28))), (1, aI l1_28), (2, aI l2_28)]) d_X12_alike_39 (b8 rfl) rfl (s_sub (subc m1_ (subc m0_ (subc m2_ (subc m3_ (subc m4_ sub0))))) (s_lp2 (fun s => [(3, aI (s.1)), (4, aI (s.2)), (0, aR (some (12, l0_28))), (1, aI l1_28), (2, aI l2_28)]) (fun s => m4) (0, 0) fun k41 hx41 s ih0 => ?_)))))
      obtain ⟨l3_41, l4_41⟩ := s
      have ih41 := ih0
      clear ih0
      try dsimp only
      unfold b_X12_alike_41
      have hj_X12_alike_41_106 : ∀ (l3_106 : Int) (l4_106 : Int) (l5_106 : Int), Sim fx me_X12_alike 106 [(0, aR (some (12, l0_28))), (1, aI l1_28), (2, aI l2_28), (3, aI l3_106), (4, aI l4_106), (5, aI l5_106)] [] m4 ((j_X12_alike_41_106 m4 l0_28 l1_28 l2_28 l3_106 l4_106 l5_106).bind k41) := by
        intro l3_106 l4_106 l5_106
        unfold j_X12_alike_41_106
        refine s_iload_n d_X12_alike_106 m3_ (s_iload d_X12_alike_107 m5_ (s_if_eq (tgt := 116) d_X12_alike_109 rfl ?_ ?_))
        · refine s_iconst d_X12_alike_116 n_0 (s_iadd d_X12_alike_117 rfl rfl (s_ck (s_istore_n (L' := [(3, aI (l3_106 + 0)), (0, aR (some (12, l0_28))), (1, aI l1_28), (2, aI l2_28), (4, aI l4_106), (5, aI l5_106)]) d_X12_alike_118 (b8 rfl) rfl (s_iinc (L' := [(4, aI (l4_106 + 1)), (3, aI (l3_106 + 0)), (0, aR (some (12, l0_28))), (1, aI l1_28), (2, aI l2_28), (5, aI l5_106)]) d_X12_alike_119 m4_ (b8 rfl) rfl (s_goto (tgt := 41) d_X12_alike_122 rfl ?_)))))
          exact s_sub (subc m1_ (subc m0_ (subc m2_ (subc m3_ (subc m4_ sub0))))) (s_back (ih41 ((l3_106 + 0), (l4_106 + 1))))
        refine s_iconst d_X12_alike_112 n_1 (s_goto (tgt := 117) d_X12_alike_113 rfl (s_iadd d_X12_alike_117 rfl rfl (s_ck (s_istore_n (L' := [(3, aI (l3_106 + 1)), (0, aR (some (12, l0_28))), (1, aI l1_28), (2, aI l2_28), (4, aI l4_106), (5, aI l5_106)]) d_X12_alike_118 (b8 rfl) rfl (s_iinc (L' := [(4, aI (l4_106 + 1)), (3, aI (l3_106 + 1)), (0, aR (some (12, l0_28))), (1, aI l1_28), (2, aI l2_28), (5, aI l5_106)]) d_X12_alike_119 m4_ (b8 rfl) rfl ?_)))))
        exact s_goto (tgt := 41) d_X12_alike_122 rfl (s_sub (subc m1_ (subc m0_ (subc m2_ (subc m3_ (subc m4_ sub0))))) (s_back (ih41 ((l3_106 + 1), (l4_106 + 1)))))
      refine s_iload d_X12_alike_41 m1_ (s_aload_n d_X12_alike_43 m2_ (s_getR cf d_X12_alike_44 fl_X12_65 (s_nk fun i6 => (s_iload_n d_X12_alike_47 m3_ (s_ldN d_X12_alike_48 ka_77 rfl fun v7 => ?_)))))
      refine s_icmp_ge (tgt := 125) d_X12_alike_49 rfl ?_ ?_
      · exact s_exit (hx41 _) (s_sub (subc m0_ sub0) (hj_X12_alike_0_125 m4 l3_41))
      refine s_iconst d_X12_alike_52 n_1 (s_istore (L' := [(5, aI 1), (3, aI l3_41), (4, aI l4_41), (0, aR (some (12, l0_28))), (1, aI l1_28), (2, aI l2_28)]) d_X12_alike_53 (b8 rfl) rfl (s_iconst d_X12_alike_55 n_0 (s_istore (L' := [(6, aI 0), (5, aI 1), (3, aI l3_41), (4, aI l4_41), (0, aR (some (12, l0_28))), (1, aI l1_28), (2, aI l2_28)]) d_X12_alike_56 (b8 rfl) rfl (s_sub (subc m1_ (subc m0_ (subc m4_ (subc m5_ (subc m6_ (subc m2_ (subc m3_ sub0))))))) (s_lp2 (fun s => [(5, aI (s.1)), (6, aI (s.2)), (0, aR (some (12, l0_28))), (1, aI l1_28), (2, aI l2_28), (3, aI l3_41), (4, aI l4_41)]) (fun s => m4) (1, 0) fun k58 hx58 s ih0 => ?_)))))
      obtain ⟨l5_58, l6_58⟩ := s
      have ih58 := ih0
      clear ih0
      try dsimp only
      unfold b_X12_alike_58
      refine s_iload d_X12_alike_58 m1_ (s_aload_n d_X12_alike_60 m2_ (s_iload_n d_X12_alike_61 m3_ (s_pI (r_V d_X12_alike_62 k_X12_pagesOf w_1755 rfl rfl) ms_X12_pagesOf (b8 rfl) rfl rfl rfl fun v8 => (s_icmp_ge (tgt := 106) d_X12_alike_65 rfl ?_ ?_))))
      · exact s_exit (hx58 _) (s_sub (subc m2_ (subc m3_ (subc m4_ (subc m5_ (subc m6_ (subc m0_ sub0)))))) (hj_X12_alike_41_106 l3_41 l4_41 l5_58))
      refine s_iload d_X12_alike_68 m0_ (s_if_eq (tgt := 106) d_X12_alike_70 rfl ?_ ?_)
      · exact s_exit (hx58 _) (s_sub (subc m2_ (subc m3_ (subc m4_ (subc m5_ (subc m6_ (subc m0_ sub0)))))) (hj_X12_alike_41_106 l3_41 l4_41 l5_58))
      refine s_aload_n d_X12_alike_73 m2_ (s_iload_n d_X12_alike_74 m3_ (s_iload d_X12_alike_75 m6_ (s_iload d_X12_alike_77 m1_ (s_pI (r_V d_X12_alike_79 k_X12_stateIn w_1956 rfl rfl) ms_X12_stateIn (b8 rfl) rfl rfl rfl fun v9 => (s_aload_n d_X12_alike_82 m2_ ?_)))))
      refine s_iload_n d_X12_alike_83 m3_ (s_iload_n d_X12_alike_84 m4_ (s_iload d_X12_alike_85 m1_ (s_pI (r_V d_X12_alike_87 k_X12_stateIn w_1956 rfl rfl) ms_X12_stateIn (b8 rfl) rfl rfl rfl fun v10 => (s_icmp_ne (tgt := 97) d_X12_alike_90 rfl ?_ ?_))))
      · exact s_iconst d_X12_alike_97 n_0 (s_istore (L' := [(5, aI 0), (6, aI l6_58), (0, aR (some (12, l0_28))), (1, aI l1_28), (2, aI l2_28), (3, aI l3_41), (4, aI l4_41)]) d_X12_alike_98 (b8 rfl) rfl (s_iinc (L' := [(6, aI (l6_58 + 1)), (5, aI 0), (0, aR (some (12, l0_28))), (1, aI l1_28), (2, aI l2_28), (3, aI l3_41), (4, aI l4_41)]) d_X12_alike_100 m1_ (b8 rfl) rfl (s_goto (tgt := 58) d_X12_alike_103 rfl (s_sub (subc m1_ (subc m0_ (subc m2_ (subc m3_ (subc m4_ (subc m5_ (subc m6_ sub0))))))) (s_back (ih58 (0, (l6_58 + 1))))))))
      exact s_iconst d_X12_alike_93 n_1 (s_goto (tgt := 98) d_X12_alike_94 rfl (s_istore (L' := [(5, aI 1), (6, aI l6_58), (0, aR (some (12, l0_28))), (1, aI l1_28), (2, aI l2_28), (3, aI l3_41), (4, aI l4_41)]) d_X12_alike_98 (b8 rfl) rfl (s_iinc (L' := [(6, aI (l6_58 + 1)), (5, aI 1), (0, aR (some (12, l0_28))), (1, aI l1_28), (2, aI l2_28), (3, aI l3_41), (4, aI l4_41)]) d_X12_alike_100 m1_ (b8 rfl) rfl (s_goto (tgt := 58) d_X12_alike_103 rfl (s_sub (subc m1_ (subc m0_ (subc m2_ (subc m3_ (subc m4_ (subc m5_ (subc m6_ sub0))))))) (s_back (ih58 (1, (l6_58 + 1)))))))))
    exact s_iconst d_X12_alike_34 n_0 (s_iret d_X12_alike_35 rfl rfl)
  refine s_aload_n d_X12_alike_0 m0_ (s_aload_n d_X12_alike_1 m0_ (s_iload_n d_X12_alike_2 m1_ (s_iload_n d_X12_alike_3 m2_ (s_pI (r_V d_X12_alike_4 k_X12_isCopy w_1940 rfl rfl) ms_X12_isCopy (b8 rfl) rfl rfl rfl fun v1 => (s_if_ne (tgt := 14) d_X12_alike_7 rfl ?_ ?_)))))
  · refine s_aload_n d_X12_alike_14 m0_ (s_getR cf d_X12_alike_15 fl_X12_71 (s_nk fun i2 => (s_iload_n d_X12_alike_18 m1_ (s_ldB d_X12_alike_19 ka_79 rfl fun v3 => (s_if_eq (tgt := 27) d_X12_alike_20 rfl ?_ ?_)))))
    · exact s_iconst d_X12_alike_27 n_2 (s_sub (subc m0_ (subc m1_ (subc m2_ sub0))) (hj_X12_alike_0_28 m l0 l1 l2 l0 2))
    exact s_iconst d_X12_alike_23 n_0 (s_goto (tgt := 28) d_X12_alike_24 rfl (s_sub (subc m0_ (subc m1_ (subc m2_ sub0))) (hj_X12_alike_0_28 m l0 l1 l2 l0 0)))
  exact s_iconst d_X12_alike_10 n_1 (s_goto (tgt := 28) d_X12_alike_11 rfl (s_sub (subc m0_ (subc m1_ (subc m2_ sub0))) (hj_X12_alike_0_28 m l0 l1 l2 l0 1)))
theorem d_X12_bind_0 : dk me_X12_bind 0 (.aload_n 0) 1 1 := And.intro (by decide +kernel) rfl
theorem d_X12_bind_1 : dk me_X12_bind 1 (.iload_n 1) 1 2 := And.intro (by decide +kernel) rfl
theorem d_X12_bind_2 : dk me_X12_bind 2 (.invokevirtual 239) 3 5 := And.intro (by decide +kernel) rfl
theorem d_X12_bind_5 : dk me_X12_bind 5 (.istore_n 2) 1 6 := And.intro (by decide +kernel) rfl
theorem d_X12_bind_6 : dk me_X12_bind 6 (.iload_n 2) 1 7 := And.intro (by decide +kernel) rfl
theorem d_X12_bind_7 : dk me_X12_bind 7 (.ifCond .eq 16) 3 10 := And.intro (by decide +kernel) rfl
theorem d_X12_bind_10 : dk me_X12_bind 10 (.aload_n 0) 1 11 := And.intro (by decide +kernel) rfl
theorem d_X12_bind_11 : dk me_X12_bind 11 (.getfield 71) 3 14 := And.intro (by decide +kernel) rfl
theorem d_X12_bind_14 : dk me_X12_bind 14 (.iload_n 1) 1 15 := And.intro (by decide +kernel) rfl
theorem d_X12_bind_15 : dk me_X12_bind 15 (.baload) 1 16 := And.intro (by decide +kernel) rfl
theorem d_X12_bind_16 : dk me_X12_bind 16 (.ifCond .ne 7) 3 19 := And.intro (by decide +kernel) rfl
theorem d_X12_bind_19 : dk me_X12_bind 19 (.iconst 1) 1 20 := And.intro (by decide +kernel) rfl
theorem d_X12_bind_20 : dk me_X12_bind 20 (.goto 4) 3 23 := And.intro (by decide +kernel) rfl
theorem d_X12_bind_23 : dk me_X12_bind 23 (.iconst 0) 1 24 := And.intro (by decide +kernel) rfl
theorem d_X12_bind_24 : dk me_X12_bind 24 (.istore_n 3) 1 25 := And.intro (by decide +kernel) rfl
theorem d_X12_bind_25 : dk me_X12_bind 25 (.iconst 0) 1 26 := And.intro (by decide +kernel) rfl
theorem d_X12_bind_26 : dk me_X12_bind 26 (.istore 4) 2 28 := And.intro (by decide +kernel) rfl
theorem d_X12_bind_28 : dk me_X12_bind 28 (.iload_n 2) 1 29 := And.intro (by decide +kernel) rfl
theorem d_X12_bind_29 : dk me_X12_bind 29 (.ifCond .eq 48) 3 32 := And.intro (by decide +kernel) rfl
theorem d_X12_bind_32 : dk me_X12_bind 32 (.iload 4) 2 34 := And.intro (by decide +kernel) rfl
theorem d_X12_bind_34 : dk me_X12_bind 34 (.iconst 2) 1 35 := And.intro (by decide +kernel) rfl
theorem d_X12_bind_35 : dk me_X12_bind 35 (.aload_n 0) 1 36 := And.intro (by decide +kernel) rfl
theorem d_X12_bind_36 : dk me_X12_bind 36 (.getfield 56) 3 39 := And.intro (by decide +kernel) rfl
theorem d_X12_bind_39 : dk me_X12_bind 39 (.iload_n 1) 1 40 := And.intro (by decide +kernel) rfl
theorem d_X12_bind_40 : dk me_X12_bind 40 (.iaload) 1 41 := And.intro (by decide +kernel) rfl
theorem d_X12_bind_41 : dk me_X12_bind 41 (.imul) 1 42 := And.intro (by decide +kernel) rfl
theorem d_X12_bind_42 : dk me_X12_bind 42 (.if_icmp .ge 35) 3 45 := And.intro (by decide +kernel) rfl
theorem d_X12_bind_45 : dk me_X12_bind 45 (.iload_n 3) 1 46 := And.intro (by decide +kernel) rfl
theorem d_X12_bind_46 : dk me_X12_bind 46 (.ifCond .eq 23) 3 49 := And.intro (by decide +kernel) rfl
theorem d_X12_bind_49 : dk me_X12_bind 49 (.aload_n 0) 1 50 := And.intro (by decide +kernel) rfl
theorem d_X12_bind_50 : dk me_X12_bind 50 (.getfield 159) 3 53 := And.intro (by decide +kernel) rfl
theorem d_X12_bind_53 : dk me_X12_bind 53 (.bipush 8) 2 55 := And.intro (by decide +kernel) rfl
theorem d_X12_bind_55 : dk me_X12_bind 55 (.iload_n 1) 1 56 := And.intro (by decide +kernel) rfl
theorem d_X12_bind_56 : dk me_X12_bind 56 (.imul) 1 57 := And.intro (by decide +kernel) rfl
theorem d_X12_bind_57 : dk me_X12_bind 57 (.iload 4) 2 59 := And.intro (by decide +kernel) rfl
theorem d_X12_bind_59 : dk me_X12_bind 59 (.iadd) 1 60 := And.intro (by decide +kernel) rfl
theorem d_X12_bind_60 : dk me_X12_bind 60 (.iaload) 1 61 := And.intro (by decide +kernel) rfl
theorem d_X12_bind_61 : dk me_X12_bind 61 (.iconst 3) 1 62 := And.intro (by decide +kernel) rfl
theorem d_X12_bind_62 : dk me_X12_bind 62 (.if_icmp .lt 7) 3 65 := And.intro (by decide +kernel) rfl
theorem d_X12_bind_65 : dk me_X12_bind 65 (.iconst 1) 1 66 := And.intro (by decide +kernel) rfl
theorem d_X12_bind_66 : dk me_X12_bind 66 (.goto 4) 3 69 := And.intro (by decide +kernel) rfl
theorem d_X12_bind_69 : dk me_X12_bind 69 (.iconst 0) 1 70 := And.intro (by decide +kernel) rfl
theorem d_X12_bind_70 : dk me_X12_bind 70 (.istore_n 3) 1 71 := And.intro (by decide +kernel) rfl
theorem d_X12_bind_71 : dk me_X12_bind 71 (.iinc 4 1) 3 74 := And.intro (by decide +kernel) rfl
theorem d_X12_bind_74 : dk me_X12_bind 74 (.goto (-46)) 3 77 := And.intro (by decide +kernel) rfl
theorem d_X12_bind_77 : dk me_X12_bind 77 (.aload_n 0) 1 78 := And.intro (by decide +kernel) rfl
theorem d_X12_bind_78 : dk me_X12_bind 78 (.iload_n 2) 1 79 := And.intro (by decide +kernel) rfl
theorem d_X12_bind_79 : dk me_X12_bind 79 (.ifCond .ne 7) 3 82 := And.intro (by decide +kernel) rfl
theorem d_X12_bind_82 : dk me_X12_bind 82 (.iconst 1) 1 83 := And.intro (by decide +kernel) rfl
theorem d_X12_bind_83 : dk me_X12_bind 83 (.goto 12) 3 86 := And.intro (by decide +kernel) rfl
theorem d_X12_bind_86 : dk me_X12_bind 86 (.iload_n 3) 1 87 := And.intro (by decide +kernel) rfl
theorem d_X12_bind_87 : dk me_X12_bind 87 (.ifCond .eq 7) 3 90 := And.intro (by decide +kernel) rfl
theorem d_X12_bind_90 : dk me_X12_bind 90 (.iconst 0) 1 91 := And.intro (by decide +kernel) rfl
theorem d_X12_bind_91 : dk me_X12_bind 91 (.goto 4) 3 94 := And.intro (by decide +kernel) rfl
theorem d_X12_bind_94 : dk me_X12_bind 94 (.iconst 2) 1 95 := And.intro (by decide +kernel) rfl
theorem d_X12_bind_95 : dk me_X12_bind 95 (.invokevirtual 260) 3 98 := And.intro (by decide +kernel) rfl
theorem d_X12_bind_98 : dk me_X12_bind 98 (.ifCond .ne 5) 3 101 := And.intro (by decide +kernel) rfl
theorem d_X12_bind_101 : dk me_X12_bind 101 (.iconst 0) 1 102 := And.intro (by decide +kernel) rfl
theorem d_X12_bind_102 : dk me_X12_bind 102 (.ireturn) 1 103 := And.intro (by decide +kernel) rfl
theorem d_X12_bind_103 : dk me_X12_bind 103 (.aload_n 0) 1 104 := And.intro (by decide +kernel) rfl
theorem d_X12_bind_104 : dk me_X12_bind 104 (.getfield 71) 3 107 := And.intro (by decide +kernel) rfl
theorem d_X12_bind_107 : dk me_X12_bind 107 (.iload_n 1) 1 108 := And.intro (by decide +kernel) rfl
theorem d_X12_bind_108 : dk me_X12_bind 108 (.iconst 1) 1 109 := And.intro (by decide +kernel) rfl
theorem d_X12_bind_109 : dk me_X12_bind 109 (.bastore) 1 110 := And.intro (by decide +kernel) rfl
theorem d_X12_bind_110 : dk me_X12_bind 110 (.iconst 0) 1 111 := And.intro (by decide +kernel) rfl
theorem d_X12_bind_111 : dk me_X12_bind 111 (.istore 4) 2 113 := And.intro (by decide +kernel) rfl
theorem d_X12_bind_113 : dk me_X12_bind 113 (.iload 4) 2 115 := And.intro (by decide +kernel) rfl
theorem d_X12_bind_115 : dk me_X12_bind 115 (.aload_n 0) 1 116 := And.intro (by decide +kernel) rfl
theorem d_X12_bind_116 : dk me_X12_bind 116 (.getfield 65) 3 119 := And.intro (by decide +kernel) rfl
theorem d_X12_bind_119 : dk me_X12_bind 119 (.iload_n 1) 1 120 := And.intro (by decide +kernel) rfl
theorem d_X12_bind_120 : dk me_X12_bind 120 (.iaload) 1 121 := And.intro (by decide +kernel) rfl
theorem d_X12_bind_121 : dk me_X12_bind 121 (.if_icmp .ge 71) 3 124 := And.intro (by decide +kernel) rfl
theorem d_X12_bind_124 : dk me_X12_bind 124 (.iconst 0) 1 125 := And.intro (by decide +kernel) rfl
theorem d_X12_bind_125 : dk me_X12_bind 125 (.istore 5) 2 127 := And.intro (by decide +kernel) rfl
theorem d_X12_bind_127 : dk me_X12_bind 127 (.iload 5) 2 129 := And.intro (by decide +kernel) rfl
theorem d_X12_bind_129 : dk me_X12_bind 129 (.aload_n 0) 1 130 := And.intro (by decide +kernel) rfl
theorem d_X12_bind_130 : dk me_X12_bind 130 (.iload_n 1) 1 131 := And.intro (by decide +kernel) rfl
theorem d_X12_bind_131 : dk me_X12_bind 131 (.invokevirtual 243) 3 134 := And.intro (by decide +kernel) rfl
theorem d_X12_bind_134 : dk me_X12_bind 134 (.iconst 2) 1 135 := And.intro (by decide +kernel) rfl
theorem d_X12_bind_135 : dk me_X12_bind 135 (.idiv) 1 136 := And.intro (by decide +kernel) rfl
theorem d_X12_bind_136 : dk me_X12_bind 136 (.if_icmp .ge 50) 3 139 := And.intro (by decide +kernel) rfl
theorem d_X12_bind_139 : dk me_X12_bind 139 (.aload_n 0) 1 140 := And.intro (by decide +kernel) rfl
theorem d_X12_bind_140 : dk me_X12_bind 140 (.getfield 213) 3 143 := And.intro (by decide +kernel) rfl
theorem d_X12_bind_143 : dk me_X12_bind 143 (.iload_n 1) 1 144 := And.intro (by decide +kernel) rfl
theorem d_X12_bind_144 : dk me_X12_bind 144 (.iload 4) 2 146 := And.intro (by decide +kernel) rfl
theorem d_X12_bind_146 : dk me_X12_bind 146 (.iload 5) 2 148 := And.intro (by decide +kernel) rfl
theorem d_X12_bind_148 : dk me_X12_bind 148 (.invokestatic 400) 3 151 := And.intro (by decide +kernel) rfl
theorem d_X12_bind_151 : dk me_X12_bind 151 (.iload 4) 2 153 := And.intro (by decide +kernel) rfl
theorem d_X12_bind_153 : dk me_X12_bind 153 (.aload_n 0) 1 154 := And.intro (by decide +kernel) rfl
theorem d_X12_bind_154 : dk me_X12_bind 154 (.getfield 195) 3 157 := And.intro (by decide +kernel) rfl
theorem d_X12_bind_157 : dk me_X12_bind 157 (.iconst 4) 1 158 := And.intro (by decide +kernel) rfl
theorem d_X12_bind_158 : dk me_X12_bind 158 (.iload_n 1) 1 159 := And.intro (by decide +kernel) rfl
theorem d_X12_bind_159 : dk me_X12_bind 159 (.imul) 1 160 := And.intro (by decide +kernel) rfl
theorem d_X12_bind_160 : dk me_X12_bind 160 (.iload 5) 2 162 := And.intro (by decide +kernel) rfl
theorem d_X12_bind_162 : dk me_X12_bind 162 (.aload_n 0) 1 163 := And.intro (by decide +kernel) rfl
theorem d_X12_bind_163 : dk me_X12_bind 163 (.getfield 53) 3 166 := And.intro (by decide +kernel) rfl
theorem d_X12_bind_166 : dk me_X12_bind 166 (.iload_n 1) 1 167 := And.intro (by decide +kernel) rfl
theorem d_X12_bind_167 : dk me_X12_bind 167 (.iaload) 1 168 := And.intro (by decide +kernel) rfl
theorem d_X12_bind_168 : dk me_X12_bind 168 (.idiv) 1 169 := And.intro (by decide +kernel) rfl
theorem d_X12_bind_169 : dk me_X12_bind 169 (.iadd) 1 170 := And.intro (by decide +kernel) rfl
theorem d_X12_bind_170 : dk me_X12_bind 170 (.iaload) 1 171 := And.intro (by decide +kernel) rfl
theorem d_X12_bind_171 : dk me_X12_bind 171 (.iadd) 1 172 := And.intro (by decide +kernel) rfl
theorem d_X12_bind_172 : dk me_X12_bind 172 (.aload_n 0) 1 173 := And.intro (by decide +kernel) rfl
theorem d_X12_bind_173 : dk me_X12_bind 173 (.getfield 65) 3 176 := And.intro (by decide +kernel) rfl
theorem d_X12_bind_176 : dk me_X12_bind 176 (.iload_n 1) 1 177 := And.intro (by decide +kernel) rfl
theorem d_X12_bind_177 : dk me_X12_bind 177 (.iaload) 1 178 := And.intro (by decide +kernel) rfl
theorem d_X12_bind_178 : dk me_X12_bind 178 (.irem) 1 179 := And.intro (by decide +kernel) rfl
theorem d_X12_bind_179 : dk me_X12_bind 179 (.iastore) 1 180 := And.intro (by decide +kernel) rfl
theorem d_X12_bind_180 : dk me_X12_bind 180 (.iinc 5 1) 3 183 := And.intro (by decide +kernel) rfl
theorem d_X12_bind_183 : dk me_X12_bind 183 (.goto (-56)) 3 186 := And.intro (by decide +kernel) rfl
theorem d_X12_bind_186 : dk me_X12_bind 186 (.iinc 4 1) 3 189 := And.intro (by decide +kernel) rfl
theorem d_X12_bind_189 : dk me_X12_bind 189 (.goto (-76)) 3 192 := And.intro (by decide +kernel) rfl
theorem d_X12_bind_192 : dk me_X12_bind 192 (.aload_n 0) 1 193 := And.intro (by decide +kernel) rfl
theorem d_X12_bind_193 : dk me_X12_bind 193 (.getfield 65) 3 196 := And.intro (by decide +kernel) rfl
theorem d_X12_bind_196 : dk me_X12_bind 196 (.iload_n 1) 1 197 := And.intro (by decide +kernel) rfl
theorem d_X12_bind_197 : dk me_X12_bind 197 (.iaload) 1 198 := And.intro (by decide +kernel) rfl
theorem d_X12_bind_198 : dk me_X12_bind 198 (.ireturn) 1 199 := And.intro (by decide +kernel) rfl
theorem ms_X12_bind {fx : FX} {m : MM} {l0 : Nat} {l1 : Int} : MS fx me_X12_bind [aR (some (12, l0)), aI l1] m (f_X12_bind m l0 l1) := by
  refine ms_of rfl mf_X12_bind (b8 rfl) ?_
  refine s_top ?_
  show Sim fx me_X12_bind 0 [(0, aR (some (12, l0))), (1, aI l1)] [] m _
  unfold f_X12_bind
  have hj_X12_bind_0_192 : ∀ (m_192 : MM) (l0_192 : Nat) (l1_192 : Int), Sim fx me_X12_bind 192 [(0, aR (some (12, l0_192))), (1, aI l1_192)] [] m_192 ((j_X12_bind_0_192 m_192 l0_192 l1_192).bind (fun z => some z)) := by
    intro m_192 l0_192 l1_192
    unfold j_X12_bind_0_192
    exact s_aload_n d_X12_bind_192 m0_ (s_getR cf d_X12_bind_193 fl_X12_65 (s_nk fun i24 => (s_iload_n d_X12_bind_196 m1_ (s_ldN d_X12_bind_197 ka_77 rfl fun v25 => (s_iret d_X12_bind_198 rfl rfl)))))
  have hj_X12_bind_0_95 : ∀ (m_95 : MM) (l0_95 : Nat) (l1_95 : Int) (s0_95 : Nat) (s1_95 : Int), Sim fx me_X12_bind 95 [(0, aR (some (12, l0_95))), (1, aI l1_95)] [aI s1_95, aR (some (12, s0_95))] m_95 ((j_X12_bind_0_95 m_95 l0_95 l1_95 s0_95 s1_95).bind (fun z => some z)) := by
    intro m_95 l0_95 l1_95 s0_95 s1_95
    unfold j_X12_bind_0_95
    refine s_cI (r_V d_X12_bind_95 k_X12_holds w_1668 rfl rfl) ms_X12_holds (b8 rfl) rfl rfl rfl (fun _ _ _ => rfl) (fun _ _ => Or.inl rfl) fun v9 m8 => (s_if_ne (tgt := 103) d_X12_bind_98 rfl ?_ ?_)
    · refine s_aload_n d_X12_bind_103 m0_ (s_getR cf d_X12_bind_104 fl_X12_71 (s_nk fun i10 => (s_iload_n d_X12_bind_107 m1_ (s_iconst d_X12_bind_108 n_1 (s_stBl d_X12_bind_109 ka_79 rfl (by decide) fun m11 => ?_)))))
      refine s_iconst d_X12_bind_110 n_0 (s_istore (L' := [(4, aI 0), (0, aR (some (12, l0_95))), (1, aI l1_95)]) d_X12_bind_111 (b8 rfl) rfl (s_sub (subc m0_ (subc m1_ (subc m2_ sub0))) (s_lp2 (fun s => [(4, aI (s.1)), (0, aR (some (12, l0_95))), (1, aI l1_95)]) (fun s => s.2) (0, m11) fun k113 hx113 s ih0 => ?_)))
      obtain ⟨l4_113, mm_113⟩ := s
      have ih113 := ih0
      clear ih0
      try dsimp only
      unfold b_X12_bind_113
      have hj_X12_bind_113_186 : ∀ (m_186 : MM) (l4_186 : Int), Sim fx me_X12_bind 186 [(0, aR (some (12, l0_95))), (1, aI l1_95), (4, aI l4_186)] [] m_186 ((j_X12_bind_113_186 m_186 l0_95 l1_95 l4_186).bind k113) := by
        intro m_186 l4_186
        unfold j_X12_bind_113_186
        exact s_iinc (L' := [(4, aI (l4_186 + 1)), (0, aR (some (12, l0_95))), (1, aI l1_95)]) d_X12_bind_186 m2_ (b8 rfl) rfl (s_goto (tgt := 113) d_X12_bind_189 rfl (s_sub (subc m0_ (subc m1_ (subc m2_ sub0))) (s_back (ih113 ((l4_186 + 1), m_186)))))
      refine s_iload d_X12_bind_113 m0_ (s_aload_n d_X12_bind_115 m1_ (s_getR cf d_X12_bind_116 fl_X12_65 (s_nk fun i12 => (s_iload_n d_X12_bind_119 m2_ (s_ldN d_X12_bind_120 ka_77 rfl fun v13 => ?_)))))
      refine s_icmp_ge (tgt := 192) d_X12_bind_121 rfl ?_ ?_
      · exact s_exit (hx113 _) (s_sub (subc m1_ (subc m2_ sub0)) (hj_X12_bind_0_192 mm_113 l0_95 l1_95))
      refine s_iconst d_X12_bind_124 n_0 (s_istore (L' := [(5, aI 0), (4, aI l4_113), (0, aR (some (12, l0_95))), (1, aI l1_95)]) d_X12_bind_125 (b8 rfl) rfl (s_sub (subc m0_ (subc m2_ (subc m3_ (subc m1_ sub0)))) (s_lp2 (fun s => [(5, aI (s.1)), (0, aR (some (12, l0_95))), (1, aI l1_95), (4, aI l4_113)]) (fun s => s.2) (0, mm_113) fun k127 hx127 s ih0 => ?_)))
      obtain ⟨l5_127, mm_127⟩ := s
      have ih127 := ih0
      clear ih0
      try dsimp only
      unfold b_X12_bind_127
      refine s_iload d_X12_bind_127 m0_ (s_aload_n d_X12_bind_129 m1_ (s_iload_n d_X12_bind_130 m2_ (s_pI (r_V d_X12_bind_131 k_X12_pagesOf w_1755 rfl rfl) ms_X12_pagesOf (b8 rfl) rfl rfl rfl fun v14 => (s_iconst d_X12_bind_134 n_2 (s_idiv d_X12_bind_135 ?_)))))
      refine s_icmp_ge (tgt := 186) d_X12_bind_136 rfl ?_ ?_
      · exact s_exit (hx127 _) (s_sub (subc m1_ (subc m2_ (subc m3_ sub0))) (hj_X12_bind_113_186 mm_127 l4_113))
      refine s_aload_n d_X12_bind_139 m1_ (s_getR cf d_X12_bind_140 fl_X12_213 (s_nk fun i15 => (s_iload_n d_X12_bind_143 m2_ (s_iload d_X12_bind_144 m3_ (s_iload d_X12_bind_146 m0_ ?_)))))
      refine s_pI (r_S d_X12_bind_148 k_X12_leafAt w_1933 rfl rfl) ms_X12_leafAt (b8 rfl) rfl rfl rfl fun v16 => (s_iload d_X12_bind_151 m3_ (s_aload_n d_X12_bind_153 m1_ (s_getR cf d_X12_bind_154 fl_X12_195 (s_nk fun i17 => (s_iconst d_X12_bind_157 n_4 ?_)))))
      refine s_iload_n d_X12_bind_158 m2_ (s_imul d_X12_bind_159 rfl rfl (s_iload d_X12_bind_160 m0_ (s_aload_n d_X12_bind_162 m1_ (s_getR cf d_X12_bind_163 fl_X12_53 (s_nk fun i18 => ?_)))))
      refine s_iload_n d_X12_bind_166 m2_ (s_ldN d_X12_bind_167 ka_73 rfl fun v19 => (s_idiv d_X12_bind_168 (s_iadd d_X12_bind_169 rfl rfl (s_ldN d_X12_bind_170 ka_120 rfl fun v20 => (s_iadd d_X12_bind_171 rfl rfl ?_)))))
      refine s_aload_n d_X12_bind_172 m1_ (s_getR cf d_X12_bind_173 fl_X12_65 (s_nk fun i21 => (s_iload_n d_X12_bind_176 m2_ (s_ldN d_X12_bind_177 ka_77 rfl fun v22 => (s_ck1 ?_)))))
      exact s_irem d_X12_bind_178 (s_stN d_X12_bind_179 ka_126 rfl fun m23 => (s_iinc (L' := [(5, aI (l5_127 + 1)), (0, aR (some (12, l0_95))), (1, aI l1_95), (4, aI l4_113)]) d_X12_bind_180 m0_ (b8 rfl) rfl (s_goto (tgt := 127) d_X12_bind_183 rfl (s_sub (subc m0_ (subc m1_ (subc m2_ (subc m3_ sub0)))) (s_back (ih127 ((l5_127 + 1), m23)))))))
    exact s_iconst d_X12_bind_101 n_0 (s_iret d_X12_bind_102 rfl rfl)
  have hj_X12_bind_0_77 : ∀ (m_77 : MM) (l0_77 : Nat) (l1_77 : Int) (l2_77 : Int) (l3_77 : Int), Sim fx me_X12_bind 77 [(0, aR (some (12, l0_77))), (1, aI l1_77), (2, aI l2_77), (3, aI l3_77)] [] m_77 ((j_X12_bind_0_77 m_77 l0_77 l1_77 l2_77 l3_77).bind (fun z => some z)) := by
    intro m_77 l0_77 l1_77 l2_77 l3_77
    unfold j_X12_bind_0_77
    refine s_aload_n d_X12_bind_77 m0_ (s_iload_n d_X12_bind_78 m2_ (s_if_ne (tgt := 86) d_X12_bind_79 rfl ?_ ?_))
    · refine s_iload_n d_X12_bind_86 m3_ (s_if_eq (tgt := 94) d_X12_bind_87 rfl ?_ ?_)
      · exact s_iconst d_X12_bind_94 n_2 (s_sub (subc m0_ (subc m1_ sub0)) (hj_X12_bind_0_95 m_77 l0_77 l1_77 l0_77 2))
      exact s_iconst d_X12_bind_90 n_0 (s_goto (tgt := 95) d_X12_bind_91 rfl (s_sub (subc m0_ (subc m1_ sub0)) (hj_X12_bind_0_95 m_77 l0_77 l1_77 l0_77 0)))
    exact s_iconst d_X12_bind_82 n_1 (s_goto (tgt := 95) d_X12_bind_83 rfl (s_sub (subc m0_ (subc m1_ sub0)) (hj_X12_bind_0_95 m_77 l0_77 l1_77 l0_77 1)))
  have hj_X12_bind_0_24 : ∀ (m_24 : MM) (l0_24 : Nat) (l1_24 : Int) (l2_24 : Int) (s0_24 : Int), Sim fx me_X12_bind 24 [(0, aR (some (12, l0_24))), (1, aI l1_24), (2, aI l2_24)] [aI s0_24] m_24 ((j_X12_bind_0_24 m_24 l0_24 l1_24 l2_24 s0_24).bind (fun z => some z)) := by
    intro m_24 l0_24 l1_24 l2_24 s0_24
    unfold j_X12_bind_0_24
    refine s_istore_n (L' := [(3, aI s0_24), (0, aR (some (12, l0_24))), (1, aI l1_24), (2, aI l2_24)]) d_X12_bind_24 (b8 rfl) rfl (s_iconst d_X12_bind_25 n_0 (s_istore (L' := [(4, aI 0), (3, aI s0_24), (0, aR (some (12, l0_24))), (1, aI l1_24), (2, aI l2_24)]) d_X12_bind_26 (b8 rfl) rfl (s_sub (subc m1_ (subc m0_ (subc m2_ (subc m3_ (subc m4_ sub0))))) (s_lp2 (fun s => [(3, aI (s.1)), (4, aI (s.2)), (0, aR (some (12, l0_24))), (1, aI l1_24), (2, aI l2_24)]) (fun s => m_24) (s0_24, 0) fun k28 hx28 s ih0 => ?_))))
    obtain ⟨l3_28, l4_28⟩ := s
    have ih28 := ih0
    clear ih0
    try dsimp only
    unfold b_X12_bind_28
    refine s_iload_n d_X12_bind_28 m4_ (s_if_eq (tgt := 77) d_X12_bind_29 rfl ?_ ?_)
    · exact s_exit (hx28 _) (s_sub (subc m2_ (subc m3_ (subc m4_ (subc m0_ sub0)))) (hj_X12_bind_0_77 m_24 l0_24 l1_24 l2_24 l3_28))
    refine s_iload d_X12_bind_32 m1_ (s_iconst d_X12_bind_34 n_2 (s_aload_n d_X12_bind_35 m2_ (s_getR cf d_X12_bind_36 fl_X12_56 (s_nk fun i4 => (s_iload_n d_X12_bind_39 m3_ ?_)))))
    refine s_ldN d_X12_bind_40 ka_74 rfl fun v5 => (s_imul d_X12_bind_41 rfl rfl (s_ck (s_icmp_ge (tgt := 77) d_X12_bind_42 rfl ?_ ?_)))
    · exact s_exit (hx28 _) (s_sub (subc m2_ (subc m3_ (subc m4_ (subc m0_ sub0)))) (hj_X12_bind_0_77 m_24 l0_24 l1_24 l2_24 l3_28))
    refine s_iload_n d_X12_bind_45 m0_ (s_if_eq (tgt := 69) d_X12_bind_46 rfl ?_ ?_)
    · exact s_iconst d_X12_bind_69 n_0 (s_istore_n (L' := [(3, aI 0), (4, aI l4_28), (0, aR (some (12, l0_24))), (1, aI l1_24), (2, aI l2_24)]) d_X12_bind_70 (b8 rfl) rfl (s_iinc (L' := [(4, aI (l4_28 + 1)), (3, aI 0), (0, aR (some (12, l0_24))), (1, aI l1_24), (2, aI l2_24)]) d_X12_bind_71 m1_ (b8 rfl) rfl (s_goto (tgt := 28) d_X12_bind_74 rfl (s_sub (subc m1_ (subc m0_ (subc m2_ (subc m3_ (subc m4_ sub0))))) (s_back (ih28 (0, (l4_28 + 1))))))))
    refine s_aload_n d_X12_bind_49 m2_ (s_getR cf d_X12_bind_50 fl_X12_159 (s_nk fun i6 => (s_bipush d_X12_bind_53 n_8 rfl (s_iload_n d_X12_bind_55 m3_ (s_imul d_X12_bind_56 rfl rfl ?_)))))
    refine s_iload d_X12_bind_57 m1_ (s_iadd d_X12_bind_59 rfl rfl (s_ldN d_X12_bind_60 ka_108 rfl fun v7 => (s_iconst d_X12_bind_61 n_3 (s_icmp_lt (tgt := 69) d_X12_bind_62 rfl ?_ ?_))))
    · exact s_iconst d_X12_bind_69 n_0 (s_istore_n (L' := [(3, aI 0), (4, aI l4_28), (0, aR (some (12, l0_24))), (1, aI l1_24), (2, aI l2_24)]) d_X12_bind_70 (b8 rfl) rfl (s_iinc (L' := [(4, aI (l4_28 + 1)), (3, aI 0), (0, aR (some (12, l0_24))), (1, aI l1_24), (2, aI l2_24)]) d_X12_bind_71 m1_ (b8 rfl) rfl (s_goto (tgt := 28) d_X12_bind_74 rfl (s_sub (subc m1_ (subc m0_ (subc m2_ (subc m3_ (subc m4_ sub0))))) (s_back (ih28 (0, (l4_28 + 1))))))))
    exact s_iconst d_X12_bind_65 n_1 (s_goto (tgt := 70) d_X12_bind_66 rfl (s_istore_n (L' := [(3, aI 1), (4, aI l4_28), (0, aR (some (12, l0_24))), (1, aI l1_24), (2, aI l2_24)]) d_X12_bind_70 (b8 rfl) rfl (s_iinc (L' := [(4, aI (l4_28 + 1)), (3, aI 1), (0, aR (some (12, l0_24))), (1, aI l1_24), (2, aI l2_24)]) d_X12_bind_71 m1_ (b8 rfl) rfl (s_goto (tgt := 28) d_X12_bind_74 rfl (s_sub (subc m1_ (subc m0_ (subc m2_ (subc m3_ (subc m4_ sub0))))) (s_back (ih28 (1, (l4_28 + 1)))))))))
  have hj_X12_bind_0_23 : ∀ (m_23 : MM) (l0_23 : Nat) (l1_23 : Int) (l2_23 : Int), Sim fx me_X12_bind 23 [(0, aR (some (12, l0_23))), (1, aI l1_23), (2, aI l2_23)] [] m_23 ((j_X12_bind_0_23 m_23 l0_23 l1_23 l2_23).bind (fun z => some z)) := by
    intro m_23 l0_23 l1_23 l2_23
    unfold j_X12_bind_0_23
    exact s_iconst d_X12_bind_23 n_0 (s_sub (subc m0_ (subc m1_ (subc m2_ sub0))) (hj_X12_bind_0_24 m_23 l0_23 l1_23 l2_23 0))
  refine s_aload_n d_X12_bind_0 m0_ (s_iload_n d_X12_bind_1 m1_ (s_pI (r_V d_X12_bind_2 k_X12_isBook w_1747 rfl rfl) ms_X12_isBook (b8 rfl) rfl rfl rfl fun v1 => (s_istore_n (L' := [(2, aI v1), (0, aR (some (12, l0))), (1, aI l1)]) d_X12_bind_5 (b8 rfl) rfl (s_iload_n d_X12_bind_6 m0_ (s_if_eq (tgt := 23) d_X12_bind_7 rfl ?_ ?_)))))
  · exact s_sub (subc m1_ (subc m2_ (subc m0_ sub0))) (hj_X12_bind_0_23 m l0 l1 v1)
  refine s_aload_n d_X12_bind_10 m1_ (s_getR cf d_X12_bind_11 fl_X12_71 (s_nk fun i2 => (s_iload_n d_X12_bind_14 m2_ (s_ldB d_X12_bind_15 ka_79 rfl fun v3 => (s_if_ne (tgt := 23) d_X12_bind_16 rfl ?_ ?_)))))
  · exact s_sub (subc m1_ (subc m2_ (subc m0_ sub0))) (hj_X12_bind_0_23 m l0 l1 v1)
  exact s_iconst d_X12_bind_19 n_1 (s_goto (tgt := 24) d_X12_bind_20 rfl (s_sub (subc m1_ (subc m2_ (subc m0_ sub0))) (hj_X12_bind_0_24 m l0 l1 v1 1)))
theorem d_X12_book_0 : dk me_X12_book 0 (.iload_n 1) 1 1 := And.intro (by decide +kernel) rfl
theorem d_X12_book_1 : dk me_X12_book 1 (.iconst 2) 1 2 := And.intro (by decide +kernel) rfl
theorem d_X12_book_2 : dk me_X12_book 2 (.if_icmp .eq 14) 3 5 := And.intro (by decide +kernel) rfl
theorem d_X12_book_5 : dk me_X12_book 5 (.iload_n 1) 1 6 := And.intro (by decide +kernel) rfl
theorem d_X12_book_6 : dk me_X12_book 6 (.iconst 4) 1 7 := And.intro (by decide +kernel) rfl
theorem d_X12_book_7 : dk me_X12_book 7 (.if_icmp .eq 9) 3 10 := And.intro (by decide +kernel) rfl
theorem d_X12_book_10 : dk me_X12_book 10 (.iload_n 1) 1 11 := And.intro (by decide +kernel) rfl
theorem d_X12_book_11 : dk me_X12_book 11 (.bipush 8) 2 13 := And.intro (by decide +kernel) rfl
theorem d_X12_book_13 : dk me_X12_book 13 (.if_icmp .ne 7) 3 16 := And.intro (by decide +kernel) rfl
theorem d_X12_book_16 : dk me_X12_book 16 (.iconst 1) 1 17 := And.intro (by decide +kernel) rfl
theorem d_X12_book_17 : dk me_X12_book 17 (.goto 4) 3 20 := And.intro (by decide +kernel) rfl
theorem d_X12_book_20 : dk me_X12_book 20 (.iconst 0) 1 21 := And.intro (by decide +kernel) rfl
theorem d_X12_book_21 : dk me_X12_book 21 (.istore 6) 2 23 := And.intro (by decide +kernel) rfl
theorem d_X12_book_23 : dk me_X12_book 23 (.iload 6) 2 25 := And.intro (by decide +kernel) rfl
theorem d_X12_book_25 : dk me_X12_book 25 (.ifCond .eq 52) 3 28 := And.intro (by decide +kernel) rfl
theorem d_X12_book_28 : dk me_X12_book 28 (.iload_n 2) 1 29 := And.intro (by decide +kernel) rfl
theorem d_X12_book_29 : dk me_X12_book 29 (.iconst 1) 1 30 := And.intro (by decide +kernel) rfl
theorem d_X12_book_30 : dk me_X12_book 30 (.bipush 8) 2 32 := And.intro (by decide +kernel) rfl
theorem d_X12_book_32 : dk me_X12_book 32 (.iload_n 1) 1 33 := And.intro (by decide +kernel) rfl
theorem d_X12_book_33 : dk me_X12_book 33 (.idiv) 1 34 := And.intro (by decide +kernel) rfl
theorem d_X12_book_34 : dk me_X12_book 34 (.invokestatic 235) 3 37 := And.intro (by decide +kernel) rfl
theorem d_X12_book_37 : dk me_X12_book 37 (.ifCond .eq 40) 3 40 := And.intro (by decide +kernel) rfl
theorem d_X12_book_40 : dk me_X12_book 40 (.iload_n 3) 1 41 := And.intro (by decide +kernel) rfl
theorem d_X12_book_41 : dk me_X12_book 41 (.bipush 10) 2 43 := And.intro (by decide +kernel) rfl
theorem d_X12_book_43 : dk me_X12_book 43 (.bipush 24) 2 45 := And.intro (by decide +kernel) rfl
theorem d_X12_book_45 : dk me_X12_book 45 (.invokestatic 235) 3 48 := And.intro (by decide +kernel) rfl
theorem d_X12_book_48 : dk me_X12_book 48 (.ifCond .eq 29) 3 51 := And.intro (by decide +kernel) rfl
theorem d_X12_book_51 : dk me_X12_book 51 (.iload 4) 2 53 := And.intro (by decide +kernel) rfl
theorem d_X12_book_53 : dk me_X12_book 53 (.iconst 1) 1 54 := And.intro (by decide +kernel) rfl
theorem d_X12_book_54 : dk me_X12_book 54 (.bipush 6) 2 56 := And.intro (by decide +kernel) rfl
theorem d_X12_book_56 : dk me_X12_book 56 (.invokestatic 235) 3 59 := And.intro (by decide +kernel) rfl
theorem d_X12_book_59 : dk me_X12_book 59 (.ifCond .eq 18) 3 62 := And.intro (by decide +kernel) rfl
theorem d_X12_book_62 : dk me_X12_book 62 (.iload 5) 2 64 := And.intro (by decide +kernel) rfl
theorem d_X12_book_64 : dk me_X12_book 64 (.iconst 2) 1 65 := And.intro (by decide +kernel) rfl
theorem d_X12_book_65 : dk me_X12_book 65 (.bipush 24) 2 67 := And.intro (by decide +kernel) rfl
theorem d_X12_book_67 : dk me_X12_book 67 (.invokestatic 235) 3 70 := And.intro (by decide +kernel) rfl
theorem d_X12_book_70 : dk me_X12_book 70 (.ifCond .eq 7) 3 73 := And.intro (by decide +kernel) rfl
theorem d_X12_book_73 : dk me_X12_book 73 (.iconst 1) 1 74 := And.intro (by decide +kernel) rfl
theorem d_X12_book_74 : dk me_X12_book 74 (.goto 4) 3 77 := And.intro (by decide +kernel) rfl
theorem d_X12_book_77 : dk me_X12_book 77 (.iconst 0) 1 78 := And.intro (by decide +kernel) rfl
theorem d_X12_book_78 : dk me_X12_book 78 (.istore 7) 2 80 := And.intro (by decide +kernel) rfl
theorem d_X12_book_80 : dk me_X12_book 80 (.aload_n 0) 1 81 := And.intro (by decide +kernel) rfl
theorem d_X12_book_81 : dk me_X12_book 81 (.iload 7) 2 83 := And.intro (by decide +kernel) rfl
theorem d_X12_book_83 : dk me_X12_book 83 (.ifCond .ne 7) 3 86 := And.intro (by decide +kernel) rfl
theorem d_X12_book_86 : dk me_X12_book 86 (.iconst 1) 1 87 := And.intro (by decide +kernel) rfl
theorem d_X12_book_87 : dk me_X12_book 87 (.goto 16) 3 90 := And.intro (by decide +kernel) rfl
theorem d_X12_book_90 : dk me_X12_book 90 (.aload_n 0) 1 91 := And.intro (by decide +kernel) rfl
theorem d_X12_book_91 : dk me_X12_book 91 (.getfield 232) 3 94 := And.intro (by decide +kernel) rfl
theorem d_X12_book_94 : dk me_X12_book 94 (.iconst 3) 1 95 := And.intro (by decide +kernel) rfl
theorem d_X12_book_95 : dk me_X12_book 95 (.if_icmp .ne 7) 3 98 := And.intro (by decide +kernel) rfl
theorem d_X12_book_98 : dk me_X12_book 98 (.iconst 2) 1 99 := And.intro (by decide +kernel) rfl
theorem d_X12_book_99 : dk me_X12_book 99 (.goto 4) 3 102 := And.intro (by decide +kernel) rfl
theorem d_X12_book_102 : dk me_X12_book 102 (.iconst 0) 1 103 := And.intro (by decide +kernel) rfl
theorem d_X12_book_103 : dk me_X12_book 103 (.invokevirtual 260) 3 106 := And.intro (by decide +kernel) rfl
theorem d_X12_book_106 : dk me_X12_book 106 (.ifCond .ne 5) 3 109 := And.intro (by decide +kernel) rfl
theorem d_X12_book_109 : dk me_X12_book 109 (.iconst 0) 1 110 := And.intro (by decide +kernel) rfl
theorem d_X12_book_110 : dk me_X12_book 110 (.ireturn) 1 111 := And.intro (by decide +kernel) rfl
theorem d_X12_book_111 : dk me_X12_book 111 (.aload_n 0) 1 112 := And.intro (by decide +kernel) rfl
theorem d_X12_book_112 : dk me_X12_book 112 (.getfield 53) 3 115 := And.intro (by decide +kernel) rfl
theorem d_X12_book_115 : dk me_X12_book 115 (.aload_n 0) 1 116 := And.intro (by decide +kernel) rfl
theorem d_X12_book_116 : dk me_X12_book 116 (.getfield 232) 3 119 := And.intro (by decide +kernel) rfl
theorem d_X12_book_119 : dk me_X12_book 119 (.iload_n 1) 1 120 := And.intro (by decide +kernel) rfl
theorem d_X12_book_120 : dk me_X12_book 120 (.iastore) 1 121 := And.intro (by decide +kernel) rfl
theorem d_X12_book_121 : dk me_X12_book 121 (.aload_n 0) 1 122 := And.intro (by decide +kernel) rfl
theorem d_X12_book_122 : dk me_X12_book 122 (.getfield 56) 3 125 := And.intro (by decide +kernel) rfl
theorem d_X12_book_125 : dk me_X12_book 125 (.aload_n 0) 1 126 := And.intro (by decide +kernel) rfl
theorem d_X12_book_126 : dk me_X12_book 126 (.getfield 232) 3 129 := And.intro (by decide +kernel) rfl
theorem d_X12_book_129 : dk me_X12_book 129 (.iload_n 2) 1 130 := And.intro (by decide +kernel) rfl
theorem d_X12_book_130 : dk me_X12_book 130 (.iastore) 1 131 := And.intro (by decide +kernel) rfl
theorem d_X12_book_131 : dk me_X12_book 131 (.aload_n 0) 1 132 := And.intro (by decide +kernel) rfl
theorem d_X12_book_132 : dk me_X12_book 132 (.getfield 59) 3 135 := And.intro (by decide +kernel) rfl
theorem d_X12_book_135 : dk me_X12_book 135 (.aload_n 0) 1 136 := And.intro (by decide +kernel) rfl
theorem d_X12_book_136 : dk me_X12_book 136 (.getfield 232) 3 139 := And.intro (by decide +kernel) rfl
theorem d_X12_book_139 : dk me_X12_book 139 (.iload_n 3) 1 140 := And.intro (by decide +kernel) rfl
theorem d_X12_book_140 : dk me_X12_book 140 (.iastore) 1 141 := And.intro (by decide +kernel) rfl
theorem d_X12_book_141 : dk me_X12_book 141 (.aload_n 0) 1 142 := And.intro (by decide +kernel) rfl
theorem d_X12_book_142 : dk me_X12_book 142 (.getfield 62) 3 145 := And.intro (by decide +kernel) rfl
theorem d_X12_book_145 : dk me_X12_book 145 (.aload_n 0) 1 146 := And.intro (by decide +kernel) rfl
theorem d_X12_book_146 : dk me_X12_book 146 (.getfield 232) 3 149 := And.intro (by decide +kernel) rfl
theorem d_X12_book_149 : dk me_X12_book 149 (.iload 4) 2 151 := And.intro (by decide +kernel) rfl
theorem d_X12_book_151 : dk me_X12_book 151 (.iastore) 1 152 := And.intro (by decide +kernel) rfl
theorem d_X12_book_152 : dk me_X12_book 152 (.aload_n 0) 1 153 := And.intro (by decide +kernel) rfl
theorem d_X12_book_153 : dk me_X12_book 153 (.getfield 65) 3 156 := And.intro (by decide +kernel) rfl
theorem d_X12_book_156 : dk me_X12_book 156 (.aload_n 0) 1 157 := And.intro (by decide +kernel) rfl
theorem d_X12_book_157 : dk me_X12_book 157 (.getfield 232) 3 160 := And.intro (by decide +kernel) rfl
theorem d_X12_book_160 : dk me_X12_book 160 (.iload 5) 2 162 := And.intro (by decide +kernel) rfl
theorem d_X12_book_162 : dk me_X12_book 162 (.iastore) 1 163 := And.intro (by decide +kernel) rfl
theorem d_X12_book_163 : dk me_X12_book 163 (.aload_n 0) 1 164 := And.intro (by decide +kernel) rfl
theorem d_X12_book_164 : dk me_X12_book 164 (.dup) 1 165 := And.intro (by decide +kernel) rfl
theorem d_X12_book_165 : dk me_X12_book 165 (.getfield 232) 3 168 := And.intro (by decide +kernel) rfl
theorem d_X12_book_168 : dk me_X12_book 168 (.iconst 1) 1 169 := And.intro (by decide +kernel) rfl
theorem d_X12_book_169 : dk me_X12_book 169 (.iadd) 1 170 := And.intro (by decide +kernel) rfl
theorem d_X12_book_170 : dk me_X12_book 170 (.putfield 232) 3 173 := And.intro (by decide +kernel) rfl
theorem d_X12_book_173 : dk me_X12_book 173 (.aload_n 0) 1 174 := And.intro (by decide +kernel) rfl
theorem d_X12_book_174 : dk me_X12_book 174 (.getfield 232) 3 177 := And.intro (by decide +kernel) rfl
theorem d_X12_book_177 : dk me_X12_book 177 (.iconst 1) 1 178 := And.intro (by decide +kernel) rfl
theorem d_X12_book_178 : dk me_X12_book 178 (.isub) 1 179 := And.intro (by decide +kernel) rfl
theorem d_X12_book_179 : dk me_X12_book 179 (.ireturn) 1 180 := And.intro (by decide +kernel) rfl
theorem ms_X12_book {fx : FX} {m : MM} {l0 : Nat} {l1 : Int} {l2 : Int} {l3 : Int} {l4 : Int} {l5 : Int} : MS fx me_X12_book [aR (some (12, l0)), aI l1, aI l2, aI l3, aI l4, aI l5] m (f_X12_book m l0 l1 l2 l3 l4 l5) := by
  refine ms_of rfl mf_X12_book (b8 rfl) ?_
  refine s_top ?_
  show Sim fx me_X12_book 0 [(0, aR (some (12, l0))), (1, aI l1), (2, aI l2), (3, aI l3), (4, aI l4), (5, aI l5)] [] m _
  unfold f_X12_book
  have hj_X12_book_0_103 : ∀ (m_103 : MM) (l0_103 : Nat) (l1_103 : Int) (l2_103 : Int) (l3_103 : Int) (l4_103 : Int) (l5_103 : Int) (s0_103 : Nat) (s1_103 : Int), Sim fx me_X12_book 103 [(0, aR (some (12, l0_103))), (1, aI l1_103), (2, aI l2_103), (3, aI l3_103), (4, aI l4_103), (5, aI l5_103)] [aI s1_103, aR (some (12, s0_103))] m_103 ((j_X12_book_0_103 m_103 l0_103 l1_103 l2_103 l3_103 l4_103 l5_103 s0_103 s1_103).bind (fun z => some z)) := by
    intro m_103 l0_103 l1_103 l2_103 l3_103 l4_103 l5_103 s0_103 s1_103
    unfold j_X12_book_0_103
    refine s_cI (r_V d_X12_book_103 k_X12_holds w_1668 rfl rfl) ms_X12_holds (b8 rfl) rfl rfl rfl (fun _ _ _ => rfl) (fun _ _ => Or.inl rfl) fun v6 m5 => (s_if_ne (tgt := 111) d_X12_book_106 rfl ?_ ?_)
    · refine s_aload_n d_X12_book_111 m0_ (s_getR cf d_X12_book_112 fl_X12_53 (s_nk fun i7 => (s_aload_n d_X12_book_115 m0_ (s_getN cf d_X12_book_116 fl_X12_232 (s_iload_n d_X12_book_119 m1_ ?_)))))
      refine s_stN d_X12_book_120 ka_73 rfl fun m8 => (s_aload_n d_X12_book_121 m0_ (s_getR cf d_X12_book_122 fl_X12_56 (s_nk fun i9 => (s_aload_n d_X12_book_125 m0_ (s_getN cf d_X12_book_126 fl_X12_232 ?_)))))
      refine s_iload_n d_X12_book_129 m2_ (s_stN d_X12_book_130 ka_74 rfl fun m10 => (s_aload_n d_X12_book_131 m0_ (s_getR cf d_X12_book_132 fl_X12_59 (s_nk fun i11 => (s_aload_n d_X12_book_135 m0_ ?_)))))
      refine s_getN cf d_X12_book_136 fl_X12_232 (s_iload_n d_X12_book_139 m3_ (s_stN d_X12_book_140 ka_75 rfl fun m12 => (s_aload_n d_X12_book_141 m0_ (s_getR cf d_X12_book_142 fl_X12_62 (s_nk fun i13 => ?_)))))
      refine s_aload_n d_X12_book_145 m0_ (s_getN cf d_X12_book_146 fl_X12_232 (s_iload d_X12_book_149 m4_ (s_stN d_X12_book_151 ka_76 rfl fun m14 => (s_aload_n d_X12_book_152 m0_ (s_getR cf d_X12_book_153 fl_X12_65 ?_)))))
      refine s_nk fun i15 => (s_aload_n d_X12_book_156 m0_ (s_getN cf d_X12_book_157 fl_X12_232 (s_iload d_X12_book_160 m5_ (s_stN d_X12_book_162 ka_77 rfl fun m16 => (s_aload_n d_X12_book_163 m0_ ?_)))))
      refine s_dup d_X12_book_164 rfl (s_getN cf d_X12_book_165 fl_X12_232 (s_iconst d_X12_book_168 n_1 (s_iadd d_X12_book_169 rfl rfl (s_ck (s_putN cf d_X12_book_170 fl_X12_232 (fun h => by cases h) fun m17 => ?_)))))
      exact s_aload_n d_X12_book_173 m0_ (s_getN cf d_X12_book_174 fl_X12_232 (s_iconst d_X12_book_177 n_1 (s_isub d_X12_book_178 rfl rfl (s_ck (s_iret d_X12_book_179 rfl rfl)))))
    exact s_iconst d_X12_book_109 n_0 (s_iret d_X12_book_110 rfl rfl)
  have hj_X12_book_0_78 : ∀ (m_78 : MM) (l0_78 : Nat) (l1_78 : Int) (l2_78 : Int) (l3_78 : Int) (l4_78 : Int) (l5_78 : Int) (s0_78 : Int), Sim fx me_X12_book 78 [(0, aR (some (12, l0_78))), (1, aI l1_78), (2, aI l2_78), (3, aI l3_78), (4, aI l4_78), (5, aI l5_78)] [aI s0_78] m_78 ((j_X12_book_0_78 m_78 l0_78 l1_78 l2_78 l3_78 l4_78 l5_78 s0_78).bind (fun z => some z)) := by
    intro m_78 l0_78 l1_78 l2_78 l3_78 l4_78 l5_78 s0_78
    unfold j_X12_book_0_78
    refine s_istore (L' := [(7, aI s0_78), (0, aR (some (12, l0_78))), (1, aI l1_78), (2, aI l2_78), (3, aI l3_78), (4, aI l4_78), (5, aI l5_78)]) d_X12_book_78 (b8 rfl) rfl (s_aload_n d_X12_book_80 m1_ (s_iload d_X12_book_81 m0_ (s_if_ne (tgt := 90) d_X12_book_83 rfl ?_ ?_)))
    · refine s_aload_n d_X12_book_90 m1_ (s_getN cf d_X12_book_91 fl_X12_232 (s_iconst d_X12_book_94 n_3 (s_icmp_ne (tgt := 102) d_X12_book_95 rfl ?_ ?_)))
      · exact s_iconst d_X12_book_102 n_0 (s_sub (subc m1_ (subc m2_ (subc m3_ (subc m4_ (subc m5_ (subc m6_ sub0)))))) (hj_X12_book_0_103 m_78 l0_78 l1_78 l2_78 l3_78 l4_78 l5_78 l0_78 0))
      exact s_iconst d_X12_book_98 n_2 (s_goto (tgt := 103) d_X12_book_99 rfl (s_sub (subc m1_ (subc m2_ (subc m3_ (subc m4_ (subc m5_ (subc m6_ sub0)))))) (hj_X12_book_0_103 m_78 l0_78 l1_78 l2_78 l3_78 l4_78 l5_78 l0_78 2)))
    exact s_iconst d_X12_book_86 n_1 (s_goto (tgt := 103) d_X12_book_87 rfl (s_sub (subc m1_ (subc m2_ (subc m3_ (subc m4_ (subc m5_ (subc m6_ sub0)))))) (hj_X12_book_0_103 m_78 l0_78 l1_78 l2_78 l3_78 l4_78 l5_78 l0_78 1)))
  have hj_X12_book_0_77 : ∀ (m_77 : MM) (l0_77 : Nat) (l1_77 : Int) (l2_77 : Int) (l3_77 : Int) (l4_77 : Int) (l5_77 : Int), Sim fx me_X12_book 77 [(0, aR (some (12, l0_77))), (1, aI l1_77), (2, aI l2_77), (3, aI l3_77), (4, aI l4_77), (5, aI l5_77)] [] m_77 ((j_X12_book_0_77 m_77 l0_77 l1_77 l2_77 l3_77 l4_77 l5_77).bind (fun z => some z)) := by
    intro m_77 l0_77 l1_77 l2_77 l3_77 l4_77 l5_77
    unfold j_X12_book_0_77
    exact s_iconst d_X12_book_77 n_0 (s_sub (subc m0_ (subc m1_ (subc m2_ (subc m3_ (subc m4_ (subc m5_ sub0)))))) (hj_X12_book_0_78 m_77 l0_77 l1_77 l2_77 l3_77 l4_77 l5_77 0))
  have hj_X12_book_0_21 : ∀ (m_21 : MM) (l0_21 : Nat) (l1_21 : Int) (l2_21 : Int) (l3_21 : Int) (l4_21 : Int) (l5_21 : Int) (s0_21 : Int), Sim fx me_X12_book 21 [(0, aR (some (12, l0_21))), (1, aI l1_21), (2, aI l2_21), (3, aI l3_21), (4, aI l4_21), (5, aI l5_21)] [aI s0_21] m_21 ((j_X12_book_0_21 m_21 l0_21 l1_21 l2_21 l3_21 l4_21 l5_21 s0_21).bind (fun z => some z)) := by
    intro m_21 l0_21 l1_21 l2_21 l3_21 l4_21 l5_21 s0_21
    unfold j_X12_book_0_21
    refine s_istore (L' := [(6, aI s0_21), (0, aR (some (12, l0_21))), (1, aI l1_21), (2, aI l2_21), (3, aI l3_21), (4, aI l4_21), (5, aI l5_21)]) d_X12_book_21 (b8 rfl) rfl (s_iload d_X12_book_23 m0_ (s_if_eq (tgt := 77) d_X12_book_25 rfl ?_ ?_))
    · exact s_sub (subc m1_ (subc m2_ (subc m3_ (subc m4_ (subc m5_ (subc m6_ sub0)))))) (hj_X12_book_0_77 m_21 l0_21 l1_21 l2_21 l3_21 l4_21 l5_21)
    refine s_iload_n d_X12_book_28 m3_ (s_iconst d_X12_book_29 n_1 (s_bipush d_X12_book_30 n_8 rfl (s_iload_n d_X12_book_32 m2_ (s_idiv d_X12_book_33 (s_pI (r_S d_X12_book_34 k_X12_isIn w_1664 rfl rfl) ms_X12_isIn (b8 rfl) rfl rfl rfl fun v1 => ?_)))))
    refine s_if_eq (tgt := 77) d_X12_book_37 rfl ?_ ?_
    · exact s_sub (subc m1_ (subc m2_ (subc m3_ (subc m4_ (subc m5_ (subc m6_ sub0)))))) (hj_X12_book_0_77 m_21 l0_21 l1_21 l2_21 l3_21 l4_21 l5_21)
    refine s_iload_n d_X12_book_40 m4_ (s_bipush d_X12_book_41 n_10 rfl (s_bipush d_X12_book_43 n_24 rfl (s_pI (r_S d_X12_book_45 k_X12_isIn w_1664 rfl rfl) ms_X12_isIn (b8 rfl) rfl rfl rfl fun v2 => (s_if_eq (tgt := 77) d_X12_book_48 rfl ?_ ?_))))
    · exact s_sub (subc m1_ (subc m2_ (subc m3_ (subc m4_ (subc m5_ (subc m6_ sub0)))))) (hj_X12_book_0_77 m_21 l0_21 l1_21 l2_21 l3_21 l4_21 l5_21)
    refine s_iload d_X12_book_51 m5_ (s_iconst d_X12_book_53 n_1 (s_bipush d_X12_book_54 n_6 rfl (s_pI (r_S d_X12_book_56 k_X12_isIn w_1664 rfl rfl) ms_X12_isIn (b8 rfl) rfl rfl rfl fun v3 => (s_if_eq (tgt := 77) d_X12_book_59 rfl ?_ ?_))))
    · exact s_sub (subc m1_ (subc m2_ (subc m3_ (subc m4_ (subc m5_ (subc m6_ sub0)))))) (hj_X12_book_0_77 m_21 l0_21 l1_21 l2_21 l3_21 l4_21 l5_21)
    refine s_iload d_X12_book_62 m6_ (s_iconst d_X12_book_64 n_2 (s_bipush d_X12_book_65 n_24 rfl (s_pI (r_S d_X12_book_67 k_X12_isIn w_1664 rfl rfl) ms_X12_isIn (b8 rfl) rfl rfl rfl fun v4 => (s_if_eq (tgt := 77) d_X12_book_70 rfl ?_ ?_))))
    · exact s_sub (subc m1_ (subc m2_ (subc m3_ (subc m4_ (subc m5_ (subc m6_ sub0)))))) (hj_X12_book_0_77 m_21 l0_21 l1_21 l2_21 l3_21 l4_21 l5_21)
    exact s_iconst d_X12_book_73 n_1 (s_goto (tgt := 78) d_X12_book_74 rfl (s_sub (subc m1_ (subc m2_ (subc m3_ (subc m4_ (subc m5_ (subc m6_ sub0)))))) (hj_X12_book_0_78 m_21 l0_21 l1_21 l2_21 l3_21 l4_21 l5_21 1)))
  have hj_X12_book_0_16 : ∀ (m_16 : MM) (l0_16 : Nat) (l1_16 : Int) (l2_16 : Int) (l3_16 : Int) (l4_16 : Int) (l5_16 : Int), Sim fx me_X12_book 16 [(0, aR (some (12, l0_16))), (1, aI l1_16), (2, aI l2_16), (3, aI l3_16), (4, aI l4_16), (5, aI l5_16)] [] m_16 ((j_X12_book_0_16 m_16 l0_16 l1_16 l2_16 l3_16 l4_16 l5_16).bind (fun z => some z)) := by
    intro m_16 l0_16 l1_16 l2_16 l3_16 l4_16 l5_16
    unfold j_X12_book_0_16
    exact s_iconst d_X12_book_16 n_1 (s_goto (tgt := 21) d_X12_book_17 rfl (s_sub (subc m0_ (subc m1_ (subc m2_ (subc m3_ (subc m4_ (subc m5_ sub0)))))) (hj_X12_book_0_21 m_16 l0_16 l1_16 l2_16 l3_16 l4_16 l5_16 1)))
  refine s_iload_n d_X12_book_0 m1_ (s_iconst d_X12_book_1 n_2 (s_icmp_eq (tgt := 16) d_X12_book_2 rfl ?_ ?_))
  · exact s_sub (subc m0_ (subc m1_ (subc m2_ (subc m3_ (subc m4_ (subc m5_ sub0)))))) (hj_X12_book_0_16 m l0 l1 l2 l3 l4 l5)
  refine s_iload_n d_X12_book_5 m1_ (s_iconst d_X12_book_6 n_4 (s_icmp_eq (tgt := 16) d_X12_book_7 rfl ?_ ?_))
  · exact s_sub (subc m0_ (subc m1_ (subc m2_ (subc m3_ (subc m4_ (subc m5_ sub0)))))) (hj_X12_book_0_16 m l0 l1 l2 l3 l4 l5)
  refine s_iload_n d_X12_book_10 m1_ (s_bipush d_X12_book_11 n_8 rfl (s_icmp_ne (tgt := 20) d_X12_book_13 rfl ?_ ?_))
  · exact s_iconst d_X12_book_20 n_0 (s_sub (subc m0_ (subc m1_ (subc m2_ (subc m3_ (subc m4_ (subc m5_ sub0)))))) (hj_X12_book_0_21 m l0 l1 l2 l3 l4 l5 0))
  exact s_sub (subc m0_ (subc m1_ (subc m2_ (subc m3_ (subc m4_ (subc m5_ sub0)))))) (hj_X12_book_0_16 m l0 l1 l2 l3 l4 l5)
theorem d_X12_box_0 : dk me_X12_box 0 (.aload_n 0) 1 1 := And.intro (by decide +kernel) rfl
theorem d_X12_box_1 : dk me_X12_box 1 (.iload_n 1) 1 2 := And.intro (by decide +kernel) rfl
theorem d_X12_box_2 : dk me_X12_box 2 (.iconst 0) 1 3 := And.intro (by decide +kernel) rfl
theorem d_X12_box_3 : dk me_X12_box 3 (.bipush 27) 2 5 := And.intro (by decide +kernel) rfl
theorem d_X12_box_5 : dk me_X12_box 5 (.invokestatic 235) 3 8 := And.intro (by decide +kernel) rfl
theorem d_X12_box_8 : dk me_X12_box 8 (.ifCond .ne 7) 3 11 := And.intro (by decide +kernel) rfl
theorem d_X12_box_11 : dk me_X12_box 11 (.iconst 1) 1 12 := And.intro (by decide +kernel) rfl
theorem d_X12_box_12 : dk me_X12_box 12 (.goto 12) 3 15 := And.intro (by decide +kernel) rfl
theorem d_X12_box_15 : dk me_X12_box 15 (.iload_n 2) 1 16 := And.intro (by decide +kernel) rfl
theorem d_X12_box_16 : dk me_X12_box 16 (.ifCond .ge 7) 3 19 := And.intro (by decide +kernel) rfl
theorem d_X12_box_19 : dk me_X12_box 19 (.iconst 2) 1 20 := And.intro (by decide +kernel) rfl
theorem d_X12_box_20 : dk me_X12_box 20 (.goto 4) 3 23 := And.intro (by decide +kernel) rfl
theorem d_X12_box_23 : dk me_X12_box 23 (.iconst 0) 1 24 := And.intro (by decide +kernel) rfl
theorem d_X12_box_24 : dk me_X12_box 24 (.invokevirtual 260) 3 27 := And.intro (by decide +kernel) rfl
theorem d_X12_box_27 : dk me_X12_box 27 (.ifCond .ne 5) 3 30 := And.intro (by decide +kernel) rfl
theorem d_X12_box_30 : dk me_X12_box 30 (.iconst 0) 1 31 := And.intro (by decide +kernel) rfl
theorem d_X12_box_31 : dk me_X12_box 31 (.ireturn) 1 32 := And.intro (by decide +kernel) rfl
theorem d_X12_box_32 : dk me_X12_box 32 (.aload_n 0) 1 33 := And.intro (by decide +kernel) rfl
theorem d_X12_box_33 : dk me_X12_box 33 (.getfield 32) 3 36 := And.intro (by decide +kernel) rfl
theorem d_X12_box_36 : dk me_X12_box 36 (.iload_n 1) 1 37 := And.intro (by decide +kernel) rfl
theorem d_X12_box_37 : dk me_X12_box 37 (.iaload) 1 38 := And.intro (by decide +kernel) rfl
theorem d_X12_box_38 : dk me_X12_box 38 (.istore_n 3) 1 39 := And.intro (by decide +kernel) rfl
theorem d_X12_box_39 : dk me_X12_box 39 (.iconst 0) 1 40 := And.intro (by decide +kernel) rfl
theorem d_X12_box_40 : dk me_X12_box 40 (.istore 4) 2 42 := And.intro (by decide +kernel) rfl
theorem d_X12_box_42 : dk me_X12_box 42 (.iload 4) 2 44 := And.intro (by decide +kernel) rfl
theorem d_X12_box_44 : dk me_X12_box 44 (.iload_n 2) 1 45 := And.intro (by decide +kernel) rfl
theorem d_X12_box_45 : dk me_X12_box 45 (.if_icmp .ge 21) 3 48 := And.intro (by decide +kernel) rfl
theorem d_X12_box_48 : dk me_X12_box 48 (.iload_n 3) 1 49 := And.intro (by decide +kernel) rfl
theorem d_X12_box_49 : dk me_X12_box 49 (.iconst (-1)) 1 50 := And.intro (by decide +kernel) rfl
theorem d_X12_box_50 : dk me_X12_box 50 (.if_icmp .eq 16) 3 53 := And.intro (by decide +kernel) rfl
theorem d_X12_box_53 : dk me_X12_box 53 (.aload_n 0) 1 54 := And.intro (by decide +kernel) rfl
theorem d_X12_box_54 : dk me_X12_box 54 (.getfield 29) 3 57 := And.intro (by decide +kernel) rfl
theorem d_X12_box_57 : dk me_X12_box 57 (.iload_n 3) 1 58 := And.intro (by decide +kernel) rfl
theorem d_X12_box_58 : dk me_X12_box 58 (.iaload) 1 59 := And.intro (by decide +kernel) rfl
theorem d_X12_box_59 : dk me_X12_box 59 (.istore_n 3) 1 60 := And.intro (by decide +kernel) rfl
theorem d_X12_box_60 : dk me_X12_box 60 (.iinc 4 1) 3 63 := And.intro (by decide +kernel) rfl
theorem d_X12_box_63 : dk me_X12_box 63 (.goto (-21)) 3 66 := And.intro (by decide +kernel) rfl
theorem d_X12_box_66 : dk me_X12_box 66 (.iload_n 3) 1 67 := And.intro (by decide +kernel) rfl
theorem d_X12_box_67 : dk me_X12_box 67 (.ireturn) 1 68 := And.intro (by decide +kernel) rfl
theorem ms_X12_box {fx : FX} {m : MM} {l0 : Nat} {l1 : Int} {l2 : Int} : MS fx me_X12_box [aR (some (12, l0)), aI l1, aI l2] m (f_X12_box m l0 l1 l2) := by
  refine ms_of rfl mf_X12_box (b8 rfl) ?_
  refine s_top ?_
  show Sim fx me_X12_box 0 [(0, aR (some (12, l0))), (1, aI l1), (2, aI l2)] [] m _
  unfold f_X12_box
  have hj_X12_box_0_66 : ∀ (m_66 : MM) (l3_66 : Int), Sim fx me_X12_box 66 [(3, aI l3_66)] [] m_66 ((j_X12_box_0_66 m_66 l3_66).bind (fun z => some z)) := by
    intro m_66 l3_66
    unfold j_X12_box_0_66
    exact s_iload_n d_X12_box_66 m0_ (s_iret d_X12_box_67 rfl rfl)
  have hj_X12_box_0_24 : ∀ (m_24 : MM) (l0_24 : Nat) (l1_24 : Int) (l2_24 : Int) (s0_24 : Nat) (s1_24 : Int), Sim fx me_X12_box 24 [(0, aR (some (12, l0_24))), (1, aI l1_24), (2, aI l2_24)] [aI s1_24, aR (some (12, s0_24))] m_24 ((j_X12_box_0_24 m_24 l0_24 l1_24 l2_24 s0_24 s1_24).bind (fun z => some z)) := by
    intro m_24 l0_24 l1_24 l2_24 s0_24 s1_24
    unfold j_X12_box_0_24
    refine s_cI (r_V d_X12_box_24 k_X12_holds w_1668 rfl rfl) ms_X12_holds (b8 rfl) rfl rfl rfl (fun _ _ _ => rfl) (fun _ _ => Or.inl rfl) fun v3 m2 => (s_if_ne (tgt := 32) d_X12_box_27 rfl ?_ ?_)
    · refine s_aload_n d_X12_box_32 m0_ (s_getR cf d_X12_box_33 fl_X12_32 (s_nk fun i4 => (s_iload_n d_X12_box_36 m1_ (s_ldN d_X12_box_37 ka_66 rfl fun v5 => (s_istore_n (L' := [(3, aI v5), (0, aR (some (12, l0_24))), (1, aI l1_24), (2, aI l2_24)]) d_X12_box_38 (b8 rfl) rfl ?_)))))
      refine s_iconst d_X12_box_39 n_0 (s_istore (L' := [(4, aI 0), (3, aI v5), (0, aR (some (12, l0_24))), (1, aI l1_24), (2, aI l2_24)]) d_X12_box_40 (b8 rfl) rfl (s_sub (subc m1_ (subc m0_ (subc m2_ (subc m4_ sub0)))) (s_lp2 (fun s => [(3, aI (s.1)), (4, aI (s.2)), (0, aR (some (12, l0_24))), (2, aI l2_24)]) (fun s => m2) (v5, 0) fun k42 hx42 s ih0 => ?_)))
      obtain ⟨l3_42, l4_42⟩ := s
      have ih42 := ih0
      clear ih0
      try dsimp only
      unfold b_X12_box_42
      refine s_iload d_X12_box_42 m1_ (s_iload_n d_X12_box_44 m3_ (s_icmp_ge (tgt := 66) d_X12_box_45 rfl ?_ ?_))
      · exact s_exit (hx42 _) (s_sub (subc m0_ sub0) (hj_X12_box_0_66 m2 l3_42))
      refine s_iload_n d_X12_box_48 m0_ (s_iconst d_X12_box_49 n_m1 (s_icmp_eq (tgt := 66) d_X12_box_50 rfl ?_ ?_))
      · exact s_exit (hx42 _) (s_sub (subc m0_ sub0) (hj_X12_box_0_66 m2 l3_42))
      refine s_aload_n d_X12_box_53 m2_ (s_getR cf d_X12_box_54 fl_X12_29 (s_nk fun i6 => (s_iload_n d_X12_box_57 m0_ (s_ldN d_X12_box_58 ka_65 rfl fun v7 => (s_istore_n (L' := [(3, aI v7), (4, aI l4_42), (0, aR (some (12, l0_24))), (2, aI l2_24)]) d_X12_box_59 (b8 rfl) rfl ?_)))))
      exact s_iinc (L' := [(4, aI (l4_42 + 1)), (3, aI v7), (0, aR (some (12, l0_24))), (2, aI l2_24)]) d_X12_box_60 m1_ (b8 rfl) rfl (s_goto (tgt := 42) d_X12_box_63 rfl (s_sub (subc m1_ (subc m0_ (subc m2_ (subc m3_ sub0)))) (s_back (ih42 (v7, (l4_42 + 1))))))
    exact s_iconst d_X12_box_30 n_0 (s_iret d_X12_box_31 rfl rfl)
  refine s_aload_n d_X12_box_0 m0_ (s_iload_n d_X12_box_1 m1_ (s_iconst d_X12_box_2 n_0 (s_bipush d_X12_box_3 n_27 rfl (s_pI (r_S d_X12_box_5 k_X12_isIn w_1664 rfl rfl) ms_X12_isIn (b8 rfl) rfl rfl rfl fun v1 => (s_if_ne (tgt := 15) d_X12_box_8 rfl ?_ ?_)))))
  · refine s_iload_n d_X12_box_15 m2_ (s_if_ge (tgt := 23) d_X12_box_16 rfl ?_ ?_)
    · exact s_iconst d_X12_box_23 n_0 (s_sub (subc m0_ (subc m1_ (subc m2_ sub0))) (hj_X12_box_0_24 m l0 l1 l2 l0 0))
    exact s_iconst d_X12_box_19 n_2 (s_goto (tgt := 24) d_X12_box_20 rfl (s_sub (subc m0_ (subc m1_ (subc m2_ sub0))) (hj_X12_box_0_24 m l0 l1 l2 l0 2)))
  exact s_iconst d_X12_box_11 n_1 (s_goto (tgt := 24) d_X12_box_12 rfl (s_sub (subc m0_ (subc m1_ (subc m2_ sub0))) (hj_X12_box_0_24 m l0 l1 l2 l0 1)))
theorem d_X12_isLeaf_0 : dk me_X12_isLeaf 0 (.aload_n 0) 1 1 := And.intro (by decide +kernel) rfl
theorem d_X12_isLeaf_1 : dk me_X12_isLeaf 1 (.iload_n 1) 1 2 := And.intro (by decide +kernel) rfl
theorem d_X12_isLeaf_2 : dk me_X12_isLeaf 2 (.invokevirtual 239) 3 5 := And.intro (by decide +kernel) rfl
theorem d_X12_isLeaf_5 : dk me_X12_isLeaf 5 (.ifCond .eq 24) 3 8 := And.intro (by decide +kernel) rfl
theorem d_X12_isLeaf_8 : dk me_X12_isLeaf 8 (.iload_n 2) 1 9 := And.intro (by decide +kernel) rfl
theorem d_X12_isLeaf_9 : dk me_X12_isLeaf 9 (.iconst 0) 1 10 := And.intro (by decide +kernel) rfl
theorem d_X12_isLeaf_10 : dk me_X12_isLeaf 10 (.aload_n 0) 1 11 := And.intro (by decide +kernel) rfl
theorem d_X12_isLeaf_11 : dk me_X12_isLeaf 11 (.iload_n 1) 1 12 := And.intro (by decide +kernel) rfl
theorem d_X12_isLeaf_12 : dk me_X12_isLeaf 12 (.invokevirtual 243) 3 15 := And.intro (by decide +kernel) rfl
theorem d_X12_isLeaf_15 : dk me_X12_isLeaf 15 (.iconst 2) 1 16 := And.intro (by decide +kernel) rfl
theorem d_X12_isLeaf_16 : dk me_X12_isLeaf 16 (.idiv) 1 17 := And.intro (by decide +kernel) rfl
theorem d_X12_isLeaf_17 : dk me_X12_isLeaf 17 (.iconst 1) 1 18 := And.intro (by decide +kernel) rfl
theorem d_X12_isLeaf_18 : dk me_X12_isLeaf 18 (.isub) 1 19 := And.intro (by decide +kernel) rfl
theorem d_X12_isLeaf_19 : dk me_X12_isLeaf 19 (.invokestatic 235) 3 22 := And.intro (by decide +kernel) rfl
theorem d_X12_isLeaf_22 : dk me_X12_isLeaf 22 (.ifCond .eq 7) 3 25 := And.intro (by decide +kernel) rfl
theorem d_X12_isLeaf_25 : dk me_X12_isLeaf 25 (.iconst 1) 1 26 := And.intro (by decide +kernel) rfl
theorem d_X12_isLeaf_26 : dk me_X12_isLeaf 26 (.goto 4) 3 29 := And.intro (by decide +kernel) rfl
theorem d_X12_isLeaf_29 : dk me_X12_isLeaf 29 (.iconst 0) 1 30 := And.intro (by decide +kernel) rfl
theorem d_X12_isLeaf_30 : dk me_X12_isLeaf 30 (.ireturn) 1 31 := And.intro (by decide +kernel) rfl
theorem ms_X12_isLeaf {fx : FX} {m : MM} {l0 : Nat} {l1 : Int} {l2 : Int} : MS fx me_X12_isLeaf [aR (some (12, l0)), aI l1, aI l2] m ((f_X12_isLeaf m l0 l1 l2).bind fun v => some (.inl (some (aI v)), m)) := by
  refine ms_of rfl mf_X12_isLeaf (b8 rfl) ?_
  show Sim fx me_X12_isLeaf 0 [(0, aR (some (12, l0))), (1, aI l1), (2, aI l2)] [] m _
  unfold f_X12_isLeaf
  refine s_aload_n d_X12_isLeaf_0 m0_ (s_iload_n d_X12_isLeaf_1 m1_ (s_pI (r_V d_X12_isLeaf_2 k_X12_isBook w_1747 rfl rfl) ms_X12_isBook (b8 rfl) rfl rfl rfl fun v1 => (s_if_eq (tgt := 29) d_X12_isLeaf_5 rfl ?_ ?_)))
  · exact s_iconst d_X12_isLeaf_29 n_0 (s_zretl d_X12_isLeaf_30 rfl (by decide) rfl)
  refine s_iload_n d_X12_isLeaf_8 m2_ (s_iconst d_X12_isLeaf_9 n_0 (s_aload_n d_X12_isLeaf_10 m0_ (s_iload_n d_X12_isLeaf_11 m1_ (s_pI (r_V d_X12_isLeaf_12 k_X12_pagesOf w_1755 rfl rfl) ms_X12_pagesOf (b8 rfl) rfl rfl rfl fun v2 => (s_iconst d_X12_isLeaf_15 n_2 ?_)))))
  refine s_idiv d_X12_isLeaf_16 (s_iconst d_X12_isLeaf_17 n_1 (s_isub d_X12_isLeaf_18 rfl rfl (s_ck (s_pI (r_S d_X12_isLeaf_19 k_X12_isIn w_1664 rfl rfl) ms_X12_isIn (b8 rfl) rfl rfl rfl fun v3 => (s_if_eq (tgt := 29) d_X12_isLeaf_22 rfl ?_ ?_)))))
  · exact s_iconst d_X12_isLeaf_29 n_0 (s_zretl d_X12_isLeaf_30 rfl (by decide) rfl)
  exact s_iconst d_X12_isLeaf_25 n_1 (s_goto (tgt := 30) d_X12_isLeaf_26 rfl (s_zretl d_X12_isLeaf_30 rfl (by decide) rfl))
theorem d_X12_cancel_0 : dk me_X12_cancel 0 (.aload_n 0) 1 1 := And.intro (by decide +kernel) rfl
theorem d_X12_cancel_1 : dk me_X12_cancel 1 (.iload_n 1) 1 2 := And.intro (by decide +kernel) rfl
theorem d_X12_cancel_2 : dk me_X12_cancel 2 (.iload_n 2) 1 3 := And.intro (by decide +kernel) rfl
theorem d_X12_cancel_3 : dk me_X12_cancel 3 (.invokevirtual 403) 3 6 := And.intro (by decide +kernel) rfl
theorem d_X12_cancel_6 : dk me_X12_cancel 6 (.ifCond .eq 16) 3 9 := And.intro (by decide +kernel) rfl
theorem d_X12_cancel_9 : dk me_X12_cancel 9 (.aload_n 0) 1 10 := And.intro (by decide +kernel) rfl
theorem d_X12_cancel_10 : dk me_X12_cancel 10 (.iload_n 1) 1 11 := And.intro (by decide +kernel) rfl
theorem d_X12_cancel_11 : dk me_X12_cancel 11 (.iload_n 3) 1 12 := And.intro (by decide +kernel) rfl
theorem d_X12_cancel_12 : dk me_X12_cancel 12 (.invokevirtual 406) 3 15 := And.intro (by decide +kernel) rfl
theorem d_X12_cancel_15 : dk me_X12_cancel 15 (.ifCond .eq 7) 3 18 := And.intro (by decide +kernel) rfl
theorem d_X12_cancel_18 : dk me_X12_cancel 18 (.iconst 1) 1 19 := And.intro (by decide +kernel) rfl
theorem d_X12_cancel_19 : dk me_X12_cancel 19 (.goto 4) 3 22 := And.intro (by decide +kernel) rfl
theorem d_X12_cancel_22 : dk me_X12_cancel 22 (.iconst 0) 1 23 := And.intro (by decide +kernel) rfl
theorem d_X12_cancel_23 : dk me_X12_cancel 23 (.istore 4) 2 25 := And.intro (by decide +kernel) rfl
theorem d_X12_cancel_25 : dk me_X12_cancel 25 (.aload_n 0) 1 26 := And.intro (by decide +kernel) rfl
theorem d_X12_cancel_26 : dk me_X12_cancel 26 (.iload 4) 2 28 := And.intro (by decide +kernel) rfl
theorem d_X12_cancel_28 : dk me_X12_cancel 28 (.ifCond .ne 7) 3 31 := And.intro (by decide +kernel) rfl
theorem d_X12_cancel_31 : dk me_X12_cancel 31 (.iconst 1) 1 32 := And.intro (by decide +kernel) rfl
theorem d_X12_cancel_32 : dk me_X12_cancel 32 (.goto 17) 3 35 := And.intro (by decide +kernel) rfl
theorem d_X12_cancel_35 : dk me_X12_cancel 35 (.aload_n 0) 1 36 := And.intro (by decide +kernel) rfl
theorem d_X12_cancel_36 : dk me_X12_cancel 36 (.getfield 71) 3 39 := And.intro (by decide +kernel) rfl
theorem d_X12_cancel_39 : dk me_X12_cancel 39 (.iload_n 1) 1 40 := And.intro (by decide +kernel) rfl
theorem d_X12_cancel_40 : dk me_X12_cancel 40 (.baload) 1 41 := And.intro (by decide +kernel) rfl
theorem d_X12_cancel_41 : dk me_X12_cancel 41 (.ifCond .eq 7) 3 44 := And.intro (by decide +kernel) rfl
theorem d_X12_cancel_44 : dk me_X12_cancel 44 (.iconst 0) 1 45 := And.intro (by decide +kernel) rfl
theorem d_X12_cancel_45 : dk me_X12_cancel 45 (.goto 4) 3 48 := And.intro (by decide +kernel) rfl
theorem d_X12_cancel_48 : dk me_X12_cancel 48 (.iconst 2) 1 49 := And.intro (by decide +kernel) rfl
theorem d_X12_cancel_49 : dk me_X12_cancel 49 (.invokevirtual 260) 3 52 := And.intro (by decide +kernel) rfl
theorem d_X12_cancel_52 : dk me_X12_cancel 52 (.ifCond .ne 5) 3 55 := And.intro (by decide +kernel) rfl
theorem d_X12_cancel_55 : dk me_X12_cancel 55 (.iconst 0) 1 56 := And.intro (by decide +kernel) rfl
theorem d_X12_cancel_56 : dk me_X12_cancel 56 (.ireturn) 1 57 := And.intro (by decide +kernel) rfl
theorem d_X12_cancel_57 : dk me_X12_cancel 57 (.iconst 0) 1 58 := And.intro (by decide +kernel) rfl
theorem d_X12_cancel_58 : dk me_X12_cancel 58 (.istore 5) 2 60 := And.intro (by decide +kernel) rfl
theorem d_X12_cancel_60 : dk me_X12_cancel 60 (.iload_n 2) 1 61 := And.intro (by decide +kernel) rfl
theorem d_X12_cancel_61 : dk me_X12_cancel 61 (.istore 6) 2 63 := And.intro (by decide +kernel) rfl
theorem d_X12_cancel_63 : dk me_X12_cancel 63 (.iload 6) 2 65 := And.intro (by decide +kernel) rfl
theorem d_X12_cancel_65 : dk me_X12_cancel 65 (.aload_n 0) 1 66 := And.intro (by decide +kernel) rfl
theorem d_X12_cancel_66 : dk me_X12_cancel 66 (.getfield 65) 3 69 := And.intro (by decide +kernel) rfl
theorem d_X12_cancel_69 : dk me_X12_cancel 69 (.iload_n 1) 1 70 := And.intro (by decide +kernel) rfl
theorem d_X12_cancel_70 : dk me_X12_cancel 70 (.iaload) 1 71 := And.intro (by decide +kernel) rfl
theorem d_X12_cancel_71 : dk me_X12_cancel 71 (.if_icmp .ge 48) 3 74 := And.intro (by decide +kernel) rfl
theorem d_X12_cancel_74 : dk me_X12_cancel 74 (.iload 5) 2 76 := And.intro (by decide +kernel) rfl
theorem d_X12_cancel_76 : dk me_X12_cancel 76 (.aload_n 0) 1 77 := And.intro (by decide +kernel) rfl
theorem d_X12_cancel_77 : dk me_X12_cancel 77 (.getfield 213) 3 80 := And.intro (by decide +kernel) rfl
theorem d_X12_cancel_80 : dk me_X12_cancel 80 (.iload_n 1) 1 81 := And.intro (by decide +kernel) rfl
theorem d_X12_cancel_81 : dk me_X12_cancel 81 (.iload 6) 2 83 := And.intro (by decide +kernel) rfl
theorem d_X12_cancel_83 : dk me_X12_cancel 83 (.iload_n 3) 1 84 := And.intro (by decide +kernel) rfl
theorem d_X12_cancel_84 : dk me_X12_cancel 84 (.invokestatic 400) 3 87 := And.intro (by decide +kernel) rfl
theorem d_X12_cancel_87 : dk me_X12_cancel 87 (.iaload) 1 88 := And.intro (by decide +kernel) rfl
theorem d_X12_cancel_88 : dk me_X12_cancel 88 (.iconst (-1)) 1 89 := And.intro (by decide +kernel) rfl
theorem d_X12_cancel_89 : dk me_X12_cancel 89 (.if_icmp .ne 7) 3 92 := And.intro (by decide +kernel) rfl
theorem d_X12_cancel_92 : dk me_X12_cancel 92 (.iconst 0) 1 93 := And.intro (by decide +kernel) rfl
theorem d_X12_cancel_93 : dk me_X12_cancel 93 (.goto 4) 3 96 := And.intro (by decide +kernel) rfl
theorem d_X12_cancel_96 : dk me_X12_cancel 96 (.iconst 1) 1 97 := And.intro (by decide +kernel) rfl
theorem d_X12_cancel_97 : dk me_X12_cancel 97 (.iadd) 1 98 := And.intro (by decide +kernel) rfl
theorem d_X12_cancel_98 : dk me_X12_cancel 98 (.istore 5) 2 100 := And.intro (by decide +kernel) rfl
theorem d_X12_cancel_100 : dk me_X12_cancel 100 (.aload_n 0) 1 101 := And.intro (by decide +kernel) rfl
theorem d_X12_cancel_101 : dk me_X12_cancel 101 (.getfield 213) 3 104 := And.intro (by decide +kernel) rfl
theorem d_X12_cancel_104 : dk me_X12_cancel 104 (.iload_n 1) 1 105 := And.intro (by decide +kernel) rfl
theorem d_X12_cancel_105 : dk me_X12_cancel 105 (.iload 6) 2 107 := And.intro (by decide +kernel) rfl
theorem d_X12_cancel_107 : dk me_X12_cancel 107 (.iload_n 3) 1 108 := And.intro (by decide +kernel) rfl
theorem d_X12_cancel_108 : dk me_X12_cancel 108 (.invokestatic 400) 3 111 := And.intro (by decide +kernel) rfl
theorem d_X12_cancel_111 : dk me_X12_cancel 111 (.iconst (-1)) 1 112 := And.intro (by decide +kernel) rfl
theorem d_X12_cancel_112 : dk me_X12_cancel 112 (.iastore) 1 113 := And.intro (by decide +kernel) rfl
theorem d_X12_cancel_113 : dk me_X12_cancel 113 (.iinc 6 1) 3 116 := And.intro (by decide +kernel) rfl
theorem d_X12_cancel_116 : dk me_X12_cancel 116 (.goto (-53)) 3 119 := And.intro (by decide +kernel) rfl
theorem d_X12_cancel_119 : dk me_X12_cancel 119 (.iload 5) 2 121 := And.intro (by decide +kernel) rfl
theorem d_X12_cancel_121 : dk me_X12_cancel 121 (.ireturn) 1 122 := And.intro (by decide +kernel) rfl
theorem ms_X12_cancel {fx : FX} {m : MM} {l0 : Nat} {l1 : Int} {l2 : Int} {l3 : Int} : MS fx me_X12_cancel [aR (some (12, l0)), aI l1, aI l2, aI l3] m (f_X12_cancel m l0 l1 l2 l3) := by
  refine ms_of rfl mf_X12_cancel (b8 rfl) ?_
  refine s_top ?_
  show Sim fx me_X12_cancel 0 [(0, aR (some (12, l0))), (1, aI l1), (2, aI l2), (3, aI l3)] [] m _
  unfold f_X12_cancel
  have hj_X12_cancel_0_119 : ∀ (m_119 : MM) (l5_119 : Int), Sim fx me_X12_cancel 119 [(5, aI l5_119)] [] m_119 ((j_X12_cancel_0_119 m_119 l5_119).bind (fun z => some z)) := by
    intro m_119 l5_119
    unfold j_X12_cancel_0_119
    exact s_iload d_X12_cancel_119 m0_ (s_iret d_X12_cancel_121 rfl rfl)
  have hj_X12_cancel_0_49 : ∀ (m_49 : MM) (l0_49 : Nat) (l1_49 : Int) (l2_49 : Int) (l3_49 : Int) (s0_49 : Nat) (s1_49 : Int), Sim fx me_X12_cancel 49 [(0, aR (some (12, l0_49))), (1, aI l1_49), (2, aI l2_49), (3, aI l3_49)] [aI s1_49, aR (some (12, s0_49))] m_49 ((j_X12_cancel_0_49 m_49 l0_49 l1_49 l2_49 l3_49 s0_49 s1_49).bind (fun z => some z)) := by
    intro m_49 l0_49 l1_49 l2_49 l3_49 s0_49 s1_49
    unfold j_X12_cancel_0_49
    refine s_cI (r_V d_X12_cancel_49 k_X12_holds w_1668 rfl rfl) ms_X12_holds (b8 rfl) rfl rfl rfl (fun _ _ _ => rfl) (fun _ _ => Or.inl rfl) fun v6 m5 => (s_if_ne (tgt := 57) d_X12_cancel_52 rfl ?_ ?_)
    · refine s_iconst d_X12_cancel_57 n_0 (s_istore (L' := [(5, aI 0), (0, aR (some (12, l0_49))), (1, aI l1_49), (2, aI l2_49), (3, aI l3_49)]) d_X12_cancel_58 (b8 rfl) rfl (s_iload_n d_X12_cancel_60 m3_ (s_istore (L' := [(6, aI l2_49), (5, aI 0), (0, aR (some (12, l0_49))), (1, aI l1_49), (2, aI l2_49), (3, aI l3_49)]) d_X12_cancel_61 (b8 rfl) rfl (s_sub (subc m1_ (subc m0_ (subc m2_ (subc m3_ (subc m5_ sub0))))) (s_lp2 (fun s => [(5, aI (s.1)), (6, aI (s.2.1)), (0, aR (some (12, l0_49))), (1, aI l1_49), (3, aI l3_49)]) (fun s => s.2.2) (0, l2_49, m5) fun k63 hx63 s ih0 => ?_)))))
      obtain ⟨l5_63, l6_63, mm_63⟩ := s
      have ih63 := ih0
      clear ih0
      try dsimp only
      unfold b_X12_cancel_63
      have hj_X12_cancel_63_97 : ∀ (m_97 : MM) (l6_97 : Int) (s0_97 : Int) (s1_97 : Int), Sim fx me_X12_cancel 97 [(0, aR (some (12, l0_49))), (1, aI l1_49), (3, aI l3_49), (6, aI l6_97)] [aI s1_97, aI s0_97] m_97 ((j_X12_cancel_63_97 m_97 l0_49 l1_49 l3_49 l6_97 s0_97 s1_97).bind k63) := by
        intro m_97 l6_97 s0_97 s1_97
        unfold j_X12_cancel_63_97
        refine s_iadd d_X12_cancel_97 rfl rfl (s_ck (s_istore (L' := [(5, aI (s0_97 + s1_97)), (0, aR (some (12, l0_49))), (1, aI l1_49), (3, aI l3_49), (6, aI l6_97)]) d_X12_cancel_98 (b8 rfl) rfl (s_aload_n d_X12_cancel_100 m1_ (s_getR cf d_X12_cancel_101 fl_X12_213 (s_nk fun i12 => ?_)))))
        refine s_iload_n d_X12_cancel_104 m2_ (s_iload d_X12_cancel_105 m4_ (s_iload_n d_X12_cancel_107 m3_ (s_pI (r_S d_X12_cancel_108 k_X12_leafAt w_1933 rfl rfl) ms_X12_leafAt (b8 rfl) rfl rfl rfl fun v13 => (s_iconst d_X12_cancel_111 n_m1 (s_stN d_X12_cancel_112 ka_126 rfl fun m14 => ?_)))))
        exact s_iinc (L' := [(6, aI (l6_97 + 1)), (5, aI (s0_97 + s1_97)), (0, aR (some (12, l0_49))), (1, aI l1_49), (3, aI l3_49)]) d_X12_cancel_113 m4_ (b8 rfl) rfl (s_goto (tgt := 63) d_X12_cancel_116 rfl (s_sub (subc m1_ (subc m0_ (subc m2_ (subc m3_ (subc m4_ sub0))))) (s_back (ih63 ((s0_97 + s1_97), (l6_97 + 1), m14)))))
      refine s_iload d_X12_cancel_63 m1_ (s_aload_n d_X12_cancel_65 m2_ (s_getR cf d_X12_cancel_66 fl_X12_65 (s_nk fun i7 => (s_iload_n d_X12_cancel_69 m3_ (s_ldN d_X12_cancel_70 ka_77 rfl fun v8 => ?_)))))
      refine s_icmp_ge (tgt := 119) d_X12_cancel_71 rfl ?_ ?_
      · exact s_exit (hx63 _) (s_sub (subc m0_ sub0) (hj_X12_cancel_0_119 mm_63 l5_63))
      refine s_iload d_X12_cancel_74 m0_ (s_aload_n d_X12_cancel_76 m2_ (s_getR cf d_X12_cancel_77 fl_X12_213 (s_nk fun i9 => (s_iload_n d_X12_cancel_80 m3_ (s_iload d_X12_cancel_81 m1_ ?_)))))
      refine s_iload_n d_X12_cancel_83 m4_ (s_pI (r_S d_X12_cancel_84 k_X12_leafAt w_1933 rfl rfl) ms_X12_leafAt (b8 rfl) rfl rfl rfl fun v10 => (s_ldN d_X12_cancel_87 ka_126 rfl fun v11 => (s_iconst d_X12_cancel_88 n_m1 (s_icmp_ne (tgt := 96) d_X12_cancel_89 rfl ?_ ?_))))
      · exact s_iconst d_X12_cancel_96 n_1 (s_sub (subc m2_ (subc m3_ (subc m4_ (subc m1_ sub0)))) (hj_X12_cancel_63_97 mm_63 l6_63 l5_63 1))
      exact s_iconst d_X12_cancel_92 n_0 (s_goto (tgt := 97) d_X12_cancel_93 rfl (s_sub (subc m2_ (subc m3_ (subc m4_ (subc m1_ sub0)))) (hj_X12_cancel_63_97 mm_63 l6_63 l5_63 0)))
    exact s_iconst d_X12_cancel_55 n_0 (s_iret d_X12_cancel_56 rfl rfl)
  have hj_X12_cancel_0_23 : ∀ (m_23 : MM) (l0_23 : Nat) (l1_23 : Int) (l2_23 : Int) (l3_23 : Int) (s0_23 : Int), Sim fx me_X12_cancel 23 [(0, aR (some (12, l0_23))), (1, aI l1_23), (2, aI l2_23), (3, aI l3_23)] [aI s0_23] m_23 ((j_X12_cancel_0_23 m_23 l0_23 l1_23 l2_23 l3_23 s0_23).bind (fun z => some z)) := by
    intro m_23 l0_23 l1_23 l2_23 l3_23 s0_23
    unfold j_X12_cancel_0_23
    refine s_istore (L' := [(4, aI s0_23), (0, aR (some (12, l0_23))), (1, aI l1_23), (2, aI l2_23), (3, aI l3_23)]) d_X12_cancel_23 (b8 rfl) rfl (s_aload_n d_X12_cancel_25 m1_ (s_iload d_X12_cancel_26 m0_ (s_if_ne (tgt := 35) d_X12_cancel_28 rfl ?_ ?_)))
    · refine s_aload_n d_X12_cancel_35 m1_ (s_getR cf d_X12_cancel_36 fl_X12_71 (s_nk fun i3 => (s_iload_n d_X12_cancel_39 m2_ (s_ldB d_X12_cancel_40 ka_79 rfl fun v4 => (s_if_eq (tgt := 48) d_X12_cancel_41 rfl ?_ ?_)))))
      · exact s_iconst d_X12_cancel_48 n_2 (s_sub (subc m1_ (subc m2_ (subc m3_ (subc m4_ sub0)))) (hj_X12_cancel_0_49 m_23 l0_23 l1_23 l2_23 l3_23 l0_23 2))
      exact s_iconst d_X12_cancel_44 n_0 (s_goto (tgt := 49) d_X12_cancel_45 rfl (s_sub (subc m1_ (subc m2_ (subc m3_ (subc m4_ sub0)))) (hj_X12_cancel_0_49 m_23 l0_23 l1_23 l2_23 l3_23 l0_23 0)))
    exact s_iconst d_X12_cancel_31 n_1 (s_goto (tgt := 49) d_X12_cancel_32 rfl (s_sub (subc m1_ (subc m2_ (subc m3_ (subc m4_ sub0)))) (hj_X12_cancel_0_49 m_23 l0_23 l1_23 l2_23 l3_23 l0_23 1)))
  have hj_X12_cancel_0_22 : ∀ (m_22 : MM) (l0_22 : Nat) (l1_22 : Int) (l2_22 : Int) (l3_22 : Int), Sim fx me_X12_cancel 22 [(0, aR (some (12, l0_22))), (1, aI l1_22), (2, aI l2_22), (3, aI l3_22)] [] m_22 ((j_X12_cancel_0_22 m_22 l0_22 l1_22 l2_22 l3_22).bind (fun z => some z)) := by
    intro m_22 l0_22 l1_22 l2_22 l3_22
    unfold j_X12_cancel_0_22
    exact s_iconst d_X12_cancel_22 n_0 (s_sub (subc m0_ (subc m1_ (subc m2_ (subc m3_ sub0)))) (hj_X12_cancel_0_23 m_22 l0_22 l1_22 l2_22 l3_22 0))
  refine s_aload_n d_X12_cancel_0 m0_ (s_iload_n d_X12_cancel_1 m1_ (s_iload_n d_X12_cancel_2 m2_ (s_pI (r_V d_X12_cancel_3 k_X12_isCopy w_1940 rfl rfl) ms_X12_isCopy (b8 rfl) rfl rfl rfl fun v1 => (s_if_eq (tgt := 22) d_X12_cancel_6 rfl ?_ ?_))))
  · exact s_sub (subc m0_ (subc m1_ (subc m2_ (subc m3_ sub0)))) (hj_X12_cancel_0_22 m l0 l1 l2 l3)
  refine s_aload_n d_X12_cancel_9 m0_ (s_iload_n d_X12_cancel_10 m1_ (s_iload_n d_X12_cancel_11 m3_ (s_pI (r_V d_X12_cancel_12 k_X12_isLeaf w_1944 rfl rfl) ms_X12_isLeaf (b8 rfl) rfl rfl rfl fun v2 => (s_if_eq (tgt := 22) d_X12_cancel_15 rfl ?_ ?_))))
  · exact s_sub (subc m0_ (subc m1_ (subc m2_ (subc m3_ sub0)))) (hj_X12_cancel_0_22 m l0 l1 l2 l3)
  exact s_iconst d_X12_cancel_18 n_1 (s_goto (tgt := 23) d_X12_cancel_19 rfl (s_sub (subc m0_ (subc m1_ (subc m2_ (subc m3_ sub0)))) (hj_X12_cancel_0_23 m l0 l1 l2 l3 1)))
theorem d_X12_puts_0 : dk me_X12_puts 0 (.aload_n 0) 1 1 := And.intro (by decide +kernel) rfl
theorem d_X12_puts_1 : dk me_X12_puts 1 (.getfield 29) 3 4 := And.intro (by decide +kernel) rfl
theorem d_X12_puts_4 : dk me_X12_puts 4 (.iload_n 2) 1 5 := And.intro (by decide +kernel) rfl
theorem d_X12_puts_5 : dk me_X12_puts 5 (.aload_n 0) 1 6 := And.intro (by decide +kernel) rfl
theorem d_X12_puts_6 : dk me_X12_puts 6 (.getfield 32) 3 9 := And.intro (by decide +kernel) rfl
theorem d_X12_puts_9 : dk me_X12_puts 9 (.iload_n 1) 1 10 := And.intro (by decide +kernel) rfl
theorem d_X12_puts_10 : dk me_X12_puts 10 (.iaload) 1 11 := And.intro (by decide +kernel) rfl
theorem d_X12_puts_11 : dk me_X12_puts 11 (.iastore) 1 12 := And.intro (by decide +kernel) rfl
theorem d_X12_puts_12 : dk me_X12_puts 12 (.aload_n 0) 1 13 := And.intro (by decide +kernel) rfl
theorem d_X12_puts_13 : dk me_X12_puts 13 (.getfield 32) 3 16 := And.intro (by decide +kernel) rfl
theorem d_X12_puts_16 : dk me_X12_puts 16 (.iload_n 1) 1 17 := And.intro (by decide +kernel) rfl
theorem d_X12_puts_17 : dk me_X12_puts 17 (.iload_n 2) 1 18 := And.intro (by decide +kernel) rfl
theorem d_X12_puts_18 : dk me_X12_puts 18 (.iastore) 1 19 := And.intro (by decide +kernel) rfl
theorem d_X12_puts_19 : dk me_X12_puts 19 (.aload_n 0) 1 20 := And.intro (by decide +kernel) rfl
theorem d_X12_puts_20 : dk me_X12_puts 20 (.getfield 26) 3 23 := And.intro (by decide +kernel) rfl
theorem d_X12_puts_23 : dk me_X12_puts 23 (.iload_n 2) 1 24 := And.intro (by decide +kernel) rfl
theorem d_X12_puts_24 : dk me_X12_puts 24 (.iload_n 1) 1 25 := And.intro (by decide +kernel) rfl
theorem d_X12_puts_25 : dk me_X12_puts 25 (.iastore) 1 26 := And.intro (by decide +kernel) rfl
theorem d_X12_puts_26 : dk me_X12_puts 26 (.return_) 1 27 := And.intro (by decide +kernel) rfl
theorem ms_X12_puts {fx : FX} {m : MM} {l0 : Nat} {l1 : Int} {l2 : Int} : MS fx me_X12_puts [aR (some (12, l0)), aI l1, aI l2] m (f_X12_puts m l0 l1 l2) := by
  refine ms_of rfl mf_X12_puts (b8 rfl) ?_
  refine s_top ?_
  show Sim fx me_X12_puts 0 [(0, aR (some (12, l0))), (1, aI l1), (2, aI l2)] [] m _
  unfold f_X12_puts
  refine s_aload_n d_X12_puts_0 m0_ (s_getR cf d_X12_puts_1 fl_X12_29 (s_nk fun i1 => (s_iload_n d_X12_puts_4 m2_ (s_aload_n d_X12_puts_5 m0_ (s_getR cf d_X12_puts_6 fl_X12_32 ?_)))))
  refine s_nk fun i2 => (s_iload_n d_X12_puts_9 m1_ (s_ldN d_X12_puts_10 ka_66 rfl fun v3 => (s_stN d_X12_puts_11 ka_65 rfl fun m4 => (s_aload_n d_X12_puts_12 m0_ (s_getR cf d_X12_puts_13 fl_X12_32 ?_)))))
  refine s_nk fun i5 => (s_iload_n d_X12_puts_16 m1_ (s_iload_n d_X12_puts_17 m2_ (s_stN d_X12_puts_18 ka_66 rfl fun m6 => (s_aload_n d_X12_puts_19 m0_ (s_getR cf d_X12_puts_20 fl_X12_26 ?_)))))
  exact s_nk fun i7 => (s_iload_n d_X12_puts_23 m2_ (s_iload_n d_X12_puts_24 m1_ (s_stN d_X12_puts_25 ka_64 rfl fun m8 => (s_vret d_X12_puts_26 rfl rfl))))
theorem d_X12_cast_0 : dk me_X12_cast 0 (.aload_n 0) 1 1 := And.intro (by decide +kernel) rfl
theorem d_X12_cast_1 : dk me_X12_cast 1 (.iload_n 1) 1 2 := And.intro (by decide +kernel) rfl
theorem d_X12_cast_2 : dk me_X12_cast 2 (.iconst 0) 1 3 := And.intro (by decide +kernel) rfl
theorem d_X12_cast_3 : dk me_X12_cast 3 (.bipush 27) 2 5 := And.intro (by decide +kernel) rfl
theorem d_X12_cast_5 : dk me_X12_cast 5 (.invokestatic 235) 3 8 := And.intro (by decide +kernel) rfl
theorem d_X12_cast_8 : dk me_X12_cast 8 (.ifCond .eq 13) 3 11 := And.intro (by decide +kernel) rfl
theorem d_X12_cast_11 : dk me_X12_cast 11 (.iload_n 2) 1 12 := And.intro (by decide +kernel) rfl
theorem d_X12_cast_12 : dk me_X12_cast 12 (.iconst 1) 1 13 := And.intro (by decide +kernel) rfl
theorem d_X12_cast_13 : dk me_X12_cast 13 (.bipush 40) 2 15 := And.intro (by decide +kernel) rfl
theorem d_X12_cast_15 : dk me_X12_cast 15 (.invokestatic 235) 3 18 := And.intro (by decide +kernel) rfl
theorem d_X12_cast_18 : dk me_X12_cast 18 (.ifCond .ne 7) 3 21 := And.intro (by decide +kernel) rfl
theorem d_X12_cast_21 : dk me_X12_cast 21 (.iconst 1) 1 22 := And.intro (by decide +kernel) rfl
theorem d_X12_cast_22 : dk me_X12_cast 22 (.goto 20) 3 25 := And.intro (by decide +kernel) rfl
theorem d_X12_cast_25 : dk me_X12_cast 25 (.aload_n 0) 1 26 := And.intro (by decide +kernel) rfl
theorem d_X12_cast_26 : dk me_X12_cast 26 (.getfield 291) 3 29 := And.intro (by decide +kernel) rfl
theorem d_X12_cast_29 : dk me_X12_cast 29 (.iload_n 2) 1 30 := And.intro (by decide +kernel) rfl
theorem d_X12_cast_30 : dk me_X12_cast 30 (.iadd) 1 31 := And.intro (by decide +kernel) rfl
theorem d_X12_cast_31 : dk me_X12_cast 31 (.sipush 400) 3 34 := And.intro (by decide +kernel) rfl
theorem d_X12_cast_34 : dk me_X12_cast 34 (.if_icmp .le 7) 3 37 := And.intro (by decide +kernel) rfl
theorem d_X12_cast_37 : dk me_X12_cast 37 (.iconst 2) 1 38 := And.intro (by decide +kernel) rfl
theorem d_X12_cast_38 : dk me_X12_cast 38 (.goto 4) 3 41 := And.intro (by decide +kernel) rfl
theorem d_X12_cast_41 : dk me_X12_cast 41 (.iconst 0) 1 42 := And.intro (by decide +kernel) rfl
theorem d_X12_cast_42 : dk me_X12_cast 42 (.invokevirtual 260) 3 45 := And.intro (by decide +kernel) rfl
theorem d_X12_cast_45 : dk me_X12_cast 45 (.ifCond .ne 5) 3 48 := And.intro (by decide +kernel) rfl
theorem d_X12_cast_48 : dk me_X12_cast 48 (.iconst 0) 1 49 := And.intro (by decide +kernel) rfl
theorem d_X12_cast_49 : dk me_X12_cast 49 (.ireturn) 1 50 := And.intro (by decide +kernel) rfl
theorem d_X12_cast_50 : dk me_X12_cast 50 (.iconst 0) 1 51 := And.intro (by decide +kernel) rfl
theorem d_X12_cast_51 : dk me_X12_cast 51 (.istore_n 3) 1 52 := And.intro (by decide +kernel) rfl
theorem d_X12_cast_52 : dk me_X12_cast 52 (.iload_n 3) 1 53 := And.intro (by decide +kernel) rfl
theorem d_X12_cast_53 : dk me_X12_cast 53 (.iload_n 2) 1 54 := And.intro (by decide +kernel) rfl
theorem d_X12_cast_54 : dk me_X12_cast 54 (.if_icmp .ge 48) 3 57 := And.intro (by decide +kernel) rfl
theorem d_X12_cast_57 : dk me_X12_cast 57 (.aload_n 0) 1 58 := And.intro (by decide +kernel) rfl
theorem d_X12_cast_58 : dk me_X12_cast 58 (.getfield 20) 3 61 := And.intro (by decide +kernel) rfl
theorem d_X12_cast_61 : dk me_X12_cast 61 (.aload_n 0) 1 62 := And.intro (by decide +kernel) rfl
theorem d_X12_cast_62 : dk me_X12_cast 62 (.getfield 291) 3 65 := And.intro (by decide +kernel) rfl
theorem d_X12_cast_65 : dk me_X12_cast 65 (.iload_n 1) 1 66 := And.intro (by decide +kernel) rfl
theorem d_X12_cast_66 : dk me_X12_cast 66 (.iastore) 1 67 := And.intro (by decide +kernel) rfl
theorem d_X12_cast_67 : dk me_X12_cast 67 (.aload_n 0) 1 68 := And.intro (by decide +kernel) rfl
theorem d_X12_cast_68 : dk me_X12_cast 68 (.getfield 23) 3 71 := And.intro (by decide +kernel) rfl
theorem d_X12_cast_71 : dk me_X12_cast 71 (.aload_n 0) 1 72 := And.intro (by decide +kernel) rfl
theorem d_X12_cast_72 : dk me_X12_cast 72 (.getfield 291) 3 75 := And.intro (by decide +kernel) rfl
theorem d_X12_cast_75 : dk me_X12_cast 75 (.iconst 0) 1 76 := And.intro (by decide +kernel) rfl
theorem d_X12_cast_76 : dk me_X12_cast 76 (.iastore) 1 77 := And.intro (by decide +kernel) rfl
theorem d_X12_cast_77 : dk me_X12_cast 77 (.aload_n 0) 1 78 := And.intro (by decide +kernel) rfl
theorem d_X12_cast_78 : dk me_X12_cast 78 (.iload_n 1) 1 79 := And.intro (by decide +kernel) rfl
theorem d_X12_cast_79 : dk me_X12_cast 79 (.aload_n 0) 1 80 := And.intro (by decide +kernel) rfl
theorem d_X12_cast_80 : dk me_X12_cast 80 (.getfield 291) 3 83 := And.intro (by decide +kernel) rfl
theorem d_X12_cast_83 : dk me_X12_cast 83 (.invokevirtual 294) 3 86 := And.intro (by decide +kernel) rfl
theorem d_X12_cast_86 : dk me_X12_cast 86 (.aload_n 0) 1 87 := And.intro (by decide +kernel) rfl
theorem d_X12_cast_87 : dk me_X12_cast 87 (.dup) 1 88 := And.intro (by decide +kernel) rfl
theorem d_X12_cast_88 : dk me_X12_cast 88 (.getfield 291) 3 91 := And.intro (by decide +kernel) rfl
theorem d_X12_cast_91 : dk me_X12_cast 91 (.iconst 1) 1 92 := And.intro (by decide +kernel) rfl
theorem d_X12_cast_92 : dk me_X12_cast 92 (.iadd) 1 93 := And.intro (by decide +kernel) rfl
theorem d_X12_cast_93 : dk me_X12_cast 93 (.putfield 291) 3 96 := And.intro (by decide +kernel) rfl
theorem d_X12_cast_96 : dk me_X12_cast 96 (.iinc 3 1) 3 99 := And.intro (by decide +kernel) rfl
theorem d_X12_cast_99 : dk me_X12_cast 99 (.goto (-47)) 3 102 := And.intro (by decide +kernel) rfl
theorem d_X12_cast_102 : dk me_X12_cast 102 (.aload_n 0) 1 103 := And.intro (by decide +kernel) rfl
theorem d_X12_cast_103 : dk me_X12_cast 103 (.getfield 291) 3 106 := And.intro (by decide +kernel) rfl
theorem d_X12_cast_106 : dk me_X12_cast 106 (.ireturn) 1 107 := And.intro (by decide +kernel) rfl
theorem ms_X12_cast {fx : FX} {m : MM} {l0 : Nat} {l1 : Int} {l2 : Int} : MS fx me_X12_cast [aR (some (12, l0)), aI l1, aI l2] m (f_X12_cast m l0 l1 l2) := by
  refine ms_of rfl mf_X12_cast (b8 rfl) ?_
  refine s_top ?_
  show Sim fx me_X12_cast 0 [(0, aR (some (12, l0))), (1, aI l1), (2, aI l2)] [] m _
  unfold f_X12_cast
  have hj_X12_cast_0_102 : ∀ (m_102 : MM) (l0_102 : Nat), Sim fx me_X12_cast 102 [(0, aR (some (12, l0_102)))] [] m_102 ((j_X12_cast_0_102 m_102 l0_102).bind (fun z => some z)) := by
    intro m_102 l0_102
    unfold j_X12_cast_0_102
    exact s_aload_n d_X12_cast_102 m0_ (s_getN cf d_X12_cast_103 fl_X12_291 (s_iret d_X12_cast_106 rfl rfl))
  have hj_X12_cast_0_42 : ∀ (m_42 : MM) (l0_42 : Nat) (l1_42 : Int) (l2_42 : Int) (s0_42 : Nat) (s1_42 : Int), Sim fx me_X12_cast 42 [(0, aR (some (12, l0_42))), (1, aI l1_42), (2, aI l2_42)] [aI s1_42, aR (some (12, s0_42))] m_42 ((j_X12_cast_0_42 m_42 l0_42 l1_42 l2_42 s0_42 s1_42).bind (fun z => some z)) := by
    intro m_42 l0_42 l1_42 l2_42 s0_42 s1_42
    unfold j_X12_cast_0_42
    refine s_cI (r_V d_X12_cast_42 k_X12_holds w_1668 rfl rfl) ms_X12_holds (b8 rfl) rfl rfl rfl (fun _ _ _ => rfl) (fun _ _ => Or.inl rfl) fun v4 m3 => (s_if_ne (tgt := 50) d_X12_cast_45 rfl ?_ ?_)
    · refine s_iconst d_X12_cast_50 n_0 (s_istore_n (L' := [(3, aI 0), (0, aR (some (12, l0_42))), (1, aI l1_42), (2, aI l2_42)]) d_X12_cast_51 (b8 rfl) rfl (s_sub (subc m0_ (subc m1_ (subc m2_ (subc m3_ sub0)))) (s_lp2 (fun s => [(3, aI (s.1)), (0, aR (some (12, l0_42))), (1, aI l1_42), (2, aI l2_42)]) (fun s => s.2) (0, m3) fun k52 hx52 s ih0 => ?_)))
      obtain ⟨l3_52, mm_52⟩ := s
      have ih52 := ih0
      clear ih0
      try dsimp only
      unfold b_X12_cast_52
      refine s_iload_n d_X12_cast_52 m0_ (s_iload_n d_X12_cast_53 m3_ (s_icmp_ge (tgt := 102) d_X12_cast_54 rfl ?_ ?_))
      · exact s_exit (hx52 _) (s_sub (subc m1_ sub0) (hj_X12_cast_0_102 mm_52 l0_42))
      refine s_aload_n d_X12_cast_57 m1_ (s_getR cf d_X12_cast_58 fl_X12_20 (s_nk fun i5 => (s_aload_n d_X12_cast_61 m1_ (s_getN cf d_X12_cast_62 fl_X12_291 (s_iload_n d_X12_cast_65 m2_ ?_)))))
      refine s_stN d_X12_cast_66 ka_62 rfl fun m6 => (s_aload_n d_X12_cast_67 m1_ (s_getR cf d_X12_cast_68 fl_X12_23 (s_nk fun i7 => (s_aload_n d_X12_cast_71 m1_ (s_getN cf d_X12_cast_72 fl_X12_291 ?_)))))
      refine s_iconst d_X12_cast_75 n_0 (s_stN d_X12_cast_76 ka_63 rfl fun m8 => (s_aload_n d_X12_cast_77 m1_ (s_iload_n d_X12_cast_78 m2_ (s_aload_n d_X12_cast_79 m1_ (s_getN cf d_X12_cast_80 fl_X12_291 ?_)))))
      refine s_cV (r_V d_X12_cast_83 k_X12_puts w_1719 rfl rfl) ms_X12_puts (b8 rfl) rfl rfl rfl (fun _ _ _ => rfl) (fun _ _ => Or.inl rfl) fun m9 => (s_aload_n d_X12_cast_86 m1_ (s_dup d_X12_cast_87 rfl (s_getN cf d_X12_cast_88 fl_X12_291 (s_iconst d_X12_cast_91 n_1 (s_iadd d_X12_cast_92 rfl rfl ?_)))))
      exact s_ck (s_putN cf d_X12_cast_93 fl_X12_291 (fun h => by cases h) fun m11 => (s_iinc (L' := [(3, aI (l3_52 + 1)), (0, aR (some (12, l0_42))), (1, aI l1_42), (2, aI l2_42)]) d_X12_cast_96 m0_ (b8 rfl) rfl (s_goto (tgt := 52) d_X12_cast_99 rfl (s_sub (subc m0_ (subc m1_ (subc m2_ (subc m3_ sub0)))) (s_back (ih52 ((l3_52 + 1), m11)))))))
    exact s_iconst d_X12_cast_48 n_0 (s_iret d_X12_cast_49 rfl rfl)
  have hj_X12_cast_0_21 : ∀ (m_21 : MM) (l0_21 : Nat) (l1_21 : Int) (l2_21 : Int) (s0_21 : Nat), Sim fx me_X12_cast 21 [(0, aR (some (12, l0_21))), (1, aI l1_21), (2, aI l2_21)] [aR (some (12, s0_21))] m_21 ((j_X12_cast_0_21 m_21 l0_21 l1_21 l2_21 s0_21).bind (fun z => some z)) := by
    intro m_21 l0_21 l1_21 l2_21 s0_21
    unfold j_X12_cast_0_21
    exact s_iconst d_X12_cast_21 n_1 (s_goto (tgt := 42) d_X12_cast_22 rfl (s_sub (subc m0_ (subc m1_ (subc m2_ sub0))) (hj_X12_cast_0_42 m_21 l0_21 l1_21 l2_21 s0_21 1)))
  refine s_aload_n d_X12_cast_0 m0_ (s_iload_n d_X12_cast_1 m1_ (s_iconst d_X12_cast_2 n_0 (s_bipush d_X12_cast_3 n_27 rfl (s_pI (r_S d_X12_cast_5 k_X12_isIn w_1664 rfl rfl) ms_X12_isIn (b8 rfl) rfl rfl rfl fun v1 => (s_if_eq (tgt := 21) d_X12_cast_8 rfl ?_ ?_)))))
  · exact s_sub (subc m0_ (subc m1_ (subc m2_ sub0))) (hj_X12_cast_0_21 m l0 l1 l2 l0)
  refine s_iload_n d_X12_cast_11 m2_ (s_iconst d_X12_cast_12 n_1 (s_bipush d_X12_cast_13 n_40 rfl (s_pI (r_S d_X12_cast_15 k_X12_isIn w_1664 rfl rfl) ms_X12_isIn (b8 rfl) rfl rfl rfl fun v2 => (s_if_ne (tgt := 25) d_X12_cast_18 rfl ?_ ?_))))
  · refine s_aload_n d_X12_cast_25 m0_ (s_getN cf d_X12_cast_26 fl_X12_291 (s_iload_n d_X12_cast_29 m2_ (s_iadd d_X12_cast_30 rfl rfl (s_sipush d_X12_cast_31 n_400 rfl (s_ck1 ?_)))))
    refine s_icmp_le (tgt := 41) d_X12_cast_34 rfl ?_ ?_
    · exact s_iconst d_X12_cast_41 n_0 (s_sub (subc m0_ (subc m1_ (subc m2_ sub0))) (hj_X12_cast_0_42 m l0 l1 l2 l0 0))
    exact s_iconst d_X12_cast_37 n_2 (s_goto (tgt := 42) d_X12_cast_38 rfl (s_sub (subc m0_ (subc m1_ (subc m2_ sub0))) (hj_X12_cast_0_42 m l0 l1 l2 l0 2)))
  exact s_sub (subc m0_ (subc m1_ (subc m2_ sub0))) (hj_X12_cast_0_21 m l0 l1 l2 l0)
theorem d_X12_letters_0 : dk me_X12_letters 0 (.iconst 0) 1 1 := And.intro (by decide +kernel) rfl
theorem d_X12_letters_1 : dk me_X12_letters 1 (.istore_n 2) 1 2 := And.intro (by decide +kernel) rfl
theorem d_X12_letters_2 : dk me_X12_letters 2 (.lload_n 0) 1 3 := And.intro (by decide +kernel) rfl
theorem d_X12_letters_3 : dk me_X12_letters 3 (.iconst 5) 1 4 := And.intro (by decide +kernel) rfl
theorem d_X12_letters_4 : dk me_X12_letters 4 (.iload_n 2) 1 5 := And.intro (by decide +kernel) rfl
theorem d_X12_letters_5 : dk me_X12_letters 5 (.imul) 1 6 := And.intro (by decide +kernel) rfl
theorem d_X12_letters_6 : dk me_X12_letters 6 (.lshr) 1 7 := And.intro (by decide +kernel) rfl
theorem d_X12_letters_7 : dk me_X12_letters 7 (.lconst 0) 1 8 := And.intro (by decide +kernel) rfl
theorem d_X12_letters_8 : dk me_X12_letters 8 (.lcmp) 1 9 := And.intro (by decide +kernel) rfl
theorem d_X12_letters_9 : dk me_X12_letters 9 (.ifCond .le 9) 3 12 := And.intro (by decide +kernel) rfl
theorem d_X12_letters_12 : dk me_X12_letters 12 (.iinc 2 1) 3 15 := And.intro (by decide +kernel) rfl
theorem d_X12_letters_15 : dk me_X12_letters 15 (.goto (-13)) 3 18 := And.intro (by decide +kernel) rfl
theorem d_X12_letters_18 : dk me_X12_letters 18 (.iload_n 2) 1 19 := And.intro (by decide +kernel) rfl
theorem d_X12_letters_19 : dk me_X12_letters 19 (.ireturn) 1 20 := And.intro (by decide +kernel) rfl
theorem ms_X12_letters {fx : FX} {m : MM} {l0 : Int64} : MS fx me_X12_letters [aL l0] m ((f_X12_letters m l0).bind fun v => some (.inl (some (aI v)), m)) := by
  refine ms_of rfl mf_X12_letters (b8 rfl) ?_
  show Sim fx me_X12_letters 0 [(0, aL l0)] [] m _
  unfold f_X12_letters
  have hj_X12_letters_0_18 : ∀ (l2_18 : Int), Sim fx me_X12_letters 18 [(2, aI l2_18)] [] m ((j_X12_letters_0_18 m l2_18).bind (fun v => some (.inl (some (aI v)), m))) := by
    intro l2_18
    unfold j_X12_letters_0_18
    exact s_iload_n d_X12_letters_18 m0_ (s_iret d_X12_letters_19 rfl rfl)
  refine s_iconst d_X12_letters_0 n_0 (s_istore_n (L' := [(2, aI 0), (0, aL l0)]) d_X12_letters_1 (b8 rfl) rfl (s_sub (subc m0_ (subc m1_ sub0)) (s_lp2 (fun s => [(2, aI s), (0, aL l0)]) (fun s => m) 0 fun k2 hx2 s ih0 => ?_)))
  obtain ⟨l2_2, rfl⟩ : ∃ q, q = s := ⟨s, rfl⟩
  have ih2 := ih0
  clear ih0
  try dsimp only
  unfold b_X12_letters_2
  refine s_lload_n d_X12_letters_2 m1_ (s_iconst d_X12_letters_3 n_5 (s_iload_n d_X12_letters_4 m0_ (s_imul d_X12_letters_5 rfl rfl (s_ck (s_lshr d_X12_letters_6 ?_)))))
  refine s_lconst d_X12_letters_7 rfl (s_lcmp d_X12_letters_8 (s_if_le (tgt := 18) d_X12_letters_9 rfl ?_ ?_))
  · exact s_exit (hx2 _) (s_sub (subc m0_ sub0) (hj_X12_letters_0_18 l2_2))
  exact s_iinc (L' := [(2, aI (l2_2 + 1)), (0, aL l0)]) d_X12_letters_12 m0_ (b8 rfl) rfl (s_goto (tgt := 2) d_X12_letters_15 rfl (s_sub (subc m0_ (subc m1_ sub0)) (s_back (ih2 (l2_2 + 1)))))
theorem d_X12_castFrom_0 : dk me_X12_castFrom 0 (.aload_n 0) 1 1 := And.intro (by decide +kernel) rfl
theorem d_X12_castFrom_1 : dk me_X12_castFrom 1 (.getfield 59) 3 4 := And.intro (by decide +kernel) rfl
theorem d_X12_castFrom_4 : dk me_X12_castFrom 4 (.iload_n 1) 1 5 := And.intro (by decide +kernel) rfl
theorem d_X12_castFrom_5 : dk me_X12_castFrom 5 (.iaload) 1 6 := And.intro (by decide +kernel) rfl
theorem d_X12_castFrom_6 : dk me_X12_castFrom 6 (.aload_n 0) 1 7 := And.intro (by decide +kernel) rfl
theorem d_X12_castFrom_7 : dk me_X12_castFrom 7 (.getfield 62) 3 10 := And.intro (by decide +kernel) rfl
theorem d_X12_castFrom_10 : dk me_X12_castFrom 10 (.iload_n 1) 1 11 := And.intro (by decide +kernel) rfl
theorem d_X12_castFrom_11 : dk me_X12_castFrom 11 (.iaload) 1 12 := And.intro (by decide +kernel) rfl
theorem d_X12_castFrom_12 : dk me_X12_castFrom 12 (.imul) 1 13 := And.intro (by decide +kernel) rfl
theorem d_X12_castFrom_13 : dk me_X12_castFrom 13 (.aload_n 0) 1 14 := And.intro (by decide +kernel) rfl
theorem d_X12_castFrom_14 : dk me_X12_castFrom 14 (.getfield 68) 3 17 := And.intro (by decide +kernel) rfl
theorem d_X12_castFrom_17 : dk me_X12_castFrom 17 (.iload_n 1) 1 18 := And.intro (by decide +kernel) rfl
theorem d_X12_castFrom_18 : dk me_X12_castFrom 18 (.iaload) 1 19 := And.intro (by decide +kernel) rfl
theorem d_X12_castFrom_19 : dk me_X12_castFrom 19 (.imul) 1 20 := And.intro (by decide +kernel) rfl
theorem d_X12_castFrom_20 : dk me_X12_castFrom 20 (.bipush 100) 2 22 := And.intro (by decide +kernel) rfl
theorem d_X12_castFrom_22 : dk me_X12_castFrom 22 (.idiv) 1 23 := And.intro (by decide +kernel) rfl
theorem d_X12_castFrom_23 : dk me_X12_castFrom 23 (.istore_n 3) 1 24 := And.intro (by decide +kernel) rfl
theorem d_X12_castFrom_24 : dk me_X12_castFrom 24 (.iconst 0) 1 25 := And.intro (by decide +kernel) rfl
theorem d_X12_castFrom_25 : dk me_X12_castFrom 25 (.istore 4) 2 27 := And.intro (by decide +kernel) rfl
theorem d_X12_castFrom_27 : dk me_X12_castFrom 27 (.iconst 0) 1 28 := And.intro (by decide +kernel) rfl
theorem d_X12_castFrom_28 : dk me_X12_castFrom 28 (.istore 5) 2 30 := And.intro (by decide +kernel) rfl
theorem d_X12_castFrom_30 : dk me_X12_castFrom 30 (.iload 5) 2 32 := And.intro (by decide +kernel) rfl
theorem d_X12_castFrom_32 : dk me_X12_castFrom 32 (.aload_n 0) 1 33 := And.intro (by decide +kernel) rfl
theorem d_X12_castFrom_33 : dk me_X12_castFrom 33 (.getfield 75) 3 36 := And.intro (by decide +kernel) rfl
theorem d_X12_castFrom_36 : dk me_X12_castFrom 36 (.iload_n 1) 1 37 := And.intro (by decide +kernel) rfl
theorem d_X12_castFrom_37 : dk me_X12_castFrom 37 (.iaload) 1 38 := And.intro (by decide +kernel) rfl
theorem d_X12_castFrom_38 : dk me_X12_castFrom 38 (.if_icmp .ge 48) 3 41 := And.intro (by decide +kernel) rfl
theorem d_X12_castFrom_41 : dk me_X12_castFrom 41 (.iload 4) 2 43 := And.intro (by decide +kernel) rfl
theorem d_X12_castFrom_43 : dk me_X12_castFrom 43 (.iload_n 2) 1 44 := And.intro (by decide +kernel) rfl
theorem d_X12_castFrom_44 : dk me_X12_castFrom 44 (.iload_n 3) 1 45 := And.intro (by decide +kernel) rfl
theorem d_X12_castFrom_45 : dk me_X12_castFrom 45 (.iconst 1) 1 46 := And.intro (by decide +kernel) rfl
theorem d_X12_castFrom_46 : dk me_X12_castFrom 46 (.if_icmp .le 7) 3 49 := And.intro (by decide +kernel) rfl
theorem d_X12_castFrom_49 : dk me_X12_castFrom 49 (.iload_n 3) 1 50 := And.intro (by decide +kernel) rfl
theorem d_X12_castFrom_50 : dk me_X12_castFrom 50 (.goto 4) 3 53 := And.intro (by decide +kernel) rfl
theorem d_X12_castFrom_53 : dk me_X12_castFrom 53 (.iconst 1) 1 54 := And.intro (by decide +kernel) rfl
theorem d_X12_castFrom_54 : dk me_X12_castFrom 54 (.imul) 1 55 := And.intro (by decide +kernel) rfl
theorem d_X12_castFrom_55 : dk me_X12_castFrom 55 (.if_icmp .ge 31) 3 58 := And.intro (by decide +kernel) rfl
theorem d_X12_castFrom_58 : dk me_X12_castFrom 58 (.iload 4) 2 60 := And.intro (by decide +kernel) rfl
theorem d_X12_castFrom_60 : dk me_X12_castFrom 60 (.aload_n 0) 1 61 := And.intro (by decide +kernel) rfl
theorem d_X12_castFrom_61 : dk me_X12_castFrom 61 (.getfield 78) 3 64 := And.intro (by decide +kernel) rfl
theorem d_X12_castFrom_64 : dk me_X12_castFrom 64 (.bipush 60) 2 66 := And.intro (by decide +kernel) rfl
theorem d_X12_castFrom_66 : dk me_X12_castFrom 66 (.iload_n 1) 1 67 := And.intro (by decide +kernel) rfl
theorem d_X12_castFrom_67 : dk me_X12_castFrom 67 (.imul) 1 68 := And.intro (by decide +kernel) rfl
theorem d_X12_castFrom_68 : dk me_X12_castFrom 68 (.iload 5) 2 70 := And.intro (by decide +kernel) rfl
theorem d_X12_castFrom_70 : dk me_X12_castFrom 70 (.iadd) 1 71 := And.intro (by decide +kernel) rfl
theorem d_X12_castFrom_71 : dk me_X12_castFrom 71 (.laload) 1 72 := And.intro (by decide +kernel) rfl
theorem d_X12_castFrom_72 : dk me_X12_castFrom 72 (.invokestatic 280) 3 75 := And.intro (by decide +kernel) rfl
theorem d_X12_castFrom_75 : dk me_X12_castFrom 75 (.iconst 1) 1 76 := And.intro (by decide +kernel) rfl
theorem d_X12_castFrom_76 : dk me_X12_castFrom 76 (.iadd) 1 77 := And.intro (by decide +kernel) rfl
theorem d_X12_castFrom_77 : dk me_X12_castFrom 77 (.iadd) 1 78 := And.intro (by decide +kernel) rfl
theorem d_X12_castFrom_78 : dk me_X12_castFrom 78 (.istore 4) 2 80 := And.intro (by decide +kernel) rfl
theorem d_X12_castFrom_80 : dk me_X12_castFrom 80 (.iinc 5 1) 3 83 := And.intro (by decide +kernel) rfl
theorem d_X12_castFrom_83 : dk me_X12_castFrom 83 (.goto (-53)) 3 86 := And.intro (by decide +kernel) rfl
theorem d_X12_castFrom_86 : dk me_X12_castFrom 86 (.iload 5) 2 88 := And.intro (by decide +kernel) rfl
theorem d_X12_castFrom_88 : dk me_X12_castFrom 88 (.ireturn) 1 89 := And.intro (by decide +kernel) rfl
theorem ms_X12_castFrom {fx : FX} {m : MM} {l0 : Nat} {l1 : Int} {l2 : Int} : MS fx me_X12_castFrom [aR (some (12, l0)), aI l1, aI l2] m ((f_X12_castFrom m l0 l1 l2).bind fun v => some (.inl (some (aI v)), m)) := by
  refine ms_of rfl mf_X12_castFrom (b8 rfl) ?_
  show Sim fx me_X12_castFrom 0 [(0, aR (some (12, l0))), (1, aI l1), (2, aI l2)] [] m _
  unfold f_X12_castFrom
  have hj_X12_castFrom_0_86 : ∀ (l5_86 : Int), Sim fx me_X12_castFrom 86 [(5, aI l5_86)] [] m ((j_X12_castFrom_0_86 m l5_86).bind (fun v => some (.inl (some (aI v)), m))) := by
    intro l5_86
    unfold j_X12_castFrom_0_86
    exact s_iload d_X12_castFrom_86 m0_ (s_iret d_X12_castFrom_88 rfl rfl)
  refine s_aload_n d_X12_castFrom_0 m0_ (s_getR cf d_X12_castFrom_1 fl_X12_59 (s_nk fun i1 => (s_iload_n d_X12_castFrom_4 m1_ (s_ldN d_X12_castFrom_5 ka_75 rfl fun v2 => (s_aload_n d_X12_castFrom_6 m0_ ?_)))))
  refine s_getR cf d_X12_castFrom_7 fl_X12_62 (s_nk fun i3 => (s_iload_n d_X12_castFrom_10 m1_ (s_ldN d_X12_castFrom_11 ka_76 rfl fun v4 => (s_imul d_X12_castFrom_12 rfl rfl (s_aload_n d_X12_castFrom_13 m0_ ?_)))))
  refine s_getR cf d_X12_castFrom_14 fl_X12_68 (s_nk fun i5 => (s_iload_n d_X12_castFrom_17 m1_ (s_ldN d_X12_castFrom_18 ka_78 rfl fun v6 => (s_imul d_X12_castFrom_19 rfl rfl (s_bipush d_X12_castFrom_20 n_100 rfl ?_)))))
  refine s_ck1 (s_idiv d_X12_castFrom_22 (s_istore_n (L' := [(3, aI (((v2 * v4) * v6) / 100)), (0, aR (some (12, l0))), (1, aI l1), (2, aI l2)]) d_X12_castFrom_23 (b8 rfl) rfl (s_iconst d_X12_castFrom_24 n_0 (s_istore (L' := [(4, aI 0), (3, aI (((v2 * v4) * v6) / 100)), (0, aR (some (12, l0))), (1, aI l1), (2, aI l2)]) d_X12_castFrom_25 (b8 rfl) rfl (s_iconst d_X12_castFrom_27 n_0 ?_)))))
  refine s_istore (L' := [(5, aI 0), (4, aI 0), (3, aI (((v2 * v4) * v6) / 100)), (0, aR (some (12, l0))), (1, aI l1), (2, aI l2)]) d_X12_castFrom_28 (b8 rfl) rfl (s_sub (subc m1_ (subc m0_ (subc m3_ (subc m4_ (subc m5_ (subc m2_ sub0)))))) (s_lp2 (fun s => [(4, aI (s.1)), (5, aI (s.2)), (0, aR (some (12, l0))), (1, aI l1), (2, aI l2), (3, aI (((v2 * v4) * v6) / 100))]) (fun s => m) (0, 0) fun k30 hx30 s ih0 => ?_))
  obtain ⟨l4_30, l5_30⟩ := s
  have ih30 := ih0
  clear ih0
  try dsimp only
  unfold b_X12_castFrom_30
  have hj_X12_castFrom_30_54 : ∀ (l4_54 : Int) (l5_54 : Int) (s0_54 : Int) (s1_54 : Int) (s2_54 : Int), Sim fx me_X12_castFrom 54 [(0, aR (some (12, l0))), (1, aI l1), (2, aI l2), (3, aI (((v2 * v4) * v6) / 100)), (4, aI l4_54), (5, aI l5_54)] [aI s2_54, aI s1_54, aI s0_54] m ((j_X12_castFrom_30_54 m l0 l1 l2 (((v2 * v4) * v6) / 100) l4_54 l5_54 s0_54 s1_54 s2_54).bind k30) := by
    intro l4_54 l5_54 s0_54 s1_54 s2_54
    unfold j_X12_castFrom_30_54
    refine s_imul d_X12_castFrom_54 rfl rfl (s_ck (s_icmp_ge (tgt := 86) d_X12_castFrom_55 rfl ?_ ?_))
    · exact s_exit (hx30 _) (s_sub (subc m5_ sub0) (hj_X12_castFrom_0_86 l5_54))
    refine s_iload d_X12_castFrom_58 m4_ (s_aload_n d_X12_castFrom_60 m0_ (s_getR cf d_X12_castFrom_61 fl_X12_78 (s_nk fun i9 => (s_bipush d_X12_castFrom_64 n_60 rfl (s_iload_n d_X12_castFrom_66 m1_ ?_)))))
    refine s_imul d_X12_castFrom_67 rfl rfl (s_iload d_X12_castFrom_68 m5_ (s_iadd d_X12_castFrom_70 rfl rfl (s_ldL d_X12_castFrom_71 ka_81 rfl fun v10 => (s_pI (r_S d_X12_castFrom_72 k_X12_letters w_1708 rfl rfl) ms_X12_letters (b8 rfl) rfl rfl rfl fun v11 => (s_iconst d_X12_castFrom_75 n_1 ?_)))))
    refine s_iadd d_X12_castFrom_76 rfl rfl (s_iadd d_X12_castFrom_77 rfl rfl (s_ck (s_istore (L' := [(4, aI (l4_54 + (v11 + 1))), (0, aR (some (12, l0))), (1, aI l1), (2, aI l2), (3, aI (((v2 * v4) * v6) / 100)), (5, aI l5_54)]) d_X12_castFrom_78 (b8 rfl) rfl (s_iinc (L' := [(5, aI (l5_54 + 1)), (4, aI (l4_54 + (v11 + 1))), (0, aR (some (12, l0))), (1, aI l1), (2, aI l2), (3, aI (((v2 * v4) * v6) / 100))]) d_X12_castFrom_80 m5_ (b8 rfl) rfl (s_goto (tgt := 30) d_X12_castFrom_83 rfl ?_)))))
    exact s_sub (subc m1_ (subc m0_ (subc m2_ (subc m3_ (subc m4_ (subc m5_ sub0)))))) (s_back (ih30 ((l4_54 + (v11 + 1)), (l5_54 + 1))))
  refine s_iload d_X12_castFrom_30 m1_ (s_aload_n d_X12_castFrom_32 m2_ (s_getR cf d_X12_castFrom_33 fl_X12_75 (s_nk fun i7 => (s_iload_n d_X12_castFrom_36 m3_ (s_ldN d_X12_castFrom_37 ka_80 rfl fun v8 => ?_)))))
  refine s_icmp_ge (tgt := 86) d_X12_castFrom_38 rfl ?_ ?_
  · exact s_exit (hx30 _) (s_sub (subc m1_ sub0) (hj_X12_castFrom_0_86 l5_30))
  refine s_iload d_X12_castFrom_41 m0_ (s_iload_n d_X12_castFrom_43 m4_ (s_iload_n d_X12_castFrom_44 m5_ (s_iconst d_X12_castFrom_45 n_1 (s_icmp_le (tgt := 53) d_X12_castFrom_46 rfl ?_ ?_))))
  · exact s_iconst d_X12_castFrom_53 n_1 (s_sub (subc m2_ (subc m3_ (subc m4_ (subc m5_ (subc m0_ (subc m1_ sub0)))))) (hj_X12_castFrom_30_54 l4_30 l5_30 l4_30 l2 1))
  exact s_iload_n d_X12_castFrom_49 m5_ (s_goto (tgt := 54) d_X12_castFrom_50 rfl (s_sub (subc m2_ (subc m3_ (subc m4_ (subc m5_ (subc m0_ (subc m1_ sub0)))))) (hj_X12_castFrom_30_54 l4_30 l5_30 l4_30 l2 (((v2 * v4) * v6) / 100))))
theorem d_X12_hasSet_0 : dk me_X12_hasSet 0 (.iconst 0) 1 1 := And.intro (by decide +kernel) rfl
theorem d_X12_hasSet_1 : dk me_X12_hasSet 1 (.istore_n 2) 1 2 := And.intro (by decide +kernel) rfl
theorem d_X12_hasSet_2 : dk me_X12_hasSet 2 (.iconst 0) 1 3 := And.intro (by decide +kernel) rfl
theorem d_X12_hasSet_3 : dk me_X12_hasSet 3 (.istore_n 3) 1 4 := And.intro (by decide +kernel) rfl
theorem d_X12_hasSet_4 : dk me_X12_hasSet 4 (.iload_n 3) 1 5 := And.intro (by decide +kernel) rfl
theorem d_X12_hasSet_5 : dk me_X12_hasSet 5 (.aload_n 0) 1 6 := And.intro (by decide +kernel) rfl
theorem d_X12_hasSet_6 : dk me_X12_hasSet 6 (.iload_n 1) 1 7 := And.intro (by decide +kernel) rfl
theorem d_X12_hasSet_7 : dk me_X12_hasSet 7 (.invokevirtual 243) 3 10 := And.intro (by decide +kernel) rfl
theorem d_X12_hasSet_10 : dk me_X12_hasSet 10 (.if_icmp .ge 33) 3 13 := And.intro (by decide +kernel) rfl
theorem d_X12_hasSet_13 : dk me_X12_hasSet 13 (.iload_n 2) 1 14 := And.intro (by decide +kernel) rfl
theorem d_X12_hasSet_14 : dk me_X12_hasSet 14 (.ifCond .ne 17) 3 17 := And.intro (by decide +kernel) rfl
theorem d_X12_hasSet_17 : dk me_X12_hasSet 17 (.aload_n 0) 1 18 := And.intro (by decide +kernel) rfl
theorem d_X12_hasSet_18 : dk me_X12_hasSet 18 (.getfield 84) 3 21 := And.intro (by decide +kernel) rfl
theorem d_X12_hasSet_21 : dk me_X12_hasSet 21 (.bipush 16) 2 23 := And.intro (by decide +kernel) rfl
theorem d_X12_hasSet_23 : dk me_X12_hasSet 23 (.iload_n 1) 1 24 := And.intro (by decide +kernel) rfl
theorem d_X12_hasSet_24 : dk me_X12_hasSet 24 (.imul) 1 25 := And.intro (by decide +kernel) rfl
theorem d_X12_hasSet_25 : dk me_X12_hasSet 25 (.iload_n 3) 1 26 := And.intro (by decide +kernel) rfl
theorem d_X12_hasSet_26 : dk me_X12_hasSet 26 (.iadd) 1 27 := And.intro (by decide +kernel) rfl
theorem d_X12_hasSet_27 : dk me_X12_hasSet 27 (.baload) 1 28 := And.intro (by decide +kernel) rfl
theorem d_X12_hasSet_28 : dk me_X12_hasSet 28 (.ifCond .eq 7) 3 31 := And.intro (by decide +kernel) rfl
theorem d_X12_hasSet_31 : dk me_X12_hasSet 31 (.iconst 1) 1 32 := And.intro (by decide +kernel) rfl
theorem d_X12_hasSet_32 : dk me_X12_hasSet 32 (.goto 4) 3 35 := And.intro (by decide +kernel) rfl
theorem d_X12_hasSet_35 : dk me_X12_hasSet 35 (.iconst 0) 1 36 := And.intro (by decide +kernel) rfl
theorem d_X12_hasSet_36 : dk me_X12_hasSet 36 (.istore_n 2) 1 37 := And.intro (by decide +kernel) rfl
theorem d_X12_hasSet_37 : dk me_X12_hasSet 37 (.iinc 3 1) 3 40 := And.intro (by decide +kernel) rfl
theorem d_X12_hasSet_40 : dk me_X12_hasSet 40 (.goto (-36)) 3 43 := And.intro (by decide +kernel) rfl
theorem d_X12_hasSet_43 : dk me_X12_hasSet 43 (.iload_n 2) 1 44 := And.intro (by decide +kernel) rfl
theorem d_X12_hasSet_44 : dk me_X12_hasSet 44 (.ireturn) 1 45 := And.intro (by decide +kernel) rfl
theorem ms_X12_hasSet {fx : FX} {m : MM} {l0 : Nat} {l1 : Int} : MS fx me_X12_hasSet [aR (some (12, l0)), aI l1] m ((f_X12_hasSet m l0 l1).bind fun v => some (.inl (some (aI v)), m)) := by
  refine ms_of rfl mf_X12_hasSet (b8 rfl) ?_
  show Sim fx me_X12_hasSet 0 [(0, aR (some (12, l0))), (1, aI l1)] [] m _
  unfold f_X12_hasSet
  have hj_X12_hasSet_0_43 : ∀ (l2_43 : Int), Sim fx me_X12_hasSet 43 [(2, aI l2_43)] [] m ((j_X12_hasSet_0_43 m l2_43).bind (fun v => some (.inl (some (aI v)), m))) := by
    intro l2_43
    unfold j_X12_hasSet_0_43
    exact s_iload_n d_X12_hasSet_43 m0_ (s_zret d_X12_hasSet_44 rfl rfl)
  refine s_iconst d_X12_hasSet_0 n_0 (s_istore_n (L' := [(2, aI 0), (0, aR (some (12, l0))), (1, aI l1)]) d_X12_hasSet_1 (b8 rfl) rfl (s_iconst d_X12_hasSet_2 n_0 (s_istore_n (L' := [(3, aI 0), (2, aI 0), (0, aR (some (12, l0))), (1, aI l1)]) d_X12_hasSet_3 (b8 rfl) rfl (s_sub (subc m1_ (subc m0_ (subc m2_ (subc m3_ sub0)))) (s_lp2 (fun s => [(2, aI (s.1)), (3, aI (s.2)), (0, aR (some (12, l0))), (1, aI l1)]) (fun s => m) (0, 0) fun k4 hx4 s ih0 => ?_)))))
  obtain ⟨l2_4, l3_4⟩ := s
  have ih4 := ih0
  clear ih0
  try dsimp only
  unfold b_X12_hasSet_4
  refine s_iload_n d_X12_hasSet_4 m1_ (s_aload_n d_X12_hasSet_5 m2_ (s_iload_n d_X12_hasSet_6 m3_ (s_pI (r_V d_X12_hasSet_7 k_X12_pagesOf w_1755 rfl rfl) ms_X12_pagesOf (b8 rfl) rfl rfl rfl fun v1 => (s_icmp_ge (tgt := 43) d_X12_hasSet_10 rfl ?_ ?_))))
  · exact s_exit (hx4 _) (s_sub (subc m0_ sub0) (hj_X12_hasSet_0_43 l2_4))
  refine s_iload_n d_X12_hasSet_13 m0_ (s_if_ne (tgt := 31) d_X12_hasSet_14 rfl ?_ ?_)
  · exact s_iconst d_X12_hasSet_31 n_1 (s_goto (tgt := 36) d_X12_hasSet_32 rfl (s_istore_n (L' := [(2, aI 1), (3, aI l3_4), (0, aR (some (12, l0))), (1, aI l1)]) d_X12_hasSet_36 (b8 rfl) rfl (s_iinc (L' := [(3, aI (l3_4 + 1)), (2, aI 1), (0, aR (some (12, l0))), (1, aI l1)]) d_X12_hasSet_37 m1_ (b8 rfl) rfl (s_goto (tgt := 4) d_X12_hasSet_40 rfl (s_sub (subc m1_ (subc m0_ (subc m2_ (subc m3_ sub0)))) (s_back (ih4 (1, (l3_4 + 1)))))))))
  refine s_aload_n d_X12_hasSet_17 m2_ (s_getR cf d_X12_hasSet_18 fl_X12_84 (s_nk fun i2 => (s_bipush d_X12_hasSet_21 n_16 rfl (s_iload_n d_X12_hasSet_23 m3_ (s_imul d_X12_hasSet_24 rfl rfl ?_)))))
  refine s_iload_n d_X12_hasSet_25 m1_ (s_iadd d_X12_hasSet_26 rfl rfl (s_ldB d_X12_hasSet_27 ka_83 rfl fun v3 => (s_if_eq (tgt := 35) d_X12_hasSet_28 rfl ?_ ?_)))
  · exact s_iconst d_X12_hasSet_35 n_0 (s_istore_n (L' := [(2, aI 0), (3, aI l3_4), (0, aR (some (12, l0))), (1, aI l1)]) d_X12_hasSet_36 (b8 rfl) rfl (s_iinc (L' := [(3, aI (l3_4 + 1)), (2, aI 0), (0, aR (some (12, l0))), (1, aI l1)]) d_X12_hasSet_37 m1_ (b8 rfl) rfl (s_goto (tgt := 4) d_X12_hasSet_40 rfl (s_sub (subc m1_ (subc m0_ (subc m2_ (subc m3_ sub0)))) (s_back (ih4 (0, (l3_4 + 1))))))))
  exact s_iconst d_X12_hasSet_31 n_1 (s_goto (tgt := 36) d_X12_hasSet_32 rfl (s_istore_n (L' := [(2, aI 1), (3, aI l3_4), (0, aR (some (12, l0))), (1, aI l1)]) d_X12_hasSet_36 (b8 rfl) rfl (s_iinc (L' := [(3, aI (l3_4 + 1)), (2, aI 1), (0, aR (some (12, l0))), (1, aI l1)]) d_X12_hasSet_37 m1_ (b8 rfl) rfl (s_goto (tgt := 4) d_X12_hasSet_40 rfl (s_sub (subc m1_ (subc m0_ (subc m2_ (subc m3_ sub0)))) (s_back (ih4 (1, (l3_4 + 1)))))))))
theorem d_X12_castOff_0 : dk me_X12_castOff 0 (.aload_n 0) 1 1 := And.intro (by decide +kernel) rfl
theorem d_X12_castOff_1 : dk me_X12_castOff 1 (.iload_n 1) 1 2 := And.intro (by decide +kernel) rfl
theorem d_X12_castOff_2 : dk me_X12_castOff 2 (.invokevirtual 239) 3 5 := And.intro (by decide +kernel) rfl
theorem d_X12_castOff_5 : dk me_X12_castOff 5 (.istore_n 3) 1 6 := And.intro (by decide +kernel) rfl
theorem d_X12_castOff_6 : dk me_X12_castOff 6 (.iload_n 3) 1 7 := And.intro (by decide +kernel) rfl
theorem d_X12_castOff_7 : dk me_X12_castOff 7 (.ifCond .eq 33) 3 10 := And.intro (by decide +kernel) rfl
theorem d_X12_castOff_10 : dk me_X12_castOff 10 (.aload_n 0) 1 11 := And.intro (by decide +kernel) rfl
theorem d_X12_castOff_11 : dk me_X12_castOff 11 (.getfield 75) 3 14 := And.intro (by decide +kernel) rfl
theorem d_X12_castOff_14 : dk me_X12_castOff 14 (.iload_n 1) 1 15 := And.intro (by decide +kernel) rfl
theorem d_X12_castOff_15 : dk me_X12_castOff 15 (.iaload) 1 16 := And.intro (by decide +kernel) rfl
theorem d_X12_castOff_16 : dk me_X12_castOff 16 (.ifCond .le 24) 3 19 := And.intro (by decide +kernel) rfl
theorem d_X12_castOff_19 : dk me_X12_castOff 19 (.aload_n 0) 1 20 := And.intro (by decide +kernel) rfl
theorem d_X12_castOff_20 : dk me_X12_castOff 20 (.getfield 68) 3 23 := And.intro (by decide +kernel) rfl
theorem d_X12_castOff_23 : dk me_X12_castOff 23 (.iload_n 1) 1 24 := And.intro (by decide +kernel) rfl
theorem d_X12_castOff_24 : dk me_X12_castOff 24 (.iaload) 1 25 := And.intro (by decide +kernel) rfl
theorem d_X12_castOff_25 : dk me_X12_castOff 25 (.ifCond .ne 15) 3 28 := And.intro (by decide +kernel) rfl
theorem d_X12_castOff_28 : dk me_X12_castOff 28 (.aload_n 0) 1 29 := And.intro (by decide +kernel) rfl
theorem d_X12_castOff_29 : dk me_X12_castOff 29 (.iload_n 1) 1 30 := And.intro (by decide +kernel) rfl
theorem d_X12_castOff_30 : dk me_X12_castOff 30 (.invokevirtual 298) 3 33 := And.intro (by decide +kernel) rfl
theorem d_X12_castOff_33 : dk me_X12_castOff 33 (.ifCond .ne 7) 3 36 := And.intro (by decide +kernel) rfl
theorem d_X12_castOff_36 : dk me_X12_castOff 36 (.iconst 1) 1 37 := And.intro (by decide +kernel) rfl
theorem d_X12_castOff_37 : dk me_X12_castOff 37 (.goto 4) 3 40 := And.intro (by decide +kernel) rfl
theorem d_X12_castOff_40 : dk me_X12_castOff 40 (.iconst 0) 1 41 := And.intro (by decide +kernel) rfl
theorem d_X12_castOff_41 : dk me_X12_castOff 41 (.istore 4) 2 43 := And.intro (by decide +kernel) rfl
theorem d_X12_castOff_43 : dk me_X12_castOff 43 (.aload_n 0) 1 44 := And.intro (by decide +kernel) rfl
theorem d_X12_castOff_44 : dk me_X12_castOff 44 (.iload_n 3) 1 45 := And.intro (by decide +kernel) rfl
theorem d_X12_castOff_45 : dk me_X12_castOff 45 (.ifCond .ne 7) 3 48 := And.intro (by decide +kernel) rfl
theorem d_X12_castOff_48 : dk me_X12_castOff 48 (.iconst 1) 1 49 := And.intro (by decide +kernel) rfl
theorem d_X12_castOff_49 : dk me_X12_castOff 49 (.goto 29) 3 52 := And.intro (by decide +kernel) rfl
theorem d_X12_castOff_52 : dk me_X12_castOff 52 (.iload_n 2) 1 53 := And.intro (by decide +kernel) rfl
theorem d_X12_castOff_53 : dk me_X12_castOff 53 (.bipush 50) 2 55 := And.intro (by decide +kernel) rfl
theorem d_X12_castOff_55 : dk me_X12_castOff 55 (.sipush 150) 3 58 := And.intro (by decide +kernel) rfl
theorem d_X12_castOff_58 : dk me_X12_castOff 58 (.invokestatic 235) 3 61 := And.intro (by decide +kernel) rfl
theorem d_X12_castOff_61 : dk me_X12_castOff 61 (.ifCond .ne 7) 3 64 := And.intro (by decide +kernel) rfl
theorem d_X12_castOff_64 : dk me_X12_castOff 64 (.iconst 2) 1 65 := And.intro (by decide +kernel) rfl
theorem d_X12_castOff_65 : dk me_X12_castOff 65 (.goto 13) 3 68 := And.intro (by decide +kernel) rfl
theorem d_X12_castOff_68 : dk me_X12_castOff 68 (.iload 4) 2 70 := And.intro (by decide +kernel) rfl
theorem d_X12_castOff_70 : dk me_X12_castOff 70 (.ifCond .eq 7) 3 73 := And.intro (by decide +kernel) rfl
theorem d_X12_castOff_73 : dk me_X12_castOff 73 (.iconst 0) 1 74 := And.intro (by decide +kernel) rfl
theorem d_X12_castOff_74 : dk me_X12_castOff 74 (.goto 4) 3 77 := And.intro (by decide +kernel) rfl
theorem d_X12_castOff_77 : dk me_X12_castOff 77 (.iconst 3) 1 78 := And.intro (by decide +kernel) rfl
theorem d_X12_castOff_78 : dk me_X12_castOff 78 (.invokevirtual 260) 3 81 := And.intro (by decide +kernel) rfl
theorem d_X12_castOff_81 : dk me_X12_castOff 81 (.ifCond .ne 5) 3 84 := And.intro (by decide +kernel) rfl
theorem d_X12_castOff_84 : dk me_X12_castOff 84 (.iconst 0) 1 85 := And.intro (by decide +kernel) rfl
theorem d_X12_castOff_85 : dk me_X12_castOff 85 (.ireturn) 1 86 := And.intro (by decide +kernel) rfl
theorem d_X12_castOff_86 : dk me_X12_castOff 86 (.aload_n 0) 1 87 := And.intro (by decide +kernel) rfl
theorem d_X12_castOff_87 : dk me_X12_castOff 87 (.getfield 68) 3 90 := And.intro (by decide +kernel) rfl
theorem d_X12_castOff_90 : dk me_X12_castOff 90 (.iload_n 1) 1 91 := And.intro (by decide +kernel) rfl
theorem d_X12_castOff_91 : dk me_X12_castOff 91 (.iload_n 2) 1 92 := And.intro (by decide +kernel) rfl
theorem d_X12_castOff_92 : dk me_X12_castOff 92 (.iastore) 1 93 := And.intro (by decide +kernel) rfl
theorem d_X12_castOff_93 : dk me_X12_castOff 93 (.aload_n 0) 1 94 := And.intro (by decide +kernel) rfl
theorem d_X12_castOff_94 : dk me_X12_castOff 94 (.iload_n 1) 1 95 := And.intro (by decide +kernel) rfl
theorem d_X12_castOff_95 : dk me_X12_castOff 95 (.aload_n 0) 1 96 := And.intro (by decide +kernel) rfl
theorem d_X12_castOff_96 : dk me_X12_castOff 96 (.iload_n 1) 1 97 := And.intro (by decide +kernel) rfl
theorem d_X12_castOff_97 : dk me_X12_castOff 97 (.invokevirtual 243) 3 100 := And.intro (by decide +kernel) rfl
theorem d_X12_castOff_100 : dk me_X12_castOff 100 (.iconst 1) 1 101 := And.intro (by decide +kernel) rfl
theorem d_X12_castOff_101 : dk me_X12_castOff 101 (.isub) 1 102 := And.intro (by decide +kernel) rfl
theorem d_X12_castOff_102 : dk me_X12_castOff 102 (.invokevirtual 304) 3 105 := And.intro (by decide +kernel) rfl
theorem d_X12_castOff_105 : dk me_X12_castOff 105 (.ireturn) 1 106 := And.intro (by decide +kernel) rfl
theorem ms_X12_castOff {fx : FX} {m : MM} {l0 : Nat} {l1 : Int} {l2 : Int} : MS fx me_X12_castOff [aR (some (12, l0)), aI l1, aI l2] m (f_X12_castOff m l0 l1 l2) := by
  refine ms_of rfl mf_X12_castOff (b8 rfl) ?_
  refine s_top ?_
  show Sim fx me_X12_castOff 0 [(0, aR (some (12, l0))), (1, aI l1), (2, aI l2)] [] m _
  unfold f_X12_castOff
  have hj_X12_castOff_0_78 : ∀ (m_78 : MM) (l0_78 : Nat) (l1_78 : Int) (l2_78 : Int) (s0_78 : Nat) (s1_78 : Int), Sim fx me_X12_castOff 78 [(0, aR (some (12, l0_78))), (1, aI l1_78), (2, aI l2_78)] [aI s1_78, aR (some (12, s0_78))] m_78 ((j_X12_castOff_0_78 m_78 l0_78 l1_78 l2_78 s0_78 s1_78).bind (fun z => some z)) := by
    intro m_78 l0_78 l1_78 l2_78 s0_78 s1_78
    unfold j_X12_castOff_0_78
    refine s_cI (r_V d_X12_castOff_78 k_X12_holds w_1668 rfl rfl) ms_X12_holds (b8 rfl) rfl rfl rfl (fun _ _ _ => rfl) (fun _ _ => Or.inl rfl) fun v9 m8 => (s_if_ne (tgt := 86) d_X12_castOff_81 rfl ?_ ?_)
    · refine s_aload_n d_X12_castOff_86 m0_ (s_getR cf d_X12_castOff_87 fl_X12_68 (s_nk fun i10 => (s_iload_n d_X12_castOff_90 m1_ (s_iload_n d_X12_castOff_91 m2_ (s_stN d_X12_castOff_92 ka_78 rfl fun m11 => ?_)))))
      refine s_aload_n d_X12_castOff_93 m0_ (s_iload_n d_X12_castOff_94 m1_ (s_aload_n d_X12_castOff_95 m0_ (s_iload_n d_X12_castOff_96 m1_ (s_pI (r_V d_X12_castOff_97 k_X12_pagesOf w_1755 rfl rfl) ms_X12_pagesOf (b8 rfl) rfl rfl rfl fun v12 => (s_iconst d_X12_castOff_100 n_1 ?_)))))
      exact s_isub d_X12_castOff_101 rfl rfl (s_ck (s_pI (r_V d_X12_castOff_102 k_X12_castFrom w_1771 rfl rfl) ms_X12_castFrom (b8 rfl) rfl rfl rfl fun v13 => (s_iret d_X12_castOff_105 rfl rfl)))
    exact s_iconst d_X12_castOff_84 n_0 (s_iret d_X12_castOff_85 rfl rfl)
  have hj_X12_castOff_0_41 : ∀ (m_41 : MM) (l0_41 : Nat) (l1_41 : Int) (l2_41 : Int) (l3_41 : Int) (s0_41 : Int), Sim fx me_X12_castOff 41 [(0, aR (some (12, l0_41))), (1, aI l1_41), (2, aI l2_41), (3, aI l3_41)] [aI s0_41] m_41 ((j_X12_castOff_0_41 m_41 l0_41 l1_41 l2_41 l3_41 s0_41).bind (fun z => some z)) := by
    intro m_41 l0_41 l1_41 l2_41 l3_41 s0_41
    unfold j_X12_castOff_0_41
    refine s_istore (L' := [(4, aI s0_41), (0, aR (some (12, l0_41))), (1, aI l1_41), (2, aI l2_41), (3, aI l3_41)]) d_X12_castOff_41 (b8 rfl) rfl (s_aload_n d_X12_castOff_43 m1_ (s_iload_n d_X12_castOff_44 m4_ (s_if_ne (tgt := 52) d_X12_castOff_45 rfl ?_ ?_)))
    · refine s_iload_n d_X12_castOff_52 m3_ (s_bipush d_X12_castOff_53 n_50 rfl (s_sipush d_X12_castOff_55 n_150 rfl (s_pI (r_S d_X12_castOff_58 k_X12_isIn w_1664 rfl rfl) ms_X12_isIn (b8 rfl) rfl rfl rfl fun v7 => (s_if_ne (tgt := 68) d_X12_castOff_61 rfl ?_ ?_))))
      · refine s_iload d_X12_castOff_68 m0_ (s_if_eq (tgt := 77) d_X12_castOff_70 rfl ?_ ?_)
        · exact s_iconst d_X12_castOff_77 n_3 (s_sub (subc m1_ (subc m2_ (subc m3_ sub0))) (hj_X12_castOff_0_78 m_41 l0_41 l1_41 l2_41 l0_41 3))
        exact s_iconst d_X12_castOff_73 n_0 (s_goto (tgt := 78) d_X12_castOff_74 rfl (s_sub (subc m1_ (subc m2_ (subc m3_ sub0))) (hj_X12_castOff_0_78 m_41 l0_41 l1_41 l2_41 l0_41 0)))
      exact s_iconst d_X12_castOff_64 n_2 (s_goto (tgt := 78) d_X12_castOff_65 rfl (s_sub (subc m1_ (subc m2_ (subc m3_ sub0))) (hj_X12_castOff_0_78 m_41 l0_41 l1_41 l2_41 l0_41 2)))
    exact s_iconst d_X12_castOff_48 n_1 (s_goto (tgt := 78) d_X12_castOff_49 rfl (s_sub (subc m1_ (subc m2_ (subc m3_ sub0))) (hj_X12_castOff_0_78 m_41 l0_41 l1_41 l2_41 l0_41 1)))
  have hj_X12_castOff_0_40 : ∀ (m_40 : MM) (l0_40 : Nat) (l1_40 : Int) (l2_40 : Int) (l3_40 : Int), Sim fx me_X12_castOff 40 [(0, aR (some (12, l0_40))), (1, aI l1_40), (2, aI l2_40), (3, aI l3_40)] [] m_40 ((j_X12_castOff_0_40 m_40 l0_40 l1_40 l2_40 l3_40).bind (fun z => some z)) := by
    intro m_40 l0_40 l1_40 l2_40 l3_40
    unfold j_X12_castOff_0_40
    exact s_iconst d_X12_castOff_40 n_0 (s_sub (subc m0_ (subc m1_ (subc m2_ (subc m3_ sub0)))) (hj_X12_castOff_0_41 m_40 l0_40 l1_40 l2_40 l3_40 0))
  refine s_aload_n d_X12_castOff_0 m0_ (s_iload_n d_X12_castOff_1 m1_ (s_pI (r_V d_X12_castOff_2 k_X12_isBook w_1747 rfl rfl) ms_X12_isBook (b8 rfl) rfl rfl rfl fun v1 => (s_istore_n (L' := [(3, aI v1), (0, aR (some (12, l0))), (1, aI l1), (2, aI l2)]) d_X12_castOff_5 (b8 rfl) rfl (s_iload_n d_X12_castOff_6 m0_ (s_if_eq (tgt := 40) d_X12_castOff_7 rfl ?_ ?_)))))
  · exact s_sub (subc m1_ (subc m2_ (subc m3_ (subc m0_ sub0)))) (hj_X12_castOff_0_40 m l0 l1 l2 v1)
  refine s_aload_n d_X12_castOff_10 m1_ (s_getR cf d_X12_castOff_11 fl_X12_75 (s_nk fun i2 => (s_iload_n d_X12_castOff_14 m2_ (s_ldN d_X12_castOff_15 ka_80 rfl fun v3 => (s_if_le (tgt := 40) d_X12_castOff_16 rfl ?_ ?_)))))
  · exact s_sub (subc m1_ (subc m2_ (subc m3_ (subc m0_ sub0)))) (hj_X12_castOff_0_40 m l0 l1 l2 v1)
  refine s_aload_n d_X12_castOff_19 m1_ (s_getR cf d_X12_castOff_20 fl_X12_68 (s_nk fun i4 => (s_iload_n d_X12_castOff_23 m2_ (s_ldN d_X12_castOff_24 ka_78 rfl fun v5 => (s_if_ne (tgt := 40) d_X12_castOff_25 rfl ?_ ?_)))))
  · exact s_sub (subc m1_ (subc m2_ (subc m3_ (subc m0_ sub0)))) (hj_X12_castOff_0_40 m l0 l1 l2 v1)
  refine s_aload_n d_X12_castOff_28 m1_ (s_iload_n d_X12_castOff_29 m2_ (s_pI (r_V d_X12_castOff_30 k_X12_hasSet w_1751 rfl rfl) ms_X12_hasSet (b8 rfl) rfl rfl rfl fun v6 => (s_if_ne (tgt := 40) d_X12_castOff_33 rfl ?_ ?_)))
  · exact s_sub (subc m1_ (subc m2_ (subc m3_ (subc m0_ sub0)))) (hj_X12_castOff_0_40 m l0 l1 l2 v1)
  exact s_iconst d_X12_castOff_36 n_1 (s_goto (tgt := 41) d_X12_castOff_37 rfl (s_sub (subc m1_ (subc m2_ (subc m3_ (subc m0_ sub0)))) (hj_X12_castOff_0_41 m l0 l1 l2 v1 1)))
theorem d_X12_glyphIn_0 : dk me_X12_glyphIn 0 (.iload_n 2) 1 1 := And.intro (by decide +kernel) rfl
theorem d_X12_glyphIn_1 : dk me_X12_glyphIn 1 (.iconst (-1)) 1 2 := And.intro (by decide +kernel) rfl
theorem d_X12_glyphIn_2 : dk me_X12_glyphIn 2 (.if_icmp .ne 10) 3 5 := And.intro (by decide +kernel) rfl
theorem d_X12_glyphIn_5 : dk me_X12_glyphIn 5 (.aload_n 0) 1 6 := And.intro (by decide +kernel) rfl
theorem d_X12_glyphIn_6 : dk me_X12_glyphIn 6 (.getfield 132) 3 9 := And.intro (by decide +kernel) rfl
theorem d_X12_glyphIn_9 : dk me_X12_glyphIn 9 (.iload_n 1) 1 10 := And.intro (by decide +kernel) rfl
theorem d_X12_glyphIn_10 : dk me_X12_glyphIn 10 (.iaload) 1 11 := And.intro (by decide +kernel) rfl
theorem d_X12_glyphIn_11 : dk me_X12_glyphIn 11 (.ireturn) 1 12 := And.intro (by decide +kernel) rfl
theorem d_X12_glyphIn_12 : dk me_X12_glyphIn 12 (.aload_n 0) 1 13 := And.intro (by decide +kernel) rfl
theorem d_X12_glyphIn_13 : dk me_X12_glyphIn 13 (.getfield 141) 3 16 := And.intro (by decide +kernel) rfl
theorem d_X12_glyphIn_16 : dk me_X12_glyphIn 16 (.iload_n 1) 1 17 := And.intro (by decide +kernel) rfl
theorem d_X12_glyphIn_17 : dk me_X12_glyphIn 17 (.iaload) 1 18 := And.intro (by decide +kernel) rfl
theorem d_X12_glyphIn_18 : dk me_X12_glyphIn 18 (.istore_n 3) 1 19 := And.intro (by decide +kernel) rfl
theorem d_X12_glyphIn_19 : dk me_X12_glyphIn 19 (.iconst 0) 1 20 := And.intro (by decide +kernel) rfl
theorem d_X12_glyphIn_20 : dk me_X12_glyphIn 20 (.istore 4) 2 22 := And.intro (by decide +kernel) rfl
theorem d_X12_glyphIn_22 : dk me_X12_glyphIn 22 (.iload 4) 2 24 := And.intro (by decide +kernel) rfl
theorem d_X12_glyphIn_24 : dk me_X12_glyphIn 24 (.aload_n 0) 1 25 := And.intro (by decide +kernel) rfl
theorem d_X12_glyphIn_25 : dk me_X12_glyphIn 25 (.getfield 397) 3 28 := And.intro (by decide +kernel) rfl
theorem d_X12_glyphIn_28 : dk me_X12_glyphIn 28 (.if_icmp .ge 43) 3 31 := And.intro (by decide +kernel) rfl
theorem d_X12_glyphIn_31 : dk me_X12_glyphIn 31 (.aload_n 0) 1 32 := And.intro (by decide +kernel) rfl
theorem d_X12_glyphIn_32 : dk me_X12_glyphIn 32 (.getfield 150) 3 35 := And.intro (by decide +kernel) rfl
theorem d_X12_glyphIn_35 : dk me_X12_glyphIn 35 (.iload 4) 2 37 := And.intro (by decide +kernel) rfl
theorem d_X12_glyphIn_37 : dk me_X12_glyphIn 37 (.iaload) 1 38 := And.intro (by decide +kernel) rfl
theorem d_X12_glyphIn_38 : dk me_X12_glyphIn 38 (.iload_n 1) 1 39 := And.intro (by decide +kernel) rfl
theorem d_X12_glyphIn_39 : dk me_X12_glyphIn 39 (.if_icmp .ne 24) 3 42 := And.intro (by decide +kernel) rfl
theorem d_X12_glyphIn_42 : dk me_X12_glyphIn 42 (.aload_n 0) 1 43 := And.intro (by decide +kernel) rfl
theorem d_X12_glyphIn_43 : dk me_X12_glyphIn 43 (.getfield 153) 3 46 := And.intro (by decide +kernel) rfl
theorem d_X12_glyphIn_46 : dk me_X12_glyphIn 46 (.iload 4) 2 48 := And.intro (by decide +kernel) rfl
theorem d_X12_glyphIn_48 : dk me_X12_glyphIn 48 (.iaload) 1 49 := And.intro (by decide +kernel) rfl
theorem d_X12_glyphIn_49 : dk me_X12_glyphIn 49 (.iload_n 2) 1 50 := And.intro (by decide +kernel) rfl
theorem d_X12_glyphIn_50 : dk me_X12_glyphIn 50 (.if_icmp .gt 13) 3 53 := And.intro (by decide +kernel) rfl
theorem d_X12_glyphIn_53 : dk me_X12_glyphIn 53 (.aload_n 0) 1 54 := And.intro (by decide +kernel) rfl
theorem d_X12_glyphIn_54 : dk me_X12_glyphIn 54 (.getfield 156) 3 57 := And.intro (by decide +kernel) rfl
theorem d_X12_glyphIn_57 : dk me_X12_glyphIn 57 (.iload 4) 2 59 := And.intro (by decide +kernel) rfl
theorem d_X12_glyphIn_59 : dk me_X12_glyphIn 59 (.iaload) 1 60 := And.intro (by decide +kernel) rfl
theorem d_X12_glyphIn_60 : dk me_X12_glyphIn 60 (.goto 4) 3 63 := And.intro (by decide +kernel) rfl
theorem d_X12_glyphIn_63 : dk me_X12_glyphIn 63 (.iload_n 3) 1 64 := And.intro (by decide +kernel) rfl
theorem d_X12_glyphIn_64 : dk me_X12_glyphIn 64 (.istore_n 3) 1 65 := And.intro (by decide +kernel) rfl
theorem d_X12_glyphIn_65 : dk me_X12_glyphIn 65 (.iinc 4 1) 3 68 := And.intro (by decide +kernel) rfl
theorem d_X12_glyphIn_68 : dk me_X12_glyphIn 68 (.goto (-46)) 3 71 := And.intro (by decide +kernel) rfl
theorem d_X12_glyphIn_71 : dk me_X12_glyphIn 71 (.iload_n 3) 1 72 := And.intro (by decide +kernel) rfl
theorem d_X12_glyphIn_72 : dk me_X12_glyphIn 72 (.ireturn) 1 73 := And.intro (by decide +kernel) rfl
theorem ms_X12_glyphIn {fx : FX} {m : MM} {l0 : Nat} {l1 : Int} {l2 : Int} : MS fx me_X12_glyphIn [aR (some (12, l0)), aI l1, aI l2] m ((f_X12_glyphIn m l0 l1 l2).bind fun v => some (.inl (some (aI v)), m)) := by
  refine ms_of rfl mf_X12_glyphIn (b8 rfl) ?_
  show Sim fx me_X12_glyphIn 0 [(0, aR (some (12, l0))), (1, aI l1), (2, aI l2)] [] m _
  unfold f_X12_glyphIn
  have hj_X12_glyphIn_0_71 : ∀ (l3_71 : Int), Sim fx me_X12_glyphIn 71 [(3, aI l3_71)] [] m ((j_X12_glyphIn_0_71 m l3_71).bind (fun v => some (.inl (some (aI v)), m))) := by
    intro l3_71
    unfold j_X12_glyphIn_0_71
    exact s_iload_n d_X12_glyphIn_71 m0_ (s_iret d_X12_glyphIn_72 rfl rfl)
  refine s_iload_n d_X12_glyphIn_0 m2_ (s_iconst d_X12_glyphIn_1 n_m1 (s_icmp_ne (tgt := 12) d_X12_glyphIn_2 rfl ?_ ?_))
  · refine s_aload_n d_X12_glyphIn_12 m0_ (s_getR cf d_X12_glyphIn_13 fl_X12_141 (s_nk fun i1 => (s_iload_n d_X12_glyphIn_16 m1_ (s_ldN d_X12_glyphIn_17 ka_102 rfl fun v2 => (s_istore_n (L' := [(3, aI v2), (0, aR (some (12, l0))), (1, aI l1), (2, aI l2)]) d_X12_glyphIn_18 (b8 rfl) rfl ?_)))))
    refine s_iconst d_X12_glyphIn_19 n_0 (s_istore (L' := [(4, aI 0), (3, aI v2), (0, aR (some (12, l0))), (1, aI l1), (2, aI l2)]) d_X12_glyphIn_20 (b8 rfl) rfl (s_sub (subc m1_ (subc m0_ (subc m2_ (subc m3_ (subc m4_ sub0))))) (s_lp2 (fun s => [(3, aI (s.1)), (4, aI (s.2)), (0, aR (some (12, l0))), (1, aI l1), (2, aI l2)]) (fun s => m) (v2, 0) fun k22 hx22 s ih0 => ?_)))
    obtain ⟨l3_22, l4_22⟩ := s
    have ih22 := ih0
    clear ih0
    try dsimp only
    unfold b_X12_glyphIn_22
    refine s_iload d_X12_glyphIn_22 m1_ (s_aload_n d_X12_glyphIn_24 m2_ (s_getN cf d_X12_glyphIn_25 fl_X12_397 (s_icmp_ge (tgt := 71) d_X12_glyphIn_28 rfl ?_ ?_)))
    · exact s_exit (hx22 _) (s_sub (subc m0_ sub0) (hj_X12_glyphIn_0_71 l3_22))
    refine s_aload_n d_X12_glyphIn_31 m2_ (s_getR cf d_X12_glyphIn_32 fl_X12_150 (s_nk fun i3 => (s_iload d_X12_glyphIn_35 m1_ (s_ldN d_X12_glyphIn_37 ka_105 rfl fun v4 => (s_iload_n d_X12_glyphIn_38 m3_ ?_)))))
    refine s_icmp_ne (tgt := 63) d_X12_glyphIn_39 rfl ?_ ?_
    · exact s_iload_n d_X12_glyphIn_63 m0_ (s_istore_n (L' := [(3, aI l3_22), (4, aI l4_22), (0, aR (some (12, l0))), (1, aI l1), (2, aI l2)]) d_X12_glyphIn_64 (b8 rfl) rfl (s_iinc (L' := [(4, aI (l4_22 + 1)), (3, aI l3_22), (0, aR (some (12, l0))), (1, aI l1), (2, aI l2)]) d_X12_glyphIn_65 m1_ (b8 rfl) rfl (s_goto (tgt := 22) d_X12_glyphIn_68 rfl (s_sub (subc m1_ (subc m0_ (subc m2_ (subc m3_ (subc m4_ sub0))))) (s_back (ih22 (l3_22, (l4_22 + 1))))))))
    refine s_aload_n d_X12_glyphIn_42 m2_ (s_getR cf d_X12_glyphIn_43 fl_X12_153 (s_nk fun i5 => (s_iload d_X12_glyphIn_46 m1_ (s_ldN d_X12_glyphIn_48 ka_106 rfl fun v6 => (s_iload_n d_X12_glyphIn_49 m4_ ?_)))))
    refine s_icmp_gt (tgt := 63) d_X12_glyphIn_50 rfl ?_ ?_
    · exact s_iload_n d_X12_glyphIn_63 m0_ (s_istore_n (L' := [(3, aI l3_22), (4, aI l4_22), (0, aR (some (12, l0))), (1, aI l1), (2, aI l2)]) d_X12_glyphIn_64 (b8 rfl) rfl (s_iinc (L' := [(4, aI (l4_22 + 1)), (3, aI l3_22), (0, aR (some (12, l0))), (1, aI l1), (2, aI l2)]) d_X12_glyphIn_65 m1_ (b8 rfl) rfl (s_goto (tgt := 22) d_X12_glyphIn_68 rfl (s_sub (subc m1_ (subc m0_ (subc m2_ (subc m3_ (subc m4_ sub0))))) (s_back (ih22 (l3_22, (l4_22 + 1))))))))
    refine s_aload_n d_X12_glyphIn_53 m2_ (s_getR cf d_X12_glyphIn_54 fl_X12_156 (s_nk fun i7 => (s_iload d_X12_glyphIn_57 m1_ (s_ldN d_X12_glyphIn_59 ka_107 rfl fun v8 => (s_goto (tgt := 64) d_X12_glyphIn_60 rfl ?_)))))
    exact s_istore_n (L' := [(3, aI v8), (4, aI l4_22), (0, aR (some (12, l0))), (1, aI l1), (2, aI l2)]) d_X12_glyphIn_64 (b8 rfl) rfl (s_iinc (L' := [(4, aI (l4_22 + 1)), (3, aI v8), (0, aR (some (12, l0))), (1, aI l1), (2, aI l2)]) d_X12_glyphIn_65 m1_ (b8 rfl) rfl (s_goto (tgt := 22) d_X12_glyphIn_68 rfl (s_sub (subc m1_ (subc m0_ (subc m2_ (subc m3_ (subc m4_ sub0))))) (s_back (ih22 (v8, (l4_22 + 1)))))))
  exact s_aload_n d_X12_glyphIn_5 m0_ (s_getR cf d_X12_glyphIn_6 fl_X12_132 (s_nk fun i9 => (s_iload_n d_X12_glyphIn_9 m1_ (s_ldN d_X12_glyphIn_10 ka_99 rfl fun v10 => (s_iret d_X12_glyphIn_11 rfl rfl)))))
theorem d_X12_isPage_0 : dk me_X12_isPage 0 (.aload_n 0) 1 1 := And.intro (by decide +kernel) rfl
theorem d_X12_isPage_1 : dk me_X12_isPage 1 (.iload_n 1) 1 2 := And.intro (by decide +kernel) rfl
theorem d_X12_isPage_2 : dk me_X12_isPage 2 (.invokevirtual 239) 3 5 := And.intro (by decide +kernel) rfl
theorem d_X12_isPage_5 : dk me_X12_isPage 5 (.ifCond .eq 22) 3 8 := And.intro (by decide +kernel) rfl
theorem d_X12_isPage_8 : dk me_X12_isPage 8 (.iload_n 2) 1 9 := And.intro (by decide +kernel) rfl
theorem d_X12_isPage_9 : dk me_X12_isPage 9 (.iconst 0) 1 10 := And.intro (by decide +kernel) rfl
theorem d_X12_isPage_10 : dk me_X12_isPage 10 (.aload_n 0) 1 11 := And.intro (by decide +kernel) rfl
theorem d_X12_isPage_11 : dk me_X12_isPage 11 (.iload_n 1) 1 12 := And.intro (by decide +kernel) rfl
theorem d_X12_isPage_12 : dk me_X12_isPage 12 (.invokevirtual 243) 3 15 := And.intro (by decide +kernel) rfl
theorem d_X12_isPage_15 : dk me_X12_isPage 15 (.iconst 1) 1 16 := And.intro (by decide +kernel) rfl
theorem d_X12_isPage_16 : dk me_X12_isPage 16 (.isub) 1 17 := And.intro (by decide +kernel) rfl
theorem d_X12_isPage_17 : dk me_X12_isPage 17 (.invokestatic 235) 3 20 := And.intro (by decide +kernel) rfl
theorem d_X12_isPage_20 : dk me_X12_isPage 20 (.ifCond .eq 7) 3 23 := And.intro (by decide +kernel) rfl
theorem d_X12_isPage_23 : dk me_X12_isPage 23 (.iconst 1) 1 24 := And.intro (by decide +kernel) rfl
theorem d_X12_isPage_24 : dk me_X12_isPage 24 (.goto 4) 3 27 := And.intro (by decide +kernel) rfl
theorem d_X12_isPage_27 : dk me_X12_isPage 27 (.iconst 0) 1 28 := And.intro (by decide +kernel) rfl
theorem d_X12_isPage_28 : dk me_X12_isPage 28 (.ireturn) 1 29 := And.intro (by decide +kernel) rfl
theorem ms_X12_isPage {fx : FX} {m : MM} {l0 : Nat} {l1 : Int} {l2 : Int} : MS fx me_X12_isPage [aR (some (12, l0)), aI l1, aI l2] m ((f_X12_isPage m l0 l1 l2).bind fun v => some (.inl (some (aI v)), m)) := by
  refine ms_of rfl mf_X12_isPage (b8 rfl) ?_
  show Sim fx me_X12_isPage 0 [(0, aR (some (12, l0))), (1, aI l1), (2, aI l2)] [] m _
  unfold f_X12_isPage
  refine s_aload_n d_X12_isPage_0 m0_ (s_iload_n d_X12_isPage_1 m1_ (s_pI (r_V d_X12_isPage_2 k_X12_isBook w_1747 rfl rfl) ms_X12_isBook (b8 rfl) rfl rfl rfl fun v1 => (s_if_eq (tgt := 27) d_X12_isPage_5 rfl ?_ ?_)))
  · exact s_iconst d_X12_isPage_27 n_0 (s_zretl d_X12_isPage_28 rfl (by decide) rfl)
  refine s_iload_n d_X12_isPage_8 m2_ (s_iconst d_X12_isPage_9 n_0 (s_aload_n d_X12_isPage_10 m0_ (s_iload_n d_X12_isPage_11 m1_ (s_pI (r_V d_X12_isPage_12 k_X12_pagesOf w_1755 rfl rfl) ms_X12_pagesOf (b8 rfl) rfl rfl rfl fun v2 => (s_iconst d_X12_isPage_15 n_1 ?_)))))
  refine s_isub d_X12_isPage_16 rfl rfl (s_ck (s_pI (r_S d_X12_isPage_17 k_X12_isIn w_1664 rfl rfl) ms_X12_isIn (b8 rfl) rfl rfl rfl fun v3 => (s_if_eq (tgt := 27) d_X12_isPage_20 rfl ?_ ?_)))
  · exact s_iconst d_X12_isPage_27 n_0 (s_zretl d_X12_isPage_28 rfl (by decide) rfl)
  exact s_iconst d_X12_isPage_23 n_1 (s_goto (tgt := 28) d_X12_isPage_24 rfl (s_zretl d_X12_isPage_28 rfl (by decide) rfl))
theorem d_X12_character_0 : dk me_X12_character 0 (.aload_n 0) 1 1 := And.intro (by decide +kernel) rfl
theorem d_X12_character_1 : dk me_X12_character 1 (.iload_n 1) 1 2 := And.intro (by decide +kernel) rfl
theorem d_X12_character_2 : dk me_X12_character 2 (.iload_n 2) 1 3 := And.intro (by decide +kernel) rfl
theorem d_X12_character_3 : dk me_X12_character 3 (.invokevirtual 403) 3 6 := And.intro (by decide +kernel) rfl
theorem d_X12_character_6 : dk me_X12_character 6 (.ifCond .eq 26) 3 9 := And.intro (by decide +kernel) rfl
theorem d_X12_character_9 : dk me_X12_character 9 (.aload_n 0) 1 10 := And.intro (by decide +kernel) rfl
theorem d_X12_character_10 : dk me_X12_character 10 (.iload_n 1) 1 11 := And.intro (by decide +kernel) rfl
theorem d_X12_character_11 : dk me_X12_character 11 (.iload_n 3) 1 12 := And.intro (by decide +kernel) rfl
theorem d_X12_character_12 : dk me_X12_character 12 (.invokevirtual 333) 3 15 := And.intro (by decide +kernel) rfl
theorem d_X12_character_15 : dk me_X12_character 15 (.ifCond .eq 17) 3 18 := And.intro (by decide +kernel) rfl
theorem d_X12_character_18 : dk me_X12_character 18 (.iload 4) 2 20 := And.intro (by decide +kernel) rfl
theorem d_X12_character_20 : dk me_X12_character 20 (.ifCond .lt 12) 3 23 := And.intro (by decide +kernel) rfl
theorem d_X12_character_23 : dk me_X12_character 23 (.iload 5) 2 25 := And.intro (by decide +kernel) rfl
theorem d_X12_character_25 : dk me_X12_character 25 (.ifCond .lt 7) 3 28 := And.intro (by decide +kernel) rfl
theorem d_X12_character_28 : dk me_X12_character 28 (.iconst 1) 1 29 := And.intro (by decide +kernel) rfl
theorem d_X12_character_29 : dk me_X12_character 29 (.goto 4) 3 32 := And.intro (by decide +kernel) rfl
theorem d_X12_character_32 : dk me_X12_character 32 (.iconst 0) 1 33 := And.intro (by decide +kernel) rfl
theorem d_X12_character_33 : dk me_X12_character 33 (.istore 6) 2 35 := And.intro (by decide +kernel) rfl
theorem d_X12_character_35 : dk me_X12_character 35 (.aload_n 0) 1 36 := And.intro (by decide +kernel) rfl
theorem d_X12_character_36 : dk me_X12_character 36 (.iload 6) 2 38 := And.intro (by decide +kernel) rfl
theorem d_X12_character_38 : dk me_X12_character 38 (.ifCond .ne 7) 3 41 := And.intro (by decide +kernel) rfl
theorem d_X12_character_41 : dk me_X12_character 41 (.iconst 1) 1 42 := And.intro (by decide +kernel) rfl
theorem d_X12_character_42 : dk me_X12_character 42 (.goto 17) 3 45 := And.intro (by decide +kernel) rfl
theorem d_X12_character_45 : dk me_X12_character 45 (.aload_n 0) 1 46 := And.intro (by decide +kernel) rfl
theorem d_X12_character_46 : dk me_X12_character 46 (.getfield 71) 3 49 := And.intro (by decide +kernel) rfl
theorem d_X12_character_49 : dk me_X12_character 49 (.iload_n 1) 1 50 := And.intro (by decide +kernel) rfl
theorem d_X12_character_50 : dk me_X12_character 50 (.baload) 1 51 := And.intro (by decide +kernel) rfl
theorem d_X12_character_51 : dk me_X12_character 51 (.ifCond .eq 7) 3 54 := And.intro (by decide +kernel) rfl
theorem d_X12_character_54 : dk me_X12_character 54 (.iconst 0) 1 55 := And.intro (by decide +kernel) rfl
theorem d_X12_character_55 : dk me_X12_character 55 (.goto 4) 3 58 := And.intro (by decide +kernel) rfl
theorem d_X12_character_58 : dk me_X12_character 58 (.iconst 2) 1 59 := And.intro (by decide +kernel) rfl
theorem d_X12_character_59 : dk me_X12_character 59 (.invokevirtual 260) 3 62 := And.intro (by decide +kernel) rfl
theorem d_X12_character_62 : dk me_X12_character 62 (.ifCond .ne 5) 3 65 := And.intro (by decide +kernel) rfl
theorem d_X12_character_65 : dk me_X12_character 65 (.iconst 0) 1 66 := And.intro (by decide +kernel) rfl
theorem d_X12_character_66 : dk me_X12_character 66 (.ireturn) 1 67 := And.intro (by decide +kernel) rfl
theorem d_X12_character_67 : dk me_X12_character 67 (.bipush 16) 2 69 := And.intro (by decide +kernel) rfl
theorem d_X12_character_69 : dk me_X12_character 69 (.iload_n 1) 1 70 := And.intro (by decide +kernel) rfl
theorem d_X12_character_70 : dk me_X12_character 70 (.imul) 1 71 := And.intro (by decide +kernel) rfl
theorem d_X12_character_71 : dk me_X12_character 71 (.iload_n 3) 1 72 := And.intro (by decide +kernel) rfl
theorem d_X12_character_72 : dk me_X12_character 72 (.iadd) 1 73 := And.intro (by decide +kernel) rfl
theorem d_X12_character_73 : dk me_X12_character 73 (.istore 7) 2 75 := And.intro (by decide +kernel) rfl
theorem d_X12_character_75 : dk me_X12_character 75 (.iload 4) 2 77 := And.intro (by decide +kernel) rfl
theorem d_X12_character_77 : dk me_X12_character 77 (.aload_n 0) 1 78 := And.intro (by decide +kernel) rfl
theorem d_X12_character_78 : dk me_X12_character 78 (.getfield 99) 3 81 := And.intro (by decide +kernel) rfl
theorem d_X12_character_81 : dk me_X12_character 81 (.iload 7) 2 83 := And.intro (by decide +kernel) rfl
theorem d_X12_character_83 : dk me_X12_character 83 (.iaload) 1 84 := And.intro (by decide +kernel) rfl
theorem d_X12_character_84 : dk me_X12_character 84 (.if_icmp .lt 5) 3 87 := And.intro (by decide +kernel) rfl
theorem d_X12_character_87 : dk me_X12_character 87 (.iconst (-1)) 1 88 := And.intro (by decide +kernel) rfl
theorem d_X12_character_88 : dk me_X12_character 88 (.ireturn) 1 89 := And.intro (by decide +kernel) rfl
theorem d_X12_character_89 : dk me_X12_character 89 (.aload_n 0) 1 90 := And.intro (by decide +kernel) rfl
theorem d_X12_character_90 : dk me_X12_character 90 (.iload_n 1) 1 91 := And.intro (by decide +kernel) rfl
theorem d_X12_character_91 : dk me_X12_character 91 (.iload_n 2) 1 92 := And.intro (by decide +kernel) rfl
theorem d_X12_character_92 : dk me_X12_character 92 (.iload_n 3) 1 93 := And.intro (by decide +kernel) rfl
theorem d_X12_character_93 : dk me_X12_character 93 (.invokevirtual 409) 3 96 := And.intro (by decide +kernel) rfl
theorem d_X12_character_96 : dk me_X12_character 96 (.istore 8) 2 98 := And.intro (by decide +kernel) rfl
theorem d_X12_character_98 : dk me_X12_character 98 (.bipush 6) 2 100 := And.intro (by decide +kernel) rfl
theorem d_X12_character_100 : dk me_X12_character 100 (.iload 7) 2 102 := And.intro (by decide +kernel) rfl
theorem d_X12_character_102 : dk me_X12_character 102 (.imul) 1 103 := And.intro (by decide +kernel) rfl
theorem d_X12_character_103 : dk me_X12_character 103 (.iload 4) 2 105 := And.intro (by decide +kernel) rfl
theorem d_X12_character_105 : dk me_X12_character 105 (.iadd) 1 106 := And.intro (by decide +kernel) rfl
theorem d_X12_character_106 : dk me_X12_character 106 (.istore 9) 2 108 := And.intro (by decide +kernel) rfl
theorem d_X12_character_108 : dk me_X12_character 108 (.iload 5) 2 110 := And.intro (by decide +kernel) rfl
theorem d_X12_character_110 : dk me_X12_character 110 (.istore 10) 2 112 := And.intro (by decide +kernel) rfl
theorem d_X12_character_112 : dk me_X12_character 112 (.aload_n 0) 1 113 := And.intro (by decide +kernel) rfl
theorem d_X12_character_113 : dk me_X12_character 113 (.getfield 108) 3 116 := And.intro (by decide +kernel) rfl
theorem d_X12_character_116 : dk me_X12_character 116 (.iload 9) 2 118 := And.intro (by decide +kernel) rfl
theorem d_X12_character_118 : dk me_X12_character 118 (.iaload) 1 119 := And.intro (by decide +kernel) rfl
theorem d_X12_character_119 : dk me_X12_character 119 (.istore 11) 2 121 := And.intro (by decide +kernel) rfl
theorem d_X12_character_121 : dk me_X12_character 121 (.iload 11) 2 123 := And.intro (by decide +kernel) rfl
theorem d_X12_character_123 : dk me_X12_character 123 (.aload_n 0) 1 124 := And.intro (by decide +kernel) rfl
theorem d_X12_character_124 : dk me_X12_character 124 (.getfield 108) 3 127 := And.intro (by decide +kernel) rfl
theorem d_X12_character_127 : dk me_X12_character 127 (.iload 9) 2 129 := And.intro (by decide +kernel) rfl
theorem d_X12_character_129 : dk me_X12_character 129 (.iaload) 1 130 := And.intro (by decide +kernel) rfl
theorem d_X12_character_130 : dk me_X12_character 130 (.aload_n 0) 1 131 := And.intro (by decide +kernel) rfl
theorem d_X12_character_131 : dk me_X12_character 131 (.getfield 111) 3 134 := And.intro (by decide +kernel) rfl
theorem d_X12_character_134 : dk me_X12_character 134 (.iload 9) 2 136 := And.intro (by decide +kernel) rfl
theorem d_X12_character_136 : dk me_X12_character 136 (.iaload) 1 137 := And.intro (by decide +kernel) rfl
theorem d_X12_character_137 : dk me_X12_character 137 (.iadd) 1 138 := And.intro (by decide +kernel) rfl
theorem d_X12_character_138 : dk me_X12_character 138 (.if_icmp .ge 220) 3 141 := And.intro (by decide +kernel) rfl
theorem d_X12_character_141 : dk me_X12_character 141 (.iload 10) 2 143 := And.intro (by decide +kernel) rfl
theorem d_X12_character_143 : dk me_X12_character 143 (.aload_n 0) 1 144 := And.intro (by decide +kernel) rfl
theorem d_X12_character_144 : dk me_X12_character 144 (.getfield 126) 3 147 := And.intro (by decide +kernel) rfl
theorem d_X12_character_147 : dk me_X12_character 147 (.bipush 60) 2 149 := And.intro (by decide +kernel) rfl
theorem d_X12_character_149 : dk me_X12_character 149 (.iload 7) 2 151 := And.intro (by decide +kernel) rfl
theorem d_X12_character_151 : dk me_X12_character 151 (.imul) 1 152 := And.intro (by decide +kernel) rfl
theorem d_X12_character_152 : dk me_X12_character 152 (.iload 11) 2 154 := And.intro (by decide +kernel) rfl
theorem d_X12_character_154 : dk me_X12_character 154 (.iadd) 1 155 := And.intro (by decide +kernel) rfl
theorem d_X12_character_155 : dk me_X12_character 155 (.iaload) 1 156 := And.intro (by decide +kernel) rfl
theorem d_X12_character_156 : dk me_X12_character 156 (.if_icmp .ge 6) 3 159 := And.intro (by decide +kernel) rfl
theorem d_X12_character_159 : dk me_X12_character 159 (.bipush 32) 2 161 := And.intro (by decide +kernel) rfl
theorem d_X12_character_161 : dk me_X12_character 161 (.ireturn) 1 162 := And.intro (by decide +kernel) rfl
theorem d_X12_character_162 : dk me_X12_character 162 (.iload 10) 2 164 := And.intro (by decide +kernel) rfl
theorem d_X12_character_164 : dk me_X12_character 164 (.aload_n 0) 1 165 := And.intro (by decide +kernel) rfl
theorem d_X12_character_165 : dk me_X12_character 165 (.getfield 126) 3 168 := And.intro (by decide +kernel) rfl
theorem d_X12_character_168 : dk me_X12_character 168 (.bipush 60) 2 170 := And.intro (by decide +kernel) rfl
theorem d_X12_character_170 : dk me_X12_character 170 (.iload 7) 2 172 := And.intro (by decide +kernel) rfl
theorem d_X12_character_172 : dk me_X12_character 172 (.imul) 1 173 := And.intro (by decide +kernel) rfl
theorem d_X12_character_173 : dk me_X12_character 173 (.iload 11) 2 175 := And.intro (by decide +kernel) rfl
theorem d_X12_character_175 : dk me_X12_character 175 (.iadd) 1 176 := And.intro (by decide +kernel) rfl
theorem d_X12_character_176 : dk me_X12_character 176 (.iaload) 1 177 := And.intro (by decide +kernel) rfl
theorem d_X12_character_177 : dk me_X12_character 177 (.isub) 1 178 := And.intro (by decide +kernel) rfl
theorem d_X12_character_178 : dk me_X12_character 178 (.istore 10) 2 180 := And.intro (by decide +kernel) rfl
theorem d_X12_character_180 : dk me_X12_character 180 (.iload 11) 2 182 := And.intro (by decide +kernel) rfl
theorem d_X12_character_182 : dk me_X12_character 182 (.iconst 1) 1 183 := And.intro (by decide +kernel) rfl
theorem d_X12_character_183 : dk me_X12_character 183 (.iadd) 1 184 := And.intro (by decide +kernel) rfl
theorem d_X12_character_184 : dk me_X12_character 184 (.aload_n 0) 1 185 := And.intro (by decide +kernel) rfl
theorem d_X12_character_185 : dk me_X12_character 185 (.getfield 102) 3 188 := And.intro (by decide +kernel) rfl
theorem d_X12_character_188 : dk me_X12_character 188 (.iload 7) 2 190 := And.intro (by decide +kernel) rfl
theorem d_X12_character_190 : dk me_X12_character 190 (.iaload) 1 191 := And.intro (by decide +kernel) rfl
theorem d_X12_character_191 : dk me_X12_character 191 (.if_icmp .ge 21) 3 194 := And.intro (by decide +kernel) rfl
theorem d_X12_character_194 : dk me_X12_character 194 (.aload_n 0) 1 195 := And.intro (by decide +kernel) rfl
theorem d_X12_character_195 : dk me_X12_character 195 (.getfield 129) 3 198 := And.intro (by decide +kernel) rfl
theorem d_X12_character_198 : dk me_X12_character 198 (.bipush 60) 2 200 := And.intro (by decide +kernel) rfl
theorem d_X12_character_200 : dk me_X12_character 200 (.iload 7) 2 202 := And.intro (by decide +kernel) rfl
theorem d_X12_character_202 : dk me_X12_character 202 (.imul) 1 203 := And.intro (by decide +kernel) rfl
theorem d_X12_character_203 : dk me_X12_character 203 (.iload 11) 2 205 := And.intro (by decide +kernel) rfl
theorem d_X12_character_205 : dk me_X12_character 205 (.iadd) 1 206 := And.intro (by decide +kernel) rfl
theorem d_X12_character_206 : dk me_X12_character 206 (.iconst 1) 1 207 := And.intro (by decide +kernel) rfl
theorem d_X12_character_207 : dk me_X12_character 207 (.iadd) 1 208 := And.intro (by decide +kernel) rfl
theorem d_X12_character_208 : dk me_X12_character 208 (.iaload) 1 209 := And.intro (by decide +kernel) rfl
theorem d_X12_character_209 : dk me_X12_character 209 (.goto 10) 3 212 := And.intro (by decide +kernel) rfl
theorem d_X12_character_212 : dk me_X12_character 212 (.aload_n 0) 1 213 := And.intro (by decide +kernel) rfl
theorem d_X12_character_213 : dk me_X12_character 213 (.getfield 105) 3 216 := And.intro (by decide +kernel) rfl
theorem d_X12_character_216 : dk me_X12_character 216 (.iload 7) 2 218 := And.intro (by decide +kernel) rfl
theorem d_X12_character_218 : dk me_X12_character 218 (.iaload) 1 219 := And.intro (by decide +kernel) rfl
theorem d_X12_character_219 : dk me_X12_character 219 (.istore 12) 2 221 := And.intro (by decide +kernel) rfl
theorem d_X12_character_221 : dk me_X12_character 221 (.aload_n 0) 1 222 := And.intro (by decide +kernel) rfl
theorem d_X12_character_222 : dk me_X12_character 222 (.getfield 129) 3 225 := And.intro (by decide +kernel) rfl
theorem d_X12_character_225 : dk me_X12_character 225 (.bipush 60) 2 227 := And.intro (by decide +kernel) rfl
theorem d_X12_character_227 : dk me_X12_character 227 (.iload 7) 2 229 := And.intro (by decide +kernel) rfl
theorem d_X12_character_229 : dk me_X12_character 229 (.imul) 1 230 := And.intro (by decide +kernel) rfl
theorem d_X12_character_230 : dk me_X12_character 230 (.iload 11) 2 232 := And.intro (by decide +kernel) rfl
theorem d_X12_character_232 : dk me_X12_character 232 (.iadd) 1 233 := And.intro (by decide +kernel) rfl
theorem d_X12_character_233 : dk me_X12_character 233 (.iaload) 1 234 := And.intro (by decide +kernel) rfl
theorem d_X12_character_234 : dk me_X12_character 234 (.istore 13) 2 236 := And.intro (by decide +kernel) rfl
theorem d_X12_character_236 : dk me_X12_character 236 (.iload 13) 2 238 := And.intro (by decide +kernel) rfl
theorem d_X12_character_238 : dk me_X12_character 238 (.iload 12) 2 240 := And.intro (by decide +kernel) rfl
theorem d_X12_character_240 : dk me_X12_character 240 (.if_icmp .ge 112) 3 243 := And.intro (by decide +kernel) rfl
theorem d_X12_character_243 : dk me_X12_character 243 (.aload_n 0) 1 244 := And.intro (by decide +kernel) rfl
theorem d_X12_character_244 : dk me_X12_character 244 (.sipush 150) 3 247 := And.intro (by decide +kernel) rfl
theorem d_X12_character_247 : dk me_X12_character 247 (.iload 7) 2 249 := And.intro (by decide +kernel) rfl
theorem d_X12_character_249 : dk me_X12_character 249 (.imul) 1 250 := And.intro (by decide +kernel) rfl
theorem d_X12_character_250 : dk me_X12_character 250 (.iload 13) 2 252 := And.intro (by decide +kernel) rfl
theorem d_X12_character_252 : dk me_X12_character 252 (.iadd) 1 253 := And.intro (by decide +kernel) rfl
theorem d_X12_character_253 : dk me_X12_character 253 (.iload 8) 2 255 := And.intro (by decide +kernel) rfl
theorem d_X12_character_255 : dk me_X12_character 255 (.invokevirtual 412) 3 258 := And.intro (by decide +kernel) rfl
theorem d_X12_character_258 : dk me_X12_character 258 (.istore 14) 2 260 := And.intro (by decide +kernel) rfl
theorem d_X12_character_260 : dk me_X12_character 260 (.iload 14) 2 262 := And.intro (by decide +kernel) rfl
theorem d_X12_character_262 : dk me_X12_character 262 (.bipush 26) 2 264 := And.intro (by decide +kernel) rfl
theorem d_X12_character_264 : dk me_X12_character 264 (.if_icmp .eq 10) 3 267 := And.intro (by decide +kernel) rfl
theorem d_X12_character_267 : dk me_X12_character 267 (.iload 14) 2 269 := And.intro (by decide +kernel) rfl
theorem d_X12_character_269 : dk me_X12_character 269 (.bipush 27) 2 271 := And.intro (by decide +kernel) rfl
theorem d_X12_character_271 : dk me_X12_character 271 (.if_icmp .ne 7) 3 274 := And.intro (by decide +kernel) rfl
theorem d_X12_character_274 : dk me_X12_character 274 (.iconst 2) 1 275 := And.intro (by decide +kernel) rfl
theorem d_X12_character_275 : dk me_X12_character 275 (.goto 4) 3 278 := And.intro (by decide +kernel) rfl
theorem d_X12_character_278 : dk me_X12_character 278 (.iconst 1) 1 279 := And.intro (by decide +kernel) rfl
theorem d_X12_character_279 : dk me_X12_character 279 (.istore 15) 2 281 := And.intro (by decide +kernel) rfl
theorem d_X12_character_281 : dk me_X12_character 281 (.iload 10) 2 283 := And.intro (by decide +kernel) rfl
theorem d_X12_character_283 : dk me_X12_character 283 (.iload 15) 2 285 := And.intro (by decide +kernel) rfl
theorem d_X12_character_285 : dk me_X12_character 285 (.if_icmp .ge 54) 3 288 := And.intro (by decide +kernel) rfl
theorem d_X12_character_288 : dk me_X12_character 288 (.iload 15) 2 290 := And.intro (by decide +kernel) rfl
theorem d_X12_character_290 : dk me_X12_character 290 (.iconst 2) 1 291 := And.intro (by decide +kernel) rfl
theorem d_X12_character_291 : dk me_X12_character 291 (.if_icmp .ne 30) 3 294 := And.intro (by decide +kernel) rfl
theorem d_X12_character_294 : dk me_X12_character 294 (.iload 10) 2 296 := And.intro (by decide +kernel) rfl
theorem d_X12_character_296 : dk me_X12_character 296 (.ifCond .ne 8) 3 299 := And.intro (by decide +kernel) rfl
theorem d_X12_character_299 : dk me_X12_character 299 (.bipush 102) 2 301 := And.intro (by decide +kernel) rfl
theorem d_X12_character_301 : dk me_X12_character 301 (.goto 37) 3 304 := And.intro (by decide +kernel) rfl
theorem d_X12_character_304 : dk me_X12_character 304 (.iload 14) 2 306 := And.intro (by decide +kernel) rfl
theorem d_X12_character_306 : dk me_X12_character 306 (.bipush 26) 2 308 := And.intro (by decide +kernel) rfl
theorem d_X12_character_308 : dk me_X12_character 308 (.if_icmp .ne 8) 3 311 := And.intro (by decide +kernel) rfl
theorem d_X12_character_311 : dk me_X12_character 311 (.bipush 105) 2 313 := And.intro (by decide +kernel) rfl
theorem d_X12_character_313 : dk me_X12_character 313 (.goto 25) 3 316 := And.intro (by decide +kernel) rfl
theorem d_X12_character_316 : dk me_X12_character 316 (.bipush 108) 2 318 := And.intro (by decide +kernel) rfl
theorem d_X12_character_318 : dk me_X12_character 318 (.goto 20) 3 321 := And.intro (by decide +kernel) rfl
theorem d_X12_character_321 : dk me_X12_character 321 (.iload 14) 2 323 := And.intro (by decide +kernel) rfl
theorem d_X12_character_323 : dk me_X12_character 323 (.bipush 28) 2 325 := And.intro (by decide +kernel) rfl
theorem d_X12_character_325 : dk me_X12_character 325 (.if_icmp .ne 8) 3 328 := And.intro (by decide +kernel) rfl
theorem d_X12_character_328 : dk me_X12_character 328 (.bipush 46) 2 330 := And.intro (by decide +kernel) rfl
theorem d_X12_character_330 : dk me_X12_character 330 (.goto 8) 3 333 := And.intro (by decide +kernel) rfl
theorem d_X12_character_333 : dk me_X12_character 333 (.bipush 97) 2 335 := And.intro (by decide +kernel) rfl
theorem d_X12_character_335 : dk me_X12_character 335 (.iload 14) 2 337 := And.intro (by decide +kernel) rfl
theorem d_X12_character_337 : dk me_X12_character 337 (.iadd) 1 338 := And.intro (by decide +kernel) rfl
theorem d_X12_character_338 : dk me_X12_character 338 (.ireturn) 1 339 := And.intro (by decide +kernel) rfl
theorem d_X12_character_339 : dk me_X12_character 339 (.iload 10) 2 341 := And.intro (by decide +kernel) rfl
theorem d_X12_character_341 : dk me_X12_character 341 (.iload 15) 2 343 := And.intro (by decide +kernel) rfl
theorem d_X12_character_343 : dk me_X12_character 343 (.isub) 1 344 := And.intro (by decide +kernel) rfl
theorem d_X12_character_344 : dk me_X12_character 344 (.istore 10) 2 346 := And.intro (by decide +kernel) rfl
theorem d_X12_character_346 : dk me_X12_character 346 (.iinc 13 1) 3 349 := And.intro (by decide +kernel) rfl
theorem d_X12_character_349 : dk me_X12_character 349 (.goto (-113)) 3 352 := And.intro (by decide +kernel) rfl
theorem d_X12_character_352 : dk me_X12_character 352 (.iinc 11 1) 3 355 := And.intro (by decide +kernel) rfl
theorem d_X12_character_355 : dk me_X12_character 355 (.goto (-234)) 3 358 := And.intro (by decide +kernel) rfl
theorem d_X12_character_358 : dk me_X12_character 358 (.iconst (-1)) 1 359 := And.intro (by decide +kernel) rfl
theorem d_X12_character_359 : dk me_X12_character 359 (.ireturn) 1 360 := And.intro (by decide +kernel) rfl
theorem ms_X12_character {fx : FX} {m : MM} {l0 : Nat} {l1 : Int} {l2 : Int} {l3 : Int} {l4 : Int} {l5 : Int} : MS fx me_X12_character [aR (some (12, l0)), aI l1, aI l2, aI l3, aI l4, aI l5] m (f_X12_character m l0 l1 l2 l3 l4 l5) := by
  refine ms_of rfl mf_X12_character (b8 rfl) ?_
  refine s_top ?_
  show Sim fx me_X12_character 0 [(0, aR (some (12, l0))), (1, aI l1), (2, aI l2), (3, aI l3), (4, aI l4), (5, aI l5)] [] m _
  unfold f_X12_character
  have hj_X12_character_0_358 : ∀ (m_358 : MM), Sim fx me_X12_character 358 [] [] m_358 ((j_X12_character_0_358 m_358).bind (fun z => some z)) := by
    intro m_358
    unfold j_X12_character_0_358
    exact s_iconst d_X12_character_358 n_m1 (s_iret d_X12_character_359 rfl rfl)
  have hj_X12_character_0_59 : ∀ (m_59 : MM) (l0_59 : Nat) (l1_59 : Int) (l2_59 : Int) (l3_59 : Int) (l4_59 : Int) (l5_59 : Int) (s0_59 : Nat) (s1_59 : Int), Sim fx me_X12_character 59 [(0, aR (some (12, l0_59))), (1, aI l1_59), (2, aI l2_59), (3, aI l3_59), (4, aI l4_59), (5, aI l5_59)] [aI s1_59, aR (some (12, s0_59))] m_59 ((j_X12_character_0_59 m_59 l0_59 l1_59 l2_59 l3_59 l4_59 l5_59 s0_59 s1_59).bind (fun z => some z)) := by
    intro m_59 l0_59 l1_59 l2_59 l3_59 l4_59 l5_59 s0_59 s1_59
    unfold j_X12_character_0_59
    refine s_cI (r_V d_X12_character_59 k_X12_holds w_1668 rfl rfl) ms_X12_holds (b8 rfl) rfl rfl rfl (fun _ _ _ => rfl) (fun _ _ => Or.inl rfl) fun v6 m5 => (s_if_ne (tgt := 67) d_X12_character_62 rfl ?_ ?_)
    · refine s_bipush d_X12_character_67 n_16 rfl (s_iload_n d_X12_character_69 m1_ (s_imul d_X12_character_70 rfl rfl (s_iload_n d_X12_character_71 m3_ (s_iadd d_X12_character_72 rfl rfl (s_ck ?_)))))
      refine s_istore (L' := [(7, aI ((16 * l1_59) + l3_59)), (0, aR (some (12, l0_59))), (1, aI l1_59), (2, aI l2_59), (3, aI l3_59), (4, aI l4_59), (5, aI l5_59)]) d_X12_character_73 (b8 rfl) rfl (s_iload d_X12_character_75 m5_ (s_aload_n d_X12_character_77 m1_ (s_getR cf d_X12_character_78 fl_X12_99 (s_nk fun i7 => (s_iload d_X12_character_81 m0_ ?_)))))
      refine s_ldN d_X12_character_83 ka_88 rfl fun v8 => (s_icmp_lt (tgt := 89) d_X12_character_84 rfl ?_ ?_)
      · refine s_aload_n d_X12_character_89 m1_ (s_iload_n d_X12_character_90 m2_ (s_iload_n d_X12_character_91 m3_ (s_iload_n d_X12_character_92 m4_ (s_pI (r_V d_X12_character_93 k_X12_stateIn w_1956 rfl rfl) ms_X12_stateIn (b8 rfl) rfl rfl rfl fun v9 => (s_istore (L' := [(8, aI v9), (7, aI ((16 * l1_59) + l3_59)), (0, aR (some (12, l0_59))), (1, aI l1_59), (2, aI l2_59), (3, aI l3_59), (4, aI l4_59), (5, aI l5_59)]) d_X12_character_96 (b8 rfl) rfl ?_)))))
        refine s_bipush d_X12_character_98 n_6 rfl (s_iload d_X12_character_100 m1_ (s_imul d_X12_character_102 rfl rfl (s_iload d_X12_character_103 m6_ (s_iadd d_X12_character_105 rfl rfl (s_ck ?_)))))
        refine s_let fun v10 => (s_istore (L' := [(9, aI v10), (8, aI v9), (7, aI ((16 * l1_59) + l3_59)), (0, aR (some (12, l0_59))), (1, aI l1_59), (2, aI l2_59), (3, aI l3_59), (4, aI l4_59), (5, aI l5_59)]) d_X12_character_106 (b8 rfl) rfl (s_iload d_X12_character_108 m8_ (s_istore (L' := [(10, aI l5_59), (9, aI v10), (8, aI v9), (7, aI ((16 * l1_59) + l3_59)), (0, aR (some (12, l0_59))), (1, aI l1_59), (2, aI l2_59), (3, aI l3_59), (4, aI l4_59), (5, aI l5_59)]) d_X12_character_110 (b8 rfl) rfl (s_aload_n d_X12_character_112 m4_ (s_getR cf d_X12_character_113 fl_X12_108 ?_)))))
        refine s_nk fun i11 => (s_iload d_X12_character_116 m1_ (s_ldN d_X12_character_118 ka_91 rfl fun v12 => (s_istore (L' := [(11, aI v12), (10, aI l5_59), (9, aI v10), (8, aI v9), (7, aI ((16 * l1_59) + l3_59)), (0, aR (some (12, l0_59))), (1, aI l1_59), (2, aI l2_59), (3, aI l3_59), (4, aI l4_59), (5, aI l5_59)]) d_X12_character_119 (b8 rfl) rfl (s_sub (subc m1_ (subc m0_ (subc m5_ (subc m4_ (subc m3_ (subc m2_ sub0)))))) (s_lp2 (fun s => [(10, aI (s.1)), (11, aI (s.2)), (0, aR (some (12, l0_59))), (7, aI ((16 * l1_59) + l3_59)), (8, aI v9), (9, aI v10)]) (fun s => m5) (l5_59, v12) fun k121 hx121 s ih0 => ?_)))))
        obtain ⟨l10_121, l11_121⟩ := s
        have ih121 := ih0
        clear ih0
        try dsimp only
        unfold b_X12_character_121
        have hj_X12_character_121_352 : ∀ (l10_352 : Int) (l11_352 : Int), Sim fx me_X12_character 352 [(0, aR (some (12, l0_59))), (7, aI ((16 * l1_59) + l3_59)), (8, aI v9), (9, aI v10), (10, aI l10_352), (11, aI l11_352)] [] m5 ((j_X12_character_121_352 m5 l0_59 ((16 * l1_59) + l3_59) v9 v10 l10_352 l11_352).bind k121) := by
          intro l10_352 l11_352
          unfold j_X12_character_121_352
          exact s_iinc (L' := [(11, aI (l11_352 + 1)), (0, aR (some (12, l0_59))), (7, aI ((16 * l1_59) + l3_59)), (8, aI v9), (9, aI v10), (10, aI l10_352)]) d_X12_character_352 m5_ (b8 rfl) rfl (s_goto (tgt := 121) d_X12_character_355 rfl (s_sub (subc m5_ (subc m0_ (subc m1_ (subc m2_ (subc m3_ (subc m4_ sub0)))))) (s_back (ih121 (l10_352, (l11_352 + 1))))))
        have hj_X12_character_121_219 : ∀ (l10_219 : Int) (l11_219 : Int) (s0_219 : Int), Sim fx me_X12_character 219 [(0, aR (some (12, l0_59))), (7, aI ((16 * l1_59) + l3_59)), (8, aI v9), (9, aI v10), (10, aI l10_219), (11, aI l11_219)] [aI s0_219] m5 ((j_X12_character_121_219 m5 l0_59 ((16 * l1_59) + l3_59) v9 v10 l10_219 l11_219 s0_219).bind k121) := by
          intro l10_219 l11_219 s0_219
          unfold j_X12_character_121_219
          refine s_istore (L' := [(12, aI s0_219), (0, aR (some (12, l0_59))), (7, aI ((16 * l1_59) + l3_59)), (8, aI v9), (9, aI v10), (10, aI l10_219), (11, aI l11_219)]) d_X12_character_219 (b8 rfl) rfl (s_aload_n d_X12_character_221 m1_ (s_getR cf d_X12_character_222 fl_X12_129 (s_nk fun i27 => (s_bipush d_X12_character_225 n_60 rfl (s_iload d_X12_character_227 m2_ ?_)))))
          refine s_imul d_X12_character_229 rfl rfl (s_iload d_X12_character_230 m6_ (s_iadd d_X12_character_232 rfl rfl (s_ldN d_X12_character_233 ka_98 rfl fun v28 => (s_istore (L' := [(13, aI v28), (12, aI s0_219), (0, aR (some (12, l0_59))), (7, aI ((16 * l1_59) + l3_59)), (8, aI v9), (9, aI v10), (10, aI l10_219), (11, aI l11_219)]) d_X12_character_234 (b8 rfl) rfl (s_sub (subc m6_ (subc m0_ (subc m2_ (subc m3_ (subc m4_ (subc m5_ (subc m7_ (subc m1_ sub0)))))))) (s_lp2 (fun s => [(10, aI (s.1)), (13, aI (s.2)), (0, aR (some (12, l0_59))), (7, aI ((16 * l1_59) + l3_59)), (8, aI v9), (9, aI v10), (11, aI l11_219), (12, aI s0_219)]) (fun s => m5) (l10_219, v28) fun k236 hx236 s ih0 => ?_))))))
          obtain ⟨l10_236, l13_236⟩ := s
          have ih236 := ih0
          clear ih0
          try dsimp only
          unfold b_X12_character_236
          have hj_X12_character_236_279 : ∀ (l10_279 : Int) (l13_279 : Int) (l14_279 : Int) (s0_279 : Int), Sim fx me_X12_character 279 [(0, aR (some (12, l0_59))), (7, aI ((16 * l1_59) + l3_59)), (8, aI v9), (9, aI v10), (10, aI l10_279), (11, aI l11_219), (12, aI s0_219), (13, aI l13_279), (14, aI l14_279)] [aI s0_279] m5 ((j_X12_character_236_279 m5 l0_59 ((16 * l1_59) + l3_59) v9 v10 l10_279 l11_219 s0_219 l13_279 l14_279 s0_279).bind k236) := by
            intro l10_279 l13_279 l14_279 s0_279
            unfold j_X12_character_236_279
            refine s_istore (L' := [(15, aI s0_279), (0, aR (some (12, l0_59))), (7, aI ((16 * l1_59) + l3_59)), (8, aI v9), (9, aI v10), (10, aI l10_279), (11, aI l11_219), (12, aI s0_219), (13, aI l13_279), (14, aI l14_279)]) d_X12_character_279 (b8 rfl) rfl (s_iload d_X12_character_281 m5_ (s_iload d_X12_character_283 m0_ (s_icmp_ge (tgt := 339) d_X12_character_285 rfl ?_ ?_)))
            · refine s_iload d_X12_character_339 m5_ (s_iload d_X12_character_341 m0_ (s_isub d_X12_character_343 rfl rfl (s_ck (s_istore (L' := [(10, aI (l10_279 - s0_279)), (15, aI s0_279), (0, aR (some (12, l0_59))), (7, aI ((16 * l1_59) + l3_59)), (8, aI v9), (9, aI v10), (11, aI l11_219), (12, aI s0_219), (13, aI l13_279), (14, aI l14_279)]) d_X12_character_344 (b8 rfl) rfl (s_iinc (L' := [(13, aI (l13_279 + 1)), (10, aI (l10_279 - s0_279)), (15, aI s0_279), (0, aR (some (12, l0_59))), (7, aI ((16 * l1_59) + l3_59)), (8, aI v9), (9, aI v10), (11, aI l11_219), (12, aI s0_219), (14, aI l14_279)]) d_X12_character_346 m8_ (b8 rfl) rfl ?_)))))
              exact s_goto (tgt := 236) d_X12_character_349 rfl (s_sub (subc m1_ (subc m0_ (subc m3_ (subc m4_ (subc m5_ (subc m6_ (subc m7_ (subc m8_ sub0)))))))) (s_back (ih236 ((l10_279 - s0_279), (l13_279 + 1)))))
            refine s_iload d_X12_character_288 m0_ (s_iconst d_X12_character_290 n_2 (s_icmp_ne (tgt := 321) d_X12_character_291 rfl ?_ ?_))
            · refine s_iload d_X12_character_321 m9_ (s_bipush d_X12_character_323 n_28 rfl (s_icmp_ne (tgt := 333) d_X12_character_325 rfl ?_ ?_))
              · exact s_bipush d_X12_character_333 n_97 rfl (s_iload d_X12_character_335 m9_ (s_iadd d_X12_character_337 rfl rfl (s_ck (s_iret d_X12_character_338 rfl ((hx236 _).trans ((hx121 _).trans rfl))))))
              exact s_bipush d_X12_character_328 n_46 rfl (s_goto (tgt := 338) d_X12_character_330 rfl (s_iret d_X12_character_338 rfl ((hx236 _).trans ((hx121 _).trans rfl))))
            refine s_iload d_X12_character_294 m5_ (s_if_ne (tgt := 304) d_X12_character_296 rfl ?_ ?_)
            · refine s_iload d_X12_character_304 m9_ (s_bipush d_X12_character_306 n_26 rfl (s_icmp_ne (tgt := 316) d_X12_character_308 rfl ?_ ?_))
              · exact s_bipush d_X12_character_316 n_108 rfl (s_goto (tgt := 338) d_X12_character_318 rfl (s_iret d_X12_character_338 rfl ((hx236 _).trans ((hx121 _).trans rfl))))
              exact s_bipush d_X12_character_311 n_105 rfl (s_goto (tgt := 338) d_X12_character_313 rfl (s_iret d_X12_character_338 rfl ((hx236 _).trans ((hx121 _).trans rfl))))
            exact s_bipush d_X12_character_299 n_102 rfl (s_goto (tgt := 338) d_X12_character_301 rfl (s_iret d_X12_character_338 rfl ((hx236 _).trans ((hx121 _).trans rfl))))
          have hj_X12_character_236_274 : ∀ (l10_274 : Int) (l13_274 : Int) (l14_274 : Int), Sim fx me_X12_character 274 [(0, aR (some (12, l0_59))), (7, aI ((16 * l1_59) + l3_59)), (8, aI v9), (9, aI v10), (10, aI l10_274), (11, aI l11_219), (12, aI s0_219), (13, aI l13_274), (14, aI l14_274)] [] m5 ((j_X12_character_236_274 m5 l0_59 ((16 * l1_59) + l3_59) v9 v10 l10_274 l11_219 s0_219 l13_274 l14_274).bind k236) := by
            intro l10_274 l13_274 l14_274
            unfold j_X12_character_236_274
            exact s_iconst d_X12_character_274 n_2 (s_goto (tgt := 279) d_X12_character_275 rfl (s_sub (subc m0_ (subc m1_ (subc m2_ (subc m3_ (subc m4_ (subc m5_ (subc m6_ (subc m7_ (subc m8_ sub0))))))))) (hj_X12_character_236_279 l10_274 l13_274 l14_274 2)))
          refine s_iload d_X12_character_236 m1_ (s_iload d_X12_character_238 m7_ (s_icmp_ge (tgt := 352) d_X12_character_240 rfl ?_ ?_))
          · exact s_exit (hx236 _) (s_sub (subc m2_ (subc m3_ (subc m4_ (subc m5_ (subc m0_ (subc m6_ sub0)))))) (hj_X12_character_121_352 l10_236 l11_219))
          refine s_aload_n d_X12_character_243 m2_ (s_sipush d_X12_character_244 n_150 rfl (s_iload d_X12_character_247 m3_ (s_imul d_X12_character_249 rfl rfl (s_iload d_X12_character_250 m1_ (s_iadd d_X12_character_252 rfl rfl ?_)))))
          refine s_iload d_X12_character_253 m4_ (s_ck1 (s_pI (r_V d_X12_character_255 k_X12_glyphIn w_1968 rfl rfl) ms_X12_glyphIn (b8 rfl) rfl rfl rfl fun v29 => (s_istore (L' := [(14, aI v29), (10, aI l10_236), (13, aI l13_236), (0, aR (some (12, l0_59))), (7, aI ((16 * l1_59) + l3_59)), (8, aI v9), (9, aI v10), (11, aI l11_219), (12, aI s0_219)]) d_X12_character_258 (b8 rfl) rfl (s_iload d_X12_character_260 m0_ (s_bipush d_X12_character_262 n_26 rfl ?_)))))
          refine s_icmp_eq (tgt := 274) d_X12_character_264 rfl ?_ ?_
          · exact s_sub (subc m3_ (subc m4_ (subc m5_ (subc m6_ (subc m1_ (subc m7_ (subc m8_ (subc m2_ (subc m0_ sub0))))))))) (hj_X12_character_236_274 l10_236 l13_236 v29)
          refine s_iload d_X12_character_267 m0_ (s_bipush d_X12_character_269 n_27 rfl (s_icmp_ne (tgt := 278) d_X12_character_271 rfl ?_ ?_))
          · exact s_iconst d_X12_character_278 n_1 (s_sub (subc m3_ (subc m4_ (subc m5_ (subc m6_ (subc m1_ (subc m7_ (subc m8_ (subc m2_ (subc m0_ sub0))))))))) (hj_X12_character_236_279 l10_236 l13_236 v29 1))
          exact s_sub (subc m3_ (subc m4_ (subc m5_ (subc m6_ (subc m1_ (subc m7_ (subc m8_ (subc m2_ (subc m0_ sub0))))))))) (hj_X12_character_236_274 l10_236 l13_236 v29)
        refine s_iload d_X12_character_121 m1_ (s_aload_n d_X12_character_123 m2_ (s_getR cf d_X12_character_124 fl_X12_108 (s_nk fun i13 => (s_iload d_X12_character_127 m5_ (s_ldN d_X12_character_129 ka_91 rfl fun v14 => ?_)))))
        refine s_aload_n d_X12_character_130 m2_ (s_getR cf d_X12_character_131 fl_X12_111 (s_nk fun i15 => (s_iload d_X12_character_134 m5_ (s_ldN d_X12_character_136 ka_92 rfl fun v16 => (s_iadd d_X12_character_137 rfl rfl ?_)))))
        refine s_ck (s_icmp_ge (tgt := 358) d_X12_character_138 rfl ?_ ?_)
        · exact s_exit (hx121 _) (s_sub (sub0) (hj_X12_character_0_358 m5))
        refine s_iload d_X12_character_141 m0_ (s_aload_n d_X12_character_143 m2_ (s_getR cf d_X12_character_144 fl_X12_126 (s_nk fun i17 => (s_bipush d_X12_character_147 n_60 rfl (s_iload d_X12_character_149 m3_ ?_)))))
        refine s_imul d_X12_character_151 rfl rfl (s_iload d_X12_character_152 m1_ (s_iadd d_X12_character_154 rfl rfl (s_ldN d_X12_character_155 ka_97 rfl fun v18 => (s_icmp_ge (tgt := 162) d_X12_character_156 rfl ?_ ?_))))
        · refine s_iload d_X12_character_162 m0_ (s_aload_n d_X12_character_164 m2_ (s_getR cf d_X12_character_165 fl_X12_126 (s_nk fun i19 => (s_bipush d_X12_character_168 n_60 rfl (s_iload d_X12_character_170 m3_ ?_)))))
          refine s_imul d_X12_character_172 rfl rfl (s_iload d_X12_character_173 m1_ (s_iadd d_X12_character_175 rfl rfl (s_ldN d_X12_character_176 ka_97 rfl fun v20 => (s_isub d_X12_character_177 rfl rfl (s_ck ?_)))))
          refine s_istore (L' := [(10, aI (l10_121 - v20)), (11, aI l11_121), (0, aR (some (12, l0_59))), (7, aI ((16 * l1_59) + l3_59)), (8, aI v9), (9, aI v10)]) d_X12_character_178 (b8 rfl) rfl (s_iload d_X12_character_180 m1_ (s_iconst d_X12_character_182 n_1 (s_iadd d_X12_character_183 rfl rfl (s_aload_n d_X12_character_184 m2_ (s_getR cf d_X12_character_185 fl_X12_102 ?_)))))
          refine s_nk fun i21 => (s_iload d_X12_character_188 m3_ (s_ldN d_X12_character_190 ka_89 rfl fun v22 => (s_ck1 (s_icmp_ge (tgt := 212) d_X12_character_191 rfl ?_ ?_))))
          · exact s_aload_n d_X12_character_212 m2_ (s_getR cf d_X12_character_213 fl_X12_105 (s_nk fun i23 => (s_iload d_X12_character_216 m3_ (s_ldN d_X12_character_218 ka_90 rfl fun v24 => (s_sub (subc m2_ (subc m3_ (subc m4_ (subc m5_ (subc m0_ (subc m1_ sub0)))))) (hj_X12_character_121_219 (l10_121 - v20) l11_121 v24))))))
          refine s_aload_n d_X12_character_194 m2_ (s_getR cf d_X12_character_195 fl_X12_129 (s_nk fun i25 => (s_bipush d_X12_character_198 n_60 rfl (s_iload d_X12_character_200 m3_ (s_imul d_X12_character_202 rfl rfl ?_)))))
          refine s_iload d_X12_character_203 m1_ (s_iadd d_X12_character_205 rfl rfl (s_iconst d_X12_character_206 n_1 (s_iadd d_X12_character_207 rfl rfl (s_ldN d_X12_character_208 ka_98 rfl fun v26 => (s_goto (tgt := 219) d_X12_character_209 rfl ?_)))))
          exact s_sub (subc m2_ (subc m3_ (subc m4_ (subc m5_ (subc m0_ (subc m1_ sub0)))))) (hj_X12_character_121_219 (l10_121 - v20) l11_121 v26)
        exact s_bipush d_X12_character_159 n_32 rfl (s_iret d_X12_character_161 rfl ((hx121 _).trans rfl))
      exact s_iconst d_X12_character_87 n_m1 (s_iret d_X12_character_88 rfl rfl)
    exact s_iconst d_X12_character_65 n_0 (s_iret d_X12_character_66 rfl rfl)
  have hj_X12_character_0_33 : ∀ (m_33 : MM) (l0_33 : Nat) (l1_33 : Int) (l2_33 : Int) (l3_33 : Int) (l4_33 : Int) (l5_33 : Int) (s0_33 : Int), Sim fx me_X12_character 33 [(0, aR (some (12, l0_33))), (1, aI l1_33), (2, aI l2_33), (3, aI l3_33), (4, aI l4_33), (5, aI l5_33)] [aI s0_33] m_33 ((j_X12_character_0_33 m_33 l0_33 l1_33 l2_33 l3_33 l4_33 l5_33 s0_33).bind (fun z => some z)) := by
    intro m_33 l0_33 l1_33 l2_33 l3_33 l4_33 l5_33 s0_33
    unfold j_X12_character_0_33
    refine s_istore (L' := [(6, aI s0_33), (0, aR (some (12, l0_33))), (1, aI l1_33), (2, aI l2_33), (3, aI l3_33), (4, aI l4_33), (5, aI l5_33)]) d_X12_character_33 (b8 rfl) rfl (s_aload_n d_X12_character_35 m1_ (s_iload d_X12_character_36 m0_ (s_if_ne (tgt := 45) d_X12_character_38 rfl ?_ ?_)))
    · refine s_aload_n d_X12_character_45 m1_ (s_getR cf d_X12_character_46 fl_X12_71 (s_nk fun i3 => (s_iload_n d_X12_character_49 m2_ (s_ldB d_X12_character_50 ka_79 rfl fun v4 => (s_if_eq (tgt := 58) d_X12_character_51 rfl ?_ ?_)))))
      · exact s_iconst d_X12_character_58 n_2 (s_sub (subc m1_ (subc m2_ (subc m3_ (subc m4_ (subc m5_ (subc m6_ sub0)))))) (hj_X12_character_0_59 m_33 l0_33 l1_33 l2_33 l3_33 l4_33 l5_33 l0_33 2))
      exact s_iconst d_X12_character_54 n_0 (s_goto (tgt := 59) d_X12_character_55 rfl (s_sub (subc m1_ (subc m2_ (subc m3_ (subc m4_ (subc m5_ (subc m6_ sub0)))))) (hj_X12_character_0_59 m_33 l0_33 l1_33 l2_33 l3_33 l4_33 l5_33 l0_33 0)))
    exact s_iconst d_X12_character_41 n_1 (s_goto (tgt := 59) d_X12_character_42 rfl (s_sub (subc m1_ (subc m2_ (subc m3_ (subc m4_ (subc m5_ (subc m6_ sub0)))))) (hj_X12_character_0_59 m_33 l0_33 l1_33 l2_33 l3_33 l4_33 l5_33 l0_33 1)))
  have hj_X12_character_0_32 : ∀ (m_32 : MM) (l0_32 : Nat) (l1_32 : Int) (l2_32 : Int) (l3_32 : Int) (l4_32 : Int) (l5_32 : Int), Sim fx me_X12_character 32 [(0, aR (some (12, l0_32))), (1, aI l1_32), (2, aI l2_32), (3, aI l3_32), (4, aI l4_32), (5, aI l5_32)] [] m_32 ((j_X12_character_0_32 m_32 l0_32 l1_32 l2_32 l3_32 l4_32 l5_32).bind (fun z => some z)) := by
    intro m_32 l0_32 l1_32 l2_32 l3_32 l4_32 l5_32
    unfold j_X12_character_0_32
    exact s_iconst d_X12_character_32 n_0 (s_sub (subc m0_ (subc m1_ (subc m2_ (subc m3_ (subc m4_ (subc m5_ sub0)))))) (hj_X12_character_0_33 m_32 l0_32 l1_32 l2_32 l3_32 l4_32 l5_32 0))
  refine s_aload_n d_X12_character_0 m0_ (s_iload_n d_X12_character_1 m1_ (s_iload_n d_X12_character_2 m2_ (s_pI (r_V d_X12_character_3 k_X12_isCopy w_1940 rfl rfl) ms_X12_isCopy (b8 rfl) rfl rfl rfl fun v1 => (s_if_eq (tgt := 32) d_X12_character_6 rfl ?_ ?_))))
  · exact s_sub (subc m0_ (subc m1_ (subc m2_ (subc m3_ (subc m4_ (subc m5_ sub0)))))) (hj_X12_character_0_32 m l0 l1 l2 l3 l4 l5)
  refine s_aload_n d_X12_character_9 m0_ (s_iload_n d_X12_character_10 m1_ (s_iload_n d_X12_character_11 m3_ (s_pI (r_V d_X12_character_12 k_X12_isPage w_1779 rfl rfl) ms_X12_isPage (b8 rfl) rfl rfl rfl fun v2 => (s_if_eq (tgt := 32) d_X12_character_15 rfl ?_ ?_))))
  · exact s_sub (subc m0_ (subc m1_ (subc m2_ (subc m3_ (subc m4_ (subc m5_ sub0)))))) (hj_X12_character_0_32 m l0 l1 l2 l3 l4 l5)
  refine s_iload d_X12_character_18 m4_ (s_if_lt (tgt := 32) d_X12_character_20 rfl ?_ ?_)
  · exact s_sub (subc m0_ (subc m1_ (subc m2_ (subc m3_ (subc m4_ (subc m5_ sub0)))))) (hj_X12_character_0_32 m l0 l1 l2 l3 l4 l5)
  refine s_iload d_X12_character_23 m5_ (s_if_lt (tgt := 32) d_X12_character_25 rfl ?_ ?_)
  · exact s_sub (subc m0_ (subc m1_ (subc m2_ (subc m3_ (subc m4_ (subc m5_ sub0)))))) (hj_X12_character_0_32 m l0 l1 l2 l3 l4 l5)
  exact s_iconst d_X12_character_28 n_1 (s_goto (tgt := 33) d_X12_character_29 rfl (s_sub (subc m0_ (subc m1_ (subc m2_ (subc m3_ (subc m4_ (subc m5_ sub0)))))) (hj_X12_character_0_33 m l0 l1 l2 l3 l4 l5 1)))
