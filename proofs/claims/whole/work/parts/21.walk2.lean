set_option maxRecDepth 8000
theorem d_X7_countByLast_0 : dk me_X7_countByLast 0 (.iconst 1) 1 1 := And.intro (by decide +kernel) rfl
theorem d_X7_countByLast_1 : dk me_X7_countByLast 1 (.iload_n 1) 1 2 := And.intro (by decide +kernel) rfl
theorem d_X7_countByLast_2 : dk me_X7_countByLast 2 (.ishl) 1 3 := And.intro (by decide +kernel) rfl
theorem d_X7_countByLast_3 : dk me_X7_countByLast 3 (.iconst 1) 1 4 := And.intro (by decide +kernel) rfl
theorem d_X7_countByLast_4 : dk me_X7_countByLast 4 (.isub) 1 5 := And.intro (by decide +kernel) rfl
theorem d_X7_countByLast_5 : dk me_X7_countByLast 5 (.istore_n 2) 1 6 := And.intro (by decide +kernel) rfl
theorem d_X7_countByLast_6 : dk me_X7_countByLast 6 (.aload_n 0) 1 7 := And.intro (by decide +kernel) rfl
theorem d_X7_countByLast_7 : dk me_X7_countByLast 7 (.getfield 15) 3 10 := And.intro (by decide +kernel) rfl
theorem d_X7_countByLast_10 : dk me_X7_countByLast 10 (.iconst 0) 1 11 := And.intro (by decide +kernel) rfl
theorem d_X7_countByLast_11 : dk me_X7_countByLast 11 (.iconst 1) 1 12 := And.intro (by decide +kernel) rfl
theorem d_X7_countByLast_12 : dk me_X7_countByLast 12 (.iastore) 1 13 := And.intro (by decide +kernel) rfl
theorem d_X7_countByLast_13 : dk me_X7_countByLast 13 (.iconst 1) 1 14 := And.intro (by decide +kernel) rfl
theorem d_X7_countByLast_14 : dk me_X7_countByLast 14 (.istore_n 3) 1 15 := And.intro (by decide +kernel) rfl
theorem d_X7_countByLast_15 : dk me_X7_countByLast 15 (.iload_n 3) 1 16 := And.intro (by decide +kernel) rfl
theorem d_X7_countByLast_16 : dk me_X7_countByLast 16 (.iload_n 2) 1 17 := And.intro (by decide +kernel) rfl
theorem d_X7_countByLast_17 : dk me_X7_countByLast 17 (.if_icmp .gt 78) 3 20 := And.intro (by decide +kernel) rfl
theorem d_X7_countByLast_20 : dk me_X7_countByLast 20 (.aload_n 0) 1 21 := And.intro (by decide +kernel) rfl
theorem d_X7_countByLast_21 : dk me_X7_countByLast 21 (.getfield 15) 3 24 := And.intro (by decide +kernel) rfl
theorem d_X7_countByLast_24 : dk me_X7_countByLast 24 (.iload_n 3) 1 25 := And.intro (by decide +kernel) rfl
theorem d_X7_countByLast_25 : dk me_X7_countByLast 25 (.iconst 0) 1 26 := And.intro (by decide +kernel) rfl
theorem d_X7_countByLast_26 : dk me_X7_countByLast 26 (.iastore) 1 27 := And.intro (by decide +kernel) rfl
theorem d_X7_countByLast_27 : dk me_X7_countByLast 27 (.iconst 0) 1 28 := And.intro (by decide +kernel) rfl
theorem d_X7_countByLast_28 : dk me_X7_countByLast 28 (.istore 4) 2 30 := And.intro (by decide +kernel) rfl
theorem d_X7_countByLast_30 : dk me_X7_countByLast 30 (.iload 4) 2 32 := And.intro (by decide +kernel) rfl
theorem d_X7_countByLast_32 : dk me_X7_countByLast 32 (.iload_n 1) 1 33 := And.intro (by decide +kernel) rfl
theorem d_X7_countByLast_33 : dk me_X7_countByLast 33 (.if_icmp .ge 56) 3 36 := And.intro (by decide +kernel) rfl
theorem d_X7_countByLast_36 : dk me_X7_countByLast 36 (.iload_n 3) 1 37 := And.intro (by decide +kernel) rfl
theorem d_X7_countByLast_37 : dk me_X7_countByLast 37 (.iconst 1) 1 38 := And.intro (by decide +kernel) rfl
theorem d_X7_countByLast_38 : dk me_X7_countByLast 38 (.iload 4) 2 40 := And.intro (by decide +kernel) rfl
theorem d_X7_countByLast_40 : dk me_X7_countByLast 40 (.ishl) 1 41 := And.intro (by decide +kernel) rfl
theorem d_X7_countByLast_41 : dk me_X7_countByLast 41 (.iconst (-1)) 1 42 := And.intro (by decide +kernel) rfl
theorem d_X7_countByLast_42 : dk me_X7_countByLast 42 (.ixor) 1 43 := And.intro (by decide +kernel) rfl
theorem d_X7_countByLast_43 : dk me_X7_countByLast 43 (.iand) 1 44 := And.intro (by decide +kernel) rfl
theorem d_X7_countByLast_44 : dk me_X7_countByLast 44 (.istore 5) 2 46 := And.intro (by decide +kernel) rfl
theorem d_X7_countByLast_46 : dk me_X7_countByLast 46 (.iload 5) 2 48 := And.intro (by decide +kernel) rfl
theorem d_X7_countByLast_48 : dk me_X7_countByLast 48 (.iload_n 3) 1 49 := And.intro (by decide +kernel) rfl
theorem d_X7_countByLast_49 : dk me_X7_countByLast 49 (.if_icmp .eq 34) 3 52 := And.intro (by decide +kernel) rfl
theorem d_X7_countByLast_52 : dk me_X7_countByLast 52 (.aload_n 0) 1 53 := And.intro (by decide +kernel) rfl
theorem d_X7_countByLast_53 : dk me_X7_countByLast 53 (.getfield 9) 3 56 := And.intro (by decide +kernel) rfl
theorem d_X7_countByLast_56 : dk me_X7_countByLast 56 (.iload 4) 2 58 := And.intro (by decide +kernel) rfl
theorem d_X7_countByLast_58 : dk me_X7_countByLast 58 (.iaload) 1 59 := And.intro (by decide +kernel) rfl
theorem d_X7_countByLast_59 : dk me_X7_countByLast 59 (.iload 5) 2 61 := And.intro (by decide +kernel) rfl
theorem d_X7_countByLast_61 : dk me_X7_countByLast 61 (.iconst (-1)) 1 62 := And.intro (by decide +kernel) rfl
theorem d_X7_countByLast_62 : dk me_X7_countByLast 62 (.ixor) 1 63 := And.intro (by decide +kernel) rfl
theorem d_X7_countByLast_63 : dk me_X7_countByLast 63 (.iand) 1 64 := And.intro (by decide +kernel) rfl
theorem d_X7_countByLast_64 : dk me_X7_countByLast 64 (.ifCond .ne 19) 3 67 := And.intro (by decide +kernel) rfl
theorem d_X7_countByLast_67 : dk me_X7_countByLast 67 (.aload_n 0) 1 68 := And.intro (by decide +kernel) rfl
theorem d_X7_countByLast_68 : dk me_X7_countByLast 68 (.getfield 15) 3 71 := And.intro (by decide +kernel) rfl
theorem d_X7_countByLast_71 : dk me_X7_countByLast 71 (.iload_n 3) 1 72 := And.intro (by decide +kernel) rfl
theorem d_X7_countByLast_72 : dk me_X7_countByLast 72 (.dup2) 1 73 := And.intro (by decide +kernel) rfl
theorem d_X7_countByLast_73 : dk me_X7_countByLast 73 (.iaload) 1 74 := And.intro (by decide +kernel) rfl
theorem d_X7_countByLast_74 : dk me_X7_countByLast 74 (.aload_n 0) 1 75 := And.intro (by decide +kernel) rfl
theorem d_X7_countByLast_75 : dk me_X7_countByLast 75 (.getfield 15) 3 78 := And.intro (by decide +kernel) rfl
theorem d_X7_countByLast_78 : dk me_X7_countByLast 78 (.iload 5) 2 80 := And.intro (by decide +kernel) rfl
theorem d_X7_countByLast_80 : dk me_X7_countByLast 80 (.iaload) 1 81 := And.intro (by decide +kernel) rfl
theorem d_X7_countByLast_81 : dk me_X7_countByLast 81 (.iadd) 1 82 := And.intro (by decide +kernel) rfl
theorem d_X7_countByLast_82 : dk me_X7_countByLast 82 (.iastore) 1 83 := And.intro (by decide +kernel) rfl
theorem d_X7_countByLast_83 : dk me_X7_countByLast 83 (.iinc 4 1) 3 86 := And.intro (by decide +kernel) rfl
theorem d_X7_countByLast_86 : dk me_X7_countByLast 86 (.goto (-56)) 3 89 := And.intro (by decide +kernel) rfl
theorem d_X7_countByLast_89 : dk me_X7_countByLast 89 (.iinc 3 1) 3 92 := And.intro (by decide +kernel) rfl
theorem d_X7_countByLast_92 : dk me_X7_countByLast 92 (.goto (-77)) 3 95 := And.intro (by decide +kernel) rfl
theorem d_X7_countByLast_95 : dk me_X7_countByLast 95 (.aload_n 0) 1 96 := And.intro (by decide +kernel) rfl
theorem d_X7_countByLast_96 : dk me_X7_countByLast 96 (.getfield 15) 3 99 := And.intro (by decide +kernel) rfl
theorem d_X7_countByLast_99 : dk me_X7_countByLast 99 (.iload_n 2) 1 100 := And.intro (by decide +kernel) rfl
theorem d_X7_countByLast_100 : dk me_X7_countByLast 100 (.iaload) 1 101 := And.intro (by decide +kernel) rfl
theorem d_X7_countByLast_101 : dk me_X7_countByLast 101 (.ireturn) 1 102 := And.intro (by decide +kernel) rfl
theorem ms_X7_countByLast {fx : FX} {m : MM} {l0 : Nat} {l1 : Int} : MS fx me_X7_countByLast [aR (some (7, l0)), aI l1] m (f_X7_countByLast m l0 l1) := by
  refine ms_of rfl mf_X7_countByLast (b8 rfl) ?_
  refine s_top ?_
  show Sim fx me_X7_countByLast 0 [(0, aR (some (7, l0))), (1, aI l1)] [] m _
  unfold f_X7_countByLast
  have hj_X7_countByLast_0_95 : ∀ (m_95 : MM) (l0_95 : Nat) (l2_95 : Int), Sim fx me_X7_countByLast 95 [(0, aR (some (7, l0_95))), (2, aI l2_95)] [] m_95 ((j_X7_countByLast_0_95 m_95 l0_95 l2_95).bind (fun z => some z)) := by
    intro m_95 l0_95 l2_95
    unfold j_X7_countByLast_0_95
    exact s_aload_n d_X7_countByLast_95 m0_ (s_getR cf d_X7_countByLast_96 fl_X7_15 (s_nk fun i13 => (s_iload_n d_X7_countByLast_99 m1_ (s_ldN d_X7_countByLast_100 ka_40 rfl fun v14 => (s_iret d_X7_countByLast_101 rfl rfl)))))
  refine s_iconst d_X7_countByLast_0 n_1 (s_iload_n d_X7_countByLast_1 m1_ (s_ishl d_X7_countByLast_2 (s_iconst d_X7_countByLast_3 n_1 (s_isub d_X7_countByLast_4 rfl rfl (s_ck ?_)))))
  refine s_istore_n (L' := [(2, aI ((ishl 1 l1) - 1)), (0, aR (some (7, l0))), (1, aI l1)]) d_X7_countByLast_5 (b8 rfl) rfl (s_aload_n d_X7_countByLast_6 m1_ (s_getR cf d_X7_countByLast_7 fl_X7_15 (s_nk fun i1 => (s_iconst d_X7_countByLast_10 n_0 (s_iconst d_X7_countByLast_11 n_1 ?_)))))
  refine s_stN d_X7_countByLast_12 ka_40 rfl fun m2 => (s_iconst d_X7_countByLast_13 n_1 (s_istore_n (L' := [(3, aI 1), (2, aI ((ishl 1 l1) - 1)), (0, aR (some (7, l0))), (1, aI l1)]) d_X7_countByLast_14 (b8 rfl) rfl (s_sub (subc m0_ (subc m2_ (subc m3_ (subc m1_ sub0)))) (s_lp2 (fun s => [(3, aI (s.1)), (0, aR (some (7, l0))), (1, aI l1), (2, aI ((ishl 1 l1) - 1))]) (fun s => s.2) (1, m2) fun k15 hx15 s ih0 => ?_))))
  obtain ⟨l3_15, mm_15⟩ := s
  have ih15 := ih0
  clear ih0
  try dsimp only
  unfold b_X7_countByLast_15
  have hj_X7_countByLast_15_89 : ∀ (m_89 : MM) (l3_89 : Int), Sim fx me_X7_countByLast 89 [(0, aR (some (7, l0))), (1, aI l1), (2, aI ((ishl 1 l1) - 1)), (3, aI l3_89)] [] m_89 ((j_X7_countByLast_15_89 m_89 l0 l1 ((ishl 1 l1) - 1) l3_89).bind k15) := by
    intro m_89 l3_89
    unfold j_X7_countByLast_15_89
    exact s_iinc (L' := [(3, aI (l3_89 + 1)), (0, aR (some (7, l0))), (1, aI l1), (2, aI ((ishl 1 l1) - 1))]) d_X7_countByLast_89 m3_ (b8 rfl) rfl (s_goto (tgt := 15) d_X7_countByLast_92 rfl (s_sub (subc m0_ (subc m1_ (subc m2_ (subc m3_ sub0)))) (s_back (ih15 ((l3_89 + 1), m_89)))))
  refine s_iload_n d_X7_countByLast_15 m0_ (s_iload_n d_X7_countByLast_16 m3_ (s_icmp_gt (tgt := 95) d_X7_countByLast_17 rfl ?_ ?_))
  · exact s_exit (hx15 _) (s_sub (subc m1_ (subc m3_ sub0)) (hj_X7_countByLast_0_95 mm_15 l0 ((ishl 1 l1) - 1)))
  refine s_aload_n d_X7_countByLast_20 m1_ (s_getR cf d_X7_countByLast_21 fl_X7_15 (s_nk fun i3 => (s_iload_n d_X7_countByLast_24 m0_ (s_iconst d_X7_countByLast_25 n_0 (s_stN d_X7_countByLast_26 ka_40 rfl fun m4 => ?_)))))
  refine s_iconst d_X7_countByLast_27 n_0 (s_istore (L' := [(4, aI 0), (3, aI l3_15), (0, aR (some (7, l0))), (1, aI l1), (2, aI ((ishl 1 l1) - 1))]) d_X7_countByLast_28 (b8 rfl) rfl (s_sub (subc m0_ (subc m2_ (subc m3_ (subc m4_ (subc m1_ sub0))))) (s_lp2 (fun s => [(4, aI (s.1)), (0, aR (some (7, l0))), (1, aI l1), (2, aI ((ishl 1 l1) - 1)), (3, aI l3_15)]) (fun s => s.2) (0, m4) fun k30 hx30 s ih0 => ?_)))
  obtain ⟨l4_30, mm_30⟩ := s
  have ih30 := ih0
  clear ih0
  try dsimp only
  unfold b_X7_countByLast_30
  refine s_iload d_X7_countByLast_30 m0_ (s_iload_n d_X7_countByLast_32 m2_ (s_icmp_ge (tgt := 89) d_X7_countByLast_33 rfl ?_ ?_))
  · exact s_exit (hx30 _) (s_sub (subc m1_ (subc m2_ (subc m3_ (subc m4_ sub0)))) (hj_X7_countByLast_15_89 mm_30 l3_15))
  refine s_iload_n d_X7_countByLast_36 m4_ (s_iconst d_X7_countByLast_37 n_1 (s_iload d_X7_countByLast_38 m0_ (s_ishl d_X7_countByLast_40 (s_iconst d_X7_countByLast_41 n_m1 (s_ixor d_X7_countByLast_42 ?_)))))
  refine s_iand d_X7_countByLast_43 (s_let fun v5 => (s_istore (L' := [(5, aI v5), (4, aI l4_30), (0, aR (some (7, l0))), (1, aI l1), (2, aI ((ishl 1 l1) - 1)), (3, aI l3_15)]) d_X7_countByLast_44 (b8 rfl) rfl (s_iload d_X7_countByLast_46 m0_ (s_iload_n d_X7_countByLast_48 m5_ (s_icmp_eq (tgt := 83) d_X7_countByLast_49 rfl ?_ ?_)))))
  · exact s_iinc (L' := [(4, aI (l4_30 + 1)), (5, aI v5), (0, aR (some (7, l0))), (1, aI l1), (2, aI ((ishl 1 l1) - 1)), (3, aI l3_15)]) d_X7_countByLast_83 m1_ (b8 rfl) rfl (s_goto (tgt := 30) d_X7_countByLast_86 rfl (s_sub (subc m0_ (subc m2_ (subc m3_ (subc m4_ (subc m5_ sub0))))) (s_back (ih30 ((l4_30 + 1), mm_30)))))
  refine s_aload_n d_X7_countByLast_52 m2_ (s_getR cf d_X7_countByLast_53 fl_X7_9 (s_nk fun i6 => (s_iload d_X7_countByLast_56 m1_ (s_ldN d_X7_countByLast_58 ka_39 rfl fun v7 => (s_iload d_X7_countByLast_59 m0_ ?_)))))
  refine s_iconst d_X7_countByLast_61 n_m1 (s_ixor d_X7_countByLast_62 (s_iand d_X7_countByLast_63 (s_if_ne (tgt := 83) d_X7_countByLast_64 rfl ?_ ?_)))
  · exact s_iinc (L' := [(4, aI (l4_30 + 1)), (5, aI v5), (0, aR (some (7, l0))), (1, aI l1), (2, aI ((ishl 1 l1) - 1)), (3, aI l3_15)]) d_X7_countByLast_83 m1_ (b8 rfl) rfl (s_goto (tgt := 30) d_X7_countByLast_86 rfl (s_sub (subc m0_ (subc m2_ (subc m3_ (subc m4_ (subc m5_ sub0))))) (s_back (ih30 ((l4_30 + 1), mm_30)))))
  refine s_aload_n d_X7_countByLast_67 m2_ (s_getR cf d_X7_countByLast_68 fl_X7_15 (s_nk fun i8 => (s_iload_n d_X7_countByLast_71 m5_ (s_dup2 d_X7_countByLast_72 rfl rfl (s_ldN d_X7_countByLast_73 ka_40 rfl fun v9 => ?_)))))
  refine s_aload_n d_X7_countByLast_74 m2_ (s_getR cf d_X7_countByLast_75 fl_X7_15 (s_nk fun i10 => (s_iload d_X7_countByLast_78 m0_ (s_ldN d_X7_countByLast_80 ka_40 rfl fun v11 => (s_iadd d_X7_countByLast_81 rfl rfl ?_)))))
  exact s_ck (s_stN d_X7_countByLast_82 ka_40 rfl fun m12 => (s_iinc (L' := [(4, aI (l4_30 + 1)), (5, aI v5), (0, aR (some (7, l0))), (1, aI l1), (2, aI ((ishl 1 l1) - 1)), (3, aI l3_15)]) d_X7_countByLast_83 m1_ (b8 rfl) rfl (s_goto (tgt := 30) d_X7_countByLast_86 rfl (s_sub (subc m0_ (subc m2_ (subc m3_ (subc m4_ (subc m5_ sub0))))) (s_back (ih30 ((l4_30 + 1), m12)))))))
theorem d_X11_orders_0 : dk me_X11_orders 0 (.aload_n 0) 1 1 := And.intro (by decide +kernel) rfl
theorem d_X11_orders_1 : dk me_X11_orders 1 (.iload_n 1) 1 2 := And.intro (by decide +kernel) rfl
theorem d_X11_orders_2 : dk me_X11_orders 2 (.invokevirtual 143) 3 5 := And.intro (by decide +kernel) rfl
theorem d_X11_orders_5 : dk me_X11_orders 5 (.astore_n 2) 1 6 := And.intro (by decide +kernel) rfl
theorem d_X11_orders_6 : dk me_X11_orders 6 (.aload_n 0) 1 7 := And.intro (by decide +kernel) rfl
theorem d_X11_orders_7 : dk me_X11_orders 7 (.getfield 49) 3 10 := And.intro (by decide +kernel) rfl
theorem d_X11_orders_10 : dk me_X11_orders 10 (.aload_n 2) 1 11 := And.intro (by decide +kernel) rfl
theorem d_X11_orders_11 : dk me_X11_orders 11 (.aload_n 0) 1 12 := And.intro (by decide +kernel) rfl
theorem d_X11_orders_12 : dk me_X11_orders 12 (.getfield 19) 3 15 := And.intro (by decide +kernel) rfl
theorem d_X11_orders_15 : dk me_X11_orders 15 (.invokevirtual 405) 3 18 := And.intro (by decide +kernel) rfl
theorem d_X11_orders_18 : dk me_X11_orders 18 (.aload_n 0) 1 19 := And.intro (by decide +kernel) rfl
theorem d_X11_orders_19 : dk me_X11_orders 19 (.getfield 49) 3 22 := And.intro (by decide +kernel) rfl
theorem d_X11_orders_22 : dk me_X11_orders 22 (.aload_n 2) 1 23 := And.intro (by decide +kernel) rfl
theorem d_X11_orders_23 : dk me_X11_orders 23 (.getfield 338) 3 26 := And.intro (by decide +kernel) rfl
theorem d_X11_orders_26 : dk me_X11_orders 26 (.arraylength) 1 27 := And.intro (by decide +kernel) rfl
theorem d_X11_orders_27 : dk me_X11_orders 27 (.invokevirtual 409) 3 30 := And.intro (by decide +kernel) rfl
theorem d_X11_orders_30 : dk me_X11_orders 30 (.ireturn) 1 31 := And.intro (by decide +kernel) rfl
theorem ms_X11_orders {fx : FX} {m : MM} {l0 : Nat} {l1 : Int} : MS fx me_X11_orders [aR (some (11, l0)), aI l1] m (f_X11_orders m l0 l1) := by
  refine ms_of rfl mf_X11_orders (b8 rfl) ?_
  refine s_top ?_
  show Sim fx me_X11_orders 0 [(0, aR (some (11, l0))), (1, aI l1)] [] m _
  unfold f_X11_orders
  refine s_aload_n d_X11_orders_0 m0_ (s_iload_n d_X11_orders_1 m1_ (s_cR (r_V d_X11_orders_2 k_X11_bookAt w_814 rfl rfl) ms_X11_bookAt (b8 rfl) rfl rfl rfl (fun h => by cases h) (fun _ _ => Or.inr rfl) fun r2 m1 => (s_nk fun i3 => (s_astore_n (L' := [(2, aR (some (0, i3))), (0, aR (some (11, l0))), (1, aI l1)]) d_X11_orders_5 (b8 rfl) rfl (s_aload_n d_X11_orders_6 m1_ ?_)))))
  refine s_getR cf d_X11_orders_7 fl_X11_49 (s_nk fun i4 => (s_aload_n d_X11_orders_10 m0_ (s_aload_n d_X11_orders_11 m1_ (s_getR cf d_X11_orders_12 fl_X11_19 (s_nk fun i5 => ?_)))))
  refine s_cV (r_V d_X11_orders_15 k_X7_readFormes w_1287 rfl rfl) ms_X7_readFormes (b8 rfl) rfl rfl rfl (fun _ _ _ => rfl) (fun _ _ => Or.inl rfl) fun m6 => (s_aload_n d_X11_orders_18 m1_ (s_getR cf d_X11_orders_19 fl_X11_49 (s_nk fun i8 => (s_aload_n d_X11_orders_22 m0_ (s_getR cf d_X11_orders_23 fl_X11_338 ?_)))))
  exact s_nk fun i9 => (s_len d_X11_orders_26 ka_14 ta_14 (s_cI (r_V d_X11_orders_27 k_X7_countByLast w_1295 rfl rfl) ms_X7_countByLast (b8 rfl) rfl rfl rfl (fun _ _ _ => rfl) (fun _ _ => Or.inl rfl) fun v11 m10 => (s_iret d_X11_orders_30 rfl rfl)))
theorem d_L_orders_0 : dk me_L_orders 0 (.aload_n 2) 1 1 := And.intro (by decide +kernel) rfl
theorem d_L_orders_1 : dk me_L_orders 1 (.iconst 0) 1 2 := And.intro (by decide +kernel) rfl
theorem d_L_orders_2 : dk me_L_orders 2 (.aload_n 0) 1 3 := And.intro (by decide +kernel) rfl
theorem d_L_orders_3 : dk me_L_orders 3 (.iload_n 1) 1 4 := And.intro (by decide +kernel) rfl
theorem d_L_orders_4 : dk me_L_orders 4 (.invokevirtual 123) 3 7 := And.intro (by decide +kernel) rfl
theorem d_L_orders_7 : dk me_L_orders 7 (.i2l) 1 8 := And.intro (by decide +kernel) rfl
theorem d_L_orders_8 : dk me_L_orders 8 (.lastore) 1 9 := And.intro (by decide +kernel) rfl
theorem d_L_orders_9 : dk me_L_orders 9 (.goto 6) 3 12 := And.intro (by decide +kernel) rfl
theorem d_L_orders_12 : dk me_L_orders 12 (.astore_n 3) 1 13 := And.intro (by decide +kernel) rfl
theorem d_L_orders_13 : dk me_L_orders 13 (.iconst 1) 1 14 := And.intro (by decide +kernel) rfl
theorem d_L_orders_14 : dk me_L_orders 14 (.ireturn) 1 15 := And.intro (by decide +kernel) rfl
theorem d_L_orders_15 : dk me_L_orders 15 (.iconst 0) 1 16 := And.intro (by decide +kernel) rfl
theorem d_L_orders_16 : dk me_L_orders 16 (.ireturn) 1 17 := And.intro (by decide +kernel) rfl
theorem ms_L_orders {fx : FX} {m : MM} {l0 : Nat} {l1 : Int} {l2 : Nat} : MS fx me_L_orders [aR (some (11, l0)), aI l1, aR (some (131, l2))] m (f_L_orders m l0 l1 l2) := by
  refine ms_ofH rfl mf_L_orders (b8 rfl) ?_
  refine s_top ?_
  show Sim fx me_L_orders 0 [(0, aR (some (11, l0))), (1, aI l1), (2, aR (some (131, l2)))] [] m _
  unfold f_L_orders
  refine s_aload_n d_L_orders_0 m2_ (s_iconst d_L_orders_1 n_0 (s_aload_n d_L_orders_2 m0_ (s_iload_n d_L_orders_3 m1_ (s_cIC (r_V d_L_orders_4 k_X11_orders w_1283 rfl rfl) ms_X11_orders (b8 rfl) rfl rfl ?_ ?_ ?_ fun v2 m1 => ?_))))
  · refine fun mx => Or.inr ⟨12, ⟨rfl, by decide, 0, wx_29_0, Or.inl ⟨rfl, rfl⟩⟩, fun qx => ?_⟩
    exact s_astoreV_n (L' := [(3, aV (.ref qx)), (0, aR (some (11, l0))), (1, aI l1), (2, aR (some (131, l2)))]) d_L_orders_12 (b8 rfl) rfl (s_iconst d_L_orders_13 n_1 (s_iret d_L_orders_14 rfl rfl))
  · exact fun _ => Or.inl rfl
  · exact fun _ => Or.inl rfl
  exact s_i2l d_L_orders_7 (s_stL d_L_orders_8 ka_131 rfl fun m3 => (s_goto (tgt := 15) d_L_orders_9 rfl (s_iconst d_L_orders_15 n_0 (s_iret d_L_orders_16 rfl rfl))))
theorem d_X7_countByPlace_0 : dk me_X7_countByPlace 0 (.iconst 1) 1 1 := And.intro (by decide +kernel) rfl
theorem d_X7_countByPlace_1 : dk me_X7_countByPlace 1 (.iload_n 1) 1 2 := And.intro (by decide +kernel) rfl
theorem d_X7_countByPlace_2 : dk me_X7_countByPlace 2 (.ishl) 1 3 := And.intro (by decide +kernel) rfl
theorem d_X7_countByPlace_3 : dk me_X7_countByPlace 3 (.iconst 1) 1 4 := And.intro (by decide +kernel) rfl
theorem d_X7_countByPlace_4 : dk me_X7_countByPlace 4 (.isub) 1 5 := And.intro (by decide +kernel) rfl
theorem d_X7_countByPlace_5 : dk me_X7_countByPlace 5 (.istore_n 2) 1 6 := And.intro (by decide +kernel) rfl
theorem d_X7_countByPlace_6 : dk me_X7_countByPlace 6 (.iconst 0) 1 7 := And.intro (by decide +kernel) rfl
theorem d_X7_countByPlace_7 : dk me_X7_countByPlace 7 (.istore_n 3) 1 8 := And.intro (by decide +kernel) rfl
theorem d_X7_countByPlace_8 : dk me_X7_countByPlace 8 (.iload_n 3) 1 9 := And.intro (by decide +kernel) rfl
theorem d_X7_countByPlace_9 : dk me_X7_countByPlace 9 (.iload_n 2) 1 10 := And.intro (by decide +kernel) rfl
theorem d_X7_countByPlace_10 : dk me_X7_countByPlace 10 (.if_icmp .gt 24) 3 13 := And.intro (by decide +kernel) rfl
theorem d_X7_countByPlace_13 : dk me_X7_countByPlace 13 (.aload_n 0) 1 14 := And.intro (by decide +kernel) rfl
theorem d_X7_countByPlace_14 : dk me_X7_countByPlace 14 (.getfield 15) 3 17 := And.intro (by decide +kernel) rfl
theorem d_X7_countByPlace_17 : dk me_X7_countByPlace 17 (.iload_n 3) 1 18 := And.intro (by decide +kernel) rfl
theorem d_X7_countByPlace_18 : dk me_X7_countByPlace 18 (.iload_n 3) 1 19 := And.intro (by decide +kernel) rfl
theorem d_X7_countByPlace_19 : dk me_X7_countByPlace 19 (.ifCond .ne 7) 3 22 := And.intro (by decide +kernel) rfl
theorem d_X7_countByPlace_22 : dk me_X7_countByPlace 22 (.iconst 1) 1 23 := And.intro (by decide +kernel) rfl
theorem d_X7_countByPlace_23 : dk me_X7_countByPlace 23 (.goto 4) 3 26 := And.intro (by decide +kernel) rfl
theorem d_X7_countByPlace_26 : dk me_X7_countByPlace 26 (.iconst 0) 1 27 := And.intro (by decide +kernel) rfl
theorem d_X7_countByPlace_27 : dk me_X7_countByPlace 27 (.iastore) 1 28 := And.intro (by decide +kernel) rfl
theorem d_X7_countByPlace_28 : dk me_X7_countByPlace 28 (.iinc 3 1) 3 31 := And.intro (by decide +kernel) rfl
theorem d_X7_countByPlace_31 : dk me_X7_countByPlace 31 (.goto (-23)) 3 34 := And.intro (by decide +kernel) rfl
theorem d_X7_countByPlace_34 : dk me_X7_countByPlace 34 (.iconst 0) 1 35 := And.intro (by decide +kernel) rfl
theorem d_X7_countByPlace_35 : dk me_X7_countByPlace 35 (.istore_n 3) 1 36 := And.intro (by decide +kernel) rfl
theorem d_X7_countByPlace_36 : dk me_X7_countByPlace 36 (.iload_n 3) 1 37 := And.intro (by decide +kernel) rfl
theorem d_X7_countByPlace_37 : dk me_X7_countByPlace 37 (.iload_n 2) 1 38 := And.intro (by decide +kernel) rfl
theorem d_X7_countByPlace_38 : dk me_X7_countByPlace 38 (.if_icmp .ge 79) 3 41 := And.intro (by decide +kernel) rfl
theorem d_X7_countByPlace_41 : dk me_X7_countByPlace 41 (.iconst 0) 1 42 := And.intro (by decide +kernel) rfl
theorem d_X7_countByPlace_42 : dk me_X7_countByPlace 42 (.istore 4) 2 44 := And.intro (by decide +kernel) rfl
theorem d_X7_countByPlace_44 : dk me_X7_countByPlace 44 (.iload 4) 2 46 := And.intro (by decide +kernel) rfl
theorem d_X7_countByPlace_46 : dk me_X7_countByPlace 46 (.iload_n 1) 1 47 := And.intro (by decide +kernel) rfl
theorem d_X7_countByPlace_47 : dk me_X7_countByPlace 47 (.if_icmp .ge 64) 3 50 := And.intro (by decide +kernel) rfl
theorem d_X7_countByPlace_50 : dk me_X7_countByPlace 50 (.iload_n 3) 1 51 := And.intro (by decide +kernel) rfl
theorem d_X7_countByPlace_51 : dk me_X7_countByPlace 51 (.iconst 1) 1 52 := And.intro (by decide +kernel) rfl
theorem d_X7_countByPlace_52 : dk me_X7_countByPlace 52 (.iload 4) 2 54 := And.intro (by decide +kernel) rfl
theorem d_X7_countByPlace_54 : dk me_X7_countByPlace 54 (.ishl) 1 55 := And.intro (by decide +kernel) rfl
theorem d_X7_countByPlace_55 : dk me_X7_countByPlace 55 (.iand) 1 56 := And.intro (by decide +kernel) rfl
theorem d_X7_countByPlace_56 : dk me_X7_countByPlace 56 (.ifCond .ne 21) 3 59 := And.intro (by decide +kernel) rfl
theorem d_X7_countByPlace_59 : dk me_X7_countByPlace 59 (.aload_n 0) 1 60 := And.intro (by decide +kernel) rfl
theorem d_X7_countByPlace_60 : dk me_X7_countByPlace 60 (.getfield 9) 3 63 := And.intro (by decide +kernel) rfl
theorem d_X7_countByPlace_63 : dk me_X7_countByPlace 63 (.iload 4) 2 65 := And.intro (by decide +kernel) rfl
theorem d_X7_countByPlace_65 : dk me_X7_countByPlace 65 (.iaload) 1 66 := And.intro (by decide +kernel) rfl
theorem d_X7_countByPlace_66 : dk me_X7_countByPlace 66 (.iload_n 3) 1 67 := And.intro (by decide +kernel) rfl
theorem d_X7_countByPlace_67 : dk me_X7_countByPlace 67 (.iconst (-1)) 1 68 := And.intro (by decide +kernel) rfl
theorem d_X7_countByPlace_68 : dk me_X7_countByPlace 68 (.ixor) 1 69 := And.intro (by decide +kernel) rfl
theorem d_X7_countByPlace_69 : dk me_X7_countByPlace 69 (.iand) 1 70 := And.intro (by decide +kernel) rfl
theorem d_X7_countByPlace_70 : dk me_X7_countByPlace 70 (.ifCond .ne 7) 3 73 := And.intro (by decide +kernel) rfl
theorem d_X7_countByPlace_73 : dk me_X7_countByPlace 73 (.iconst 1) 1 74 := And.intro (by decide +kernel) rfl
theorem d_X7_countByPlace_74 : dk me_X7_countByPlace 74 (.goto 4) 3 77 := And.intro (by decide +kernel) rfl
theorem d_X7_countByPlace_77 : dk me_X7_countByPlace 77 (.iconst 0) 1 78 := And.intro (by decide +kernel) rfl
theorem d_X7_countByPlace_78 : dk me_X7_countByPlace 78 (.istore 5) 2 80 := And.intro (by decide +kernel) rfl
theorem d_X7_countByPlace_80 : dk me_X7_countByPlace 80 (.iload 5) 2 82 := And.intro (by decide +kernel) rfl
theorem d_X7_countByPlace_82 : dk me_X7_countByPlace 82 (.ifCond .eq 23) 3 85 := And.intro (by decide +kernel) rfl
theorem d_X7_countByPlace_85 : dk me_X7_countByPlace 85 (.aload_n 0) 1 86 := And.intro (by decide +kernel) rfl
theorem d_X7_countByPlace_86 : dk me_X7_countByPlace 86 (.getfield 15) 3 89 := And.intro (by decide +kernel) rfl
theorem d_X7_countByPlace_89 : dk me_X7_countByPlace 89 (.iload_n 3) 1 90 := And.intro (by decide +kernel) rfl
theorem d_X7_countByPlace_90 : dk me_X7_countByPlace 90 (.iconst 1) 1 91 := And.intro (by decide +kernel) rfl
theorem d_X7_countByPlace_91 : dk me_X7_countByPlace 91 (.iload 4) 2 93 := And.intro (by decide +kernel) rfl
theorem d_X7_countByPlace_93 : dk me_X7_countByPlace 93 (.ishl) 1 94 := And.intro (by decide +kernel) rfl
theorem d_X7_countByPlace_94 : dk me_X7_countByPlace 94 (.ior) 1 95 := And.intro (by decide +kernel) rfl
theorem d_X7_countByPlace_95 : dk me_X7_countByPlace 95 (.dup2) 1 96 := And.intro (by decide +kernel) rfl
theorem d_X7_countByPlace_96 : dk me_X7_countByPlace 96 (.iaload) 1 97 := And.intro (by decide +kernel) rfl
theorem d_X7_countByPlace_97 : dk me_X7_countByPlace 97 (.aload_n 0) 1 98 := And.intro (by decide +kernel) rfl
theorem d_X7_countByPlace_98 : dk me_X7_countByPlace 98 (.getfield 15) 3 101 := And.intro (by decide +kernel) rfl
theorem d_X7_countByPlace_101 : dk me_X7_countByPlace 101 (.iload_n 3) 1 102 := And.intro (by decide +kernel) rfl
theorem d_X7_countByPlace_102 : dk me_X7_countByPlace 102 (.iaload) 1 103 := And.intro (by decide +kernel) rfl
theorem d_X7_countByPlace_103 : dk me_X7_countByPlace 103 (.iadd) 1 104 := And.intro (by decide +kernel) rfl
theorem d_X7_countByPlace_104 : dk me_X7_countByPlace 104 (.iastore) 1 105 := And.intro (by decide +kernel) rfl
theorem d_X7_countByPlace_105 : dk me_X7_countByPlace 105 (.iinc 4 1) 3 108 := And.intro (by decide +kernel) rfl
theorem d_X7_countByPlace_108 : dk me_X7_countByPlace 108 (.goto (-64)) 3 111 := And.intro (by decide +kernel) rfl
theorem d_X7_countByPlace_111 : dk me_X7_countByPlace 111 (.iinc 3 1) 3 114 := And.intro (by decide +kernel) rfl
theorem d_X7_countByPlace_114 : dk me_X7_countByPlace 114 (.goto (-78)) 3 117 := And.intro (by decide +kernel) rfl
theorem d_X7_countByPlace_117 : dk me_X7_countByPlace 117 (.aload_n 0) 1 118 := And.intro (by decide +kernel) rfl
theorem d_X7_countByPlace_118 : dk me_X7_countByPlace 118 (.getfield 15) 3 121 := And.intro (by decide +kernel) rfl
theorem d_X7_countByPlace_121 : dk me_X7_countByPlace 121 (.iload_n 2) 1 122 := And.intro (by decide +kernel) rfl
theorem d_X7_countByPlace_122 : dk me_X7_countByPlace 122 (.iaload) 1 123 := And.intro (by decide +kernel) rfl
theorem d_X7_countByPlace_123 : dk me_X7_countByPlace 123 (.ireturn) 1 124 := And.intro (by decide +kernel) rfl
theorem ms_X7_countByPlace {fx : FX} {m : MM} {l0 : Nat} {l1 : Int} : MS fx me_X7_countByPlace [aR (some (7, l0)), aI l1] m (f_X7_countByPlace m l0 l1) := by
  refine ms_of rfl mf_X7_countByPlace (b8 rfl) ?_
  refine s_top ?_
  show Sim fx me_X7_countByPlace 0 [(0, aR (some (7, l0))), (1, aI l1)] [] m _
  unfold f_X7_countByPlace
  have hj_X7_countByPlace_0_117 : ∀ (m_117 : MM) (l0_117 : Nat) (l2_117 : Int), Sim fx me_X7_countByPlace 117 [(0, aR (some (7, l0_117))), (2, aI l2_117)] [] m_117 ((j_X7_countByPlace_0_117 m_117 l0_117 l2_117).bind (fun z => some z)) := by
    intro m_117 l0_117 l2_117
    unfold j_X7_countByPlace_0_117
    exact s_aload_n d_X7_countByPlace_117 m0_ (s_getR cf d_X7_countByPlace_118 fl_X7_15 (s_nk fun i10 => (s_iload_n d_X7_countByPlace_121 m1_ (s_ldN d_X7_countByPlace_122 ka_40 rfl fun v11 => (s_iret d_X7_countByPlace_123 rfl rfl)))))
  have hj_X7_countByPlace_0_34 : ∀ (m_34 : MM) (l0_34 : Nat) (l1_34 : Int) (l2_34 : Int), Sim fx me_X7_countByPlace 34 [(0, aR (some (7, l0_34))), (1, aI l1_34), (2, aI l2_34)] [] m_34 ((j_X7_countByPlace_0_34 m_34 l0_34 l1_34 l2_34).bind (fun z => some z)) := by
    intro m_34 l0_34 l1_34 l2_34
    unfold j_X7_countByPlace_0_34
    refine s_iconst d_X7_countByPlace_34 n_0 (s_istore_n (L' := [(3, aI 0), (0, aR (some (7, l0_34))), (1, aI l1_34), (2, aI l2_34)]) d_X7_countByPlace_35 (b8 rfl) rfl (s_sub (subc m0_ (subc m1_ (subc m2_ (subc m3_ sub0)))) (s_lp2 (fun s => [(3, aI (s.1)), (0, aR (some (7, l0_34))), (1, aI l1_34), (2, aI l2_34)]) (fun s => s.2) (0, m_34) fun k36 hx36 s ih0 => ?_)))
    obtain ⟨l3_36, mm_36⟩ := s
    have ih36 := ih0
    clear ih0
    try dsimp only
    unfold b_X7_countByPlace_36
    have hj_X7_countByPlace_36_111 : ∀ (m_111 : MM) (l3_111 : Int), Sim fx me_X7_countByPlace 111 [(0, aR (some (7, l0_34))), (1, aI l1_34), (2, aI l2_34), (3, aI l3_111)] [] m_111 ((j_X7_countByPlace_36_111 m_111 l0_34 l1_34 l2_34 l3_111).bind k36) := by
      intro m_111 l3_111
      unfold j_X7_countByPlace_36_111
      exact s_iinc (L' := [(3, aI (l3_111 + 1)), (0, aR (some (7, l0_34))), (1, aI l1_34), (2, aI l2_34)]) d_X7_countByPlace_111 m3_ (b8 rfl) rfl (s_goto (tgt := 36) d_X7_countByPlace_114 rfl (s_sub (subc m0_ (subc m1_ (subc m2_ (subc m3_ sub0)))) (s_back (ih36 ((l3_111 + 1), m_111)))))
    refine s_iload_n d_X7_countByPlace_36 m0_ (s_iload_n d_X7_countByPlace_37 m3_ (s_icmp_ge (tgt := 117) d_X7_countByPlace_38 rfl ?_ ?_))
    · exact s_exit (hx36 _) (s_sub (subc m1_ (subc m3_ sub0)) (hj_X7_countByPlace_0_117 mm_36 l0_34 l2_34))
    refine s_iconst d_X7_countByPlace_41 n_0 (s_istore (L' := [(4, aI 0), (3, aI l3_36), (0, aR (some (7, l0_34))), (1, aI l1_34), (2, aI l2_34)]) d_X7_countByPlace_42 (b8 rfl) rfl (s_sub (subc m0_ (subc m2_ (subc m3_ (subc m4_ (subc m1_ sub0))))) (s_lp2 (fun s => [(4, aI (s.1)), (0, aR (some (7, l0_34))), (1, aI l1_34), (2, aI l2_34), (3, aI l3_36)]) (fun s => s.2) (0, mm_36) fun k44 hx44 s ih0 => ?_)))
    obtain ⟨l4_44, mm_44⟩ := s
    have ih44 := ih0
    clear ih0
    try dsimp only
    unfold b_X7_countByPlace_44
    have hj_X7_countByPlace_44_78 : ∀ (m_78 : MM) (l4_78 : Int) (s0_78 : Int), Sim fx me_X7_countByPlace 78 [(0, aR (some (7, l0_34))), (1, aI l1_34), (2, aI l2_34), (3, aI l3_36), (4, aI l4_78)] [aI s0_78] m_78 ((j_X7_countByPlace_44_78 m_78 l0_34 l1_34 l2_34 l3_36 l4_78 s0_78).bind k44) := by
      intro m_78 l4_78 s0_78
      unfold j_X7_countByPlace_44_78
      refine s_istore (L' := [(5, aI s0_78), (0, aR (some (7, l0_34))), (1, aI l1_34), (2, aI l2_34), (3, aI l3_36), (4, aI l4_78)]) d_X7_countByPlace_78 (b8 rfl) rfl (s_iload d_X7_countByPlace_80 m0_ (s_if_eq (tgt := 105) d_X7_countByPlace_82 rfl ?_ ?_))
      · exact s_iinc (L' := [(4, aI (l4_78 + 1)), (5, aI s0_78), (0, aR (some (7, l0_34))), (1, aI l1_34), (2, aI l2_34), (3, aI l3_36)]) d_X7_countByPlace_105 m5_ (b8 rfl) rfl (s_goto (tgt := 44) d_X7_countByPlace_108 rfl (s_sub (subc m0_ (subc m2_ (subc m3_ (subc m4_ (subc m5_ sub0))))) (s_back (ih44 ((l4_78 + 1), m_78)))))
      refine s_aload_n d_X7_countByPlace_85 m1_ (s_getR cf d_X7_countByPlace_86 fl_X7_15 (s_nk fun i5 => (s_iload_n d_X7_countByPlace_89 m4_ (s_iconst d_X7_countByPlace_90 n_1 (s_iload d_X7_countByPlace_91 m5_ ?_)))))
      refine s_ishl d_X7_countByPlace_93 (s_ior d_X7_countByPlace_94 (s_dup2 d_X7_countByPlace_95 rfl rfl (s_ldN d_X7_countByPlace_96 ka_40 rfl fun v6 => (s_aload_n d_X7_countByPlace_97 m1_ (s_getR cf d_X7_countByPlace_98 fl_X7_15 ?_)))))
      refine s_nk fun i7 => (s_iload_n d_X7_countByPlace_101 m4_ (s_ldN d_X7_countByPlace_102 ka_40 rfl fun v8 => (s_iadd d_X7_countByPlace_103 rfl rfl (s_ck (s_stN d_X7_countByPlace_104 ka_40 rfl fun m9 => ?_)))))
      exact s_iinc (L' := [(4, aI (l4_78 + 1)), (5, aI s0_78), (0, aR (some (7, l0_34))), (1, aI l1_34), (2, aI l2_34), (3, aI l3_36)]) d_X7_countByPlace_105 m5_ (b8 rfl) rfl (s_goto (tgt := 44) d_X7_countByPlace_108 rfl (s_sub (subc m0_ (subc m2_ (subc m3_ (subc m4_ (subc m5_ sub0))))) (s_back (ih44 ((l4_78 + 1), m9)))))
    have hj_X7_countByPlace_44_77 : ∀ (m_77 : MM) (l4_77 : Int), Sim fx me_X7_countByPlace 77 [(0, aR (some (7, l0_34))), (1, aI l1_34), (2, aI l2_34), (3, aI l3_36), (4, aI l4_77)] [] m_77 ((j_X7_countByPlace_44_77 m_77 l0_34 l1_34 l2_34 l3_36 l4_77).bind k44) := by
      intro m_77 l4_77
      unfold j_X7_countByPlace_44_77
      exact s_iconst d_X7_countByPlace_77 n_0 (s_sub (subc m0_ (subc m1_ (subc m2_ (subc m3_ (subc m4_ sub0))))) (hj_X7_countByPlace_44_78 m_77 l4_77 0))
    refine s_iload d_X7_countByPlace_44 m0_ (s_iload_n d_X7_countByPlace_46 m2_ (s_icmp_ge (tgt := 111) d_X7_countByPlace_47 rfl ?_ ?_))
    · exact s_exit (hx44 _) (s_sub (subc m1_ (subc m2_ (subc m3_ (subc m4_ sub0)))) (hj_X7_countByPlace_36_111 mm_44 l3_36))
    refine s_iload_n d_X7_countByPlace_50 m4_ (s_iconst d_X7_countByPlace_51 n_1 (s_iload d_X7_countByPlace_52 m0_ (s_ishl d_X7_countByPlace_54 (s_iand d_X7_countByPlace_55 (s_if_ne (tgt := 77) d_X7_countByPlace_56 rfl ?_ ?_)))))
    · exact s_sub (subc m1_ (subc m2_ (subc m3_ (subc m4_ (subc m0_ sub0))))) (hj_X7_countByPlace_44_77 mm_44 l4_44)
    refine s_aload_n d_X7_countByPlace_59 m1_ (s_getR cf d_X7_countByPlace_60 fl_X7_9 (s_nk fun i3 => (s_iload d_X7_countByPlace_63 m0_ (s_ldN d_X7_countByPlace_65 ka_39 rfl fun v4 => (s_iload_n d_X7_countByPlace_66 m4_ ?_)))))
    refine s_iconst d_X7_countByPlace_67 n_m1 (s_ixor d_X7_countByPlace_68 (s_iand d_X7_countByPlace_69 (s_if_ne (tgt := 77) d_X7_countByPlace_70 rfl ?_ ?_)))
    · exact s_sub (subc m1_ (subc m2_ (subc m3_ (subc m4_ (subc m0_ sub0))))) (hj_X7_countByPlace_44_77 mm_44 l4_44)
    exact s_iconst d_X7_countByPlace_73 n_1 (s_goto (tgt := 78) d_X7_countByPlace_74 rfl (s_sub (subc m1_ (subc m2_ (subc m3_ (subc m4_ (subc m0_ sub0))))) (hj_X7_countByPlace_44_78 mm_44 l4_44 1)))
  refine s_iconst d_X7_countByPlace_0 n_1 (s_iload_n d_X7_countByPlace_1 m1_ (s_ishl d_X7_countByPlace_2 (s_iconst d_X7_countByPlace_3 n_1 (s_isub d_X7_countByPlace_4 rfl rfl (s_ck ?_)))))
  refine s_istore_n (L' := [(2, aI ((ishl 1 l1) - 1)), (0, aR (some (7, l0))), (1, aI l1)]) d_X7_countByPlace_5 (b8 rfl) rfl (s_iconst d_X7_countByPlace_6 n_0 (s_istore_n (L' := [(3, aI 0), (2, aI ((ishl 1 l1) - 1)), (0, aR (some (7, l0))), (1, aI l1)]) d_X7_countByPlace_7 (b8 rfl) rfl (s_sub (subc m0_ (subc m2_ (subc m3_ (subc m1_ sub0)))) (s_lp2 (fun s => [(3, aI (s.1)), (0, aR (some (7, l0))), (1, aI l1), (2, aI ((ishl 1 l1) - 1))]) (fun s => s.2) (0, m) fun k8 hx8 s ih0 => ?_))))
  obtain ⟨l3_8, mm_8⟩ := s
  have ih8 := ih0
  clear ih0
  try dsimp only
  unfold b_X7_countByPlace_8
  have hj_X7_countByPlace_8_27 : ∀ (m_27 : MM) (l3_27 : Int) (s0_27 : Nat) (s1_27 : Int) (s2_27 : Int), Sim fx me_X7_countByPlace 27 [(0, aR (some (7, l0))), (1, aI l1), (2, aI ((ishl 1 l1) - 1)), (3, aI l3_27)] [aI s2_27, aI s1_27, aR (some (40, s0_27))] m_27 ((j_X7_countByPlace_8_27 m_27 l0 l1 ((ishl 1 l1) - 1) l3_27 s0_27 s1_27 s2_27).bind k8) := by
    intro m_27 l3_27 s0_27 s1_27 s2_27
    unfold j_X7_countByPlace_8_27
    exact s_stN d_X7_countByPlace_27 ka_40 rfl fun m2 => (s_iinc (L' := [(3, aI (l3_27 + 1)), (0, aR (some (7, l0))), (1, aI l1), (2, aI ((ishl 1 l1) - 1))]) d_X7_countByPlace_28 m3_ (b8 rfl) rfl (s_goto (tgt := 8) d_X7_countByPlace_31 rfl (s_sub (subc m0_ (subc m1_ (subc m2_ (subc m3_ sub0)))) (s_back (ih8 ((l3_27 + 1), m2))))))
  refine s_iload_n d_X7_countByPlace_8 m0_ (s_iload_n d_X7_countByPlace_9 m3_ (s_icmp_gt (tgt := 34) d_X7_countByPlace_10 rfl ?_ ?_))
  · exact s_exit (hx8 _) (s_sub (subc m1_ (subc m2_ (subc m3_ sub0))) (hj_X7_countByPlace_0_34 mm_8 l0 l1 ((ishl 1 l1) - 1)))
  refine s_aload_n d_X7_countByPlace_13 m1_ (s_getR cf d_X7_countByPlace_14 fl_X7_15 (s_nk fun i1 => (s_iload_n d_X7_countByPlace_17 m0_ (s_iload_n d_X7_countByPlace_18 m0_ (s_if_ne (tgt := 26) d_X7_countByPlace_19 rfl ?_ ?_)))))
  · exact s_iconst d_X7_countByPlace_26 n_0 (s_sub (subc m1_ (subc m2_ (subc m3_ (subc m0_ sub0)))) (hj_X7_countByPlace_8_27 mm_8 l3_8 i1 l3_8 0))
  exact s_iconst d_X7_countByPlace_22 n_1 (s_goto (tgt := 27) d_X7_countByPlace_23 rfl (s_sub (subc m1_ (subc m2_ (subc m3_ (subc m0_ sub0)))) (hj_X7_countByPlace_8_27 mm_8 l3_8 i1 l3_8 1)))
theorem d_X11_ordersAnew_0 : dk me_X11_ordersAnew 0 (.aload_n 0) 1 1 := And.intro (by decide +kernel) rfl
theorem d_X11_ordersAnew_1 : dk me_X11_ordersAnew 1 (.iload_n 1) 1 2 := And.intro (by decide +kernel) rfl
theorem d_X11_ordersAnew_2 : dk me_X11_ordersAnew 2 (.invokevirtual 143) 3 5 := And.intro (by decide +kernel) rfl
theorem d_X11_ordersAnew_5 : dk me_X11_ordersAnew 5 (.astore_n 2) 1 6 := And.intro (by decide +kernel) rfl
theorem d_X11_ordersAnew_6 : dk me_X11_ordersAnew 6 (.aload_n 0) 1 7 := And.intro (by decide +kernel) rfl
theorem d_X11_ordersAnew_7 : dk me_X11_ordersAnew 7 (.getfield 49) 3 10 := And.intro (by decide +kernel) rfl
theorem d_X11_ordersAnew_10 : dk me_X11_ordersAnew 10 (.aload_n 2) 1 11 := And.intro (by decide +kernel) rfl
theorem d_X11_ordersAnew_11 : dk me_X11_ordersAnew 11 (.aload_n 0) 1 12 := And.intro (by decide +kernel) rfl
theorem d_X11_ordersAnew_12 : dk me_X11_ordersAnew 12 (.getfield 19) 3 15 := And.intro (by decide +kernel) rfl
theorem d_X11_ordersAnew_15 : dk me_X11_ordersAnew 15 (.invokevirtual 405) 3 18 := And.intro (by decide +kernel) rfl
theorem d_X11_ordersAnew_18 : dk me_X11_ordersAnew 18 (.aload_n 0) 1 19 := And.intro (by decide +kernel) rfl
theorem d_X11_ordersAnew_19 : dk me_X11_ordersAnew 19 (.getfield 49) 3 22 := And.intro (by decide +kernel) rfl
theorem d_X11_ordersAnew_22 : dk me_X11_ordersAnew 22 (.aload_n 2) 1 23 := And.intro (by decide +kernel) rfl
theorem d_X11_ordersAnew_23 : dk me_X11_ordersAnew 23 (.getfield 338) 3 26 := And.intro (by decide +kernel) rfl
theorem d_X11_ordersAnew_26 : dk me_X11_ordersAnew 26 (.arraylength) 1 27 := And.intro (by decide +kernel) rfl
theorem d_X11_ordersAnew_27 : dk me_X11_ordersAnew 27 (.invokevirtual 412) 3 30 := And.intro (by decide +kernel) rfl
theorem d_X11_ordersAnew_30 : dk me_X11_ordersAnew 30 (.ireturn) 1 31 := And.intro (by decide +kernel) rfl
theorem ms_X11_ordersAnew {fx : FX} {m : MM} {l0 : Nat} {l1 : Int} : MS fx me_X11_ordersAnew [aR (some (11, l0)), aI l1] m (f_X11_ordersAnew m l0 l1) := by
  refine ms_of rfl mf_X11_ordersAnew (b8 rfl) ?_
  refine s_top ?_
  show Sim fx me_X11_ordersAnew 0 [(0, aR (some (11, l0))), (1, aI l1)] [] m _
  unfold f_X11_ordersAnew
  refine s_aload_n d_X11_ordersAnew_0 m0_ (s_iload_n d_X11_ordersAnew_1 m1_ (s_cR (r_V d_X11_ordersAnew_2 k_X11_bookAt w_814 rfl rfl) ms_X11_bookAt (b8 rfl) rfl rfl rfl (fun h => by cases h) (fun _ _ => Or.inr rfl) fun r2 m1 => (s_nk fun i3 => (s_astore_n (L' := [(2, aR (some (0, i3))), (0, aR (some (11, l0))), (1, aI l1)]) d_X11_ordersAnew_5 (b8 rfl) rfl (s_aload_n d_X11_ordersAnew_6 m1_ ?_)))))
  refine s_getR cf d_X11_ordersAnew_7 fl_X11_49 (s_nk fun i4 => (s_aload_n d_X11_ordersAnew_10 m0_ (s_aload_n d_X11_ordersAnew_11 m1_ (s_getR cf d_X11_ordersAnew_12 fl_X11_19 (s_nk fun i5 => ?_)))))
  refine s_cV (r_V d_X11_ordersAnew_15 k_X7_readFormes w_1287 rfl rfl) ms_X7_readFormes (b8 rfl) rfl rfl rfl (fun _ _ _ => rfl) (fun _ _ => Or.inl rfl) fun m6 => (s_aload_n d_X11_ordersAnew_18 m1_ (s_getR cf d_X11_ordersAnew_19 fl_X11_49 (s_nk fun i8 => (s_aload_n d_X11_ordersAnew_22 m0_ (s_getR cf d_X11_ordersAnew_23 fl_X11_338 ?_)))))
  exact s_nk fun i9 => (s_len d_X11_ordersAnew_26 ka_14 ta_14 (s_cI (r_V d_X11_ordersAnew_27 k_X7_countByPlace w_1306 rfl rfl) ms_X7_countByPlace (b8 rfl) rfl rfl rfl (fun _ _ _ => rfl) (fun _ _ => Or.inl rfl) fun v11 m10 => (s_iret d_X11_ordersAnew_30 rfl rfl)))
theorem d_L_ordersAnew_0 : dk me_L_ordersAnew 0 (.aload_n 2) 1 1 := And.intro (by decide +kernel) rfl
theorem d_L_ordersAnew_1 : dk me_L_ordersAnew 1 (.iconst 0) 1 2 := And.intro (by decide +kernel) rfl
theorem d_L_ordersAnew_2 : dk me_L_ordersAnew 2 (.aload_n 0) 1 3 := And.intro (by decide +kernel) rfl
theorem d_L_ordersAnew_3 : dk me_L_ordersAnew 3 (.iload_n 1) 1 4 := And.intro (by decide +kernel) rfl
theorem d_L_ordersAnew_4 : dk me_L_ordersAnew 4 (.invokevirtual 126) 3 7 := And.intro (by decide +kernel) rfl
theorem d_L_ordersAnew_7 : dk me_L_ordersAnew 7 (.i2l) 1 8 := And.intro (by decide +kernel) rfl
theorem d_L_ordersAnew_8 : dk me_L_ordersAnew 8 (.lastore) 1 9 := And.intro (by decide +kernel) rfl
theorem d_L_ordersAnew_9 : dk me_L_ordersAnew 9 (.goto 6) 3 12 := And.intro (by decide +kernel) rfl
theorem d_L_ordersAnew_12 : dk me_L_ordersAnew 12 (.astore_n 3) 1 13 := And.intro (by decide +kernel) rfl
theorem d_L_ordersAnew_13 : dk me_L_ordersAnew 13 (.iconst 1) 1 14 := And.intro (by decide +kernel) rfl
theorem d_L_ordersAnew_14 : dk me_L_ordersAnew 14 (.ireturn) 1 15 := And.intro (by decide +kernel) rfl
theorem d_L_ordersAnew_15 : dk me_L_ordersAnew 15 (.iconst 0) 1 16 := And.intro (by decide +kernel) rfl
theorem d_L_ordersAnew_16 : dk me_L_ordersAnew 16 (.ireturn) 1 17 := And.intro (by decide +kernel) rfl
theorem ms_L_ordersAnew {fx : FX} {m : MM} {l0 : Nat} {l1 : Int} {l2 : Nat} : MS fx me_L_ordersAnew [aR (some (11, l0)), aI l1, aR (some (131, l2))] m (f_L_ordersAnew m l0 l1 l2) := by
  refine ms_ofH rfl mf_L_ordersAnew (b8 rfl) ?_
  refine s_top ?_
  show Sim fx me_L_ordersAnew 0 [(0, aR (some (11, l0))), (1, aI l1), (2, aR (some (131, l2)))] [] m _
  unfold f_L_ordersAnew
  refine s_aload_n d_L_ordersAnew_0 m2_ (s_iconst d_L_ordersAnew_1 n_0 (s_aload_n d_L_ordersAnew_2 m0_ (s_iload_n d_L_ordersAnew_3 m1_ (s_cIC (r_V d_L_ordersAnew_4 k_X11_ordersAnew w_1302 rfl rfl) ms_X11_ordersAnew (b8 rfl) rfl rfl ?_ ?_ ?_ fun v2 m1 => ?_))))
  · refine fun mx => Or.inr ⟨12, ⟨rfl, by decide, 0, wx_29_0, Or.inl ⟨rfl, rfl⟩⟩, fun qx => ?_⟩
    exact s_astoreV_n (L' := [(3, aV (.ref qx)), (0, aR (some (11, l0))), (1, aI l1), (2, aR (some (131, l2)))]) d_L_ordersAnew_12 (b8 rfl) rfl (s_iconst d_L_ordersAnew_13 n_1 (s_iret d_L_ordersAnew_14 rfl rfl))
  · exact fun _ => Or.inl rfl
  · exact fun _ => Or.inl rfl
  exact s_i2l d_L_ordersAnew_7 (s_stL d_L_ordersAnew_8 ka_131 rfl fun m3 => (s_goto (tgt := 15) d_L_ordersAnew_9 rfl (s_iconst d_L_ordersAnew_15 n_0 (s_iret d_L_ordersAnew_16 rfl rfl))))
theorem d_X0_runningTitle_0 : dk me_X0_runningTitle 0 (.aload_n 0) 1 1 := And.intro (by decide +kernel) rfl
theorem d_X0_runningTitle_1 : dk me_X0_runningTitle 1 (.getfield 42) 3 4 := And.intro (by decide +kernel) rfl
theorem d_X0_runningTitle_4 : dk me_X0_runningTitle 4 (.aload_n 0) 1 5 := And.intro (by decide +kernel) rfl
theorem d_X0_runningTitle_5 : dk me_X0_runningTitle 5 (.iload_n 1) 1 6 := And.intro (by decide +kernel) rfl
theorem d_X0_runningTitle_6 : dk me_X0_runningTitle 6 (.invokevirtual 78) 3 9 := And.intro (by decide +kernel) rfl
theorem d_X0_runningTitle_9 : dk me_X0_runningTitle 9 (.aaload) 1 10 := And.intro (by decide +kernel) rfl
theorem d_X0_runningTitle_10 : dk me_X0_runningTitle 10 (.getfield 82) 3 13 := And.intro (by decide +kernel) rfl
theorem d_X0_runningTitle_13 : dk me_X0_runningTitle 13 (.istore_n 2) 1 14 := And.intro (by decide +kernel) rfl
theorem d_X0_runningTitle_14 : dk me_X0_runningTitle 14 (.iload_n 2) 1 15 := And.intro (by decide +kernel) rfl
theorem d_X0_runningTitle_15 : dk me_X0_runningTitle 15 (.iconst (-1)) 1 16 := And.intro (by decide +kernel) rfl
theorem d_X0_runningTitle_16 : dk me_X0_runningTitle 16 (.if_icmp .ne 7) 3 19 := And.intro (by decide +kernel) rfl
theorem d_X0_runningTitle_19 : dk me_X0_runningTitle 19 (.iconst (-1)) 1 20 := And.intro (by decide +kernel) rfl
theorem d_X0_runningTitle_20 : dk me_X0_runningTitle 20 (.goto 16) 3 23 := And.intro (by decide +kernel) rfl
theorem d_X0_runningTitle_23 : dk me_X0_runningTitle 23 (.bipush 8) 2 25 := And.intro (by decide +kernel) rfl
theorem d_X0_runningTitle_25 : dk me_X0_runningTitle 25 (.iload_n 2) 1 26 := And.intro (by decide +kernel) rfl
theorem d_X0_runningTitle_26 : dk me_X0_runningTitle 26 (.imul) 1 27 := And.intro (by decide +kernel) rfl
theorem d_X0_runningTitle_27 : dk me_X0_runningTitle 27 (.iload_n 1) 1 28 := And.intro (by decide +kernel) rfl
theorem d_X0_runningTitle_28 : dk me_X0_runningTitle 28 (.aload_n 0) 1 29 := And.intro (by decide +kernel) rfl
theorem d_X0_runningTitle_29 : dk me_X0_runningTitle 29 (.getfield 18) 3 32 := And.intro (by decide +kernel) rfl
theorem d_X0_runningTitle_32 : dk me_X0_runningTitle 32 (.invokestatic 75) 3 35 := And.intro (by decide +kernel) rfl
theorem d_X0_runningTitle_35 : dk me_X0_runningTitle 35 (.iadd) 1 36 := And.intro (by decide +kernel) rfl
theorem d_X0_runningTitle_36 : dk me_X0_runningTitle 36 (.ireturn) 1 37 := And.intro (by decide +kernel) rfl
theorem ms_X0_runningTitle {fx : FX} {m : MM} {l0 : Nat} {l1 : Int} : MS fx me_X0_runningTitle [aR (some (0, l0)), aI l1] m ((f_X0_runningTitle m l0 l1).bind fun v => some (.inl (some (aI v)), m)) := by
  refine ms_of rfl mf_X0_runningTitle (b8 rfl) ?_
  show Sim fx me_X0_runningTitle 0 [(0, aR (some (0, l0))), (1, aI l1)] [] m _
  unfold f_X0_runningTitle
  refine s_aload_n d_X0_runningTitle_0 m0_ (s_getR cf d_X0_runningTitle_1 fl_X0_42 (s_nk fun i1 => (s_aload_n d_X0_runningTitle_4 m0_ (s_iload_n d_X0_runningTitle_5 m1_ (s_pI (r_V d_X0_runningTitle_6 k_X0_formeNumber w_988 rfl rfl) ms_X0_formeNumber (b8 rfl) rfl rfl rfl fun v2 => ?_)))))
  refine s_ldR d_X0_runningTitle_9 ka_14 ta_14 rfl rfl fun r3 => (s_nk fun i4 => (s_getN cf d_X0_runningTitle_10 fl_X0_82 (s_istore_n (L' := [(2, aI (gN m 2 i4 5)), (0, aR (some (0, l0))), (1, aI l1)]) d_X0_runningTitle_13 (b8 rfl) rfl (s_iload_n d_X0_runningTitle_14 m0_ (s_iconst d_X0_runningTitle_15 n_m1 ?_)))))
  refine s_icmp_ne (tgt := 23) d_X0_runningTitle_16 rfl ?_ ?_
  · refine s_bipush d_X0_runningTitle_23 n_8 rfl (s_iload_n d_X0_runningTitle_25 m0_ (s_imul d_X0_runningTitle_26 rfl rfl (s_iload_n d_X0_runningTitle_27 m2_ (s_aload_n d_X0_runningTitle_28 m1_ (s_getN cf d_X0_runningTitle_29 fl_X0_18 ?_)))))
    exact s_pI (r_S d_X0_runningTitle_32 k_X0_placeInForme w_671 rfl rfl) ms_X0_placeInForme (b8 rfl) rfl rfl rfl fun v5 => (s_iadd d_X0_runningTitle_35 rfl rfl (s_ck (s_iret d_X0_runningTitle_36 rfl rfl)))
  exact s_iconst d_X0_runningTitle_19 n_m1 (s_goto (tgt := 36) d_X0_runningTitle_20 rfl (s_iret d_X0_runningTitle_36 rfl rfl))
theorem d_X4_told_0 : dk me_X4_told 0 (.aload_n 0) 1 1 := And.intro (by decide +kernel) rfl
theorem d_X4_told_1 : dk me_X4_told 1 (.invokevirtual 50) 3 4 := And.intro (by decide +kernel) rfl
theorem d_X4_told_4 : dk me_X4_told 4 (.ifCond .ne 5) 3 7 := And.intro (by decide +kernel) rfl
theorem d_X4_told_7 : dk me_X4_told 7 (.iconst (-1)) 1 8 := And.intro (by decide +kernel) rfl
theorem d_X4_told_8 : dk me_X4_told 8 (.ireturn) 1 9 := And.intro (by decide +kernel) rfl
theorem d_X4_told_9 : dk me_X4_told 9 (.iload_n 1) 1 10 := And.intro (by decide +kernel) rfl
theorem d_X4_told_10 : dk me_X4_told 10 (.tableswitch 79 1 6 #[38, 43, 48, 53, 66, 71]) 38 48 := And.intro (by decide +kernel) rfl
theorem d_X4_told_48 : dk me_X4_told 48 (.aload_n 0) 1 49 := And.intro (by decide +kernel) rfl
theorem d_X4_told_49 : dk me_X4_told 49 (.getfield 25) 3 52 := And.intro (by decide +kernel) rfl
theorem d_X4_told_52 : dk me_X4_told 52 (.ireturn) 1 53 := And.intro (by decide +kernel) rfl
theorem d_X4_told_53 : dk me_X4_told 53 (.aload_n 0) 1 54 := And.intro (by decide +kernel) rfl
theorem d_X4_told_54 : dk me_X4_told 54 (.getfield 54) 3 57 := And.intro (by decide +kernel) rfl
theorem d_X4_told_57 : dk me_X4_told 57 (.ireturn) 1 58 := And.intro (by decide +kernel) rfl
theorem d_X4_told_58 : dk me_X4_told 58 (.aload_n 0) 1 59 := And.intro (by decide +kernel) rfl
theorem d_X4_told_59 : dk me_X4_told 59 (.getfield 57) 3 62 := And.intro (by decide +kernel) rfl
theorem d_X4_told_62 : dk me_X4_told 62 (.ireturn) 1 63 := And.intro (by decide +kernel) rfl
theorem d_X4_told_63 : dk me_X4_told 63 (.aload_n 0) 1 64 := And.intro (by decide +kernel) rfl
theorem d_X4_told_64 : dk me_X4_told 64 (.getfield 60) 3 67 := And.intro (by decide +kernel) rfl
theorem d_X4_told_67 : dk me_X4_told 67 (.ifCond .eq 7) 3 70 := And.intro (by decide +kernel) rfl
theorem d_X4_told_70 : dk me_X4_told 70 (.iconst 1) 1 71 := And.intro (by decide +kernel) rfl
theorem d_X4_told_71 : dk me_X4_told 71 (.goto 4) 3 74 := And.intro (by decide +kernel) rfl
theorem d_X4_told_74 : dk me_X4_told 74 (.iconst 0) 1 75 := And.intro (by decide +kernel) rfl
theorem d_X4_told_75 : dk me_X4_told 75 (.ireturn) 1 76 := And.intro (by decide +kernel) rfl
theorem d_X4_told_76 : dk me_X4_told 76 (.aload_n 0) 1 77 := And.intro (by decide +kernel) rfl
theorem d_X4_told_77 : dk me_X4_told 77 (.getfield 64) 3 80 := And.intro (by decide +kernel) rfl
theorem d_X4_told_80 : dk me_X4_told 80 (.ireturn) 1 81 := And.intro (by decide +kernel) rfl
theorem d_X4_told_81 : dk me_X4_told 81 (.aload_n 0) 1 82 := And.intro (by decide +kernel) rfl
theorem d_X4_told_82 : dk me_X4_told 82 (.getfield 46) 3 85 := And.intro (by decide +kernel) rfl
theorem d_X4_told_85 : dk me_X4_told 85 (.getfield 67) 3 88 := And.intro (by decide +kernel) rfl
theorem d_X4_told_88 : dk me_X4_told 88 (.ireturn) 1 89 := And.intro (by decide +kernel) rfl
theorem d_X4_told_89 : dk me_X4_told 89 (.aload_n 0) 1 90 := And.intro (by decide +kernel) rfl
theorem d_X4_told_90 : dk me_X4_told 90 (.getfield 70) 3 93 := And.intro (by decide +kernel) rfl
theorem d_X4_told_93 : dk me_X4_told 93 (.ireturn) 1 94 := And.intro (by decide +kernel) rfl
theorem ms_X4_told {fx : FX} {m : MM} {l0 : Nat} {l1 : Int} : MS fx me_X4_told [aR (some (4, l0)), aI l1] m ((f_X4_told m l0 l1).bind fun v => some (.inl (some (aI v)), m)) := by
  refine ms_of rfl mf_X4_told (b8 rfl) ?_
  show Sim fx me_X4_told 0 [(0, aR (some (4, l0))), (1, aI l1)] [] m _
  unfold f_X4_told
  refine s_aload_n d_X4_told_0 m0_ (s_pI (r_V d_X4_told_1 k_X4_isSet w_993 rfl rfl) ms_X4_isSet (b8 rfl) rfl rfl rfl fun v1 => (s_if_ne (tgt := 9) d_X4_told_4 rfl ?_ ?_))
  · refine s_iload_n d_X4_told_9 m1_ (s_tsw (dt := 89) d_X4_told_10 n_1 rfl ⟨⟨48, rfl, ?_⟩, ⟨53, rfl, ?_⟩, ⟨58, rfl, ?_⟩, ⟨63, rfl, ?_⟩, ⟨76, rfl, ?_⟩, ⟨81, rfl, ?_⟩, trivial⟩ rfl ?_)
    · exact s_aload_n d_X4_told_48 m0_ (s_getN cf d_X4_told_49 fl_X4_25 (s_iret d_X4_told_52 rfl rfl))
    · exact s_aload_n d_X4_told_53 m0_ (s_getN cf d_X4_told_54 fl_X4_54 (s_iret d_X4_told_57 rfl rfl))
    · exact s_aload_n d_X4_told_58 m0_ (s_getN cf d_X4_told_59 fl_X4_57 (s_iret d_X4_told_62 rfl rfl))
    · refine s_aload_n d_X4_told_63 m0_ (s_getB cf d_X4_told_64 fl_X4_60 (s_if_eq (tgt := 74) d_X4_told_67 rfl ?_ ?_))
      · exact s_iconst d_X4_told_74 n_0 (s_iret d_X4_told_75 rfl rfl)
      exact s_iconst d_X4_told_70 n_1 (s_goto (tgt := 75) d_X4_told_71 rfl (s_iret d_X4_told_75 rfl rfl))
    · exact s_aload_n d_X4_told_76 m0_ (s_getN cf d_X4_told_77 fl_X4_64 (s_iret d_X4_told_80 rfl rfl))
    · exact s_aload_n d_X4_told_81 m0_ (s_getR cf d_X4_told_82 fl_X4_46 (s_nk fun i2 => (s_getN cf d_X4_told_85 fl_X4_67 (s_iret d_X4_told_88 rfl rfl))))
    exact s_aload_n d_X4_told_89 m0_ (s_getN cf d_X4_told_90 fl_X4_70 (s_iret d_X4_told_93 rfl rfl))
  exact s_iconst d_X4_told_7 n_m1 (s_iret d_X4_told_8 rfl rfl)
theorem d_X11_page_0 : dk me_X11_page 0 (.aload_n 0) 1 1 := And.intro (by decide +kernel) rfl
theorem d_X11_page_1 : dk me_X11_page 1 (.iload_n 1) 1 2 := And.intro (by decide +kernel) rfl
theorem d_X11_page_2 : dk me_X11_page 2 (.invokevirtual 143) 3 5 := And.intro (by decide +kernel) rfl
theorem d_X11_page_5 : dk me_X11_page 5 (.astore 4) 2 7 := And.intro (by decide +kernel) rfl
theorem d_X11_page_7 : dk me_X11_page 7 (.aload 4) 2 9 := And.intro (by decide +kernel) rfl
theorem d_X11_page_9 : dk me_X11_page 9 (.iload_n 2) 1 10 := And.intro (by decide +kernel) rfl
theorem d_X11_page_10 : dk me_X11_page 10 (.invokestatic 192) 3 13 := And.intro (by decide +kernel) rfl
theorem d_X11_page_13 : dk me_X11_page 13 (.astore 5) 2 15 := And.intro (by decide +kernel) rfl
theorem d_X11_page_15 : dk me_X11_page 15 (.iload_n 3) 1 16 := And.intro (by decide +kernel) rfl
theorem d_X11_page_16 : dk me_X11_page 16 (.ifCond .lt 13) 3 19 := And.intro (by decide +kernel) rfl
theorem d_X11_page_19 : dk me_X11_page 19 (.iload_n 3) 1 20 := And.intro (by decide +kernel) rfl
theorem d_X11_page_20 : dk me_X11_page 20 (.bipush 8) 2 22 := And.intro (by decide +kernel) rfl
theorem d_X11_page_22 : dk me_X11_page 22 (.if_icmp .gt 7) 3 25 := And.intro (by decide +kernel) rfl
theorem d_X11_page_25 : dk me_X11_page 25 (.iconst 1) 1 26 := And.intro (by decide +kernel) rfl
theorem d_X11_page_26 : dk me_X11_page 26 (.goto 4) 3 29 := And.intro (by decide +kernel) rfl
theorem d_X11_page_29 : dk me_X11_page 29 (.iconst 0) 1 30 := And.intro (by decide +kernel) rfl
theorem d_X11_page_30 : dk me_X11_page 30 (.invokestatic 53) 3 33 := And.intro (by decide +kernel) rfl
theorem d_X11_page_33 : dk me_X11_page 33 (.iload_n 3) 1 34 := And.intro (by decide +kernel) rfl
theorem d_X11_page_34 : dk me_X11_page 34 (.ifCond .ne 10) 3 37 := And.intro (by decide +kernel) rfl
theorem d_X11_page_37 : dk me_X11_page 37 (.aload 4) 2 39 := And.intro (by decide +kernel) rfl
theorem d_X11_page_39 : dk me_X11_page 39 (.iload_n 2) 1 40 := And.intro (by decide +kernel) rfl
theorem d_X11_page_40 : dk me_X11_page 40 (.invokevirtual 229) 3 43 := And.intro (by decide +kernel) rfl
theorem d_X11_page_43 : dk me_X11_page 43 (.ireturn) 1 44 := And.intro (by decide +kernel) rfl
theorem d_X11_page_44 : dk me_X11_page 44 (.iload_n 3) 1 45 := And.intro (by decide +kernel) rfl
theorem d_X11_page_45 : dk me_X11_page 45 (.bipush 8) 2 47 := And.intro (by decide +kernel) rfl
theorem d_X11_page_47 : dk me_X11_page 47 (.if_icmp .ne 12) 3 50 := And.intro (by decide +kernel) rfl
theorem d_X11_page_50 : dk me_X11_page 50 (.aload 4) 2 52 := And.intro (by decide +kernel) rfl
theorem d_X11_page_52 : dk me_X11_page 52 (.iload_n 2) 1 53 := And.intro (by decide +kernel) rfl
theorem d_X11_page_53 : dk me_X11_page 53 (.invokevirtual 232) 3 56 := And.intro (by decide +kernel) rfl
theorem d_X11_page_56 : dk me_X11_page 56 (.goto 9) 3 59 := And.intro (by decide +kernel) rfl
theorem d_X11_page_59 : dk me_X11_page 59 (.aload 5) 2 61 := And.intro (by decide +kernel) rfl
theorem d_X11_page_61 : dk me_X11_page 61 (.iload_n 3) 1 62 := And.intro (by decide +kernel) rfl
theorem d_X11_page_62 : dk me_X11_page 62 (.invokevirtual 235) 3 65 := And.intro (by decide +kernel) rfl
theorem d_X11_page_65 : dk me_X11_page 65 (.ireturn) 1 66 := And.intro (by decide +kernel) rfl
theorem ms_X11_page {fx : FX} {m : MM} {l0 : Nat} {l1 : Int} {l2 : Int} {l3 : Int} : MS fx me_X11_page [aR (some (11, l0)), aI l1, aI l2, aI l3] m (f_X11_page m l0 l1 l2 l3) := by
  refine ms_of rfl mf_X11_page (b8 rfl) ?_
  refine s_top ?_
  show Sim fx me_X11_page 0 [(0, aR (some (11, l0))), (1, aI l1), (2, aI l2), (3, aI l3)] [] m _
  unfold f_X11_page
  have hj_X11_page_0_30 : ∀ (m_30 : MM) (l2_30 : Int) (l3_30 : Int) (l4_30 : Nat) (l5_30 : Nat) (s0_30 : Int), Sim fx me_X11_page 30 [(2, aI l2_30), (3, aI l3_30), (4, aR (some (0, l4_30))), (5, aR (some (4, l5_30)))] [aI s0_30] m_30 ((j_X11_page_0_30 m_30 l2_30 l3_30 l4_30 l5_30 s0_30).bind (fun z => some z)) := by
    intro m_30 l2_30 l3_30 l4_30 l5_30 s0_30
    unfold j_X11_page_0_30
    refine s_cV (r_S d_X11_page_30 k_X11_requireArgument w_284 rfl rfl) ms_X11_requireArgument (b8 rfl) rfl rfl rfl (fun h => by cases h) (fun _ _ => Or.inr rfl) fun m7 => (s_iload_n d_X11_page_33 m1_ (s_if_ne (tgt := 44) d_X11_page_34 rfl ?_ ?_))
    · refine s_iload_n d_X11_page_44 m1_ (s_bipush d_X11_page_45 n_8 rfl (s_icmp_ne (tgt := 59) d_X11_page_47 rfl ?_ ?_))
      · exact s_aload d_X11_page_59 m3_ (s_iload_n d_X11_page_61 m1_ (s_pI (r_V d_X11_page_62 k_X4_told w_989 rfl rfl) ms_X4_told (b8 rfl) rfl rfl rfl fun v9 => (s_iret d_X11_page_65 rfl rfl)))
      exact s_aload d_X11_page_50 m2_ (s_iload_n d_X11_page_52 m0_ (s_pI (r_V d_X11_page_53 k_X0_runningTitle w_984 rfl rfl) ms_X0_runningTitle (b8 rfl) rfl rfl rfl fun v10 => (s_goto (tgt := 65) d_X11_page_56 rfl (s_iret d_X11_page_65 rfl rfl))))
    exact s_aload d_X11_page_37 m2_ (s_iload_n d_X11_page_39 m0_ (s_pI (r_V d_X11_page_40 k_X0_formeNumber w_980 rfl rfl) ms_X0_formeNumber (b8 rfl) rfl rfl rfl fun v11 => (s_iret d_X11_page_43 rfl rfl)))
  have hj_X11_page_0_29 : ∀ (m_29 : MM) (l2_29 : Int) (l3_29 : Int) (l4_29 : Nat) (l5_29 : Nat), Sim fx me_X11_page 29 [(2, aI l2_29), (3, aI l3_29), (4, aR (some (0, l4_29))), (5, aR (some (4, l5_29)))] [] m_29 ((j_X11_page_0_29 m_29 l2_29 l3_29 l4_29 l5_29).bind (fun z => some z)) := by
    intro m_29 l2_29 l3_29 l4_29 l5_29
    unfold j_X11_page_0_29
    exact s_iconst d_X11_page_29 n_0 (s_sub (subc m0_ (subc m1_ (subc m2_ (subc m3_ sub0)))) (hj_X11_page_0_30 m_29 l2_29 l3_29 l4_29 l5_29 0))
  refine s_aload_n d_X11_page_0 m0_ (s_iload_n d_X11_page_1 m1_ (s_cR (r_V d_X11_page_2 k_X11_bookAt w_814 rfl rfl) ms_X11_bookAt (b8 rfl) rfl rfl rfl (fun h => by cases h) (fun _ _ => Or.inr rfl) fun r2 m1 => (s_nk fun i3 => (s_astore (L' := [(4, aR (some (0, i3))), (0, aR (some (11, l0))), (1, aI l1), (2, aI l2), (3, aI l3)]) d_X11_page_5 (b8 rfl) rfl (s_aload d_X11_page_7 m0_ ?_)))))
  refine s_iload_n d_X11_page_9 m3_ (s_cR (r_S d_X11_page_10 k_X11_pageOf w_884 rfl rfl) ms_X11_pageOf (b8 rfl) rfl rfl rfl (fun h => by cases h) (fun _ _ => Or.inr rfl) fun r5 m4 => (s_nk fun i6 => (s_astore (L' := [(5, aR (some (4, i6))), (4, aR (some (0, i3))), (0, aR (some (11, l0))), (1, aI l1), (2, aI l2), (3, aI l3)]) d_X11_page_13 (b8 rfl) rfl (s_iload_n d_X11_page_15 m5_ (s_if_lt (tgt := 29) d_X11_page_16 rfl ?_ ?_)))))
  · exact s_sub (subc m4_ (subc m5_ (subc m1_ (subc m0_ sub0)))) (hj_X11_page_0_29 m4 l2 l3 i3 i6)
  refine s_iload_n d_X11_page_19 m5_ (s_bipush d_X11_page_20 n_8 rfl (s_icmp_gt (tgt := 29) d_X11_page_22 rfl ?_ ?_))
  · exact s_sub (subc m4_ (subc m5_ (subc m1_ (subc m0_ sub0)))) (hj_X11_page_0_29 m4 l2 l3 i3 i6)
  exact s_iconst d_X11_page_25 n_1 (s_goto (tgt := 30) d_X11_page_26 rfl (s_sub (subc m4_ (subc m5_ (subc m1_ (subc m0_ sub0)))) (hj_X11_page_0_30 m4 l2 l3 i3 i6 1)))
theorem d_L_page_0 : dk me_L_page 0 (.aload 4) 2 2 := And.intro (by decide +kernel) rfl
theorem d_L_page_2 : dk me_L_page 2 (.iconst 0) 1 3 := And.intro (by decide +kernel) rfl
theorem d_L_page_3 : dk me_L_page 3 (.aload_n 0) 1 4 := And.intro (by decide +kernel) rfl
theorem d_L_page_4 : dk me_L_page 4 (.iload_n 1) 1 5 := And.intro (by decide +kernel) rfl
theorem d_L_page_5 : dk me_L_page 5 (.iload_n 2) 1 6 := And.intro (by decide +kernel) rfl
theorem d_L_page_6 : dk me_L_page 6 (.iload_n 3) 1 7 := And.intro (by decide +kernel) rfl
theorem d_L_page_7 : dk me_L_page 7 (.invokevirtual 57) 3 10 := And.intro (by decide +kernel) rfl
theorem d_L_page_10 : dk me_L_page 10 (.i2l) 1 11 := And.intro (by decide +kernel) rfl
theorem d_L_page_11 : dk me_L_page 11 (.lastore) 1 12 := And.intro (by decide +kernel) rfl
theorem d_L_page_12 : dk me_L_page 12 (.goto 11) 3 15 := And.intro (by decide +kernel) rfl
theorem d_L_page_15 : dk me_L_page 15 (.astore 5) 2 17 := And.intro (by decide +kernel) rfl
theorem d_L_page_17 : dk me_L_page 17 (.iconst 1) 1 18 := And.intro (by decide +kernel) rfl
theorem d_L_page_18 : dk me_L_page 18 (.ireturn) 1 19 := And.intro (by decide +kernel) rfl
theorem d_L_page_19 : dk me_L_page 19 (.astore 5) 2 21 := And.intro (by decide +kernel) rfl
theorem d_L_page_21 : dk me_L_page 21 (.iconst 2) 1 22 := And.intro (by decide +kernel) rfl
theorem d_L_page_22 : dk me_L_page 22 (.ireturn) 1 23 := And.intro (by decide +kernel) rfl
theorem d_L_page_23 : dk me_L_page 23 (.iconst 0) 1 24 := And.intro (by decide +kernel) rfl
theorem d_L_page_24 : dk me_L_page 24 (.ireturn) 1 25 := And.intro (by decide +kernel) rfl
theorem ms_L_page {fx : FX} {m : MM} {l0 : Nat} {l1 : Int} {l2 : Int} {l3 : Int} {l4 : Nat} : MS fx me_L_page [aR (some (11, l0)), aI l1, aI l2, aI l3, aR (some (131, l4))] m (f_L_page m l0 l1 l2 l3 l4) := by
  refine ms_ofH rfl mf_L_page (b8 rfl) ?_
  refine s_top ?_
  show Sim fx me_L_page 0 [(0, aR (some (11, l0))), (1, aI l1), (2, aI l2), (3, aI l3), (4, aR (some (131, l4)))] [] m _
  unfold f_L_page
  refine s_aload d_L_page_0 m4_ (s_iconst d_L_page_2 n_0 (s_aload_n d_L_page_3 m0_ (s_iload_n d_L_page_4 m1_ (s_iload_n d_L_page_5 m2_ (s_iload_n d_L_page_6 m3_ ?_)))))
  refine s_cIC (r_V d_L_page_7 k_X11_page w_976 rfl rfl) ms_X11_page (b8 rfl) rfl rfl ?_ ?_ ?_ fun v2 m1 => ?_
  · refine fun mx => Or.inr ⟨15, ⟨rfl, by decide, 0, wx_29_0, Or.inl ⟨rfl, rfl⟩⟩, fun qx => ?_⟩
    exact s_astoreV (L' := [(5, aV (.ref qx)), (0, aR (some (11, l0))), (1, aI l1), (2, aI l2), (3, aI l3), (4, aR (some (131, l4)))]) d_L_page_15 (b8 rfl) rfl (s_iconst d_L_page_17 n_1 (s_iret d_L_page_18 rfl rfl))
  · refine fun mx => Or.inr ⟨19, ⟨rfl, by decide, 0, wx_29_0, Or.inr ⟨by decide, ⟨rfl, by decide, 1, wx_13_1, Or.inl ⟨rfl, rfl⟩⟩⟩⟩, fun qx => ?_⟩
    exact s_astoreV (L' := [(5, aV (.ref qx)), (0, aR (some (11, l0))), (1, aI l1), (2, aI l2), (3, aI l3), (4, aR (some (131, l4)))]) d_L_page_19 (b8 rfl) rfl (s_iconst d_L_page_21 n_2 (s_iret d_L_page_22 rfl rfl))
  · exact fun _ => Or.inl rfl
  exact s_i2l d_L_page_10 (s_stL d_L_page_11 ka_131 rfl fun m3 => (s_goto (tgt := 23) d_L_page_12 rfl (s_iconst d_L_page_23 n_0 (s_iret d_L_page_24 rfl rfl))))
theorem d_X11_paper_0 : dk me_X11_paper 0 (.iload_n 1) 1 1 := And.intro (by decide +kernel) rfl
theorem d_X11_paper_1 : dk me_X11_paper 1 (.ifCond .lt 12) 3 4 := And.intro (by decide +kernel) rfl
theorem d_X11_paper_4 : dk me_X11_paper 4 (.iload_n 1) 1 5 := And.intro (by decide +kernel) rfl
theorem d_X11_paper_5 : dk me_X11_paper 5 (.iconst 4) 1 6 := And.intro (by decide +kernel) rfl
theorem d_X11_paper_6 : dk me_X11_paper 6 (.if_icmp .ge 7) 3 9 := And.intro (by decide +kernel) rfl
theorem d_X11_paper_9 : dk me_X11_paper 9 (.iconst 1) 1 10 := And.intro (by decide +kernel) rfl
theorem d_X11_paper_10 : dk me_X11_paper 10 (.goto 4) 3 13 := And.intro (by decide +kernel) rfl
theorem d_X11_paper_13 : dk me_X11_paper 13 (.iconst 0) 1 14 := And.intro (by decide +kernel) rfl
theorem d_X11_paper_14 : dk me_X11_paper 14 (.invokestatic 115) 3 17 := And.intro (by decide +kernel) rfl
theorem d_X11_paper_17 : dk me_X11_paper 17 (.aload_n 0) 1 18 := And.intro (by decide +kernel) rfl
theorem d_X11_paper_18 : dk me_X11_paper 18 (.iload_n 1) 1 19 := And.intro (by decide +kernel) rfl
theorem d_X11_paper_19 : dk me_X11_paper 19 (.putfield 307) 3 22 := And.intro (by decide +kernel) rfl
theorem d_X11_paper_22 : dk me_X11_paper 22 (.aload_n 0) 1 23 := And.intro (by decide +kernel) rfl
theorem d_X11_paper_23 : dk me_X11_paper 23 (.getfield 42) 3 26 := And.intro (by decide +kernel) rfl
theorem d_X11_paper_26 : dk me_X11_paper 26 (.iload_n 1) 1 27 := And.intro (by decide +kernel) rfl
theorem d_X11_paper_27 : dk me_X11_paper 27 (.iaload) 1 28 := And.intro (by decide +kernel) rfl
theorem d_X11_paper_28 : dk me_X11_paper 28 (.ireturn) 1 29 := And.intro (by decide +kernel) rfl
theorem ms_X11_paper {fx : FX} {m : MM} {l0 : Nat} {l1 : Int} : MS fx me_X11_paper [aR (some (11, l0)), aI l1] m (f_X11_paper m l0 l1) := by
  refine ms_of rfl mf_X11_paper (b8 rfl) ?_
  refine s_top ?_
  show Sim fx me_X11_paper 0 [(0, aR (some (11, l0))), (1, aI l1)] [] m _
  unfold f_X11_paper
  have hj_X11_paper_0_14 : ∀ (m_14 : MM) (l0_14 : Nat) (l1_14 : Int) (s0_14 : Int), Sim fx me_X11_paper 14 [(0, aR (some (11, l0_14))), (1, aI l1_14)] [aI s0_14] m_14 ((j_X11_paper_0_14 m_14 l0_14 l1_14 s0_14).bind (fun z => some z)) := by
    intro m_14 l0_14 l1_14 s0_14
    unfold j_X11_paper_0_14
    refine s_cV (r_S d_X11_paper_14 k_X11_requireIndex w_451 rfl rfl) ms_X11_requireIndex (b8 rfl) rfl rfl rfl (fun h => by cases h) (fun _ _ => Or.inr rfl) fun m1 => (s_aload_n d_X11_paper_17 m0_ (s_iload_n d_X11_paper_18 m1_ (s_putN cf d_X11_paper_19 fl_X11_307 (fun h => by cases h) fun m3 => (s_aload_n d_X11_paper_22 m0_ (s_getR cf d_X11_paper_23 fl_X11_42 ?_)))))
    exact s_nk fun i4 => (s_iload_n d_X11_paper_26 m1_ (s_ldN d_X11_paper_27 ka_58 rfl fun v5 => (s_iret d_X11_paper_28 rfl rfl)))
  have hj_X11_paper_0_13 : ∀ (m_13 : MM) (l0_13 : Nat) (l1_13 : Int), Sim fx me_X11_paper 13 [(0, aR (some (11, l0_13))), (1, aI l1_13)] [] m_13 ((j_X11_paper_0_13 m_13 l0_13 l1_13).bind (fun z => some z)) := by
    intro m_13 l0_13 l1_13
    unfold j_X11_paper_0_13
    exact s_iconst d_X11_paper_13 n_0 (s_sub (subc m0_ (subc m1_ sub0)) (hj_X11_paper_0_14 m_13 l0_13 l1_13 0))
  refine s_iload_n d_X11_paper_0 m1_ (s_if_lt (tgt := 13) d_X11_paper_1 rfl ?_ ?_)
  · exact s_sub (subc m0_ (subc m1_ sub0)) (hj_X11_paper_0_13 m l0 l1)
  refine s_iload_n d_X11_paper_4 m1_ (s_iconst d_X11_paper_5 n_4 (s_icmp_ge (tgt := 13) d_X11_paper_6 rfl ?_ ?_))
  · exact s_sub (subc m0_ (subc m1_ sub0)) (hj_X11_paper_0_13 m l0 l1)
  exact s_iconst d_X11_paper_9 n_1 (s_goto (tgt := 14) d_X11_paper_10 rfl (s_sub (subc m0_ (subc m1_ sub0)) (hj_X11_paper_0_14 m l0 l1 1)))
theorem d_L_paper_0 : dk me_L_paper 0 (.aload_n 2) 1 1 := And.intro (by decide +kernel) rfl
theorem d_L_paper_1 : dk me_L_paper 1 (.iconst 0) 1 2 := And.intro (by decide +kernel) rfl
theorem d_L_paper_2 : dk me_L_paper 2 (.aload_n 0) 1 3 := And.intro (by decide +kernel) rfl
theorem d_L_paper_3 : dk me_L_paper 3 (.iload_n 1) 1 4 := And.intro (by decide +kernel) rfl
theorem d_L_paper_4 : dk me_L_paper 4 (.invokevirtual 89) 3 7 := And.intro (by decide +kernel) rfl
theorem d_L_paper_7 : dk me_L_paper 7 (.i2l) 1 8 := And.intro (by decide +kernel) rfl
theorem d_L_paper_8 : dk me_L_paper 8 (.lastore) 1 9 := And.intro (by decide +kernel) rfl
theorem d_L_paper_9 : dk me_L_paper 9 (.goto 6) 3 12 := And.intro (by decide +kernel) rfl
theorem d_L_paper_12 : dk me_L_paper 12 (.astore_n 3) 1 13 := And.intro (by decide +kernel) rfl
theorem d_L_paper_13 : dk me_L_paper 13 (.iconst 1) 1 14 := And.intro (by decide +kernel) rfl
theorem d_L_paper_14 : dk me_L_paper 14 (.ireturn) 1 15 := And.intro (by decide +kernel) rfl
theorem d_L_paper_15 : dk me_L_paper 15 (.iconst 0) 1 16 := And.intro (by decide +kernel) rfl
theorem d_L_paper_16 : dk me_L_paper 16 (.ireturn) 1 17 := And.intro (by decide +kernel) rfl
theorem ms_L_paper {fx : FX} {m : MM} {l0 : Nat} {l1 : Int} {l2 : Nat} : MS fx me_L_paper [aR (some (11, l0)), aI l1, aR (some (131, l2))] m (f_L_paper m l0 l1 l2) := by
  refine ms_ofH rfl mf_L_paper (b8 rfl) ?_
  refine s_top ?_
  show Sim fx me_L_paper 0 [(0, aR (some (11, l0))), (1, aI l1), (2, aR (some (131, l2)))] [] m _
  unfold f_L_paper
  refine s_aload_n d_L_paper_0 m2_ (s_iconst d_L_paper_1 n_0 (s_aload_n d_L_paper_2 m0_ (s_iload_n d_L_paper_3 m1_ (s_cIC (r_V d_L_paper_4 k_X11_paper w_1150 rfl rfl) ms_X11_paper (b8 rfl) rfl rfl ?_ ?_ ?_ fun v2 m1 => ?_))))
  · refine fun mx => Or.inr ⟨12, ⟨rfl, by decide, 0, wx_29_0, Or.inl ⟨rfl, rfl⟩⟩, fun qx => ?_⟩
    exact s_astoreV_n (L' := [(3, aV (.ref qx)), (0, aR (some (11, l0))), (1, aI l1), (2, aR (some (131, l2)))]) d_L_paper_12 (b8 rfl) rfl (s_iconst d_L_paper_13 n_1 (s_iret d_L_paper_14 rfl rfl))
  · exact fun _ => Or.inl rfl
  · exact fun _ => Or.inl rfl
  exact s_i2l d_L_paper_7 (s_stL d_L_paper_8 ka_131 rfl fun m3 => (s_goto (tgt := 15) d_L_paper_9 rfl (s_iconst d_L_paper_15 n_0 (s_iret d_L_paper_16 rfl rfl))))
theorem d_X11_isHoliday_0 : dk me_X11_isHoliday 0 (.iload_n 0) 1 1 := And.intro (by decide +kernel) rfl
theorem d_X11_isHoliday_1 : dk me_X11_isHoliday 1 (.bipush 70) 2 3 := And.intro (by decide +kernel) rfl
theorem d_X11_isHoliday_3 : dk me_X11_isHoliday 3 (.irem) 1 4 := And.intro (by decide +kernel) rfl
theorem d_X11_isHoliday_4 : dk me_X11_isHoliday 4 (.bipush 60) 2 6 := And.intro (by decide +kernel) rfl
theorem d_X11_isHoliday_6 : dk me_X11_isHoliday 6 (.if_icmp .lt 7) 3 9 := And.intro (by decide +kernel) rfl
theorem d_X11_isHoliday_9 : dk me_X11_isHoliday 9 (.iconst 1) 1 10 := And.intro (by decide +kernel) rfl
theorem d_X11_isHoliday_10 : dk me_X11_isHoliday 10 (.goto 4) 3 13 := And.intro (by decide +kernel) rfl
theorem d_X11_isHoliday_13 : dk me_X11_isHoliday 13 (.iconst 0) 1 14 := And.intro (by decide +kernel) rfl
theorem d_X11_isHoliday_14 : dk me_X11_isHoliday 14 (.ireturn) 1 15 := And.intro (by decide +kernel) rfl
theorem ms_X11_isHoliday {fx : FX} {m : MM} {l0 : Int} : MS fx me_X11_isHoliday [aI l0] m ((f_X11_isHoliday m l0).bind fun v => some (.inl (some (aI v)), m)) := by
  refine ms_of rfl mf_X11_isHoliday (b8 rfl) ?_
  show Sim fx me_X11_isHoliday 0 [(0, aI l0)] [] m _
  unfold f_X11_isHoliday
  refine s_iload_n d_X11_isHoliday_0 m0_ (s_bipush d_X11_isHoliday_1 n_70 rfl (s_irem d_X11_isHoliday_3 (s_bipush d_X11_isHoliday_4 n_60 rfl (s_icmp_lt (tgt := 13) d_X11_isHoliday_6 rfl ?_ ?_))))
  · exact s_iconst d_X11_isHoliday_13 n_0 (s_zretl d_X11_isHoliday_14 rfl (by decide) rfl)
  exact s_iconst d_X11_isHoliday_9 n_1 (s_goto (tgt := 14) d_X11_isHoliday_10 rfl (s_zretl d_X11_isHoliday_14 rfl (by decide) rfl))
theorem d_X2_finish_0 : dk me_X2_finish 0 (.aload_n 0) 1 1 := And.intro (by decide +kernel) rfl
theorem d_X2_finish_1 : dk me_X2_finish 1 (.iconst 3) 1 2 := And.intro (by decide +kernel) rfl
theorem d_X2_finish_2 : dk me_X2_finish 2 (.putfield 15) 3 5 := And.intro (by decide +kernel) rfl
theorem d_X2_finish_5 : dk me_X2_finish 5 (.aload_n 0) 1 6 := And.intro (by decide +kernel) rfl
theorem d_X2_finish_6 : dk me_X2_finish 6 (.iload_n 1) 1 7 := And.intro (by decide +kernel) rfl
theorem d_X2_finish_7 : dk me_X2_finish 7 (.putfield 28) 3 10 := And.intro (by decide +kernel) rfl
theorem d_X2_finish_10 : dk me_X2_finish 10 (.aload_n 0) 1 11 := And.intro (by decide +kernel) rfl
theorem d_X2_finish_11 : dk me_X2_finish 11 (.getfield 31) 3 14 := And.intro (by decide +kernel) rfl
theorem d_X2_finish_14 : dk me_X2_finish 14 (.astore_n 3) 1 15 := And.intro (by decide +kernel) rfl
theorem d_X2_finish_15 : dk me_X2_finish 15 (.aload_n 3) 1 16 := And.intro (by decide +kernel) rfl
theorem d_X2_finish_16 : dk me_X2_finish 16 (.arraylength) 1 17 := And.intro (by decide +kernel) rfl
theorem d_X2_finish_17 : dk me_X2_finish 17 (.istore 4) 2 19 := And.intro (by decide +kernel) rfl
theorem d_X2_finish_19 : dk me_X2_finish 19 (.iconst 0) 1 20 := And.intro (by decide +kernel) rfl
theorem d_X2_finish_20 : dk me_X2_finish 20 (.istore 5) 2 22 := And.intro (by decide +kernel) rfl
theorem d_X2_finish_22 : dk me_X2_finish 22 (.iload 5) 2 24 := And.intro (by decide +kernel) rfl
theorem d_X2_finish_24 : dk me_X2_finish 24 (.iload 4) 2 26 := And.intro (by decide +kernel) rfl
theorem d_X2_finish_26 : dk me_X2_finish 26 (.if_icmp .ge 71) 3 29 := And.intro (by decide +kernel) rfl
theorem d_X2_finish_29 : dk me_X2_finish 29 (.aload_n 3) 1 30 := And.intro (by decide +kernel) rfl
theorem d_X2_finish_30 : dk me_X2_finish 30 (.iload 5) 2 32 := And.intro (by decide +kernel) rfl
theorem d_X2_finish_32 : dk me_X2_finish 32 (.aaload) 1 33 := And.intro (by decide +kernel) rfl
theorem d_X2_finish_33 : dk me_X2_finish 33 (.astore 6) 2 35 := And.intro (by decide +kernel) rfl
theorem d_X2_finish_35 : dk me_X2_finish 35 (.aload 6) 2 37 := And.intro (by decide +kernel) rfl
theorem d_X2_finish_37 : dk me_X2_finish 37 (.getfield 50) 3 40 := And.intro (by decide +kernel) rfl
theorem d_X2_finish_40 : dk me_X2_finish 40 (.astore 7) 2 42 := And.intro (by decide +kernel) rfl
theorem d_X2_finish_42 : dk me_X2_finish 42 (.iconst 0) 1 43 := And.intro (by decide +kernel) rfl
theorem d_X2_finish_43 : dk me_X2_finish 43 (.istore 8) 2 45 := And.intro (by decide +kernel) rfl
theorem d_X2_finish_45 : dk me_X2_finish 45 (.iload 8) 2 47 := And.intro (by decide +kernel) rfl
theorem d_X2_finish_47 : dk me_X2_finish 47 (.aload 7) 2 49 := And.intro (by decide +kernel) rfl
theorem d_X2_finish_49 : dk me_X2_finish 49 (.getfield 60) 3 52 := And.intro (by decide +kernel) rfl
theorem d_X2_finish_52 : dk me_X2_finish 52 (.if_icmp .ge 39) 3 55 := And.intro (by decide +kernel) rfl
theorem d_X2_finish_55 : dk me_X2_finish 55 (.aload 7) 2 57 := And.intro (by decide +kernel) rfl
theorem d_X2_finish_57 : dk me_X2_finish 57 (.getfield 63) 3 60 := And.intro (by decide +kernel) rfl
theorem d_X2_finish_60 : dk me_X2_finish 60 (.iload 8) 2 62 := And.intro (by decide +kernel) rfl
theorem d_X2_finish_62 : dk me_X2_finish 62 (.iaload) 1 63 := And.intro (by decide +kernel) rfl
theorem d_X2_finish_63 : dk me_X2_finish 63 (.istore 9) 2 65 := And.intro (by decide +kernel) rfl
theorem d_X2_finish_65 : dk me_X2_finish 65 (.iload 9) 2 67 := And.intro (by decide +kernel) rfl
theorem d_X2_finish_67 : dk me_X2_finish 67 (.iconst (-1)) 1 68 := And.intro (by decide +kernel) rfl
theorem d_X2_finish_68 : dk me_X2_finish 68 (.if_icmp .eq 17) 3 71 := And.intro (by decide +kernel) rfl
theorem d_X2_finish_71 : dk me_X2_finish 71 (.aload_n 0) 1 72 := And.intro (by decide +kernel) rfl
theorem d_X2_finish_72 : dk me_X2_finish 72 (.getfield 9) 3 75 := And.intro (by decide +kernel) rfl
theorem d_X2_finish_75 : dk me_X2_finish 75 (.iload 9) 2 77 := And.intro (by decide +kernel) rfl
theorem d_X2_finish_77 : dk me_X2_finish 77 (.aload_n 2) 1 78 := And.intro (by decide +kernel) rfl
theorem d_X2_finish_78 : dk me_X2_finish 78 (.getfield 66) 3 81 := And.intro (by decide +kernel) rfl
theorem d_X2_finish_81 : dk me_X2_finish 81 (.iload 9) 2 83 := And.intro (by decide +kernel) rfl
theorem d_X2_finish_83 : dk me_X2_finish 83 (.iaload) 1 84 := And.intro (by decide +kernel) rfl
theorem d_X2_finish_84 : dk me_X2_finish 84 (.iastore) 1 85 := And.intro (by decide +kernel) rfl
theorem d_X2_finish_85 : dk me_X2_finish 85 (.iinc 8 1) 3 88 := And.intro (by decide +kernel) rfl
theorem d_X2_finish_88 : dk me_X2_finish 88 (.goto (-43)) 3 91 := And.intro (by decide +kernel) rfl
theorem d_X2_finish_91 : dk me_X2_finish 91 (.iinc 5 1) 3 94 := And.intro (by decide +kernel) rfl
theorem d_X2_finish_94 : dk me_X2_finish 94 (.goto (-72)) 3 97 := And.intro (by decide +kernel) rfl
theorem d_X2_finish_97 : dk me_X2_finish 97 (.return_) 1 98 := And.intro (by decide +kernel) rfl
theorem ms_X2_finish {fx : FX} {m : MM} {l0 : Nat} {l1 : Int} {l2 : Nat} : MS fx me_X2_finish [aR (some (2, l0)), aI l1, aR (some (1, l2))] m (f_X2_finish m l0 l1 l2) := by
  refine ms_of rfl mf_X2_finish (b8 rfl) ?_
  refine s_top ?_
  show Sim fx me_X2_finish 0 [(0, aR (some (2, l0))), (1, aI l1), (2, aR (some (1, l2)))] [] m _
  unfold f_X2_finish
  have hj_X2_finish_0_97 : ∀ (m_97 : MM), Sim fx me_X2_finish 97 [] [] m_97 ((j_X2_finish_0_97 m_97).bind (fun z => some z)) := by
    intro m_97
    unfold j_X2_finish_0_97
    exact s_vret d_X2_finish_97 rfl rfl
  refine s_aload_n d_X2_finish_0 m0_ (s_iconst d_X2_finish_1 n_3 (s_putN cf d_X2_finish_2 fl_X2_15 (fun h => by cases h) fun m1 => (s_aload_n d_X2_finish_5 m0_ (s_iload_n d_X2_finish_6 m1_ (s_putN cf d_X2_finish_7 fl_X2_28 (fun h => by cases h) fun m2 => ?_)))))
  refine s_aload_n d_X2_finish_10 m0_ (s_getR cf d_X2_finish_11 fl_X2_31 (s_nk fun i3 => (s_astore_n (L' := [(3, aR (some (19, i3))), (0, aR (some (2, l0))), (1, aI l1), (2, aR (some (1, l2)))]) d_X2_finish_14 (b8 rfl) rfl (s_aload_n d_X2_finish_15 m0_ (s_len d_X2_finish_16 ka_19 ta_19 ?_)))))
  refine s_istore (L' := [(4, aI (lenI m2 19 i3)), (3, aR (some (19, i3))), (0, aR (some (2, l0))), (1, aI l1), (2, aR (some (1, l2)))]) d_X2_finish_17 (b8 rfl) rfl (s_iconst d_X2_finish_19 n_0 (s_istore (L' := [(5, aI 0), (4, aI (lenI m2 19 i3)), (3, aR (some (19, i3))), (0, aR (some (2, l0))), (1, aI l1), (2, aR (some (1, l2)))]) d_X2_finish_20 (b8 rfl) rfl (s_sub (subc m0_ (subc m3_ (subc m5_ (subc m2_ (subc m1_ sub0))))) (s_lp2 (fun s => [(5, aI (s.1)), (0, aR (some (2, l0))), (2, aR (some (1, l2))), (3, aR (some (19, i3))), (4, aI (lenI m2 19 i3))]) (fun s => s.2) (0, m2) fun k22 hx22 s ih0 => ?_))))
  obtain ⟨l5_22, mm_22⟩ := s
  have ih22 := ih0
  clear ih0
  try dsimp only
  unfold b_X2_finish_22
  have hj_X2_finish_22_91 : ∀ (m_91 : MM) (l5_91 : Int), Sim fx me_X2_finish 91 [(0, aR (some (2, l0))), (2, aR (some (1, l2))), (3, aR (some (19, i3))), (4, aI (lenI m2 19 i3)), (5, aI l5_91)] [] m_91 ((j_X2_finish_22_91 m_91 l0 l2 i3 (lenI m2 19 i3) l5_91).bind k22) := by
    intro m_91 l5_91
    unfold j_X2_finish_22_91
    exact s_iinc (L' := [(5, aI (l5_91 + 1)), (0, aR (some (2, l0))), (2, aR (some (1, l2))), (3, aR (some (19, i3))), (4, aI (lenI m2 19 i3))]) d_X2_finish_91 m4_ (b8 rfl) rfl (s_goto (tgt := 22) d_X2_finish_94 rfl (s_sub (subc m0_ (subc m1_ (subc m2_ (subc m3_ (subc m4_ sub0))))) (s_back (ih22 ((l5_91 + 1), m_91)))))
  refine s_iload d_X2_finish_22 m0_ (s_iload d_X2_finish_24 m4_ (s_icmp_ge (tgt := 97) d_X2_finish_26 rfl ?_ ?_))
  · exact s_exit (hx22 _) (s_sub (sub0) (hj_X2_finish_0_97 mm_22))
  refine s_aload_n d_X2_finish_29 m3_ (s_iload d_X2_finish_30 m0_ (s_ldR d_X2_finish_32 ka_19 ta_19 rfl rfl fun r4 => (s_nk fun i5 => (s_astore (L' := [(6, aR (some (4, i5))), (5, aI l5_22), (0, aR (some (2, l0))), (2, aR (some (1, l2))), (3, aR (some (19, i3))), (4, aI (lenI m2 19 i3))]) d_X2_finish_33 (b8 rfl) rfl (s_aload d_X2_finish_35 m0_ ?_)))))
  refine s_getR cf d_X2_finish_37 fl_X2_50 (s_nk fun i6 => (s_astore (L' := [(7, aR (some (5, i6))), (6, aR (some (4, i5))), (5, aI l5_22), (0, aR (some (2, l0))), (2, aR (some (1, l2))), (3, aR (some (19, i3))), (4, aI (lenI m2 19 i3))]) d_X2_finish_40 (b8 rfl) rfl (s_iconst d_X2_finish_42 n_0 (s_istore (L' := [(8, aI 0), (7, aR (some (5, i6))), (6, aR (some (4, i5))), (5, aI l5_22), (0, aR (some (2, l0))), (2, aR (some (1, l2))), (3, aR (some (19, i3))), (4, aI (lenI m2 19 i3))]) d_X2_finish_43 (b8 rfl) rfl (s_sub (subc m0_ (subc m4_ (subc m5_ (subc m6_ (subc m7_ (subc m3_ (subc m1_ sub0))))))) (s_lp2 (fun s => [(8, aI (s.1)), (0, aR (some (2, l0))), (2, aR (some (1, l2))), (3, aR (some (19, i3))), (4, aI (lenI m2 19 i3)), (5, aI l5_22), (7, aR (some (5, i6)))]) (fun s => s.2) (0, mm_22) fun k45 hx45 s ih0 => ?_))))))
  obtain ⟨l8_45, mm_45⟩ := s
  have ih45 := ih0
  clear ih0
  try dsimp only
  unfold b_X2_finish_45
  refine s_iload d_X2_finish_45 m0_ (s_aload d_X2_finish_47 m6_ (s_getN cf d_X2_finish_49 fl_X2_60 (s_icmp_ge (tgt := 91) d_X2_finish_52 rfl ?_ ?_)))
  · exact s_exit (hx45 _) (s_sub (subc m1_ (subc m2_ (subc m3_ (subc m4_ (subc m5_ sub0))))) (hj_X2_finish_22_91 mm_45 l5_22))
  refine s_aload d_X2_finish_55 m6_ (s_getR cf d_X2_finish_57 fl_X2_63 (s_nk fun i7 => (s_iload d_X2_finish_60 m0_ (s_ldN d_X2_finish_62 ka_35 rfl fun v8 => (s_istore (L' := [(9, aI v8), (8, aI l8_45), (0, aR (some (2, l0))), (2, aR (some (1, l2))), (3, aR (some (19, i3))), (4, aI (lenI m2 19 i3)), (5, aI l5_22), (7, aR (some (5, i6)))]) d_X2_finish_63 (b8 rfl) rfl ?_)))))
  refine s_iload d_X2_finish_65 m0_ (s_iconst d_X2_finish_67 n_m1 (s_icmp_eq (tgt := 85) d_X2_finish_68 rfl ?_ ?_))
  · exact s_iinc (L' := [(8, aI (l8_45 + 1)), (9, aI v8), (0, aR (some (2, l0))), (2, aR (some (1, l2))), (3, aR (some (19, i3))), (4, aI (lenI m2 19 i3)), (5, aI l5_22), (7, aR (some (5, i6)))]) d_X2_finish_85 m1_ (b8 rfl) rfl (s_goto (tgt := 45) d_X2_finish_88 rfl (s_sub (subc m0_ (subc m2_ (subc m3_ (subc m4_ (subc m5_ (subc m6_ (subc m7_ sub0))))))) (s_back (ih45 ((l8_45 + 1), mm_45)))))
  refine s_aload_n d_X2_finish_71 m2_ (s_getR cf d_X2_finish_72 fl_X2_9 (s_nk fun i9 => (s_iload d_X2_finish_75 m0_ (s_aload_n d_X2_finish_77 m3_ (s_getR cf d_X2_finish_78 fl_X2_66 ?_)))))
  refine s_nk fun i10 => (s_iload d_X2_finish_81 m0_ (s_ldN d_X2_finish_83 ka_21 rfl fun v11 => (s_stN d_X2_finish_84 ka_25 rfl fun m12 => (s_iinc (L' := [(8, aI (l8_45 + 1)), (9, aI v8), (0, aR (some (2, l0))), (2, aR (some (1, l2))), (3, aR (some (19, i3))), (4, aI (lenI m2 19 i3)), (5, aI l5_22), (7, aR (some (5, i6)))]) d_X2_finish_85 m1_ (b8 rfl) rfl (s_goto (tgt := 45) d_X2_finish_88 rfl ?_)))))
  exact s_sub (subc m0_ (subc m2_ (subc m3_ (subc m4_ (subc m5_ (subc m6_ (subc m7_ sub0))))))) (s_back (ih45 ((l8_45 + 1), m12)))
theorem d_X6_work_0 : dk me_X6_work 0 (.aload_n 0) 1 1 := And.intro (by decide +kernel) rfl
theorem d_X6_work_1 : dk me_X6_work 1 (.getfield 13) 3 4 := And.intro (by decide +kernel) rfl
theorem d_X6_work_4 : dk me_X6_work 4 (.ifnull 10) 3 7 := And.intro (by decide +kernel) rfl
theorem d_X6_work_7 : dk me_X6_work 7 (.aload_n 0) 1 8 := And.intro (by decide +kernel) rfl
theorem d_X6_work_8 : dk me_X6_work 8 (.getfield 7) 3 11 := And.intro (by decide +kernel) rfl
theorem d_X6_work_11 : dk me_X6_work 11 (.ifCond .ne 5) 3 14 := And.intro (by decide +kernel) rfl
theorem d_X6_work_14 : dk me_X6_work 14 (.iconst 0) 1 15 := And.intro (by decide +kernel) rfl
theorem d_X6_work_15 : dk me_X6_work 15 (.ireturn) 1 16 := And.intro (by decide +kernel) rfl
theorem d_X6_work_16 : dk me_X6_work 16 (.aload_n 0) 1 17 := And.intro (by decide +kernel) rfl
theorem d_X6_work_17 : dk me_X6_work 17 (.dup) 1 18 := And.intro (by decide +kernel) rfl
theorem d_X6_work_18 : dk me_X6_work 18 (.getfield 17) 3 21 := And.intro (by decide +kernel) rfl
theorem d_X6_work_21 : dk me_X6_work 21 (.iconst 1) 1 22 := And.intro (by decide +kernel) rfl
theorem d_X6_work_22 : dk me_X6_work 22 (.iadd) 1 23 := And.intro (by decide +kernel) rfl
theorem d_X6_work_23 : dk me_X6_work 23 (.putfield 17) 3 26 := And.intro (by decide +kernel) rfl
theorem d_X6_work_26 : dk me_X6_work 26 (.aload_n 0) 1 27 := And.intro (by decide +kernel) rfl
theorem d_X6_work_27 : dk me_X6_work 27 (.getfield 13) 3 30 := And.intro (by decide +kernel) rfl
theorem d_X6_work_30 : dk me_X6_work 30 (.getfield 20) 3 33 := And.intro (by decide +kernel) rfl
theorem d_X6_work_33 : dk me_X6_work 33 (.ifCond .ne 13) 3 36 := And.intro (by decide +kernel) rfl
theorem d_X6_work_36 : dk me_X6_work 36 (.aload_n 0) 1 37 := And.intro (by decide +kernel) rfl
theorem d_X6_work_37 : dk me_X6_work 37 (.getfield 13) 3 40 := And.intro (by decide +kernel) rfl
theorem d_X6_work_40 : dk me_X6_work 40 (.iconst 1) 1 41 := And.intro (by decide +kernel) rfl
theorem d_X6_work_41 : dk me_X6_work 41 (.putfield 20) 3 44 := And.intro (by decide +kernel) rfl
theorem d_X6_work_44 : dk me_X6_work 44 (.iconst 0) 1 45 := And.intro (by decide +kernel) rfl
theorem d_X6_work_45 : dk me_X6_work 45 (.ireturn) 1 46 := And.intro (by decide +kernel) rfl
theorem d_X6_work_46 : dk me_X6_work 46 (.aload_n 0) 1 47 := And.intro (by decide +kernel) rfl
theorem d_X6_work_47 : dk me_X6_work 47 (.getfield 7) 3 50 := And.intro (by decide +kernel) rfl
theorem d_X6_work_50 : dk me_X6_work 50 (.aload_n 0) 1 51 := And.intro (by decide +kernel) rfl
theorem d_X6_work_51 : dk me_X6_work 51 (.getfield 13) 3 54 := And.intro (by decide +kernel) rfl
theorem d_X6_work_54 : dk me_X6_work 54 (.getfield 26) 3 57 := And.intro (by decide +kernel) rfl
theorem d_X6_work_57 : dk me_X6_work 57 (.aload_n 0) 1 58 := And.intro (by decide +kernel) rfl
theorem d_X6_work_58 : dk me_X6_work 58 (.getfield 13) 3 61 := And.intro (by decide +kernel) rfl
theorem d_X6_work_61 : dk me_X6_work 61 (.getfield 29) 3 64 := And.intro (by decide +kernel) rfl
theorem d_X6_work_64 : dk me_X6_work 64 (.isub) 1 65 := And.intro (by decide +kernel) rfl
theorem d_X6_work_65 : dk me_X6_work 65 (.invokestatic 32) 3 68 := And.intro (by decide +kernel) rfl
theorem d_X6_work_68 : dk me_X6_work 68 (.istore_n 3) 1 69 := And.intro (by decide +kernel) rfl
theorem d_X6_work_69 : dk me_X6_work 69 (.aload_n 0) 1 70 := And.intro (by decide +kernel) rfl
theorem d_X6_work_70 : dk me_X6_work 70 (.getfield 13) 3 73 := And.intro (by decide +kernel) rfl
theorem d_X6_work_73 : dk me_X6_work 73 (.dup) 1 74 := And.intro (by decide +kernel) rfl
theorem d_X6_work_74 : dk me_X6_work 74 (.getfield 29) 3 77 := And.intro (by decide +kernel) rfl
theorem d_X6_work_77 : dk me_X6_work 77 (.iload_n 3) 1 78 := And.intro (by decide +kernel) rfl
theorem d_X6_work_78 : dk me_X6_work 78 (.iadd) 1 79 := And.intro (by decide +kernel) rfl
theorem d_X6_work_79 : dk me_X6_work 79 (.putfield 29) 3 82 := And.intro (by decide +kernel) rfl
theorem d_X6_work_82 : dk me_X6_work 82 (.aload_n 0) 1 83 := And.intro (by decide +kernel) rfl
theorem d_X6_work_83 : dk me_X6_work 83 (.dup) 1 84 := And.intro (by decide +kernel) rfl
theorem d_X6_work_84 : dk me_X6_work 84 (.getfield 38) 3 87 := And.intro (by decide +kernel) rfl
theorem d_X6_work_87 : dk me_X6_work 87 (.iload_n 3) 1 88 := And.intro (by decide +kernel) rfl
theorem d_X6_work_88 : dk me_X6_work 88 (.iadd) 1 89 := And.intro (by decide +kernel) rfl
theorem d_X6_work_89 : dk me_X6_work 89 (.putfield 38) 3 92 := And.intro (by decide +kernel) rfl
theorem d_X6_work_92 : dk me_X6_work 92 (.aload_n 0) 1 93 := And.intro (by decide +kernel) rfl
theorem d_X6_work_93 : dk me_X6_work 93 (.getfield 13) 3 96 := And.intro (by decide +kernel) rfl
theorem d_X6_work_96 : dk me_X6_work 96 (.getfield 29) 3 99 := And.intro (by decide +kernel) rfl
theorem d_X6_work_99 : dk me_X6_work 99 (.aload_n 0) 1 100 := And.intro (by decide +kernel) rfl
theorem d_X6_work_100 : dk me_X6_work 100 (.getfield 13) 3 103 := And.intro (by decide +kernel) rfl
theorem d_X6_work_103 : dk me_X6_work 103 (.getfield 26) 3 106 := And.intro (by decide +kernel) rfl
theorem d_X6_work_106 : dk me_X6_work 106 (.if_icmp .ge 5) 3 109 := And.intro (by decide +kernel) rfl
theorem d_X6_work_109 : dk me_X6_work 109 (.iconst 0) 1 110 := And.intro (by decide +kernel) rfl
theorem d_X6_work_110 : dk me_X6_work 110 (.ireturn) 1 111 := And.intro (by decide +kernel) rfl
theorem d_X6_work_111 : dk me_X6_work 111 (.aload_n 0) 1 112 := And.intro (by decide +kernel) rfl
theorem d_X6_work_112 : dk me_X6_work 112 (.getfield 13) 3 115 := And.intro (by decide +kernel) rfl
theorem d_X6_work_115 : dk me_X6_work 115 (.iload_n 1) 1 116 := And.intro (by decide +kernel) rfl
theorem d_X6_work_116 : dk me_X6_work 116 (.aload_n 2) 1 117 := And.intro (by decide +kernel) rfl
theorem d_X6_work_117 : dk me_X6_work 117 (.invokevirtual 41) 3 120 := And.intro (by decide +kernel) rfl
theorem d_X6_work_120 : dk me_X6_work 120 (.aload_n 0) 1 121 := And.intro (by decide +kernel) rfl
theorem d_X6_work_121 : dk me_X6_work 121 (.aconst_null) 1 122 := And.intro (by decide +kernel) rfl
theorem d_X6_work_122 : dk me_X6_work 122 (.putfield 13) 3 125 := And.intro (by decide +kernel) rfl
theorem d_X6_work_125 : dk me_X6_work 125 (.iconst 1) 1 126 := And.intro (by decide +kernel) rfl
theorem d_X6_work_126 : dk me_X6_work 126 (.ireturn) 1 127 := And.intro (by decide +kernel) rfl
theorem ms_X6_work {fx : FX} {m : MM} {l0 : Nat} {l1 : Int} {l2 : Nat} : MS fx me_X6_work [aR (some (6, l0)), aI l1, aR (some (1, l2))] m (f_X6_work m l0 l1 l2) := by
  refine ms_of rfl mf_X6_work (b8 rfl) ?_
  refine s_top ?_
  show Sim fx me_X6_work 0 [(0, aR (some (6, l0))), (1, aI l1), (2, aR (some (1, l2)))] [] m _
  unfold f_X6_work
  refine s_aload_n d_X6_work_0 m0_ (s_getR cf d_X6_work_1 fl_X6_13 (s_ifnull (tgt := 14) d_X6_work_4 rfl ?_ ?_))
  · exact s_iconst d_X6_work_14 n_0 (s_zretl d_X6_work_15 rfl (by decide) rfl)
  refine s_aload_n d_X6_work_7 m0_ (s_getN cf d_X6_work_8 fl_X6_7 (s_if_ne (tgt := 16) d_X6_work_11 rfl ?_ ?_))
  · refine s_aload_n d_X6_work_16 m0_ (s_dup d_X6_work_17 rfl (s_getN cf d_X6_work_18 fl_X6_17 (s_iconst d_X6_work_21 n_1 (s_iadd d_X6_work_22 rfl rfl (s_ck ?_)))))
    refine s_putN cf d_X6_work_23 fl_X6_17 (fun h => by cases h) fun m1 => (s_aload_n d_X6_work_26 m0_ (s_getR cf d_X6_work_27 fl_X6_13 (s_nk fun i2 => (s_getB cf d_X6_work_30 fl_X6_20 (s_if_ne (tgt := 46) d_X6_work_33 rfl ?_ ?_)))))
    · refine s_aload_n d_X6_work_46 m0_ (s_getN cf d_X6_work_47 fl_X6_7 (s_aload_n d_X6_work_50 m0_ (s_getR cf d_X6_work_51 fl_X6_13 (s_nk fun i3 => (s_getN cf d_X6_work_54 fl_X6_26 ?_)))))
      refine s_aload_n d_X6_work_57 m0_ (s_getR cf d_X6_work_58 fl_X6_13 (s_nk fun i4 => (s_getN cf d_X6_work_61 fl_X6_29 (s_isub d_X6_work_64 rfl rfl (s_ck ?_)))))
      refine s_min d_X6_work_65 w_1095 wm_min1 wm_3 wm_min2 (b8 rfl) (b8 rfl) (s_let fun v5 => (s_istore_n (L' := [(3, aI v5), (0, aR (some (6, l0))), (1, aI l1), (2, aR (some (1, l2)))]) d_X6_work_68 (b8 rfl) rfl (s_aload_n d_X6_work_69 m1_ (s_getR cf d_X6_work_70 fl_X6_13 (s_nk fun i6 => ?_)))))
      refine s_dup d_X6_work_73 rfl (s_getN cf d_X6_work_74 fl_X6_29 (s_iload_n d_X6_work_77 m0_ (s_iadd d_X6_work_78 rfl rfl (s_ck (s_putN cf d_X6_work_79 fl_X6_29 (fun h => by cases h) fun m7 => ?_)))))
      refine s_aload_n d_X6_work_82 m1_ (s_dup d_X6_work_83 rfl (s_getN cf d_X6_work_84 fl_X6_38 (s_iload_n d_X6_work_87 m0_ (s_iadd d_X6_work_88 rfl rfl (s_ck ?_)))))
      refine s_putN cf d_X6_work_89 fl_X6_38 (fun h => by cases h) fun m8 => (s_aload_n d_X6_work_92 m1_ (s_getR cf d_X6_work_93 fl_X6_13 (s_nk fun i9 => (s_getN cf d_X6_work_96 fl_X6_29 (s_aload_n d_X6_work_99 m1_ ?_)))))
      refine s_getR cf d_X6_work_100 fl_X6_13 (s_nk fun i10 => (s_getN cf d_X6_work_103 fl_X6_26 (s_icmp_ge (tgt := 111) d_X6_work_106 rfl ?_ ?_)))
      · refine s_aload_n d_X6_work_111 m1_ (s_getR cf d_X6_work_112 fl_X6_13 (s_nk fun i11 => (s_iload_n d_X6_work_115 m2_ (s_aload_n d_X6_work_116 m3_ (s_cV (r_V d_X6_work_117 k_X2_finish w_1098 rfl rfl) ms_X2_finish (b8 rfl) rfl rfl rfl (fun _ _ _ => rfl) (fun _ _ => Or.inl rfl) fun m12 => ?_)))))
        exact s_aload_n d_X6_work_120 m1_ (s_null d_X6_work_121 (s_putR cf d_X6_work_122 fl_X6_13 (fun h => by cases h) fun m14 => (s_iconst d_X6_work_125 n_1 (s_zretl d_X6_work_126 rfl (by decide) rfl))))
      exact s_iconst d_X6_work_109 n_0 (s_zretl d_X6_work_110 rfl (by decide) rfl)
    refine s_aload_n d_X6_work_36 m0_ (s_getR cf d_X6_work_37 fl_X6_13 (s_nk fun i15 => (s_iconst d_X6_work_40 n_1 (s_putBl cf d_X6_work_41 fl_X6_20 (fun h => by cases h) (by decide) fun m16 => (s_iconst d_X6_work_44 n_0 ?_)))))
    exact s_zretl d_X6_work_45 rfl (by decide) rfl
  exact s_iconst d_X6_work_14 n_0 (s_zretl d_X6_work_15 rfl (by decide) rfl)
theorem d_X11_workAnHour_0 : dk me_X11_workAnHour 0 (.aload_n 0) 1 1 := And.intro (by decide +kernel) rfl
theorem d_X11_workAnHour_1 : dk me_X11_workAnHour 1 (.getfield 317) 3 4 := And.intro (by decide +kernel) rfl
theorem d_X11_workAnHour_4 : dk me_X11_workAnHour 4 (.invokestatic 476) 3 7 := And.intro (by decide +kernel) rfl
theorem d_X11_workAnHour_7 : dk me_X11_workAnHour 7 (.ifCond .eq 5) 3 10 := And.intro (by decide +kernel) rfl
theorem d_X11_workAnHour_10 : dk me_X11_workAnHour 10 (.iconst 0) 1 11 := And.intro (by decide +kernel) rfl
theorem d_X11_workAnHour_11 : dk me_X11_workAnHour 11 (.ireturn) 1 12 := And.intro (by decide +kernel) rfl
theorem d_X11_workAnHour_12 : dk me_X11_workAnHour 12 (.iconst 0) 1 13 := And.intro (by decide +kernel) rfl
theorem d_X11_workAnHour_13 : dk me_X11_workAnHour 13 (.istore_n 1) 1 14 := And.intro (by decide +kernel) rfl
theorem d_X11_workAnHour_14 : dk me_X11_workAnHour 14 (.aload_n 0) 1 15 := And.intro (by decide +kernel) rfl
theorem d_X11_workAnHour_15 : dk me_X11_workAnHour 15 (.getfield 37) 3 18 := And.intro (by decide +kernel) rfl
theorem d_X11_workAnHour_18 : dk me_X11_workAnHour 18 (.astore_n 2) 1 19 := And.intro (by decide +kernel) rfl
theorem d_X11_workAnHour_19 : dk me_X11_workAnHour 19 (.aload_n 2) 1 20 := And.intro (by decide +kernel) rfl
theorem d_X11_workAnHour_20 : dk me_X11_workAnHour 20 (.arraylength) 1 21 := And.intro (by decide +kernel) rfl
theorem d_X11_workAnHour_21 : dk me_X11_workAnHour 21 (.istore_n 3) 1 22 := And.intro (by decide +kernel) rfl
theorem d_X11_workAnHour_22 : dk me_X11_workAnHour 22 (.iconst 0) 1 23 := And.intro (by decide +kernel) rfl
theorem d_X11_workAnHour_23 : dk me_X11_workAnHour 23 (.istore 4) 2 25 := And.intro (by decide +kernel) rfl
theorem d_X11_workAnHour_25 : dk me_X11_workAnHour 25 (.iload 4) 2 27 := And.intro (by decide +kernel) rfl
theorem d_X11_workAnHour_27 : dk me_X11_workAnHour 27 (.iload_n 3) 1 28 := And.intro (by decide +kernel) rfl
theorem d_X11_workAnHour_28 : dk me_X11_workAnHour 28 (.if_icmp .ge 34) 3 31 := And.intro (by decide +kernel) rfl
theorem d_X11_workAnHour_31 : dk me_X11_workAnHour 31 (.aload_n 2) 1 32 := And.intro (by decide +kernel) rfl
theorem d_X11_workAnHour_32 : dk me_X11_workAnHour 32 (.iload 4) 2 34 := And.intro (by decide +kernel) rfl
theorem d_X11_workAnHour_34 : dk me_X11_workAnHour 34 (.aaload) 1 35 := And.intro (by decide +kernel) rfl
theorem d_X11_workAnHour_35 : dk me_X11_workAnHour 35 (.astore 5) 2 37 := And.intro (by decide +kernel) rfl
theorem d_X11_workAnHour_37 : dk me_X11_workAnHour 37 (.aload 5) 2 39 := And.intro (by decide +kernel) rfl
theorem d_X11_workAnHour_39 : dk me_X11_workAnHour 39 (.aload_n 0) 1 40 := And.intro (by decide +kernel) rfl
theorem d_X11_workAnHour_40 : dk me_X11_workAnHour 40 (.getfield 317) 3 43 := And.intro (by decide +kernel) rfl
theorem d_X11_workAnHour_43 : dk me_X11_workAnHour 43 (.aload_n 0) 1 44 := And.intro (by decide +kernel) rfl
theorem d_X11_workAnHour_44 : dk me_X11_workAnHour 44 (.getfield 19) 3 47 := And.intro (by decide +kernel) rfl
theorem d_X11_workAnHour_47 : dk me_X11_workAnHour 47 (.invokevirtual 479) 3 50 := And.intro (by decide +kernel) rfl
theorem d_X11_workAnHour_50 : dk me_X11_workAnHour 50 (.ifCond .eq 6) 3 53 := And.intro (by decide +kernel) rfl
theorem d_X11_workAnHour_53 : dk me_X11_workAnHour 53 (.iinc 1 1) 3 56 := And.intro (by decide +kernel) rfl
theorem d_X11_workAnHour_56 : dk me_X11_workAnHour 56 (.iinc 4 1) 3 59 := And.intro (by decide +kernel) rfl
theorem d_X11_workAnHour_59 : dk me_X11_workAnHour 59 (.goto (-34)) 3 62 := And.intro (by decide +kernel) rfl
theorem d_X11_workAnHour_62 : dk me_X11_workAnHour 62 (.iload_n 1) 1 63 := And.intro (by decide +kernel) rfl
theorem d_X11_workAnHour_63 : dk me_X11_workAnHour 63 (.ireturn) 1 64 := And.intro (by decide +kernel) rfl
theorem ms_X11_workAnHour {fx : FX} {m : MM} {l0 : Nat} : MS fx me_X11_workAnHour [aR (some (11, l0))] m (f_X11_workAnHour m l0) := by
  refine ms_of rfl mf_X11_workAnHour (b8 rfl) ?_
  refine s_top ?_
  show Sim fx me_X11_workAnHour 0 [(0, aR (some (11, l0)))] [] m _
  unfold f_X11_workAnHour
  have hj_X11_workAnHour_0_62 : ∀ (m_62 : MM) (l1_62 : Int), Sim fx me_X11_workAnHour 62 [(1, aI l1_62)] [] m_62 ((j_X11_workAnHour_0_62 m_62 l1_62).bind (fun z => some z)) := by
    intro m_62 l1_62
    unfold j_X11_workAnHour_0_62
    exact s_iload_n d_X11_workAnHour_62 m0_ (s_iret d_X11_workAnHour_63 rfl rfl)
  refine s_aload_n d_X11_workAnHour_0 m0_ (s_getN cf d_X11_workAnHour_1 fl_X11_317 (s_pI (r_S d_X11_workAnHour_4 k_X11_isHoliday w_1088 rfl rfl) ms_X11_isHoliday (b8 rfl) rfl rfl rfl fun v1 => (s_if_eq (tgt := 12) d_X11_workAnHour_7 rfl ?_ ?_)))
  · refine s_iconst d_X11_workAnHour_12 n_0 (s_istore_n (L' := [(1, aI 0), (0, aR (some (11, l0)))]) d_X11_workAnHour_13 (b8 rfl) rfl (s_aload_n d_X11_workAnHour_14 m1_ (s_getR cf d_X11_workAnHour_15 fl_X11_37 (s_nk fun i2 => (s_astore_n (L' := [(2, aR (some (57, i2))), (1, aI 0), (0, aR (some (11, l0)))]) d_X11_workAnHour_18 (b8 rfl) rfl ?_)))))
    refine s_aload_n d_X11_workAnHour_19 m0_ (s_len d_X11_workAnHour_20 ka_57 ta_57 (s_istore_n (L' := [(3, aI (lenI m 57 i2)), (2, aR (some (57, i2))), (1, aI 0), (0, aR (some (11, l0)))]) d_X11_workAnHour_21 (b8 rfl) rfl (s_iconst d_X11_workAnHour_22 n_0 (s_istore (L' := [(4, aI 0), (3, aI (lenI m 57 i2)), (2, aR (some (57, i2))), (1, aI 0), (0, aR (some (11, l0)))]) d_X11_workAnHour_23 (b8 rfl) rfl (s_sub (subc m3_ (subc m0_ (subc m4_ (subc m2_ (subc m1_ sub0))))) (s_lp2 (fun s => [(1, aI (s.1)), (4, aI (s.2.1)), (0, aR (some (11, l0))), (2, aR (some (57, i2))), (3, aI (lenI m 57 i2))]) (fun s => s.2.2) (0, 0, m) fun k25 hx25 s ih0 => ?_))))))
    obtain ⟨l1_25, l4_25, mm_25⟩ := s
    have ih25 := ih0
    clear ih0
    try dsimp only
    unfold b_X11_workAnHour_25
    refine s_iload d_X11_workAnHour_25 m1_ (s_iload_n d_X11_workAnHour_27 m4_ (s_icmp_ge (tgt := 62) d_X11_workAnHour_28 rfl ?_ ?_))
    · exact s_exit (hx25 _) (s_sub (subc m0_ sub0) (hj_X11_workAnHour_0_62 mm_25 l1_25))
    refine s_aload_n d_X11_workAnHour_31 m3_ (s_iload d_X11_workAnHour_32 m1_ (s_ldR d_X11_workAnHour_34 ka_57 ta_57 rfl rfl fun r3 => (s_nk fun i4 => (s_astore (L' := [(5, aR (some (6, i4))), (1, aI l1_25), (4, aI l4_25), (0, aR (some (11, l0))), (2, aR (some (57, i2))), (3, aI (lenI m 57 i2))]) d_X11_workAnHour_35 (b8 rfl) rfl (s_aload d_X11_workAnHour_37 m0_ ?_)))))
    refine s_aload_n d_X11_workAnHour_39 m3_ (s_getN cf d_X11_workAnHour_40 fl_X11_317 (s_aload_n d_X11_workAnHour_43 m3_ (s_getR cf d_X11_workAnHour_44 fl_X11_19 (s_nk fun i5 => (s_cI (r_V d_X11_workAnHour_47 k_X6_work w_1091 rfl rfl) ms_X6_work (b8 rfl) rfl rfl rfl (fun _ _ _ => rfl) (fun _ _ => Or.inl rfl) fun v7 m6 => ?_)))))
    refine s_if_eq (tgt := 56) d_X11_workAnHour_50 rfl ?_ ?_
    · exact s_iinc (L' := [(4, aI (l4_25 + 1)), (5, aR (some (6, i4))), (1, aI l1_25), (0, aR (some (11, l0))), (2, aR (some (57, i2))), (3, aI (lenI m 57 i2))]) d_X11_workAnHour_56 m2_ (b8 rfl) rfl (s_goto (tgt := 25) d_X11_workAnHour_59 rfl (s_sub (subc m2_ (subc m0_ (subc m3_ (subc m4_ (subc m5_ sub0))))) (s_back (ih25 (l1_25, (l4_25 + 1), m6)))))
    exact s_iinc (L' := [(1, aI (l1_25 + 1)), (5, aR (some (6, i4))), (4, aI l4_25), (0, aR (some (11, l0))), (2, aR (some (57, i2))), (3, aI (lenI m 57 i2))]) d_X11_workAnHour_53 m1_ (b8 rfl) rfl (s_iinc (L' := [(4, aI (l4_25 + 1)), (1, aI (l1_25 + 1)), (5, aR (some (6, i4))), (0, aR (some (11, l0))), (2, aR (some (57, i2))), (3, aI (lenI m 57 i2))]) d_X11_workAnHour_56 m2_ (b8 rfl) rfl (s_goto (tgt := 25) d_X11_workAnHour_59 rfl (s_sub (subc m1_ (subc m0_ (subc m3_ (subc m4_ (subc m5_ sub0))))) (s_back (ih25 ((l1_25 + 1), (l4_25 + 1), m6))))))
  exact s_iconst d_X11_workAnHour_10 n_0 (s_iret d_X11_workAnHour_11 rfl rfl)
theorem d_X11_pass_0 : dk me_X11_pass 0 (.iload_n 1) 1 1 := And.intro (by decide +kernel) rfl
theorem d_X11_pass_1 : dk me_X11_pass 1 (.iconst 1) 1 2 := And.intro (by decide +kernel) rfl
theorem d_X11_pass_2 : dk me_X11_pass 2 (.if_icmp .lt 13) 3 5 := And.intro (by decide +kernel) rfl
theorem d_X11_pass_5 : dk me_X11_pass 5 (.iload_n 1) 1 6 := And.intro (by decide +kernel) rfl
theorem d_X11_pass_6 : dk me_X11_pass 6 (.bipush 70) 2 8 := And.intro (by decide +kernel) rfl
theorem d_X11_pass_8 : dk me_X11_pass 8 (.if_icmp .gt 7) 3 11 := And.intro (by decide +kernel) rfl
theorem d_X11_pass_11 : dk me_X11_pass 11 (.iconst 1) 1 12 := And.intro (by decide +kernel) rfl
theorem d_X11_pass_12 : dk me_X11_pass 12 (.goto 4) 3 15 := And.intro (by decide +kernel) rfl
theorem d_X11_pass_15 : dk me_X11_pass 15 (.iconst 0) 1 16 := And.intro (by decide +kernel) rfl
theorem d_X11_pass_16 : dk me_X11_pass 16 (.invokestatic 53) 3 19 := And.intro (by decide +kernel) rfl
theorem d_X11_pass_19 : dk me_X11_pass 19 (.aload_n 0) 1 20 := And.intro (by decide +kernel) rfl
theorem d_X11_pass_20 : dk me_X11_pass 20 (.getfield 317) 3 23 := And.intro (by decide +kernel) rfl
theorem d_X11_pass_23 : dk me_X11_pass 23 (.iload_n 1) 1 24 := And.intro (by decide +kernel) rfl
theorem d_X11_pass_24 : dk me_X11_pass 24 (.iadd) 1 25 := And.intro (by decide +kernel) rfl
theorem d_X11_pass_25 : dk me_X11_pass 25 (.sipush 5000) 3 28 := And.intro (by decide +kernel) rfl
theorem d_X11_pass_28 : dk me_X11_pass 28 (.if_icmp .gt 7) 3 31 := And.intro (by decide +kernel) rfl
theorem d_X11_pass_31 : dk me_X11_pass 31 (.iconst 1) 1 32 := And.intro (by decide +kernel) rfl
theorem d_X11_pass_32 : dk me_X11_pass 32 (.goto 4) 3 35 := And.intro (by decide +kernel) rfl
theorem d_X11_pass_35 : dk me_X11_pass 35 (.iconst 0) 1 36 := And.intro (by decide +kernel) rfl
theorem d_X11_pass_36 : dk me_X11_pass 36 (.invokestatic 69) 3 39 := And.intro (by decide +kernel) rfl
theorem d_X11_pass_39 : dk me_X11_pass 39 (.iconst 0) 1 40 := And.intro (by decide +kernel) rfl
theorem d_X11_pass_40 : dk me_X11_pass 40 (.istore_n 2) 1 41 := And.intro (by decide +kernel) rfl
theorem d_X11_pass_41 : dk me_X11_pass 41 (.iconst 0) 1 42 := And.intro (by decide +kernel) rfl
theorem d_X11_pass_42 : dk me_X11_pass 42 (.istore_n 3) 1 43 := And.intro (by decide +kernel) rfl
theorem d_X11_pass_43 : dk me_X11_pass 43 (.iload_n 3) 1 44 := And.intro (by decide +kernel) rfl
theorem d_X11_pass_44 : dk me_X11_pass 44 (.iload_n 1) 1 45 := And.intro (by decide +kernel) rfl
theorem d_X11_pass_45 : dk me_X11_pass 45 (.if_icmp .ge 26) 3 48 := And.intro (by decide +kernel) rfl
theorem d_X11_pass_48 : dk me_X11_pass 48 (.iload_n 2) 1 49 := And.intro (by decide +kernel) rfl
theorem d_X11_pass_49 : dk me_X11_pass 49 (.aload_n 0) 1 50 := And.intro (by decide +kernel) rfl
theorem d_X11_pass_50 : dk me_X11_pass 50 (.invokevirtual 326) 3 53 := And.intro (by decide +kernel) rfl
theorem d_X11_pass_53 : dk me_X11_pass 53 (.iadd) 1 54 := And.intro (by decide +kernel) rfl
theorem d_X11_pass_54 : dk me_X11_pass 54 (.istore_n 2) 1 55 := And.intro (by decide +kernel) rfl
theorem d_X11_pass_55 : dk me_X11_pass 55 (.aload_n 0) 1 56 := And.intro (by decide +kernel) rfl
theorem d_X11_pass_56 : dk me_X11_pass 56 (.dup) 1 57 := And.intro (by decide +kernel) rfl
theorem d_X11_pass_57 : dk me_X11_pass 57 (.getfield 317) 3 60 := And.intro (by decide +kernel) rfl
theorem d_X11_pass_60 : dk me_X11_pass 60 (.iconst 1) 1 61 := And.intro (by decide +kernel) rfl
theorem d_X11_pass_61 : dk me_X11_pass 61 (.iadd) 1 62 := And.intro (by decide +kernel) rfl
theorem d_X11_pass_62 : dk me_X11_pass 62 (.putfield 317) 3 65 := And.intro (by decide +kernel) rfl
theorem d_X11_pass_65 : dk me_X11_pass 65 (.iinc 3 1) 3 68 := And.intro (by decide +kernel) rfl
theorem d_X11_pass_68 : dk me_X11_pass 68 (.goto (-25)) 3 71 := And.intro (by decide +kernel) rfl
theorem d_X11_pass_71 : dk me_X11_pass 71 (.iload_n 2) 1 72 := And.intro (by decide +kernel) rfl
theorem d_X11_pass_72 : dk me_X11_pass 72 (.ireturn) 1 73 := And.intro (by decide +kernel) rfl
theorem ms_X11_pass {fx : FX} {m : MM} {l0 : Nat} {l1 : Int} : MS fx me_X11_pass [aR (some (11, l0)), aI l1] m (f_X11_pass m l0 l1) := by
  refine ms_of rfl mf_X11_pass (b8 rfl) ?_
  refine s_top ?_
  show Sim fx me_X11_pass 0 [(0, aR (some (11, l0))), (1, aI l1)] [] m _
  unfold f_X11_pass
  have hj_X11_pass_0_71 : ∀ (m_71 : MM) (l2_71 : Int), Sim fx me_X11_pass 71 [(2, aI l2_71)] [] m_71 ((j_X11_pass_0_71 m_71 l2_71).bind (fun z => some z)) := by
    intro m_71 l2_71
    unfold j_X11_pass_0_71
    exact s_iload_n d_X11_pass_71 m0_ (s_iret d_X11_pass_72 rfl rfl)
  have hj_X11_pass_0_36 : ∀ (m_36 : MM) (l0_36 : Nat) (l1_36 : Int) (s0_36 : Int), Sim fx me_X11_pass 36 [(0, aR (some (11, l0_36))), (1, aI l1_36)] [aI s0_36] m_36 ((j_X11_pass_0_36 m_36 l0_36 l1_36 s0_36).bind (fun z => some z)) := by
    intro m_36 l0_36 l1_36 s0_36
    unfold j_X11_pass_0_36
    refine s_cV (r_S d_X11_pass_36 k_X11_requireState w_363 rfl rfl) ms_X11_requireState (b8 rfl) rfl rfl rfl (fun h => by cases h) (fun _ _ => Or.inr rfl) fun m3 => (s_iconst d_X11_pass_39 n_0 (s_istore_n (L' := [(2, aI 0), (0, aR (some (11, l0_36))), (1, aI l1_36)]) d_X11_pass_40 (b8 rfl) rfl (s_iconst d_X11_pass_41 n_0 (s_istore_n (L' := [(3, aI 0), (2, aI 0), (0, aR (some (11, l0_36))), (1, aI l1_36)]) d_X11_pass_42 (b8 rfl) rfl (s_sub (subc m1_ (subc m0_ (subc m2_ (subc m3_ sub0)))) (s_lp2 (fun s => [(2, aI (s.1)), (3, aI (s.2.1)), (0, aR (some (11, l0_36))), (1, aI l1_36)]) (fun s => s.2.2) (0, 0, m3) fun k43 hx43 s ih0 => ?_))))))
    obtain ⟨l2_43, l3_43, mm_43⟩ := s
    have ih43 := ih0
    clear ih0
    try dsimp only
    unfold b_X11_pass_43
    refine s_iload_n d_X11_pass_43 m1_ (s_iload_n d_X11_pass_44 m3_ (s_icmp_ge (tgt := 71) d_X11_pass_45 rfl ?_ ?_))
    · exact s_exit (hx43 _) (s_sub (subc m0_ sub0) (hj_X11_pass_0_71 mm_43 l2_43))
    refine s_iload_n d_X11_pass_48 m0_ (s_aload_n d_X11_pass_49 m2_ (s_cI (r_V d_X11_pass_50 k_X11_workAnHour w_1084 rfl rfl) ms_X11_workAnHour (b8 rfl) rfl rfl rfl (fun _ _ _ => rfl) (fun _ _ => Or.inl rfl) fun v6 m5 => (s_iadd d_X11_pass_53 rfl rfl (s_ck (s_istore_n (L' := [(2, aI (l2_43 + v6)), (3, aI l3_43), (0, aR (some (11, l0_36))), (1, aI l1_36)]) d_X11_pass_54 (b8 rfl) rfl ?_)))))
    refine s_aload_n d_X11_pass_55 m2_ (s_dup d_X11_pass_56 rfl (s_getN cf d_X11_pass_57 fl_X11_317 (s_iconst d_X11_pass_60 n_1 (s_iadd d_X11_pass_61 rfl rfl (s_ck ?_)))))
    exact s_putN cf d_X11_pass_62 fl_X11_317 (fun h => by cases h) fun m7 => (s_iinc (L' := [(3, aI (l3_43 + 1)), (2, aI (l2_43 + v6)), (0, aR (some (11, l0_36))), (1, aI l1_36)]) d_X11_pass_65 m1_ (b8 rfl) rfl (s_goto (tgt := 43) d_X11_pass_68 rfl (s_sub (subc m1_ (subc m0_ (subc m2_ (subc m3_ sub0)))) (s_back (ih43 ((l2_43 + v6), (l3_43 + 1), m7))))))
  have hj_X11_pass_0_16 : ∀ (m_16 : MM) (l0_16 : Nat) (l1_16 : Int) (s0_16 : Int), Sim fx me_X11_pass 16 [(0, aR (some (11, l0_16))), (1, aI l1_16)] [aI s0_16] m_16 ((j_X11_pass_0_16 m_16 l0_16 l1_16 s0_16).bind (fun z => some z)) := by
    intro m_16 l0_16 l1_16 s0_16
    unfold j_X11_pass_0_16
    refine s_cV (r_S d_X11_pass_16 k_X11_requireArgument w_284 rfl rfl) ms_X11_requireArgument (b8 rfl) rfl rfl rfl (fun h => by cases h) (fun _ _ => Or.inr rfl) fun m1 => (s_aload_n d_X11_pass_19 m0_ (s_getN cf d_X11_pass_20 fl_X11_317 (s_iload_n d_X11_pass_23 m1_ (s_iadd d_X11_pass_24 rfl rfl (s_sipush d_X11_pass_25 n_5000 rfl ?_)))))
    refine s_ck1 (s_icmp_gt (tgt := 35) d_X11_pass_28 rfl ?_ ?_)
    · exact s_iconst d_X11_pass_35 n_0 (s_sub (subc m0_ (subc m1_ sub0)) (hj_X11_pass_0_36 m1 l0_16 l1_16 0))
    exact s_iconst d_X11_pass_31 n_1 (s_goto (tgt := 36) d_X11_pass_32 rfl (s_sub (subc m0_ (subc m1_ sub0)) (hj_X11_pass_0_36 m1 l0_16 l1_16 1)))
  have hj_X11_pass_0_15 : ∀ (m_15 : MM) (l0_15 : Nat) (l1_15 : Int), Sim fx me_X11_pass 15 [(0, aR (some (11, l0_15))), (1, aI l1_15)] [] m_15 ((j_X11_pass_0_15 m_15 l0_15 l1_15).bind (fun z => some z)) := by
    intro m_15 l0_15 l1_15
    unfold j_X11_pass_0_15
    exact s_iconst d_X11_pass_15 n_0 (s_sub (subc m0_ (subc m1_ sub0)) (hj_X11_pass_0_16 m_15 l0_15 l1_15 0))
  refine s_iload_n d_X11_pass_0 m1_ (s_iconst d_X11_pass_1 n_1 (s_icmp_lt (tgt := 15) d_X11_pass_2 rfl ?_ ?_))
  · exact s_sub (subc m0_ (subc m1_ sub0)) (hj_X11_pass_0_15 m l0 l1)
  refine s_iload_n d_X11_pass_5 m1_ (s_bipush d_X11_pass_6 n_70 rfl (s_icmp_gt (tgt := 15) d_X11_pass_8 rfl ?_ ?_))
  · exact s_sub (subc m0_ (subc m1_ sub0)) (hj_X11_pass_0_15 m l0 l1)
  exact s_iconst d_X11_pass_11 n_1 (s_goto (tgt := 16) d_X11_pass_12 rfl (s_sub (subc m0_ (subc m1_ sub0)) (hj_X11_pass_0_16 m l0 l1 1)))
theorem d_L_pass_0 : dk me_L_pass 0 (.aload_n 2) 1 1 := And.intro (by decide +kernel) rfl
theorem d_L_pass_1 : dk me_L_pass 1 (.iconst 0) 1 2 := And.intro (by decide +kernel) rfl
theorem d_L_pass_2 : dk me_L_pass 2 (.aload_n 0) 1 3 := And.intro (by decide +kernel) rfl
theorem d_L_pass_3 : dk me_L_pass 3 (.iload_n 1) 1 4 := And.intro (by decide +kernel) rfl
theorem d_L_pass_4 : dk me_L_pass 4 (.invokevirtual 77) 3 7 := And.intro (by decide +kernel) rfl
theorem d_L_pass_7 : dk me_L_pass 7 (.i2l) 1 8 := And.intro (by decide +kernel) rfl
theorem d_L_pass_8 : dk me_L_pass 8 (.lastore) 1 9 := And.intro (by decide +kernel) rfl
theorem d_L_pass_9 : dk me_L_pass 9 (.goto 9) 3 12 := And.intro (by decide +kernel) rfl
theorem d_L_pass_12 : dk me_L_pass 12 (.astore_n 3) 1 13 := And.intro (by decide +kernel) rfl
theorem d_L_pass_13 : dk me_L_pass 13 (.iconst 1) 1 14 := And.intro (by decide +kernel) rfl
theorem d_L_pass_14 : dk me_L_pass 14 (.ireturn) 1 15 := And.intro (by decide +kernel) rfl
theorem d_L_pass_15 : dk me_L_pass 15 (.astore_n 3) 1 16 := And.intro (by decide +kernel) rfl
theorem d_L_pass_16 : dk me_L_pass 16 (.iconst 2) 1 17 := And.intro (by decide +kernel) rfl
theorem d_L_pass_17 : dk me_L_pass 17 (.ireturn) 1 18 := And.intro (by decide +kernel) rfl
theorem d_L_pass_18 : dk me_L_pass 18 (.iconst 0) 1 19 := And.intro (by decide +kernel) rfl
theorem d_L_pass_19 : dk me_L_pass 19 (.ireturn) 1 20 := And.intro (by decide +kernel) rfl
theorem ms_L_pass {fx : FX} {m : MM} {l0 : Nat} {l1 : Int} {l2 : Nat} : MS fx me_L_pass [aR (some (11, l0)), aI l1, aR (some (131, l2))] m (f_L_pass m l0 l1 l2) := by
  refine ms_ofH rfl mf_L_pass (b8 rfl) ?_
  refine s_top ?_
  show Sim fx me_L_pass 0 [(0, aR (some (11, l0))), (1, aI l1), (2, aR (some (131, l2)))] [] m _
  unfold f_L_pass
  refine s_aload_n d_L_pass_0 m2_ (s_iconst d_L_pass_1 n_0 (s_aload_n d_L_pass_2 m0_ (s_iload_n d_L_pass_3 m1_ (s_cIC (r_V d_L_pass_4 k_X11_pass w_1080 rfl rfl) ms_X11_pass (b8 rfl) rfl rfl ?_ ?_ ?_ fun v2 m1 => ?_))))
  · exact fun _ => Or.inl rfl
  · refine fun mx => Or.inr ⟨12, ⟨rfl, by decide, 1, wx_13_1, Or.inl ⟨rfl, rfl⟩⟩, fun qx => ?_⟩
    exact s_astoreV_n (L' := [(3, aV (.ref qx)), (0, aR (some (11, l0))), (1, aI l1), (2, aR (some (131, l2)))]) d_L_pass_12 (b8 rfl) rfl (s_iconst d_L_pass_13 n_1 (s_iret d_L_pass_14 rfl rfl))
  · refine fun mx => Or.inr ⟨15, ⟨rfl, by decide, 1, wx_13_1, Or.inr ⟨by decide, ⟨rfl, by decide, 2, wx_15_2, Or.inl ⟨rfl, rfl⟩⟩⟩⟩, fun qx => ?_⟩
    exact s_astoreV_n (L' := [(3, aV (.ref qx)), (0, aR (some (11, l0))), (1, aI l1), (2, aR (some (131, l2)))]) d_L_pass_15 (b8 rfl) rfl (s_iconst d_L_pass_16 n_2 (s_iret d_L_pass_17 rfl rfl))
  exact s_i2l d_L_pass_7 (s_stL d_L_pass_8 ka_131 rfl fun m3 => (s_goto (tgt := 18) d_L_pass_9 rfl (s_iconst d_L_pass_18 n_0 (s_iret d_L_pass_19 rfl rfl))))
theorem d_X1_has_0 : dk me_X1_has 0 (.iload_n 1) 1 1 := And.intro (by decide +kernel) rfl
theorem d_X1_has_1 : dk me_X1_has 1 (.ifCond .lt 15) 3 4 := And.intro (by decide +kernel) rfl
theorem d_X1_has_4 : dk me_X1_has 4 (.iload_n 1) 1 5 := And.intro (by decide +kernel) rfl
theorem d_X1_has_5 : dk me_X1_has 5 (.aload_n 0) 1 6 := And.intro (by decide +kernel) rfl
theorem d_X1_has_6 : dk me_X1_has 6 (.getfield 27) 3 9 := And.intro (by decide +kernel) rfl
theorem d_X1_has_9 : dk me_X1_has 9 (.if_icmp .ge 7) 3 12 := And.intro (by decide +kernel) rfl
theorem d_X1_has_12 : dk me_X1_has 12 (.iconst 1) 1 13 := And.intro (by decide +kernel) rfl
theorem d_X1_has_13 : dk me_X1_has 13 (.goto 4) 3 16 := And.intro (by decide +kernel) rfl
theorem d_X1_has_16 : dk me_X1_has 16 (.iconst 0) 1 17 := And.intro (by decide +kernel) rfl
theorem d_X1_has_17 : dk me_X1_has 17 (.ireturn) 1 18 := And.intro (by decide +kernel) rfl
theorem ms_X1_has {fx : FX} {m : MM} {l0 : Nat} {l1 : Int} : MS fx me_X1_has [aR (some (1, l0)), aI l1] m ((f_X1_has m l0 l1).bind fun v => some (.inl (some (aI v)), m)) := by
  refine ms_of rfl mf_X1_has (b8 rfl) ?_
  show Sim fx me_X1_has 0 [(0, aR (some (1, l0))), (1, aI l1)] [] m _
  unfold f_X1_has
  refine s_iload_n d_X1_has_0 m1_ (s_if_lt (tgt := 16) d_X1_has_1 rfl ?_ ?_)
  · exact s_iconst d_X1_has_16 n_0 (s_zretl d_X1_has_17 rfl (by decide) rfl)
  refine s_iload_n d_X1_has_4 m1_ (s_aload_n d_X1_has_5 m0_ (s_getN cf d_X1_has_6 fl_X1_27 (s_icmp_ge (tgt := 16) d_X1_has_9 rfl ?_ ?_)))
  · exact s_iconst d_X1_has_16 n_0 (s_zretl d_X1_has_17 rfl (by decide) rfl)
  exact s_iconst d_X1_has_12 n_1 (s_goto (tgt := 17) d_X1_has_13 rfl (s_zretl d_X1_has_17 rfl (by decide) rfl))
theorem d_X11_piece_0 : dk me_X11_piece 0 (.aload_n 0) 1 1 := And.intro (by decide +kernel) rfl
theorem d_X11_piece_1 : dk me_X11_piece 1 (.getfield 19) 3 4 := And.intro (by decide +kernel) rfl
theorem d_X11_piece_4 : dk me_X11_piece 4 (.iload_n 1) 1 5 := And.intro (by decide +kernel) rfl
theorem d_X11_piece_5 : dk me_X11_piece 5 (.invokevirtual 112) 3 8 := And.intro (by decide +kernel) rfl
theorem d_X11_piece_8 : dk me_X11_piece 8 (.invokestatic 115) 3 11 := And.intro (by decide +kernel) rfl
theorem d_X11_piece_11 : dk me_X11_piece 11 (.iload_n 2) 1 12 := And.intro (by decide +kernel) rfl
theorem d_X11_piece_12 : dk me_X11_piece 12 (.ifCond .lt 12) 3 15 := And.intro (by decide +kernel) rfl
theorem d_X11_piece_15 : dk me_X11_piece 15 (.iload_n 2) 1 16 := And.intro (by decide +kernel) rfl
theorem d_X11_piece_16 : dk me_X11_piece 16 (.iconst 2) 1 17 := And.intro (by decide +kernel) rfl
theorem d_X11_piece_17 : dk me_X11_piece 17 (.if_icmp .gt 7) 3 20 := And.intro (by decide +kernel) rfl
theorem d_X11_piece_20 : dk me_X11_piece 20 (.iconst 1) 1 21 := And.intro (by decide +kernel) rfl
theorem d_X11_piece_21 : dk me_X11_piece 21 (.goto 4) 3 24 := And.intro (by decide +kernel) rfl
theorem d_X11_piece_24 : dk me_X11_piece 24 (.iconst 0) 1 25 := And.intro (by decide +kernel) rfl
theorem d_X11_piece_25 : dk me_X11_piece 25 (.invokestatic 53) 3 28 := And.intro (by decide +kernel) rfl
theorem d_X11_piece_28 : dk me_X11_piece 28 (.iload_n 2) 1 29 := And.intro (by decide +kernel) rfl
theorem d_X11_piece_29 : dk me_X11_piece 29 (.lookupswitch 47 #[(0, 27), (1, 37)]) 27 56 := And.intro (by decide +kernel) rfl
theorem d_X11_piece_56 : dk me_X11_piece 56 (.aload_n 0) 1 57 := And.intro (by decide +kernel) rfl
theorem d_X11_piece_57 : dk me_X11_piece 57 (.getfield 19) 3 60 := And.intro (by decide +kernel) rfl
theorem d_X11_piece_60 : dk me_X11_piece 60 (.getfield 121) 3 63 := And.intro (by decide +kernel) rfl
theorem d_X11_piece_63 : dk me_X11_piece 63 (.iload_n 1) 1 64 := And.intro (by decide +kernel) rfl
theorem d_X11_piece_64 : dk me_X11_piece 64 (.iaload) 1 65 := And.intro (by decide +kernel) rfl
theorem d_X11_piece_65 : dk me_X11_piece 65 (.ireturn) 1 66 := And.intro (by decide +kernel) rfl
theorem d_X11_piece_66 : dk me_X11_piece 66 (.aload_n 0) 1 67 := And.intro (by decide +kernel) rfl
theorem d_X11_piece_67 : dk me_X11_piece 67 (.getfield 19) 3 70 := And.intro (by decide +kernel) rfl
theorem d_X11_piece_70 : dk me_X11_piece 70 (.getfield 118) 3 73 := And.intro (by decide +kernel) rfl
theorem d_X11_piece_73 : dk me_X11_piece 73 (.iload_n 1) 1 74 := And.intro (by decide +kernel) rfl
theorem d_X11_piece_74 : dk me_X11_piece 74 (.iaload) 1 75 := And.intro (by decide +kernel) rfl
theorem d_X11_piece_75 : dk me_X11_piece 75 (.ireturn) 1 76 := And.intro (by decide +kernel) rfl
theorem d_X11_piece_76 : dk me_X11_piece 76 (.aload_n 0) 1 77 := And.intro (by decide +kernel) rfl
theorem d_X11_piece_77 : dk me_X11_piece 77 (.getfield 19) 3 80 := And.intro (by decide +kernel) rfl
theorem d_X11_piece_80 : dk me_X11_piece 80 (.getfield 124) 3 83 := And.intro (by decide +kernel) rfl
theorem d_X11_piece_83 : dk me_X11_piece 83 (.iload_n 1) 1 84 := And.intro (by decide +kernel) rfl
theorem d_X11_piece_84 : dk me_X11_piece 84 (.iaload) 1 85 := And.intro (by decide +kernel) rfl
theorem d_X11_piece_85 : dk me_X11_piece 85 (.ireturn) 1 86 := And.intro (by decide +kernel) rfl
theorem ms_X11_piece {fx : FX} {m : MM} {l0 : Nat} {l1 : Int} {l2 : Int} : MS fx me_X11_piece [aR (some (11, l0)), aI l1, aI l2] m (f_X11_piece m l0 l1 l2) := by
  refine ms_of rfl mf_X11_piece (b8 rfl) ?_
  refine s_top ?_
  show Sim fx me_X11_piece 0 [(0, aR (some (11, l0))), (1, aI l1), (2, aI l2)] [] m _
  unfold f_X11_piece
  have hj_X11_piece_0_25 : ∀ (m_25 : MM) (l0_25 : Nat) (l1_25 : Int) (l2_25 : Int) (s0_25 : Int), Sim fx me_X11_piece 25 [(0, aR (some (11, l0_25))), (1, aI l1_25), (2, aI l2_25)] [aI s0_25] m_25 ((j_X11_piece_0_25 m_25 l0_25 l1_25 l2_25 s0_25).bind (fun z => some z)) := by
    intro m_25 l0_25 l1_25 l2_25 s0_25
    unfold j_X11_piece_0_25
    refine s_cV (r_S d_X11_piece_25 k_X11_requireArgument w_284 rfl rfl) ms_X11_requireArgument (b8 rfl) rfl rfl rfl (fun h => by cases h) (fun _ _ => Or.inr rfl) fun m5 => (s_iload_n d_X11_piece_28 m2_ (s_lsw2 (t1 := 56) (t2 := 66) (dt := 76) d_X11_piece_29 (by decide) rfl rfl rfl ?_ ?_ ?_))
    · refine s_aload_n d_X11_piece_56 m0_ (s_getR cf d_X11_piece_57 fl_X11_19 (s_nk fun i7 => (s_getR cf d_X11_piece_60 fl_X11_121 (s_nk fun i8 => (s_iload_n d_X11_piece_63 m1_ ?_)))))
      exact s_ldN d_X11_piece_64 ka_20 rfl fun v9 => (s_iret d_X11_piece_65 rfl rfl)
    · refine s_aload_n d_X11_piece_66 m0_ (s_getR cf d_X11_piece_67 fl_X11_19 (s_nk fun i10 => (s_getR cf d_X11_piece_70 fl_X11_118 (s_nk fun i11 => (s_iload_n d_X11_piece_73 m1_ ?_)))))
      exact s_ldN d_X11_piece_74 ka_21 rfl fun v12 => (s_iret d_X11_piece_75 rfl rfl)
    refine s_aload_n d_X11_piece_76 m0_ (s_getR cf d_X11_piece_77 fl_X11_19 (s_nk fun i13 => (s_getR cf d_X11_piece_80 fl_X11_124 (s_nk fun i14 => (s_iload_n d_X11_piece_83 m1_ ?_)))))
    exact s_ldN d_X11_piece_84 ka_22 rfl fun v15 => (s_iret d_X11_piece_85 rfl rfl)
  have hj_X11_piece_0_24 : ∀ (m_24 : MM) (l0_24 : Nat) (l1_24 : Int) (l2_24 : Int), Sim fx me_X11_piece 24 [(0, aR (some (11, l0_24))), (1, aI l1_24), (2, aI l2_24)] [] m_24 ((j_X11_piece_0_24 m_24 l0_24 l1_24 l2_24).bind (fun z => some z)) := by
    intro m_24 l0_24 l1_24 l2_24
    unfold j_X11_piece_0_24
    exact s_iconst d_X11_piece_24 n_0 (s_sub (subc m0_ (subc m1_ (subc m2_ sub0))) (hj_X11_piece_0_25 m_24 l0_24 l1_24 l2_24 0))
  refine s_aload_n d_X11_piece_0 m0_ (s_getR cf d_X11_piece_1 fl_X11_19 (s_nk fun i1 => (s_iload_n d_X11_piece_4 m1_ (s_pI (r_V d_X11_piece_5 k_X1_has w_447 rfl rfl) ms_X1_has (b8 rfl) rfl rfl rfl fun v2 => (s_cV (r_S d_X11_piece_8 k_X11_requireIndex w_451 rfl rfl) ms_X11_requireIndex (b8 rfl) rfl rfl rfl (fun h => by cases h) (fun _ _ => Or.inr rfl) fun m3 => ?_)))))
  refine s_iload_n d_X11_piece_11 m2_ (s_if_lt (tgt := 24) d_X11_piece_12 rfl ?_ ?_)
  · exact s_sub (subc m0_ (subc m1_ (subc m2_ sub0))) (hj_X11_piece_0_24 m3 l0 l1 l2)
  refine s_iload_n d_X11_piece_15 m2_ (s_iconst d_X11_piece_16 n_2 (s_icmp_gt (tgt := 24) d_X11_piece_17 rfl ?_ ?_))
  · exact s_sub (subc m0_ (subc m1_ (subc m2_ sub0))) (hj_X11_piece_0_24 m3 l0 l1 l2)
  exact s_iconst d_X11_piece_20 n_1 (s_goto (tgt := 25) d_X11_piece_21 rfl (s_sub (subc m0_ (subc m1_ (subc m2_ sub0))) (hj_X11_piece_0_25 m3 l0 l1 l2 1)))
theorem d_L_piece_0 : dk me_L_piece 0 (.aload_n 3) 1 1 := And.intro (by decide +kernel) rfl
theorem d_L_piece_1 : dk me_L_piece 1 (.iconst 0) 1 2 := And.intro (by decide +kernel) rfl
theorem d_L_piece_2 : dk me_L_piece 2 (.aload_n 0) 1 3 := And.intro (by decide +kernel) rfl
theorem d_L_piece_3 : dk me_L_piece 3 (.iload_n 1) 1 4 := And.intro (by decide +kernel) rfl
theorem d_L_piece_4 : dk me_L_piece 4 (.iload_n 2) 1 5 := And.intro (by decide +kernel) rfl
theorem d_L_piece_5 : dk me_L_piece 5 (.invokevirtual 31) 3 8 := And.intro (by decide +kernel) rfl
theorem d_L_piece_8 : dk me_L_piece 8 (.i2l) 1 9 := And.intro (by decide +kernel) rfl
theorem d_L_piece_9 : dk me_L_piece 9 (.lastore) 1 10 := And.intro (by decide +kernel) rfl
theorem d_L_piece_10 : dk me_L_piece 10 (.goto 11) 3 13 := And.intro (by decide +kernel) rfl
theorem d_L_piece_13 : dk me_L_piece 13 (.astore 4) 2 15 := And.intro (by decide +kernel) rfl
theorem d_L_piece_15 : dk me_L_piece 15 (.iconst 1) 1 16 := And.intro (by decide +kernel) rfl
theorem d_L_piece_16 : dk me_L_piece 16 (.ireturn) 1 17 := And.intro (by decide +kernel) rfl
theorem d_L_piece_17 : dk me_L_piece 17 (.astore 4) 2 19 := And.intro (by decide +kernel) rfl
theorem d_L_piece_19 : dk me_L_piece 19 (.iconst 2) 1 20 := And.intro (by decide +kernel) rfl
theorem d_L_piece_20 : dk me_L_piece 20 (.ireturn) 1 21 := And.intro (by decide +kernel) rfl
theorem d_L_piece_21 : dk me_L_piece 21 (.iconst 0) 1 22 := And.intro (by decide +kernel) rfl
theorem d_L_piece_22 : dk me_L_piece 22 (.ireturn) 1 23 := And.intro (by decide +kernel) rfl
theorem ms_L_piece {fx : FX} {m : MM} {l0 : Nat} {l1 : Int} {l2 : Int} {l3 : Nat} : MS fx me_L_piece [aR (some (11, l0)), aI l1, aI l2, aR (some (131, l3))] m (f_L_piece m l0 l1 l2 l3) := by
  refine ms_ofH rfl mf_L_piece (b8 rfl) ?_
  refine s_top ?_
  show Sim fx me_L_piece 0 [(0, aR (some (11, l0))), (1, aI l1), (2, aI l2), (3, aR (some (131, l3)))] [] m _
  unfold f_L_piece
  refine s_aload_n d_L_piece_0 m3_ (s_iconst d_L_piece_1 n_0 (s_aload_n d_L_piece_2 m0_ (s_iload_n d_L_piece_3 m1_ (s_iload_n d_L_piece_4 m2_ (s_cIC (r_V d_L_piece_5 k_X11_piece w_473 rfl rfl) ms_X11_piece (b8 rfl) rfl rfl ?_ ?_ ?_ fun v2 m1 => ?_)))))
  · refine fun mx => Or.inr ⟨13, ⟨rfl, by decide, 0, wx_29_0, Or.inl ⟨rfl, rfl⟩⟩, fun qx => ?_⟩
    exact s_astoreV (L' := [(4, aV (.ref qx)), (0, aR (some (11, l0))), (1, aI l1), (2, aI l2), (3, aR (some (131, l3)))]) d_L_piece_13 (b8 rfl) rfl (s_iconst d_L_piece_15 n_1 (s_iret d_L_piece_16 rfl rfl))
  · refine fun mx => Or.inr ⟨17, ⟨rfl, by decide, 0, wx_29_0, Or.inr ⟨by decide, ⟨rfl, by decide, 1, wx_13_1, Or.inl ⟨rfl, rfl⟩⟩⟩⟩, fun qx => ?_⟩
    exact s_astoreV (L' := [(4, aV (.ref qx)), (0, aR (some (11, l0))), (1, aI l1), (2, aI l2), (3, aR (some (131, l3)))]) d_L_piece_17 (b8 rfl) rfl (s_iconst d_L_piece_19 n_2 (s_iret d_L_piece_20 rfl rfl))
  · exact fun _ => Or.inl rfl
  exact s_i2l d_L_piece_8 (s_stL d_L_piece_9 ka_131 rfl fun m3 => (s_goto (tgt := 21) d_L_piece_10 rfl (s_iconst d_L_piece_21 n_0 (s_iret d_L_piece_22 rfl rfl))))
theorem d_X11_place_0 : dk me_X11_place 0 (.aload_n 0) 1 1 := And.intro (by decide +kernel) rfl
theorem d_X11_place_1 : dk me_X11_place 1 (.iload_n 1) 1 2 := And.intro (by decide +kernel) rfl
theorem d_X11_place_2 : dk me_X11_place 2 (.invokevirtual 143) 3 5 := And.intro (by decide +kernel) rfl
theorem d_X11_place_5 : dk me_X11_place 5 (.iload_n 2) 1 6 := And.intro (by decide +kernel) rfl
theorem d_X11_place_6 : dk me_X11_place 6 (.invokestatic 192) 3 9 := And.intro (by decide +kernel) rfl
theorem d_X11_place_9 : dk me_X11_place 9 (.getfield 222) 3 12 := And.intro (by decide +kernel) rfl
theorem d_X11_place_12 : dk me_X11_place 12 (.astore 5) 2 14 := And.intro (by decide +kernel) rfl
theorem d_X11_place_14 : dk me_X11_place 14 (.iload_n 3) 1 15 := And.intro (by decide +kernel) rfl
theorem d_X11_place_15 : dk me_X11_place 15 (.ifCond .lt 7) 3 18 := And.intro (by decide +kernel) rfl
theorem d_X11_place_18 : dk me_X11_place 18 (.iconst 1) 1 19 := And.intro (by decide +kernel) rfl
theorem d_X11_place_19 : dk me_X11_place 19 (.goto 4) 3 22 := And.intro (by decide +kernel) rfl
theorem d_X11_place_22 : dk me_X11_place 22 (.iconst 0) 1 23 := And.intro (by decide +kernel) rfl
theorem d_X11_place_23 : dk me_X11_place 23 (.invokestatic 115) 3 26 := And.intro (by decide +kernel) rfl
theorem d_X11_place_26 : dk me_X11_place 26 (.iload 4) 2 28 := And.intro (by decide +kernel) rfl
theorem d_X11_place_28 : dk me_X11_place 28 (.ifCond .lt 13) 3 31 := And.intro (by decide +kernel) rfl
theorem d_X11_place_31 : dk me_X11_place 31 (.iload 4) 2 33 := And.intro (by decide +kernel) rfl
theorem d_X11_place_33 : dk me_X11_place 33 (.iconst 2) 1 34 := And.intro (by decide +kernel) rfl
theorem d_X11_place_34 : dk me_X11_place 34 (.if_icmp .gt 7) 3 37 := And.intro (by decide +kernel) rfl
theorem d_X11_place_37 : dk me_X11_place 37 (.iconst 1) 1 38 := And.intro (by decide +kernel) rfl
theorem d_X11_place_38 : dk me_X11_place 38 (.goto 4) 3 41 := And.intro (by decide +kernel) rfl
theorem d_X11_place_41 : dk me_X11_place 41 (.iconst 0) 1 42 := And.intro (by decide +kernel) rfl
theorem d_X11_place_42 : dk me_X11_place 42 (.invokestatic 53) 3 45 := And.intro (by decide +kernel) rfl
theorem d_X11_place_45 : dk me_X11_place 45 (.iload_n 3) 1 46 := And.intro (by decide +kernel) rfl
theorem d_X11_place_46 : dk me_X11_place 46 (.aload 5) 2 48 := And.intro (by decide +kernel) rfl
theorem d_X11_place_48 : dk me_X11_place 48 (.getfield 226) 3 51 := And.intro (by decide +kernel) rfl
theorem d_X11_place_51 : dk me_X11_place 51 (.if_icmp .lt 5) 3 54 := And.intro (by decide +kernel) rfl
theorem d_X11_place_54 : dk me_X11_place 54 (.iconst (-1)) 1 55 := And.intro (by decide +kernel) rfl
theorem d_X11_place_55 : dk me_X11_place 55 (.ireturn) 1 56 := And.intro (by decide +kernel) rfl
theorem d_X11_place_56 : dk me_X11_place 56 (.iload 4) 2 58 := And.intro (by decide +kernel) rfl
theorem d_X11_place_58 : dk me_X11_place 58 (.lookupswitch 42 #[(0, 26), (1, 34)]) 26 84 := And.intro (by decide +kernel) rfl
theorem d_X11_place_84 : dk me_X11_place 84 (.aload 5) 2 86 := And.intro (by decide +kernel) rfl
theorem d_X11_place_86 : dk me_X11_place 86 (.getfield 260) 3 89 := And.intro (by decide +kernel) rfl
theorem d_X11_place_89 : dk me_X11_place 89 (.iload_n 3) 1 90 := And.intro (by decide +kernel) rfl
theorem d_X11_place_90 : dk me_X11_place 90 (.iaload) 1 91 := And.intro (by decide +kernel) rfl
theorem d_X11_place_91 : dk me_X11_place 91 (.ireturn) 1 92 := And.intro (by decide +kernel) rfl
theorem d_X11_place_92 : dk me_X11_place 92 (.aload 5) 2 94 := And.intro (by decide +kernel) rfl
theorem d_X11_place_94 : dk me_X11_place 94 (.getfield 263) 3 97 := And.intro (by decide +kernel) rfl
theorem d_X11_place_97 : dk me_X11_place 97 (.iload_n 3) 1 98 := And.intro (by decide +kernel) rfl
theorem d_X11_place_98 : dk me_X11_place 98 (.iaload) 1 99 := And.intro (by decide +kernel) rfl
theorem d_X11_place_99 : dk me_X11_place 99 (.ireturn) 1 100 := And.intro (by decide +kernel) rfl
theorem d_X11_place_100 : dk me_X11_place 100 (.aload 5) 2 102 := And.intro (by decide +kernel) rfl
theorem d_X11_place_102 : dk me_X11_place 102 (.getfield 266) 3 105 := And.intro (by decide +kernel) rfl
theorem d_X11_place_105 : dk me_X11_place 105 (.iload_n 3) 1 106 := And.intro (by decide +kernel) rfl
theorem d_X11_place_106 : dk me_X11_place 106 (.baload) 1 107 := And.intro (by decide +kernel) rfl
theorem d_X11_place_107 : dk me_X11_place 107 (.ifCond .eq 7) 3 110 := And.intro (by decide +kernel) rfl
theorem d_X11_place_110 : dk me_X11_place 110 (.iconst 1) 1 111 := And.intro (by decide +kernel) rfl
theorem d_X11_place_111 : dk me_X11_place 111 (.goto 4) 3 114 := And.intro (by decide +kernel) rfl
theorem d_X11_place_114 : dk me_X11_place 114 (.iconst 0) 1 115 := And.intro (by decide +kernel) rfl
theorem d_X11_place_115 : dk me_X11_place 115 (.ireturn) 1 116 := And.intro (by decide +kernel) rfl
theorem ms_X11_place {fx : FX} {m : MM} {l0 : Nat} {l1 : Int} {l2 : Int} {l3 : Int} {l4 : Int} : MS fx me_X11_place [aR (some (11, l0)), aI l1, aI l2, aI l3, aI l4] m (f_X11_place m l0 l1 l2 l3 l4) := by
  refine ms_of rfl mf_X11_place (b8 rfl) ?_
  refine s_top ?_
  show Sim fx me_X11_place 0 [(0, aR (some (11, l0))), (1, aI l1), (2, aI l2), (3, aI l3), (4, aI l4)] [] m _
  unfold f_X11_place
  have hj_X11_place_0_42 : ∀ (m_42 : MM) (l3_42 : Int) (l4_42 : Int) (l5_42 : Nat) (s0_42 : Int), Sim fx me_X11_place 42 [(3, aI l3_42), (4, aI l4_42), (5, aR (some (5, l5_42)))] [aI s0_42] m_42 ((j_X11_place_0_42 m_42 l3_42 l4_42 l5_42 s0_42).bind (fun z => some z)) := by
    intro m_42 l3_42 l4_42 l5_42 s0_42
    unfold j_X11_place_0_42
    refine s_cV (r_S d_X11_place_42 k_X11_requireArgument w_284 rfl rfl) ms_X11_requireArgument (b8 rfl) rfl rfl rfl (fun h => by cases h) (fun _ _ => Or.inr rfl) fun m10 => (s_iload_n d_X11_place_45 m0_ (s_aload d_X11_place_46 m2_ (s_getN cf d_X11_place_48 fl_X11_226 (s_icmp_lt (tgt := 56) d_X11_place_51 rfl ?_ ?_))))
    · refine s_iload d_X11_place_56 m1_ (s_lsw2 (t1 := 84) (t2 := 92) (dt := 100) d_X11_place_58 (by decide) rfl rfl rfl ?_ ?_ ?_)
      · exact s_aload d_X11_place_84 m2_ (s_getR cf d_X11_place_86 fl_X11_260 (s_nk fun i12 => (s_iload_n d_X11_place_89 m0_ (s_ldN d_X11_place_90 ka_35 rfl fun v13 => (s_iret d_X11_place_91 rfl rfl)))))
      · exact s_aload d_X11_place_92 m2_ (s_getR cf d_X11_place_94 fl_X11_263 (s_nk fun i14 => (s_iload_n d_X11_place_97 m0_ (s_ldN d_X11_place_98 ka_34 rfl fun v15 => (s_iret d_X11_place_99 rfl rfl)))))
      refine s_aload d_X11_place_100 m2_ (s_getR cf d_X11_place_102 fl_X11_266 (s_nk fun i16 => (s_iload_n d_X11_place_105 m0_ (s_ldB d_X11_place_106 ka_36 rfl fun v17 => (s_if_eq (tgt := 114) d_X11_place_107 rfl ?_ ?_)))))
      · exact s_iconst d_X11_place_114 n_0 (s_iret d_X11_place_115 rfl rfl)
      exact s_iconst d_X11_place_110 n_1 (s_goto (tgt := 115) d_X11_place_111 rfl (s_iret d_X11_place_115 rfl rfl))
    exact s_iconst d_X11_place_54 n_m1 (s_iret d_X11_place_55 rfl rfl)
  have hj_X11_place_0_41 : ∀ (m_41 : MM) (l3_41 : Int) (l4_41 : Int) (l5_41 : Nat), Sim fx me_X11_place 41 [(3, aI l3_41), (4, aI l4_41), (5, aR (some (5, l5_41)))] [] m_41 ((j_X11_place_0_41 m_41 l3_41 l4_41 l5_41).bind (fun z => some z)) := by
    intro m_41 l3_41 l4_41 l5_41
    unfold j_X11_place_0_41
    exact s_iconst d_X11_place_41 n_0 (s_sub (subc m0_ (subc m1_ (subc m2_ sub0))) (hj_X11_place_0_42 m_41 l3_41 l4_41 l5_41 0))
  have hj_X11_place_0_23 : ∀ (m_23 : MM) (l3_23 : Int) (l4_23 : Int) (l5_23 : Nat) (s0_23 : Int), Sim fx me_X11_place 23 [(3, aI l3_23), (4, aI l4_23), (5, aR (some (5, l5_23)))] [aI s0_23] m_23 ((j_X11_place_0_23 m_23 l3_23 l4_23 l5_23 s0_23).bind (fun z => some z)) := by
    intro m_23 l3_23 l4_23 l5_23 s0_23
    unfold j_X11_place_0_23
    refine s_cV (r_S d_X11_place_23 k_X11_requireIndex w_451 rfl rfl) ms_X11_requireIndex (b8 rfl) rfl rfl rfl (fun h => by cases h) (fun _ _ => Or.inr rfl) fun m8 => (s_iload d_X11_place_26 m1_ (s_if_lt (tgt := 41) d_X11_place_28 rfl ?_ ?_))
    · exact s_sub (subc m0_ (subc m1_ (subc m2_ sub0))) (hj_X11_place_0_41 m8 l3_23 l4_23 l5_23)
    refine s_iload d_X11_place_31 m1_ (s_iconst d_X11_place_33 n_2 (s_icmp_gt (tgt := 41) d_X11_place_34 rfl ?_ ?_))
    · exact s_sub (subc m0_ (subc m1_ (subc m2_ sub0))) (hj_X11_place_0_41 m8 l3_23 l4_23 l5_23)
    exact s_iconst d_X11_place_37 n_1 (s_goto (tgt := 42) d_X11_place_38 rfl (s_sub (subc m0_ (subc m1_ (subc m2_ sub0))) (hj_X11_place_0_42 m8 l3_23 l4_23 l5_23 1)))
  refine s_aload_n d_X11_place_0 m0_ (s_iload_n d_X11_place_1 m1_ (s_cR (r_V d_X11_place_2 k_X11_bookAt w_814 rfl rfl) ms_X11_bookAt (b8 rfl) rfl rfl rfl (fun h => by cases h) (fun _ _ => Or.inr rfl) fun r2 m1 => (s_nk fun i3 => (s_iload_n d_X11_place_5 m2_ (s_cR (r_S d_X11_place_6 k_X11_pageOf w_884 rfl rfl) ms_X11_pageOf (b8 rfl) rfl rfl rfl (fun h => by cases h) (fun _ _ => Or.inr rfl) fun r5 m4 => ?_)))))
  refine s_nk fun i6 => (s_getR cf d_X11_place_9 fl_X11_222 (s_nk fun i7 => (s_astore (L' := [(5, aR (some (5, i7))), (0, aR (some (11, l0))), (1, aI l1), (2, aI l2), (3, aI l3), (4, aI l4)]) d_X11_place_12 (b8 rfl) rfl (s_iload_n d_X11_place_14 m4_ (s_if_lt (tgt := 22) d_X11_place_15 rfl ?_ ?_)))))
  · exact s_iconst d_X11_place_22 n_0 (s_sub (subc m4_ (subc m5_ (subc m0_ sub0))) (hj_X11_place_0_23 m4 l3 l4 i7 0))
  exact s_iconst d_X11_place_18 n_1 (s_goto (tgt := 23) d_X11_place_19 rfl (s_sub (subc m4_ (subc m5_ (subc m0_ sub0))) (hj_X11_place_0_23 m4 l3 l4 i7 1)))
theorem d_L_place_0 : dk me_L_place 0 (.aload 5) 2 2 := And.intro (by decide +kernel) rfl
theorem d_L_place_2 : dk me_L_place 2 (.iconst 0) 1 3 := And.intro (by decide +kernel) rfl
theorem d_L_place_3 : dk me_L_place 3 (.aload_n 0) 1 4 := And.intro (by decide +kernel) rfl
theorem d_L_place_4 : dk me_L_place 4 (.iload_n 1) 1 5 := And.intro (by decide +kernel) rfl
theorem d_L_place_5 : dk me_L_place 5 (.iload_n 2) 1 6 := And.intro (by decide +kernel) rfl
theorem d_L_place_6 : dk me_L_place 6 (.iload_n 3) 1 7 := And.intro (by decide +kernel) rfl
theorem d_L_place_7 : dk me_L_place 7 (.iload 4) 2 9 := And.intro (by decide +kernel) rfl
theorem d_L_place_9 : dk me_L_place 9 (.invokevirtual 64) 3 12 := And.intro (by decide +kernel) rfl
theorem d_L_place_12 : dk me_L_place 12 (.i2l) 1 13 := And.intro (by decide +kernel) rfl
theorem d_L_place_13 : dk me_L_place 13 (.lastore) 1 14 := And.intro (by decide +kernel) rfl
theorem d_L_place_14 : dk me_L_place 14 (.goto 11) 3 17 := And.intro (by decide +kernel) rfl
theorem d_L_place_17 : dk me_L_place 17 (.astore 6) 2 19 := And.intro (by decide +kernel) rfl
theorem d_L_place_19 : dk me_L_place 19 (.iconst 1) 1 20 := And.intro (by decide +kernel) rfl
theorem d_L_place_20 : dk me_L_place 20 (.ireturn) 1 21 := And.intro (by decide +kernel) rfl
theorem d_L_place_21 : dk me_L_place 21 (.astore 6) 2 23 := And.intro (by decide +kernel) rfl
theorem d_L_place_23 : dk me_L_place 23 (.iconst 2) 1 24 := And.intro (by decide +kernel) rfl
theorem d_L_place_24 : dk me_L_place 24 (.ireturn) 1 25 := And.intro (by decide +kernel) rfl
theorem d_L_place_25 : dk me_L_place 25 (.iconst 0) 1 26 := And.intro (by decide +kernel) rfl
theorem d_L_place_26 : dk me_L_place 26 (.ireturn) 1 27 := And.intro (by decide +kernel) rfl
theorem ms_L_place {fx : FX} {m : MM} {l0 : Nat} {l1 : Int} {l2 : Int} {l3 : Int} {l4 : Int} {l5 : Nat} : MS fx me_L_place [aR (some (11, l0)), aI l1, aI l2, aI l3, aI l4, aR (some (131, l5))] m (f_L_place m l0 l1 l2 l3 l4 l5) := by
  refine ms_ofH rfl mf_L_place (b8 rfl) ?_
  refine s_top ?_
  show Sim fx me_L_place 0 [(0, aR (some (11, l0))), (1, aI l1), (2, aI l2), (3, aI l3), (4, aI l4), (5, aR (some (131, l5)))] [] m _
  unfold f_L_place
  refine s_aload d_L_place_0 m5_ (s_iconst d_L_place_2 n_0 (s_aload_n d_L_place_3 m0_ (s_iload_n d_L_place_4 m1_ (s_iload_n d_L_place_5 m2_ (s_iload_n d_L_place_6 m3_ ?_)))))
  refine s_iload d_L_place_7 m4_ (s_cIC (r_V d_L_place_9 k_X11_place w_1014 rfl rfl) ms_X11_place (b8 rfl) rfl rfl ?_ ?_ ?_ fun v2 m1 => ?_)
  · refine fun mx => Or.inr ⟨17, ⟨rfl, by decide, 0, wx_29_0, Or.inl ⟨rfl, rfl⟩⟩, fun qx => ?_⟩
    exact s_astoreV (L' := [(6, aV (.ref qx)), (0, aR (some (11, l0))), (1, aI l1), (2, aI l2), (3, aI l3), (4, aI l4), (5, aR (some (131, l5)))]) d_L_place_17 (b8 rfl) rfl (s_iconst d_L_place_19 n_1 (s_iret d_L_place_20 rfl rfl))
  · refine fun mx => Or.inr ⟨21, ⟨rfl, by decide, 0, wx_29_0, Or.inr ⟨by decide, ⟨rfl, by decide, 1, wx_13_1, Or.inl ⟨rfl, rfl⟩⟩⟩⟩, fun qx => ?_⟩
    exact s_astoreV (L' := [(6, aV (.ref qx)), (0, aR (some (11, l0))), (1, aI l1), (2, aI l2), (3, aI l3), (4, aI l4), (5, aR (some (131, l5)))]) d_L_place_21 (b8 rfl) rfl (s_iconst d_L_place_23 n_2 (s_iret d_L_place_24 rfl rfl))
  · exact fun _ => Or.inl rfl
  exact s_i2l d_L_place_12 (s_stL d_L_place_13 ka_131 rfl fun m3 => (s_goto (tgt := 25) d_L_place_14 rfl (s_iconst d_L_place_25 n_0 (s_iret d_L_place_26 rfl rfl))))
theorem d_X11_workingHoursAhead_0 : dk me_X11_workingHoursAhead 0 (.iload_n 0) 1 1 := And.intro (by decide +kernel) rfl
theorem d_X11_workingHoursAhead_1 : dk me_X11_workingHoursAhead 1 (.bipush 70) 2 3 := And.intro (by decide +kernel) rfl
theorem d_X11_workingHoursAhead_3 : dk me_X11_workingHoursAhead 3 (.idiv) 1 4 := And.intro (by decide +kernel) rfl
theorem d_X11_workingHoursAhead_4 : dk me_X11_workingHoursAhead 4 (.bipush 60) 2 6 := And.intro (by decide +kernel) rfl
theorem d_X11_workingHoursAhead_6 : dk me_X11_workingHoursAhead 6 (.imul) 1 7 := And.intro (by decide +kernel) rfl
theorem d_X11_workingHoursAhead_7 : dk me_X11_workingHoursAhead 7 (.iload_n 0) 1 8 := And.intro (by decide +kernel) rfl
theorem d_X11_workingHoursAhead_8 : dk me_X11_workingHoursAhead 8 (.bipush 70) 2 10 := And.intro (by decide +kernel) rfl
theorem d_X11_workingHoursAhead_10 : dk me_X11_workingHoursAhead 10 (.irem) 1 11 := And.intro (by decide +kernel) rfl
theorem d_X11_workingHoursAhead_11 : dk me_X11_workingHoursAhead 11 (.bipush 60) 2 13 := And.intro (by decide +kernel) rfl
theorem d_X11_workingHoursAhead_13 : dk me_X11_workingHoursAhead 13 (.invokestatic 483) 3 16 := And.intro (by decide +kernel) rfl
theorem d_X11_workingHoursAhead_16 : dk me_X11_workingHoursAhead 16 (.iadd) 1 17 := And.intro (by decide +kernel) rfl
theorem d_X11_workingHoursAhead_17 : dk me_X11_workingHoursAhead 17 (.ireturn) 1 18 := And.intro (by decide +kernel) rfl
theorem ms_X11_workingHoursAhead {fx : FX} {m : MM} {l0 : Int} : MS fx me_X11_workingHoursAhead [aI l0] m ((f_X11_workingHoursAhead m l0).bind fun v => some (.inl (some (aI v)), m)) := by
  refine ms_of rfl mf_X11_workingHoursAhead (b8 rfl) ?_
  show Sim fx me_X11_workingHoursAhead 0 [(0, aI l0)] [] m _
  unfold f_X11_workingHoursAhead
  refine s_iload_n d_X11_workingHoursAhead_0 m0_ (s_bipush d_X11_workingHoursAhead_1 n_70 rfl (s_idiv d_X11_workingHoursAhead_3 (s_bipush d_X11_workingHoursAhead_4 n_60 rfl (s_imul d_X11_workingHoursAhead_6 rfl rfl (s_iload_n d_X11_workingHoursAhead_7 m0_ ?_)))))
  refine s_bipush d_X11_workingHoursAhead_8 n_70 rfl (s_irem d_X11_workingHoursAhead_10 (s_bipush d_X11_workingHoursAhead_11 n_60 rfl (s_min d_X11_workingHoursAhead_13 w_1375 wm_min1 wm_3 wm_min2 (b8 rfl) (b8 rfl) (s_iadd d_X11_workingHoursAhead_16 rfl rfl (s_ck ?_)))))
  exact s_iret d_X11_workingHoursAhead_17 rfl rfl
theorem d_X7_fewestPresses_0 : dk me_X7_fewestPresses 0 (.sipush 5000) 3 3 := And.intro (by decide +kernel) rfl
theorem d_X7_fewestPresses_3 : dk me_X7_fewestPresses 3 (.istore_n 1) 1 4 := And.intro (by decide +kernel) rfl
theorem d_X7_fewestPresses_4 : dk me_X7_fewestPresses 4 (.iconst (-1)) 1 5 := And.intro (by decide +kernel) rfl
theorem d_X7_fewestPresses_5 : dk me_X7_fewestPresses 5 (.istore_n 2) 1 6 := And.intro (by decide +kernel) rfl
theorem d_X7_fewestPresses_6 : dk me_X7_fewestPresses 6 (.iconst 0) 1 7 := And.intro (by decide +kernel) rfl
theorem d_X7_fewestPresses_7 : dk me_X7_fewestPresses 7 (.istore_n 3) 1 8 := And.intro (by decide +kernel) rfl
theorem d_X7_fewestPresses_8 : dk me_X7_fewestPresses 8 (.aload_n 0) 1 9 := And.intro (by decide +kernel) rfl
theorem d_X7_fewestPresses_9 : dk me_X7_fewestPresses 9 (.getfield 30) 3 12 := And.intro (by decide +kernel) rfl
theorem d_X7_fewestPresses_12 : dk me_X7_fewestPresses 12 (.astore 4) 2 14 := And.intro (by decide +kernel) rfl
theorem d_X7_fewestPresses_14 : dk me_X7_fewestPresses 14 (.aload 4) 2 16 := And.intro (by decide +kernel) rfl
theorem d_X7_fewestPresses_16 : dk me_X7_fewestPresses 16 (.arraylength) 1 17 := And.intro (by decide +kernel) rfl
theorem d_X7_fewestPresses_17 : dk me_X7_fewestPresses 17 (.istore 5) 2 19 := And.intro (by decide +kernel) rfl
theorem d_X7_fewestPresses_19 : dk me_X7_fewestPresses 19 (.iconst 0) 1 20 := And.intro (by decide +kernel) rfl
theorem d_X7_fewestPresses_20 : dk me_X7_fewestPresses 20 (.istore 6) 2 22 := And.intro (by decide +kernel) rfl
theorem d_X7_fewestPresses_22 : dk me_X7_fewestPresses 22 (.iload 6) 2 24 := And.intro (by decide +kernel) rfl
theorem d_X7_fewestPresses_24 : dk me_X7_fewestPresses 24 (.iload 5) 2 26 := And.intro (by decide +kernel) rfl
theorem d_X7_fewestPresses_26 : dk me_X7_fewestPresses 26 (.if_icmp .ge 57) 3 29 := And.intro (by decide +kernel) rfl
theorem d_X7_fewestPresses_29 : dk me_X7_fewestPresses 29 (.aload 4) 2 31 := And.intro (by decide +kernel) rfl
theorem d_X7_fewestPresses_31 : dk me_X7_fewestPresses 31 (.iload 6) 2 33 := And.intro (by decide +kernel) rfl
theorem d_X7_fewestPresses_33 : dk me_X7_fewestPresses 33 (.aaload) 1 34 := And.intro (by decide +kernel) rfl
theorem d_X7_fewestPresses_34 : dk me_X7_fewestPresses 34 (.astore 7) 2 36 := And.intro (by decide +kernel) rfl
theorem d_X7_fewestPresses_36 : dk me_X7_fewestPresses 36 (.aload 7) 2 38 := And.intro (by decide +kernel) rfl
theorem d_X7_fewestPresses_38 : dk me_X7_fewestPresses 38 (.invokevirtual 95) 3 41 := And.intro (by decide +kernel) rfl
theorem d_X7_fewestPresses_41 : dk me_X7_fewestPresses 41 (.ifCond .eq 36) 3 44 := And.intro (by decide +kernel) rfl
theorem d_X7_fewestPresses_44 : dk me_X7_fewestPresses 44 (.iload_n 1) 1 45 := And.intro (by decide +kernel) rfl
theorem d_X7_fewestPresses_45 : dk me_X7_fewestPresses 45 (.aload 7) 2 47 := And.intro (by decide +kernel) rfl
theorem d_X7_fewestPresses_47 : dk me_X7_fewestPresses 47 (.getfield 98) 3 50 := And.intro (by decide +kernel) rfl
theorem d_X7_fewestPresses_50 : dk me_X7_fewestPresses 50 (.invokestatic 101) 3 53 := And.intro (by decide +kernel) rfl
theorem d_X7_fewestPresses_53 : dk me_X7_fewestPresses 53 (.istore_n 1) 1 54 := And.intro (by decide +kernel) rfl
theorem d_X7_fewestPresses_54 : dk me_X7_fewestPresses 54 (.iload_n 2) 1 55 := And.intro (by decide +kernel) rfl
theorem d_X7_fewestPresses_55 : dk me_X7_fewestPresses 55 (.aload 7) 2 57 := And.intro (by decide +kernel) rfl
theorem d_X7_fewestPresses_57 : dk me_X7_fewestPresses 57 (.getfield 104) 3 60 := And.intro (by decide +kernel) rfl
theorem d_X7_fewestPresses_60 : dk me_X7_fewestPresses 60 (.invokestatic 90) 3 63 := And.intro (by decide +kernel) rfl
theorem d_X7_fewestPresses_63 : dk me_X7_fewestPresses 63 (.istore_n 2) 1 64 := And.intro (by decide +kernel) rfl
theorem d_X7_fewestPresses_64 : dk me_X7_fewestPresses 64 (.iload_n 3) 1 65 := And.intro (by decide +kernel) rfl
theorem d_X7_fewestPresses_65 : dk me_X7_fewestPresses 65 (.iconst 1) 1 66 := And.intro (by decide +kernel) rfl
theorem d_X7_fewestPresses_66 : dk me_X7_fewestPresses 66 (.aload_n 0) 1 67 := And.intro (by decide +kernel) rfl
theorem d_X7_fewestPresses_67 : dk me_X7_fewestPresses 67 (.getfield 107) 3 70 := And.intro (by decide +kernel) rfl
theorem d_X7_fewestPresses_70 : dk me_X7_fewestPresses 70 (.iconst 1) 1 71 := And.intro (by decide +kernel) rfl
theorem d_X7_fewestPresses_71 : dk me_X7_fewestPresses 71 (.iadd) 1 72 := And.intro (by decide +kernel) rfl
theorem d_X7_fewestPresses_72 : dk me_X7_fewestPresses 72 (.iconst 2) 1 73 := And.intro (by decide +kernel) rfl
theorem d_X7_fewestPresses_73 : dk me_X7_fewestPresses 73 (.idiv) 1 74 := And.intro (by decide +kernel) rfl
theorem d_X7_fewestPresses_74 : dk me_X7_fewestPresses 74 (.iadd) 1 75 := And.intro (by decide +kernel) rfl
theorem d_X7_fewestPresses_75 : dk me_X7_fewestPresses 75 (.iadd) 1 76 := And.intro (by decide +kernel) rfl
theorem d_X7_fewestPresses_76 : dk me_X7_fewestPresses 76 (.istore_n 3) 1 77 := And.intro (by decide +kernel) rfl
theorem d_X7_fewestPresses_77 : dk me_X7_fewestPresses 77 (.iinc 6 1) 3 80 := And.intro (by decide +kernel) rfl
theorem d_X7_fewestPresses_80 : dk me_X7_fewestPresses 80 (.goto (-58)) 3 83 := And.intro (by decide +kernel) rfl
theorem d_X7_fewestPresses_83 : dk me_X7_fewestPresses 83 (.iload_n 2) 1 84 := And.intro (by decide +kernel) rfl
theorem d_X7_fewestPresses_84 : dk me_X7_fewestPresses 84 (.iconst 1) 1 85 := And.intro (by decide +kernel) rfl
theorem d_X7_fewestPresses_85 : dk me_X7_fewestPresses 85 (.iadd) 1 86 := And.intro (by decide +kernel) rfl
theorem d_X7_fewestPresses_86 : dk me_X7_fewestPresses 86 (.invokestatic 110) 3 89 := And.intro (by decide +kernel) rfl
theorem d_X7_fewestPresses_89 : dk me_X7_fewestPresses 89 (.iload_n 1) 1 90 := And.intro (by decide +kernel) rfl
theorem d_X7_fewestPresses_90 : dk me_X7_fewestPresses 90 (.invokestatic 110) 3 93 := And.intro (by decide +kernel) rfl
theorem d_X7_fewestPresses_93 : dk me_X7_fewestPresses 93 (.isub) 1 94 := And.intro (by decide +kernel) rfl
theorem d_X7_fewestPresses_94 : dk me_X7_fewestPresses 94 (.istore 4) 2 96 := And.intro (by decide +kernel) rfl
theorem d_X7_fewestPresses_96 : dk me_X7_fewestPresses 96 (.iload_n 3) 1 97 := And.intro (by decide +kernel) rfl
theorem d_X7_fewestPresses_97 : dk me_X7_fewestPresses 97 (.ifCond .eq 8) 3 100 := And.intro (by decide +kernel) rfl
theorem d_X7_fewestPresses_100 : dk me_X7_fewestPresses 100 (.iload 4) 2 102 := And.intro (by decide +kernel) rfl
theorem d_X7_fewestPresses_102 : dk me_X7_fewestPresses 102 (.ifCond .gt 7) 3 105 := And.intro (by decide +kernel) rfl
theorem d_X7_fewestPresses_105 : dk me_X7_fewestPresses 105 (.iconst 0) 1 106 := And.intro (by decide +kernel) rfl
theorem d_X7_fewestPresses_106 : dk me_X7_fewestPresses 106 (.goto 12) 3 109 := And.intro (by decide +kernel) rfl
theorem d_X7_fewestPresses_109 : dk me_X7_fewestPresses 109 (.iload_n 3) 1 110 := And.intro (by decide +kernel) rfl
theorem d_X7_fewestPresses_110 : dk me_X7_fewestPresses 110 (.iload 4) 2 112 := And.intro (by decide +kernel) rfl
theorem d_X7_fewestPresses_112 : dk me_X7_fewestPresses 112 (.iadd) 1 113 := And.intro (by decide +kernel) rfl
theorem d_X7_fewestPresses_113 : dk me_X7_fewestPresses 113 (.iconst 1) 1 114 := And.intro (by decide +kernel) rfl
theorem d_X7_fewestPresses_114 : dk me_X7_fewestPresses 114 (.isub) 1 115 := And.intro (by decide +kernel) rfl
theorem d_X7_fewestPresses_115 : dk me_X7_fewestPresses 115 (.iload 4) 2 117 := And.intro (by decide +kernel) rfl
theorem d_X7_fewestPresses_117 : dk me_X7_fewestPresses 117 (.idiv) 1 118 := And.intro (by decide +kernel) rfl
theorem d_X7_fewestPresses_118 : dk me_X7_fewestPresses 118 (.ireturn) 1 119 := And.intro (by decide +kernel) rfl
theorem ms_X7_fewestPresses {fx : FX} {m : MM} {l0 : Nat} : MS fx me_X7_fewestPresses [aR (some (0, l0))] m ((f_X7_fewestPresses m l0).bind fun v => some (.inl (some (aI v)), m)) := by
  refine ms_of rfl mf_X7_fewestPresses (b8 rfl) ?_
  show Sim fx me_X7_fewestPresses 0 [(0, aR (some (0, l0)))] [] m _
  unfold f_X7_fewestPresses
  have hj_X7_fewestPresses_0_83 : ∀ (l1_83 : Int) (l2_83 : Int) (l3_83 : Int), Sim fx me_X7_fewestPresses 83 [(1, aI l1_83), (2, aI l2_83), (3, aI l3_83)] [] m ((j_X7_fewestPresses_0_83 m l1_83 l2_83 l3_83).bind (fun v => some (.inl (some (aI v)), m))) := by
    intro l1_83 l2_83 l3_83
    unfold j_X7_fewestPresses_0_83
    refine s_iload_n d_X7_fewestPresses_83 m1_ (s_iconst d_X7_fewestPresses_84 n_1 (s_iadd d_X7_fewestPresses_85 rfl rfl (s_ck (s_pI (r_SN d_X7_fewestPresses_86 k_X11_workingHoursAhead ne_9 rfl rfl) ms_X11_workingHoursAhead (b8 rfl) rfl rfl rfl fun v8 => (s_iload_n d_X7_fewestPresses_89 m0_ ?_)))))
    refine s_pI (r_SN d_X7_fewestPresses_90 k_X11_workingHoursAhead ne_9 rfl rfl) ms_X11_workingHoursAhead (b8 rfl) rfl rfl rfl fun v9 => (s_isub d_X7_fewestPresses_93 rfl rfl (s_ck (s_istore (L' := [(4, aI (v8 - v9)), (1, aI l1_83), (2, aI l2_83), (3, aI l3_83)]) d_X7_fewestPresses_94 (b8 rfl) rfl (s_iload_n d_X7_fewestPresses_96 m3_ (s_if_eq (tgt := 105) d_X7_fewestPresses_97 rfl ?_ ?_)))))
    · exact s_iconst d_X7_fewestPresses_105 n_0 (s_goto (tgt := 118) d_X7_fewestPresses_106 rfl (s_iret d_X7_fewestPresses_118 rfl rfl))
    refine s_iload d_X7_fewestPresses_100 m0_ (s_if_gt (tgt := 109) d_X7_fewestPresses_102 rfl ?_ ?_)
    · refine s_iload_n d_X7_fewestPresses_109 m3_ (s_iload d_X7_fewestPresses_110 m0_ (s_iadd d_X7_fewestPresses_112 rfl rfl (s_iconst d_X7_fewestPresses_113 n_1 (s_isub d_X7_fewestPresses_114 rfl rfl (s_iload d_X7_fewestPresses_115 m0_ ?_)))))
      exact s_ck1 (s_idiv d_X7_fewestPresses_117 (s_iret d_X7_fewestPresses_118 rfl rfl))
    exact s_iconst d_X7_fewestPresses_105 n_0 (s_goto (tgt := 118) d_X7_fewestPresses_106 rfl (s_iret d_X7_fewestPresses_118 rfl rfl))
  refine s_sipush d_X7_fewestPresses_0 n_5000 rfl (s_istore_n (L' := [(1, aI 5000), (0, aR (some (0, l0)))]) d_X7_fewestPresses_3 (b8 rfl) rfl (s_iconst d_X7_fewestPresses_4 n_m1 (s_istore_n (L' := [(2, aI (-1)), (1, aI 5000), (0, aR (some (0, l0)))]) d_X7_fewestPresses_5 (b8 rfl) rfl (s_iconst d_X7_fewestPresses_6 n_0 (s_istore_n (L' := [(3, aI 0), (2, aI (-1)), (1, aI 5000), (0, aR (some (0, l0)))]) d_X7_fewestPresses_7 (b8 rfl) rfl ?_)))))
  refine s_aload_n d_X7_fewestPresses_8 m3_ (s_getR cf d_X7_fewestPresses_9 fl_X7_30 (s_nk fun i1 => (s_astore (L' := [(4, aR (some (14, i1))), (3, aI 0), (2, aI (-1)), (1, aI 5000), (0, aR (some (0, l0)))]) d_X7_fewestPresses_12 (b8 rfl) rfl (s_aload d_X7_fewestPresses_14 m0_ (s_len d_X7_fewestPresses_16 ka_14 ta_14 ?_)))))
  refine s_istore (L' := [(5, aI (lenI m 14 i1)), (4, aR (some (14, i1))), (3, aI 0), (2, aI (-1)), (1, aI 5000), (0, aR (some (0, l0)))]) d_X7_fewestPresses_17 (b8 rfl) rfl (s_iconst d_X7_fewestPresses_19 n_0 (s_istore (L' := [(6, aI 0), (5, aI (lenI m 14 i1)), (4, aR (some (14, i1))), (3, aI 0), (2, aI (-1)), (1, aI 5000), (0, aR (some (0, l0)))]) d_X7_fewestPresses_20 (b8 rfl) rfl (s_sub (subc m5_ (subc m4_ (subc m3_ (subc m0_ (subc m6_ (subc m2_ (subc m1_ sub0))))))) (s_lp2 (fun s => [(1, aI (s.1)), (2, aI (s.2.1)), (3, aI (s.2.2.1)), (6, aI (s.2.2.2)), (0, aR (some (0, l0))), (4, aR (some (14, i1))), (5, aI (lenI m 14 i1))]) (fun s => m) (5000, (-1), 0, 0) fun k22 hx22 s ih0 => ?_))))
  obtain ⟨l1_22, l2_22, l3_22, l6_22⟩ := s
  have ih22 := ih0
  clear ih0
  try dsimp only
  unfold b_X7_fewestPresses_22
  refine s_iload d_X7_fewestPresses_22 m3_ (s_iload d_X7_fewestPresses_24 m6_ (s_icmp_ge (tgt := 83) d_X7_fewestPresses_26 rfl ?_ ?_))
  · exact s_exit (hx22 _) (s_sub (subc m0_ (subc m1_ (subc m2_ sub0))) (hj_X7_fewestPresses_0_83 l1_22 l2_22 l3_22))
  refine s_aload d_X7_fewestPresses_29 m5_ (s_iload d_X7_fewestPresses_31 m3_ (s_ldR d_X7_fewestPresses_33 ka_14 ta_14 rfl rfl fun r2 => (s_nk fun i3 => (s_astore (L' := [(7, aR (some (2, i3))), (1, aI l1_22), (2, aI l2_22), (3, aI l3_22), (6, aI l6_22), (0, aR (some (0, l0))), (4, aR (some (14, i1))), (5, aI (lenI m 14 i1))]) d_X7_fewestPresses_34 (b8 rfl) rfl (s_aload d_X7_fewestPresses_36 m0_ ?_)))))
  refine s_pI (r_V d_X7_fewestPresses_38 k_X2_wasDone w_1370 rfl rfl) ms_X2_wasDone (b8 rfl) rfl rfl rfl fun v4 => (s_if_eq (tgt := 77) d_X7_fewestPresses_41 rfl ?_ ?_)
  · exact s_iinc (L' := [(6, aI (l6_22 + 1)), (7, aR (some (2, i3))), (1, aI l1_22), (2, aI l2_22), (3, aI l3_22), (0, aR (some (0, l0))), (4, aR (some (14, i1))), (5, aI (lenI m 14 i1))]) d_X7_fewestPresses_77 m4_ (b8 rfl) rfl (s_goto (tgt := 22) d_X7_fewestPresses_80 rfl (s_sub (subc m2_ (subc m3_ (subc m4_ (subc m0_ (subc m5_ (subc m6_ (subc m7_ sub0))))))) (s_back (ih22 (l1_22, l2_22, l3_22, (l6_22 + 1))))))
  refine s_iload_n d_X7_fewestPresses_44 m1_ (s_aload d_X7_fewestPresses_45 m0_ (s_getN cf d_X7_fewestPresses_47 fl_X7_98 (s_min d_X7_fewestPresses_50 w_1371 wm_min1 wm_3 wm_min2 (b8 rfl) (b8 rfl) (s_let fun v5 => (s_istore_n (L' := [(1, aI v5), (7, aR (some (2, i3))), (2, aI l2_22), (3, aI l3_22), (6, aI l6_22), (0, aR (some (0, l0))), (4, aR (some (14, i1))), (5, aI (lenI m 14 i1))]) d_X7_fewestPresses_53 (b8 rfl) rfl ?_)))))
  refine s_iload_n d_X7_fewestPresses_54 m2_ (s_aload d_X7_fewestPresses_55 m1_ (s_getN cf d_X7_fewestPresses_57 fl_X7_104 (s_max d_X7_fewestPresses_60 w_1359 wm_max1 wm_3 wm_max2 (b8 rfl) (b8 rfl) (s_let fun v6 => (s_istore_n (L' := [(2, aI v6), (1, aI v5), (7, aR (some (2, i3))), (3, aI l3_22), (6, aI l6_22), (0, aR (some (0, l0))), (4, aR (some (14, i1))), (5, aI (lenI m 14 i1))]) d_X7_fewestPresses_63 (b8 rfl) rfl ?_)))))
  refine s_iload_n d_X7_fewestPresses_64 m3_ (s_iconst d_X7_fewestPresses_65 n_1 (s_aload_n d_X7_fewestPresses_66 m5_ (s_getN cf d_X7_fewestPresses_67 fl_X7_107 (s_iconst d_X7_fewestPresses_70 n_1 (s_iadd d_X7_fewestPresses_71 rfl rfl ?_)))))
  refine s_iconst d_X7_fewestPresses_72 n_2 (s_ck1 (s_idiv d_X7_fewestPresses_73 (s_iadd d_X7_fewestPresses_74 rfl rfl (s_iadd d_X7_fewestPresses_75 rfl rfl (s_ck ?_)))))
  exact s_let fun v7 => (s_istore_n (L' := [(3, aI v7), (2, aI v6), (1, aI v5), (7, aR (some (2, i3))), (6, aI l6_22), (0, aR (some (0, l0))), (4, aR (some (14, i1))), (5, aI (lenI m 14 i1))]) d_X7_fewestPresses_76 (b8 rfl) rfl (s_iinc (L' := [(6, aI (l6_22 + 1)), (3, aI v7), (2, aI v6), (1, aI v5), (7, aR (some (2, i3))), (0, aR (some (0, l0))), (4, aR (some (14, i1))), (5, aI (lenI m 14 i1))]) d_X7_fewestPresses_77 m4_ (b8 rfl) rfl (s_goto (tgt := 22) d_X7_fewestPresses_80 rfl (s_sub (subc m3_ (subc m2_ (subc m1_ (subc m0_ (subc m5_ (subc m6_ (subc m7_ sub0))))))) (s_back (ih22 (v5, v6, v7, (l6_22 + 1))))))))
theorem d_X11_presses_0 : dk me_X11_presses 0 (.aload_n 0) 1 1 := And.intro (by decide +kernel) rfl
theorem d_X11_presses_1 : dk me_X11_presses 1 (.iload_n 1) 1 2 := And.intro (by decide +kernel) rfl
theorem d_X11_presses_2 : dk me_X11_presses 2 (.invokevirtual 143) 3 5 := And.intro (by decide +kernel) rfl
theorem d_X11_presses_5 : dk me_X11_presses 5 (.invokestatic 425) 3 8 := And.intro (by decide +kernel) rfl
theorem d_X11_presses_8 : dk me_X11_presses 8 (.ireturn) 1 9 := And.intro (by decide +kernel) rfl
theorem ms_X11_presses {fx : FX} {m : MM} {l0 : Nat} {l1 : Int} : MS fx me_X11_presses [aR (some (11, l0)), aI l1] m (f_X11_presses m l0 l1) := by
  refine ms_of rfl mf_X11_presses (b8 rfl) ?_
  refine s_top ?_
  show Sim fx me_X11_presses 0 [(0, aR (some (11, l0))), (1, aI l1)] [] m _
  unfold f_X11_presses
  exact s_aload_n d_X11_presses_0 m0_ (s_iload_n d_X11_presses_1 m1_ (s_cR (r_V d_X11_presses_2 k_X11_bookAt w_814 rfl rfl) ms_X11_bookAt (b8 rfl) rfl rfl rfl (fun h => by cases h) (fun _ _ => Or.inr rfl) fun r2 m1 => (s_nk fun i3 => (s_pI (r_S d_X11_presses_5 k_X7_fewestPresses w_1367 rfl rfl) ms_X7_fewestPresses (b8 rfl) rfl rfl rfl fun v4 => (s_iret d_X11_presses_8 rfl rfl)))))
theorem d_L_presses_0 : dk me_L_presses 0 (.aload_n 2) 1 1 := And.intro (by decide +kernel) rfl
theorem d_L_presses_1 : dk me_L_presses 1 (.iconst 0) 1 2 := And.intro (by decide +kernel) rfl
theorem d_L_presses_2 : dk me_L_presses 2 (.aload_n 0) 1 3 := And.intro (by decide +kernel) rfl
theorem d_L_presses_3 : dk me_L_presses 3 (.iload_n 1) 1 4 := And.intro (by decide +kernel) rfl
theorem d_L_presses_4 : dk me_L_presses 4 (.invokevirtual 135) 3 7 := And.intro (by decide +kernel) rfl
theorem d_L_presses_7 : dk me_L_presses 7 (.i2l) 1 8 := And.intro (by decide +kernel) rfl
theorem d_L_presses_8 : dk me_L_presses 8 (.lastore) 1 9 := And.intro (by decide +kernel) rfl
theorem d_L_presses_9 : dk me_L_presses 9 (.goto 6) 3 12 := And.intro (by decide +kernel) rfl
theorem d_L_presses_12 : dk me_L_presses 12 (.astore_n 3) 1 13 := And.intro (by decide +kernel) rfl
theorem d_L_presses_13 : dk me_L_presses 13 (.iconst 1) 1 14 := And.intro (by decide +kernel) rfl
theorem d_L_presses_14 : dk me_L_presses 14 (.ireturn) 1 15 := And.intro (by decide +kernel) rfl
theorem d_L_presses_15 : dk me_L_presses 15 (.iconst 0) 1 16 := And.intro (by decide +kernel) rfl
theorem d_L_presses_16 : dk me_L_presses 16 (.ireturn) 1 17 := And.intro (by decide +kernel) rfl
theorem ms_L_presses {fx : FX} {m : MM} {l0 : Nat} {l1 : Int} {l2 : Nat} : MS fx me_L_presses [aR (some (11, l0)), aI l1, aR (some (131, l2))] m (f_L_presses m l0 l1 l2) := by
  refine ms_ofH rfl mf_L_presses (b8 rfl) ?_
  refine s_top ?_
  show Sim fx me_L_presses 0 [(0, aR (some (11, l0))), (1, aI l1), (2, aR (some (131, l2)))] [] m _
  unfold f_L_presses
  refine s_aload_n d_L_presses_0 m2_ (s_iconst d_L_presses_1 n_0 (s_aload_n d_L_presses_2 m0_ (s_iload_n d_L_presses_3 m1_ (s_cIC (r_V d_L_presses_4 k_X11_presses w_1363 rfl rfl) ms_X11_presses (b8 rfl) rfl rfl ?_ ?_ ?_ fun v2 m1 => ?_))))
  · refine fun mx => Or.inr ⟨12, ⟨rfl, by decide, 0, wx_29_0, Or.inl ⟨rfl, rfl⟩⟩, fun qx => ?_⟩
    exact s_astoreV_n (L' := [(3, aV (.ref qx)), (0, aR (some (11, l0))), (1, aI l1), (2, aR (some (131, l2)))]) d_L_presses_12 (b8 rfl) rfl (s_iconst d_L_presses_13 n_1 (s_iret d_L_presses_14 rfl rfl))
  · exact fun _ => Or.inl rfl
  · exact fun _ => Or.inl rfl
  exact s_i2l d_L_presses_7 (s_stL d_L_presses_8 ka_131 rfl fun m3 => (s_goto (tgt := 15) d_L_presses_9 rfl (s_iconst d_L_presses_15 n_0 (s_iret d_L_presses_16 rfl rfl))))
theorem d_X8_isOnPress_0 : dk me_X8_isOnPress 0 (.aload_n 0) 1 1 := And.intro (by decide +kernel) rfl
theorem d_X8_isOnPress_1 : dk me_X8_isOnPress 1 (.getfield 9) 3 4 := And.intro (by decide +kernel) rfl
theorem d_X8_isOnPress_4 : dk me_X8_isOnPress 4 (.getfield 18) 3 7 := And.intro (by decide +kernel) rfl
theorem d_X8_isOnPress_7 : dk me_X8_isOnPress 7 (.iconst 2) 1 8 := And.intro (by decide +kernel) rfl
theorem d_X8_isOnPress_8 : dk me_X8_isOnPress 8 (.if_icmp .eq 14) 3 11 := And.intro (by decide +kernel) rfl
theorem d_X8_isOnPress_11 : dk me_X8_isOnPress 11 (.aload_n 0) 1 12 := And.intro (by decide +kernel) rfl
theorem d_X8_isOnPress_12 : dk me_X8_isOnPress 12 (.getfield 15) 3 15 := And.intro (by decide +kernel) rfl
theorem d_X8_isOnPress_15 : dk me_X8_isOnPress 15 (.getfield 18) 3 18 := And.intro (by decide +kernel) rfl
theorem d_X8_isOnPress_18 : dk me_X8_isOnPress 18 (.iconst 2) 1 19 := And.intro (by decide +kernel) rfl
theorem d_X8_isOnPress_19 : dk me_X8_isOnPress 19 (.if_icmp .ne 7) 3 22 := And.intro (by decide +kernel) rfl
theorem d_X8_isOnPress_22 : dk me_X8_isOnPress 22 (.iconst 1) 1 23 := And.intro (by decide +kernel) rfl
theorem d_X8_isOnPress_23 : dk me_X8_isOnPress 23 (.goto 4) 3 26 := And.intro (by decide +kernel) rfl
theorem d_X8_isOnPress_26 : dk me_X8_isOnPress 26 (.iconst 0) 1 27 := And.intro (by decide +kernel) rfl
theorem d_X8_isOnPress_27 : dk me_X8_isOnPress 27 (.ireturn) 1 28 := And.intro (by decide +kernel) rfl
theorem ms_X8_isOnPress {fx : FX} {m : MM} {l0 : Nat} : MS fx me_X8_isOnPress [aR (some (8, l0))] m ((f_X8_isOnPress m l0).bind fun v => some (.inl (some (aI v)), m)) := by
  refine ms_of rfl mf_X8_isOnPress (b8 rfl) ?_
  show Sim fx me_X8_isOnPress 0 [(0, aR (some (8, l0)))] [] m _
  unfold f_X8_isOnPress
  refine s_aload_n d_X8_isOnPress_0 m0_ (s_getR cf d_X8_isOnPress_1 fl_X8_9 (s_nk fun i1 => (s_getN cf d_X8_isOnPress_4 fl_X8_18 (s_iconst d_X8_isOnPress_7 n_2 (s_icmp_eq (tgt := 22) d_X8_isOnPress_8 rfl ?_ ?_)))))
  · exact s_iconst d_X8_isOnPress_22 n_1 (s_goto (tgt := 27) d_X8_isOnPress_23 rfl (s_zretl d_X8_isOnPress_27 rfl (by decide) rfl))
  refine s_aload_n d_X8_isOnPress_11 m0_ (s_getR cf d_X8_isOnPress_12 fl_X8_15 (s_nk fun i2 => (s_getN cf d_X8_isOnPress_15 fl_X8_18 (s_iconst d_X8_isOnPress_18 n_2 (s_icmp_ne (tgt := 26) d_X8_isOnPress_19 rfl ?_ ?_)))))
  · exact s_iconst d_X8_isOnPress_26 n_0 (s_zretl d_X8_isOnPress_27 rfl (by decide) rfl)
  exact s_iconst d_X8_isOnPress_22 n_1 (s_goto (tgt := 27) d_X8_isOnPress_23 rfl (s_zretl d_X8_isOnPress_27 rfl (by decide) rfl))
theorem d_X8_isWhite_0 : dk me_X8_isWhite 0 (.aload_n 0) 1 1 := And.intro (by decide +kernel) rfl
theorem d_X8_isWhite_1 : dk me_X8_isWhite 1 (.getfield 24) 3 4 := And.intro (by decide +kernel) rfl
theorem d_X8_isWhite_4 : dk me_X8_isWhite 4 (.ifnonnull 7) 3 7 := And.intro (by decide +kernel) rfl
theorem d_X8_isWhite_7 : dk me_X8_isWhite 7 (.iconst 1) 1 8 := And.intro (by decide +kernel) rfl
theorem d_X8_isWhite_8 : dk me_X8_isWhite 8 (.goto 4) 3 11 := And.intro (by decide +kernel) rfl
theorem d_X8_isWhite_11 : dk me_X8_isWhite 11 (.iconst 0) 1 12 := And.intro (by decide +kernel) rfl
theorem d_X8_isWhite_12 : dk me_X8_isWhite 12 (.ireturn) 1 13 := And.intro (by decide +kernel) rfl
theorem ms_X8_isWhite {fx : FX} {m : MM} {l0 : Nat} : MS fx me_X8_isWhite [aR (some (8, l0))] m ((f_X8_isWhite m l0).bind fun v => some (.inl (some (aI v)), m)) := by
  refine ms_of rfl mf_X8_isWhite (b8 rfl) ?_
  show Sim fx me_X8_isWhite 0 [(0, aR (some (8, l0)))] [] m _
  unfold f_X8_isWhite
  refine s_aload_n d_X8_isWhite_0 m0_ (s_getR cf d_X8_isWhite_1 fl_X8_24 (s_ifnonnull (tgt := 11) d_X8_isWhite_4 rfl ?_ ?_))
  · exact s_iconst d_X8_isWhite_11 n_0 (s_zretl d_X8_isWhite_12 rfl (by decide) rfl)
  exact s_iconst d_X8_isWhite_7 n_1 (s_goto (tgt := 12) d_X8_isWhite_8 rfl (s_zretl d_X8_isWhite_12 rfl (by decide) rfl))
theorem d_X8_takeHeap_0 : dk me_X8_takeHeap 0 (.aload_n 0) 1 1 := And.intro (by decide +kernel) rfl
theorem d_X8_takeHeap_1 : dk me_X8_takeHeap 1 (.aload_n 1) 1 2 := And.intro (by decide +kernel) rfl
theorem d_X8_takeHeap_2 : dk me_X8_takeHeap 2 (.putfield 24) 3 5 := And.intro (by decide +kernel) rfl
theorem d_X8_takeHeap_5 : dk me_X8_takeHeap 5 (.aload_n 0) 1 6 := And.intro (by decide +kernel) rfl
theorem d_X8_takeHeap_6 : dk me_X8_takeHeap 6 (.iload_n 2) 1 7 := And.intro (by decide +kernel) rfl
theorem d_X8_takeHeap_7 : dk me_X8_takeHeap 7 (.putfield 27) 3 10 := And.intro (by decide +kernel) rfl
theorem d_X8_takeHeap_10 : dk me_X8_takeHeap 10 (.aload_n 0) 1 11 := And.intro (by decide +kernel) rfl
theorem d_X8_takeHeap_11 : dk me_X8_takeHeap 11 (.iload_n 3) 1 12 := And.intro (by decide +kernel) rfl
theorem d_X8_takeHeap_12 : dk me_X8_takeHeap 12 (.putfield 30) 3 15 := And.intro (by decide +kernel) rfl
theorem d_X8_takeHeap_15 : dk me_X8_takeHeap 15 (.return_) 1 16 := And.intro (by decide +kernel) rfl
theorem ms_X8_takeHeap {fx : FX} {m : MM} {l0 : Nat} {l1 : Nat} {l2 : Int} {l3 : Int} : MS fx me_X8_takeHeap [aR (some (8, l0)), aR (some (2, l1)), aI l2, aI l3] m (f_X8_takeHeap m l0 l1 l2 l3) := by
  refine ms_of rfl mf_X8_takeHeap (b8 rfl) ?_
  refine s_top ?_
  show Sim fx me_X8_takeHeap 0 [(0, aR (some (8, l0))), (1, aR (some (2, l1))), (2, aI l2), (3, aI l3)] [] m _
  unfold f_X8_takeHeap
  refine s_aload_n d_X8_takeHeap_0 m0_ (s_aload_n d_X8_takeHeap_1 m1_ (s_putR cf d_X8_takeHeap_2 fl_X8_24 (fun h => by cases h) fun m1 => (s_aload_n d_X8_takeHeap_5 m0_ (s_iload_n d_X8_takeHeap_6 m2_ (s_putN cf d_X8_takeHeap_7 fl_X8_27 (fun h => by cases h) fun m2 => ?_)))))
  exact s_aload_n d_X8_takeHeap_10 m0_ (s_iload_n d_X8_takeHeap_11 m3_ (s_putN cf d_X8_takeHeap_12 fl_X8_30 (fun h => by cases h) fun m3 => (s_vret d_X8_takeHeap_15 rfl rfl)))
theorem d_X11_print_0 : dk me_X11_print 0 (.aload_n 0) 1 1 := And.intro (by decide +kernel) rfl
theorem d_X11_print_1 : dk me_X11_print 1 (.iload_n 1) 1 2 := And.intro (by decide +kernel) rfl
theorem d_X11_print_2 : dk me_X11_print 2 (.invokevirtual 287) 3 5 := And.intro (by decide +kernel) rfl
theorem d_X11_print_5 : dk me_X11_print 5 (.astore 4) 2 7 := And.intro (by decide +kernel) rfl
theorem d_X11_print_7 : dk me_X11_print 7 (.aload_n 0) 1 8 := And.intro (by decide +kernel) rfl
theorem d_X11_print_8 : dk me_X11_print 8 (.iload_n 2) 1 9 := And.intro (by decide +kernel) rfl
theorem d_X11_print_9 : dk me_X11_print 9 (.invokevirtual 143) 3 12 := And.intro (by decide +kernel) rfl
theorem d_X11_print_12 : dk me_X11_print 12 (.astore 5) 2 14 := And.intro (by decide +kernel) rfl
theorem d_X11_print_14 : dk me_X11_print 14 (.aload 5) 2 16 := And.intro (by decide +kernel) rfl
theorem d_X11_print_16 : dk me_X11_print 16 (.iload_n 3) 1 17 := And.intro (by decide +kernel) rfl
theorem d_X11_print_17 : dk me_X11_print 17 (.invokestatic 269) 3 20 := And.intro (by decide +kernel) rfl
theorem d_X11_print_20 : dk me_X11_print 20 (.astore 6) 2 22 := And.intro (by decide +kernel) rfl
theorem d_X11_print_22 : dk me_X11_print 22 (.aload 5) 2 24 := And.intro (by decide +kernel) rfl
theorem d_X11_print_24 : dk me_X11_print 24 (.getfield 291) 3 27 := And.intro (by decide +kernel) rfl
theorem d_X11_print_27 : dk me_X11_print 27 (.iload_n 3) 1 28 := And.intro (by decide +kernel) rfl
theorem d_X11_print_28 : dk me_X11_print 28 (.iconst 2) 1 29 := And.intro (by decide +kernel) rfl
theorem d_X11_print_29 : dk me_X11_print 29 (.idiv) 1 30 := And.intro (by decide +kernel) rfl
theorem d_X11_print_30 : dk me_X11_print 30 (.aaload) 1 31 := And.intro (by decide +kernel) rfl
theorem d_X11_print_31 : dk me_X11_print 31 (.astore 7) 2 33 := And.intro (by decide +kernel) rfl
theorem d_X11_print_33 : dk me_X11_print 33 (.aload 4) 2 35 := And.intro (by decide +kernel) rfl
theorem d_X11_print_35 : dk me_X11_print 35 (.getfield 295) 3 38 := And.intro (by decide +kernel) rfl
theorem d_X11_print_38 : dk me_X11_print 38 (.ifnonnull 24) 3 41 := And.intro (by decide +kernel) rfl
theorem d_X11_print_41 : dk me_X11_print 41 (.aload 6) 2 43 := And.intro (by decide +kernel) rfl
theorem d_X11_print_43 : dk me_X11_print 43 (.getfield 273) 3 46 := And.intro (by decide +kernel) rfl
theorem d_X11_print_46 : dk me_X11_print 46 (.iconst 1) 1 47 := And.intro (by decide +kernel) rfl
theorem d_X11_print_47 : dk me_X11_print 47 (.if_icmp .ne 15) 3 50 := And.intro (by decide +kernel) rfl
theorem d_X11_print_50 : dk me_X11_print 50 (.aload 7) 2 52 := And.intro (by decide +kernel) rfl
theorem d_X11_print_52 : dk me_X11_print 52 (.invokevirtual 299) 3 55 := And.intro (by decide +kernel) rfl
theorem d_X11_print_55 : dk me_X11_print 55 (.ifCond .ne 7) 3 58 := And.intro (by decide +kernel) rfl
theorem d_X11_print_58 : dk me_X11_print 58 (.iconst 1) 1 59 := And.intro (by decide +kernel) rfl
theorem d_X11_print_59 : dk me_X11_print 59 (.goto 4) 3 62 := And.intro (by decide +kernel) rfl
theorem d_X11_print_62 : dk me_X11_print 62 (.iconst 0) 1 63 := And.intro (by decide +kernel) rfl
theorem d_X11_print_63 : dk me_X11_print 63 (.invokestatic 69) 3 66 := And.intro (by decide +kernel) rfl
theorem d_X11_print_66 : dk me_X11_print 66 (.aload 7) 2 68 := And.intro (by decide +kernel) rfl
theorem d_X11_print_68 : dk me_X11_print 68 (.invokevirtual 304) 3 71 := And.intro (by decide +kernel) rfl
theorem d_X11_print_71 : dk me_X11_print 71 (.ifCond .eq 40) 3 74 := And.intro (by decide +kernel) rfl
theorem d_X11_print_74 : dk me_X11_print 74 (.aload 7) 2 76 := And.intro (by decide +kernel) rfl
theorem d_X11_print_76 : dk me_X11_print 76 (.aload 6) 2 78 := And.intro (by decide +kernel) rfl
theorem d_X11_print_78 : dk me_X11_print 78 (.aload_n 0) 1 79 := And.intro (by decide +kernel) rfl
theorem d_X11_print_79 : dk me_X11_print 79 (.getfield 307) 3 82 := And.intro (by decide +kernel) rfl
theorem d_X11_print_82 : dk me_X11_print 82 (.aload_n 0) 1 83 := And.intro (by decide +kernel) rfl
theorem d_X11_print_83 : dk me_X11_print 83 (.getfield 42) 3 86 := And.intro (by decide +kernel) rfl
theorem d_X11_print_86 : dk me_X11_print 86 (.aload_n 0) 1 87 := And.intro (by decide +kernel) rfl
theorem d_X11_print_87 : dk me_X11_print 87 (.getfield 307) 3 90 := And.intro (by decide +kernel) rfl
theorem d_X11_print_90 : dk me_X11_print 90 (.iaload) 1 91 := And.intro (by decide +kernel) rfl
theorem d_X11_print_91 : dk me_X11_print 91 (.invokevirtual 310) 3 94 := And.intro (by decide +kernel) rfl
theorem d_X11_print_94 : dk me_X11_print 94 (.aload_n 0) 1 95 := And.intro (by decide +kernel) rfl
theorem d_X11_print_95 : dk me_X11_print 95 (.getfield 42) 3 98 := And.intro (by decide +kernel) rfl
theorem d_X11_print_98 : dk me_X11_print 98 (.aload_n 0) 1 99 := And.intro (by decide +kernel) rfl
theorem d_X11_print_99 : dk me_X11_print 99 (.getfield 307) 3 102 := And.intro (by decide +kernel) rfl
theorem d_X11_print_102 : dk me_X11_print 102 (.dup2) 1 103 := And.intro (by decide +kernel) rfl
theorem d_X11_print_103 : dk me_X11_print 103 (.iaload) 1 104 := And.intro (by decide +kernel) rfl
theorem d_X11_print_104 : dk me_X11_print 104 (.aload 5) 2 106 := And.intro (by decide +kernel) rfl
theorem d_X11_print_106 : dk me_X11_print 106 (.getfield 314) 3 109 := And.intro (by decide +kernel) rfl
theorem d_X11_print_109 : dk me_X11_print 109 (.iadd) 1 110 := And.intro (by decide +kernel) rfl
theorem d_X11_print_110 : dk me_X11_print 110 (.iastore) 1 111 := And.intro (by decide +kernel) rfl
theorem d_X11_print_111 : dk me_X11_print 111 (.aload 6) 2 113 := And.intro (by decide +kernel) rfl
theorem d_X11_print_113 : dk me_X11_print 113 (.iconst 2) 1 114 := And.intro (by decide +kernel) rfl
theorem d_X11_print_114 : dk me_X11_print 114 (.putfield 273) 3 117 := And.intro (by decide +kernel) rfl
theorem d_X11_print_117 : dk me_X11_print 117 (.aload 6) 2 119 := And.intro (by decide +kernel) rfl
theorem d_X11_print_119 : dk me_X11_print 119 (.aload_n 0) 1 120 := And.intro (by decide +kernel) rfl
theorem d_X11_print_120 : dk me_X11_print 120 (.getfield 317) 3 123 := And.intro (by decide +kernel) rfl
theorem d_X11_print_123 : dk me_X11_print 123 (.putfield 320) 3 126 := And.intro (by decide +kernel) rfl
theorem d_X11_print_126 : dk me_X11_print 126 (.aload 4) 2 128 := And.intro (by decide +kernel) rfl
theorem d_X11_print_128 : dk me_X11_print 128 (.aload 6) 2 130 := And.intro (by decide +kernel) rfl
theorem d_X11_print_130 : dk me_X11_print 130 (.putfield 295) 3 133 := And.intro (by decide +kernel) rfl
theorem d_X11_print_133 : dk me_X11_print 133 (.return_) 1 134 := And.intro (by decide +kernel) rfl
theorem ms_X11_print {fx : FX} {m : MM} {l0 : Nat} {l1 : Int} {l2 : Int} {l3 : Int} : MS fx me_X11_print [aR (some (11, l0)), aI l1, aI l2, aI l3] m (f_X11_print m l0 l1 l2 l3) := by
  refine ms_of rfl mf_X11_print (b8 rfl) ?_
  refine s_top ?_
  show Sim fx me_X11_print 0 [(0, aR (some (11, l0))), (1, aI l1), (2, aI l2), (3, aI l3)] [] m _
  unfold f_X11_print
  have hj_X11_print_0_111 : ∀ (m_111 : MM) (l0_111 : Nat) (l4_111 : Nat) (l6_111 : Nat), Sim fx me_X11_print 111 [(0, aR (some (11, l0_111))), (4, aR (some (6, l4_111))), (6, aR (some (2, l6_111)))] [] m_111 ((j_X11_print_0_111 m_111 l0_111 l4_111 l6_111).bind (fun z => some z)) := by
    intro m_111 l0_111 l4_111 l6_111
    unfold j_X11_print_0_111
    refine s_aload d_X11_print_111 m2_ (s_iconst d_X11_print_113 n_2 (s_putN cf d_X11_print_114 fl_X11_273 (fun h => by cases h) fun m24 => (s_aload d_X11_print_117 m2_ (s_aload_n d_X11_print_119 m0_ (s_getN cf d_X11_print_120 fl_X11_317 ?_)))))
    exact s_putN cf d_X11_print_123 fl_X11_320 (fun h => by cases h) fun m25 => (s_aload d_X11_print_126 m1_ (s_aload d_X11_print_128 m2_ (s_putR cf d_X11_print_130 fl_X11_295 (fun h => by cases h) fun m26 => (s_vret d_X11_print_133 rfl rfl))))
  have hj_X11_print_0_63 : ∀ (m_63 : MM) (l0_63 : Nat) (l4_63 : Nat) (l5_63 : Nat) (l6_63 : Nat) (l7_63 : Nat) (s0_63 : Int), Sim fx me_X11_print 63 [(0, aR (some (11, l0_63))), (4, aR (some (6, l4_63))), (5, aR (some (0, l5_63))), (6, aR (some (2, l6_63))), (7, aR (some (8, l7_63)))] [aI s0_63] m_63 ((j_X11_print_0_63 m_63 l0_63 l4_63 l5_63 l6_63 l7_63 s0_63).bind (fun z => some z)) := by
    intro m_63 l0_63 l4_63 l5_63 l6_63 l7_63 s0_63
    unfold j_X11_print_0_63
    refine s_cV (r_S d_X11_print_63 k_X11_requireState w_363 rfl rfl) ms_X11_requireState (b8 rfl) rfl rfl rfl (fun h => by cases h) (fun _ _ => Or.inr rfl) fun m14 => (s_aload d_X11_print_66 m4_ (s_pI (r_V d_X11_print_68 k_X8_isWhite w_1062 rfl rfl) ms_X8_isWhite (b8 rfl) rfl rfl rfl fun v16 => (s_if_eq (tgt := 111) d_X11_print_71 rfl ?_ ?_)))
    · exact s_sub (subc m0_ (subc m1_ (subc m3_ sub0))) (hj_X11_print_0_111 m14 l0_63 l4_63 l6_63)
    refine s_aload d_X11_print_74 m4_ (s_aload d_X11_print_76 m3_ (s_aload_n d_X11_print_78 m0_ (s_getN cf d_X11_print_79 fl_X11_307 (s_aload_n d_X11_print_82 m0_ (s_getR cf d_X11_print_83 fl_X11_42 ?_)))))
    refine s_nk fun i17 => (s_aload_n d_X11_print_86 m0_ (s_getN cf d_X11_print_87 fl_X11_307 (s_ldN d_X11_print_90 ka_58 rfl fun v18 => (s_cV (r_V d_X11_print_91 k_X8_takeHeap w_1066 rfl rfl) ms_X8_takeHeap (b8 rfl) rfl rfl rfl (fun _ _ _ => rfl) (fun _ _ => Or.inl rfl) fun m19 => (s_aload_n d_X11_print_94 m0_ ?_)))))
    refine s_getR cf d_X11_print_95 fl_X11_42 (s_nk fun i21 => (s_aload_n d_X11_print_98 m0_ (s_getN cf d_X11_print_99 fl_X11_307 (s_dup2 d_X11_print_102 rfl rfl (s_ldN d_X11_print_103 ka_58 rfl fun v22 => ?_)))))
    exact s_aload d_X11_print_104 m2_ (s_getN cf d_X11_print_106 fl_X11_314 (s_iadd d_X11_print_109 rfl rfl (s_ck (s_stN d_X11_print_110 ka_58 rfl fun m23 => (s_sub (subc m0_ (subc m1_ (subc m3_ sub0))) (hj_X11_print_0_111 m23 l0_63 l4_63 l6_63))))))
  have hj_X11_print_0_62 : ∀ (m_62 : MM) (l0_62 : Nat) (l4_62 : Nat) (l5_62 : Nat) (l6_62 : Nat) (l7_62 : Nat), Sim fx me_X11_print 62 [(0, aR (some (11, l0_62))), (4, aR (some (6, l4_62))), (5, aR (some (0, l5_62))), (6, aR (some (2, l6_62))), (7, aR (some (8, l7_62)))] [] m_62 ((j_X11_print_0_62 m_62 l0_62 l4_62 l5_62 l6_62 l7_62).bind (fun z => some z)) := by
    intro m_62 l0_62 l4_62 l5_62 l6_62 l7_62
    unfold j_X11_print_0_62
    exact s_iconst d_X11_print_62 n_0 (s_sub (subc m0_ (subc m1_ (subc m2_ (subc m3_ (subc m4_ sub0))))) (hj_X11_print_0_63 m_62 l0_62 l4_62 l5_62 l6_62 l7_62 0))
  refine s_aload_n d_X11_print_0 m0_ (s_iload_n d_X11_print_1 m1_ (s_cR (r_V d_X11_print_2 k_X11_pressAt w_1053 rfl rfl) ms_X11_pressAt (b8 rfl) rfl rfl rfl (fun h => by cases h) (fun _ _ => Or.inr rfl) fun r2 m1 => (s_nk fun i3 => (s_astore (L' := [(4, aR (some (6, i3))), (0, aR (some (11, l0))), (1, aI l1), (2, aI l2), (3, aI l3)]) d_X11_print_5 (b8 rfl) rfl (s_aload_n d_X11_print_7 m1_ ?_)))))
  refine s_iload_n d_X11_print_8 m3_ (s_cR (r_V d_X11_print_9 k_X11_bookAt w_814 rfl rfl) ms_X11_bookAt (b8 rfl) rfl rfl rfl (fun h => by cases h) (fun _ _ => Or.inr rfl) fun r5 m4 => (s_nk fun i6 => (s_astore (L' := [(5, aR (some (0, i6))), (4, aR (some (6, i3))), (0, aR (some (11, l0))), (1, aI l1), (2, aI l2), (3, aI l3)]) d_X11_print_12 (b8 rfl) rfl (s_aload d_X11_print_14 m0_ (s_iload_n d_X11_print_16 m5_ ?_)))))
  refine s_cR (r_S d_X11_print_17 k_X11_formeOf w_1025 rfl rfl) ms_X11_formeOf (b8 rfl) rfl rfl rfl (fun h => by cases h) (fun _ _ => Or.inr rfl) fun r8 m7 => (s_nk fun i9 => (s_astore (L' := [(6, aR (some (2, i9))), (5, aR (some (0, i6))), (4, aR (some (6, i3))), (0, aR (some (11, l0))), (1, aI l1), (2, aI l2), (3, aI l3)]) d_X11_print_20 (b8 rfl) rfl (s_aload d_X11_print_22 m1_ (s_getR cf d_X11_print_24 fl_X11_291 (s_nk fun i10 => ?_)))))
  refine s_iload_n d_X11_print_27 m6_ (s_iconst d_X11_print_28 n_2 (s_idiv d_X11_print_29 (s_ldR d_X11_print_30 ka_15 ta_15 rfl rfl fun r11 => (s_nk fun i12 => (s_astore (L' := [(7, aR (some (8, i12))), (6, aR (some (2, i9))), (5, aR (some (0, i6))), (4, aR (some (6, i3))), (0, aR (some (11, l0))), (1, aI l1), (2, aI l2), (3, aI l3)]) d_X11_print_31 (b8 rfl) rfl ?_)))))
  refine s_aload d_X11_print_33 m3_ (s_getR cf d_X11_print_35 fl_X11_295 (s_ifnonnull (tgt := 62) d_X11_print_38 rfl ?_ ?_))
  · exact s_sub (subc m4_ (subc m3_ (subc m2_ (subc m1_ (subc m0_ sub0))))) (hj_X11_print_0_62 m7 l0 i3 i6 i9 i12)
  refine s_aload d_X11_print_41 m1_ (s_getN cf d_X11_print_43 fl_X11_273 (s_iconst d_X11_print_46 n_1 (s_icmp_ne (tgt := 62) d_X11_print_47 rfl ?_ ?_)))
  · exact s_sub (subc m4_ (subc m3_ (subc m2_ (subc m1_ (subc m0_ sub0))))) (hj_X11_print_0_62 m7 l0 i3 i6 i9 i12)
  refine s_aload d_X11_print_50 m0_ (s_pI (r_V d_X11_print_52 k_X8_isOnPress w_1058 rfl rfl) ms_X8_isOnPress (b8 rfl) rfl rfl rfl fun v13 => (s_if_ne (tgt := 62) d_X11_print_55 rfl ?_ ?_))
  · exact s_sub (subc m4_ (subc m3_ (subc m2_ (subc m1_ (subc m0_ sub0))))) (hj_X11_print_0_62 m7 l0 i3 i6 i9 i12)
  exact s_iconst d_X11_print_58 n_1 (s_goto (tgt := 63) d_X11_print_59 rfl (s_sub (subc m4_ (subc m3_ (subc m2_ (subc m1_ (subc m0_ sub0))))) (hj_X11_print_0_63 m7 l0 i3 i6 i9 i12 1)))
theorem d_L_print_0 : dk me_L_print 0 (.aload_n 0) 1 1 := And.intro (by decide +kernel) rfl
theorem d_L_print_1 : dk me_L_print 1 (.iload_n 1) 1 2 := And.intro (by decide +kernel) rfl
theorem d_L_print_2 : dk me_L_print 2 (.iload_n 2) 1 3 := And.intro (by decide +kernel) rfl
theorem d_L_print_3 : dk me_L_print 3 (.iload_n 3) 1 4 := And.intro (by decide +kernel) rfl
theorem d_L_print_4 : dk me_L_print 4 (.invokevirtual 71) 3 7 := And.intro (by decide +kernel) rfl
theorem d_L_print_7 : dk me_L_print 7 (.goto 11) 3 10 := And.intro (by decide +kernel) rfl
theorem d_L_print_10 : dk me_L_print 10 (.astore 4) 2 12 := And.intro (by decide +kernel) rfl
theorem d_L_print_12 : dk me_L_print 12 (.iconst 1) 1 13 := And.intro (by decide +kernel) rfl
theorem d_L_print_13 : dk me_L_print 13 (.ireturn) 1 14 := And.intro (by decide +kernel) rfl
theorem d_L_print_14 : dk me_L_print 14 (.astore 4) 2 16 := And.intro (by decide +kernel) rfl
theorem d_L_print_16 : dk me_L_print 16 (.iconst 2) 1 17 := And.intro (by decide +kernel) rfl
theorem d_L_print_17 : dk me_L_print 17 (.ireturn) 1 18 := And.intro (by decide +kernel) rfl
theorem d_L_print_18 : dk me_L_print 18 (.iconst 0) 1 19 := And.intro (by decide +kernel) rfl
theorem d_L_print_19 : dk me_L_print 19 (.ireturn) 1 20 := And.intro (by decide +kernel) rfl
theorem ms_L_print {fx : FX} {m : MM} {l0 : Nat} {l1 : Int} {l2 : Int} {l3 : Int} : MS fx me_L_print [aR (some (11, l0)), aI l1, aI l2, aI l3] m (f_L_print m l0 l1 l2 l3) := by
  refine ms_ofH rfl mf_L_print (b8 rfl) ?_
  refine s_top ?_
  show Sim fx me_L_print 0 [(0, aR (some (11, l0))), (1, aI l1), (2, aI l2), (3, aI l3)] [] m _
  unfold f_L_print
  refine s_aload_n d_L_print_0 m0_ (s_iload_n d_L_print_1 m1_ (s_iload_n d_L_print_2 m2_ (s_iload_n d_L_print_3 m3_ (s_cVC (r_V d_L_print_4 k_X11_print w_1049 rfl rfl) ms_X11_print (b8 rfl) rfl rfl ?_ ?_ ?_ fun m1 => ?_))))
  · refine fun mx => Or.inr ⟨10, ⟨rfl, by decide, 0, wx_29_0, Or.inl ⟨rfl, rfl⟩⟩, fun qx => ?_⟩
    exact s_astoreV (L' := [(4, aV (.ref qx)), (0, aR (some (11, l0))), (1, aI l1), (2, aI l2), (3, aI l3)]) d_L_print_10 (b8 rfl) rfl (s_iconst d_L_print_12 n_1 (s_iret d_L_print_13 rfl rfl))
  · exact fun _ => Or.inl rfl
  · refine fun mx => Or.inr ⟨14, ⟨rfl, by decide, 0, wx_29_0, Or.inr ⟨by decide, ⟨rfl, by decide, 2, wx_15_2, Or.inl ⟨rfl, rfl⟩⟩⟩⟩, fun qx => ?_⟩
    exact s_astoreV (L' := [(4, aV (.ref qx)), (0, aR (some (11, l0))), (1, aI l1), (2, aI l2), (3, aI l3)]) d_L_print_14 (b8 rfl) rfl (s_iconst d_L_print_16 n_2 (s_iret d_L_print_17 rfl rfl))
  exact s_goto (tgt := 18) d_L_print_7 rfl (s_iconst d_L_print_18 n_0 (s_iret d_L_print_19 rfl rfl))
theorem d_X3_boxForNext_0 : dk me_X3_boxForNext 0 (.aload_n 0) 1 1 := And.intro (by decide +kernel) rfl
theorem d_X3_boxForNext_1 : dk me_X3_boxForNext 1 (.dup) 1 2 := And.intro (by decide +kernel) rfl
theorem d_X3_boxForNext_2 : dk me_X3_boxForNext 2 (.getfield 24) 3 5 := And.intro (by decide +kernel) rfl
theorem d_X3_boxForNext_5 : dk me_X3_boxForNext 5 (.iconst 1) 1 6 := And.intro (by decide +kernel) rfl
theorem d_X3_boxForNext_6 : dk me_X3_boxForNext 6 (.iadd) 1 7 := And.intro (by decide +kernel) rfl
theorem d_X3_boxForNext_7 : dk me_X3_boxForNext 7 (.putfield 24) 3 10 := And.intro (by decide +kernel) rfl
theorem d_X3_boxForNext_10 : dk me_X3_boxForNext 10 (.aload_n 0) 1 11 := And.intro (by decide +kernel) rfl
theorem d_X3_boxForNext_11 : dk me_X3_boxForNext 11 (.getfield 15) 3 14 := And.intro (by decide +kernel) rfl
theorem d_X3_boxForNext_14 : dk me_X3_boxForNext 14 (.ifCond .le 24) 3 17 := And.intro (by decide +kernel) rfl
theorem d_X3_boxForNext_17 : dk me_X3_boxForNext 17 (.aload_n 0) 1 18 := And.intro (by decide +kernel) rfl
theorem d_X3_boxForNext_18 : dk me_X3_boxForNext 18 (.getfield 24) 3 21 := And.intro (by decide +kernel) rfl
theorem d_X3_boxForNext_21 : dk me_X3_boxForNext 21 (.aload_n 0) 1 22 := And.intro (by decide +kernel) rfl
theorem d_X3_boxForNext_22 : dk me_X3_boxForNext 22 (.getfield 15) 3 25 := And.intro (by decide +kernel) rfl
theorem d_X3_boxForNext_25 : dk me_X3_boxForNext 25 (.irem) 1 26 := And.intro (by decide +kernel) rfl
theorem d_X3_boxForNext_26 : dk me_X3_boxForNext 26 (.ifCond .ne 12) 3 29 := And.intro (by decide +kernel) rfl
theorem d_X3_boxForNext_29 : dk me_X3_boxForNext 29 (.iload_n 1) 1 30 := And.intro (by decide +kernel) rfl
theorem d_X3_boxForNext_30 : dk me_X3_boxForNext 30 (.iconst 1) 1 31 := And.intro (by decide +kernel) rfl
theorem d_X3_boxForNext_31 : dk me_X3_boxForNext 31 (.iadd) 1 32 := And.intro (by decide +kernel) rfl
theorem d_X3_boxForNext_32 : dk me_X3_boxForNext 32 (.bipush 28) 2 34 := And.intro (by decide +kernel) rfl
theorem d_X3_boxForNext_34 : dk me_X3_boxForNext 34 (.irem) 1 35 := And.intro (by decide +kernel) rfl
theorem d_X3_boxForNext_35 : dk me_X3_boxForNext 35 (.goto 4) 3 38 := And.intro (by decide +kernel) rfl
theorem d_X3_boxForNext_38 : dk me_X3_boxForNext 38 (.iload_n 1) 1 39 := And.intro (by decide +kernel) rfl
theorem d_X3_boxForNext_39 : dk me_X3_boxForNext 39 (.ireturn) 1 40 := And.intro (by decide +kernel) rfl
theorem ms_X3_boxForNext {fx : FX} {m : MM} {l0 : Nat} {l1 : Int} : MS fx me_X3_boxForNext [aR (some (3, l0)), aI l1] m (f_X3_boxForNext m l0 l1) := by
  refine ms_of rfl mf_X3_boxForNext (b8 rfl) ?_
  refine s_top ?_
  show Sim fx me_X3_boxForNext 0 [(0, aR (some (3, l0))), (1, aI l1)] [] m _
  unfold f_X3_boxForNext
  refine s_aload_n d_X3_boxForNext_0 m0_ (s_dup d_X3_boxForNext_1 rfl (s_getN cf d_X3_boxForNext_2 fl_X3_24 (s_iconst d_X3_boxForNext_5 n_1 (s_iadd d_X3_boxForNext_6 rfl rfl (s_ck ?_)))))
  refine s_putN cf d_X3_boxForNext_7 fl_X3_24 (fun h => by cases h) fun m1 => (s_aload_n d_X3_boxForNext_10 m0_ (s_getN cf d_X3_boxForNext_11 fl_X3_15 (s_if_le (tgt := 38) d_X3_boxForNext_14 rfl ?_ ?_)))
  · exact s_iload_n d_X3_boxForNext_38 m1_ (s_iret d_X3_boxForNext_39 rfl rfl)
  refine s_aload_n d_X3_boxForNext_17 m0_ (s_getN cf d_X3_boxForNext_18 fl_X3_24 (s_aload_n d_X3_boxForNext_21 m0_ (s_getN cf d_X3_boxForNext_22 fl_X3_15 (s_irem d_X3_boxForNext_25 (s_if_ne (tgt := 38) d_X3_boxForNext_26 rfl ?_ ?_)))))
  · exact s_iload_n d_X3_boxForNext_38 m1_ (s_iret d_X3_boxForNext_39 rfl rfl)
  refine s_iload_n d_X3_boxForNext_29 m1_ (s_iconst d_X3_boxForNext_30 n_1 (s_iadd d_X3_boxForNext_31 rfl rfl (s_bipush d_X3_boxForNext_32 n_28 rfl (s_ck1 (s_irem d_X3_boxForNext_34 ?_)))))
  exact s_goto (tgt := 39) d_X3_boxForNext_35 rfl (s_iret d_X3_boxForNext_39 rfl rfl)
theorem d_X5_clear_0 : dk me_X5_clear 0 (.iconst 0) 1 1 := And.intro (by decide +kernel) rfl
theorem d_X5_clear_1 : dk me_X5_clear 1 (.istore_n 3) 1 2 := And.intro (by decide +kernel) rfl
theorem d_X5_clear_2 : dk me_X5_clear 2 (.iconst 0) 1 3 := And.intro (by decide +kernel) rfl
theorem d_X5_clear_3 : dk me_X5_clear 3 (.istore 4) 2 5 := And.intro (by decide +kernel) rfl
theorem d_X5_clear_5 : dk me_X5_clear 5 (.iload 4) 2 7 := And.intro (by decide +kernel) rfl
theorem d_X5_clear_7 : dk me_X5_clear 7 (.aload_n 0) 1 8 := And.intro (by decide +kernel) rfl
theorem d_X5_clear_8 : dk me_X5_clear 8 (.getfield 27) 3 11 := And.intro (by decide +kernel) rfl
theorem d_X5_clear_11 : dk me_X5_clear 11 (.if_icmp .ge 60) 3 14 := And.intro (by decide +kernel) rfl
theorem d_X5_clear_14 : dk me_X5_clear 14 (.aload_n 0) 1 15 := And.intro (by decide +kernel) rfl
theorem d_X5_clear_15 : dk me_X5_clear 15 (.getfield 15) 3 18 := And.intro (by decide +kernel) rfl
theorem d_X5_clear_18 : dk me_X5_clear 18 (.iload 4) 2 20 := And.intro (by decide +kernel) rfl
theorem d_X5_clear_20 : dk me_X5_clear 20 (.iaload) 1 21 := And.intro (by decide +kernel) rfl
theorem d_X5_clear_21 : dk me_X5_clear 21 (.istore 5) 2 23 := And.intro (by decide +kernel) rfl
theorem d_X5_clear_23 : dk me_X5_clear 23 (.iload 5) 2 25 := And.intro (by decide +kernel) rfl
theorem d_X5_clear_25 : dk me_X5_clear 25 (.iconst (-1)) 1 26 := And.intro (by decide +kernel) rfl
theorem d_X5_clear_26 : dk me_X5_clear 26 (.if_icmp .eq 23) 3 29 := And.intro (by decide +kernel) rfl
theorem d_X5_clear_29 : dk me_X5_clear 29 (.aload_n 1) 1 30 := And.intro (by decide +kernel) rfl
theorem d_X5_clear_30 : dk me_X5_clear 30 (.aload_n 2) 1 31 := And.intro (by decide +kernel) rfl
theorem d_X5_clear_31 : dk me_X5_clear 31 (.aload_n 1) 1 32 := And.intro (by decide +kernel) rfl
theorem d_X5_clear_32 : dk me_X5_clear 32 (.getfield 44) 3 35 := And.intro (by decide +kernel) rfl
theorem d_X5_clear_35 : dk me_X5_clear 35 (.iload 5) 2 37 := And.intro (by decide +kernel) rfl
theorem d_X5_clear_37 : dk me_X5_clear 37 (.iaload) 1 38 := And.intro (by decide +kernel) rfl
theorem d_X5_clear_38 : dk me_X5_clear 38 (.invokevirtual 57) 3 41 := And.intro (by decide +kernel) rfl
theorem d_X5_clear_41 : dk me_X5_clear 41 (.iload 5) 2 43 := And.intro (by decide +kernel) rfl
theorem d_X5_clear_43 : dk me_X5_clear 43 (.invokevirtual 53) 3 46 := And.intro (by decide +kernel) rfl
theorem d_X5_clear_46 : dk me_X5_clear 46 (.iinc 3 1) 3 49 := And.intro (by decide +kernel) rfl
theorem d_X5_clear_49 : dk me_X5_clear 49 (.aload_n 0) 1 50 := And.intro (by decide +kernel) rfl
theorem d_X5_clear_50 : dk me_X5_clear 50 (.getfield 15) 3 53 := And.intro (by decide +kernel) rfl
theorem d_X5_clear_53 : dk me_X5_clear 53 (.iload 4) 2 55 := And.intro (by decide +kernel) rfl
theorem d_X5_clear_55 : dk me_X5_clear 55 (.iconst (-1)) 1 56 := And.intro (by decide +kernel) rfl
theorem d_X5_clear_56 : dk me_X5_clear 56 (.iastore) 1 57 := And.intro (by decide +kernel) rfl
theorem d_X5_clear_57 : dk me_X5_clear 57 (.aload_n 0) 1 58 := And.intro (by decide +kernel) rfl
theorem d_X5_clear_58 : dk me_X5_clear 58 (.getfield 18) 3 61 := And.intro (by decide +kernel) rfl
theorem d_X5_clear_61 : dk me_X5_clear 61 (.iload 4) 2 63 := And.intro (by decide +kernel) rfl
theorem d_X5_clear_63 : dk me_X5_clear 63 (.iconst 0) 1 64 := And.intro (by decide +kernel) rfl
theorem d_X5_clear_64 : dk me_X5_clear 64 (.bastore) 1 65 := And.intro (by decide +kernel) rfl
theorem d_X5_clear_65 : dk me_X5_clear 65 (.iinc 4 1) 3 68 := And.intro (by decide +kernel) rfl
theorem d_X5_clear_68 : dk me_X5_clear 68 (.goto (-63)) 3 71 := And.intro (by decide +kernel) rfl
theorem d_X5_clear_71 : dk me_X5_clear 71 (.iload_n 3) 1 72 := And.intro (by decide +kernel) rfl
theorem d_X5_clear_72 : dk me_X5_clear 72 (.ireturn) 1 73 := And.intro (by decide +kernel) rfl
theorem ms_X5_clear {fx : FX} {m : MM} {l0 : Nat} {l1 : Nat} {l2 : Nat} : MS fx me_X5_clear [aR (some (5, l0)), aR (some (1, l1)), aR (some (3, l2))] m (f_X5_clear m l0 l1 l2) := by
  refine ms_of rfl mf_X5_clear (b8 rfl) ?_
  refine s_top ?_
  show Sim fx me_X5_clear 0 [(0, aR (some (5, l0))), (1, aR (some (1, l1))), (2, aR (some (3, l2)))] [] m _
  unfold f_X5_clear
  have hj_X5_clear_0_71 : ∀ (m_71 : MM) (l3_71 : Int), Sim fx me_X5_clear 71 [(3, aI l3_71)] [] m_71 ((j_X5_clear_0_71 m_71 l3_71).bind (fun z => some z)) := by
    intro m_71 l3_71
    unfold j_X5_clear_0_71
    exact s_iload_n d_X5_clear_71 m0_ (s_iret d_X5_clear_72 rfl rfl)
  refine s_iconst d_X5_clear_0 n_0 (s_istore_n (L' := [(3, aI 0), (0, aR (some (5, l0))), (1, aR (some (1, l1))), (2, aR (some (3, l2)))]) d_X5_clear_1 (b8 rfl) rfl (s_iconst d_X5_clear_2 n_0 (s_istore (L' := [(4, aI 0), (3, aI 0), (0, aR (some (5, l0))), (1, aR (some (1, l1))), (2, aR (some (3, l2)))]) d_X5_clear_3 (b8 rfl) rfl (s_sub (subc m1_ (subc m0_ (subc m2_ (subc m3_ (subc m4_ sub0))))) (s_lp2 (fun s => [(3, aI (s.1)), (4, aI (s.2.1)), (0, aR (some (5, l0))), (1, aR (some (1, l1))), (2, aR (some (3, l2)))]) (fun s => s.2.2) (0, 0, m) fun k5 hx5 s ih0 => ?_)))))
  obtain ⟨l3_5, l4_5, mm_5⟩ := s
  have ih5 := ih0
  clear ih0
  try dsimp only
  unfold b_X5_clear_5
  have hj_X5_clear_5_49 : ∀ (m_49 : MM) (l3_49 : Int) (l4_49 : Int), Sim fx me_X5_clear 49 [(0, aR (some (5, l0))), (1, aR (some (1, l1))), (2, aR (some (3, l2))), (3, aI l3_49), (4, aI l4_49)] [] m_49 ((j_X5_clear_5_49 m_49 l0 l1 l2 l3_49 l4_49).bind k5) := by
    intro m_49 l3_49 l4_49
    unfold j_X5_clear_5_49
    refine s_aload_n d_X5_clear_49 m0_ (s_getR cf d_X5_clear_50 fl_X5_15 (s_nk fun i9 => (s_iload d_X5_clear_53 m4_ (s_iconst d_X5_clear_55 n_m1 (s_stN d_X5_clear_56 ka_35 rfl fun m10 => ?_)))))
    refine s_aload_n d_X5_clear_57 m0_ (s_getR cf d_X5_clear_58 fl_X5_18 (s_nk fun i11 => (s_iload d_X5_clear_61 m4_ (s_iconst d_X5_clear_63 n_0 (s_stBl d_X5_clear_64 ka_36 rfl (by decide) fun m12 => ?_)))))
    exact s_iinc (L' := [(4, aI (l4_49 + 1)), (0, aR (some (5, l0))), (1, aR (some (1, l1))), (2, aR (some (3, l2))), (3, aI l3_49)]) d_X5_clear_65 m4_ (b8 rfl) rfl (s_goto (tgt := 5) d_X5_clear_68 rfl (s_sub (subc m4_ (subc m0_ (subc m1_ (subc m2_ (subc m3_ sub0))))) (s_back (ih5 (l3_49, (l4_49 + 1), m12)))))
  refine s_iload d_X5_clear_5 m1_ (s_aload_n d_X5_clear_7 m2_ (s_getN cf d_X5_clear_8 fl_X5_27 (s_icmp_ge (tgt := 71) d_X5_clear_11 rfl ?_ ?_)))
  · exact s_exit (hx5 _) (s_sub (subc m0_ sub0) (hj_X5_clear_0_71 mm_5 l3_5))
  refine s_aload_n d_X5_clear_14 m2_ (s_getR cf d_X5_clear_15 fl_X5_15 (s_nk fun i1 => (s_iload d_X5_clear_18 m1_ (s_ldN d_X5_clear_20 ka_35 rfl fun v2 => (s_istore (L' := [(5, aI v2), (3, aI l3_5), (4, aI l4_5), (0, aR (some (5, l0))), (1, aR (some (1, l1))), (2, aR (some (3, l2)))]) d_X5_clear_21 (b8 rfl) rfl ?_)))))
  refine s_iload d_X5_clear_23 m0_ (s_iconst d_X5_clear_25 n_m1 (s_icmp_eq (tgt := 49) d_X5_clear_26 rfl ?_ ?_))
  · exact s_sub (subc m3_ (subc m4_ (subc m5_ (subc m1_ (subc m2_ sub0))))) (hj_X5_clear_5_49 mm_5 l3_5 l4_5)
  refine s_aload_n d_X5_clear_29 m4_ (s_aload_n d_X5_clear_30 m5_ (s_aload_n d_X5_clear_31 m4_ (s_getR cf d_X5_clear_32 fl_X5_44 (s_nk fun i3 => (s_iload d_X5_clear_35 m0_ ?_)))))
  exact s_ldN d_X5_clear_37 ka_20 rfl fun v4 => (s_cI (r_V d_X5_clear_38 k_X3_boxForNext w_1143 rfl rfl) ms_X3_boxForNext (b8 rfl) rfl rfl rfl (fun _ _ _ => rfl) (fun _ _ => Or.inl rfl) fun v6 m5 => (s_iload d_X5_clear_41 m0_ (s_cV (r_V d_X5_clear_43 k_X1_putOn w_1131 rfl rfl) ms_X1_putOn (b8 rfl) rfl rfl rfl (fun _ _ _ => rfl) (fun _ _ => Or.inl rfl) fun m7 => (s_iinc (L' := [(3, aI (l3_5 + 1)), (5, aI v2), (4, aI l4_5), (0, aR (some (5, l0))), (1, aR (some (1, l1))), (2, aR (some (3, l2)))]) d_X5_clear_46 m1_ (b8 rfl) rfl (s_sub (subc m3_ (subc m4_ (subc m5_ (subc m0_ (subc m2_ sub0))))) (hj_X5_clear_5_49 m7 (l3_5 + 1) l4_5))))))
theorem d_X11_putAway_0 : dk me_X11_putAway 0 (.aload_n 0) 1 1 := And.intro (by decide +kernel) rfl
theorem d_X11_putAway_1 : dk me_X11_putAway 1 (.iload_n 1) 1 2 := And.intro (by decide +kernel) rfl
theorem d_X11_putAway_2 : dk me_X11_putAway 2 (.invokevirtual 143) 3 5 := And.intro (by decide +kernel) rfl
theorem d_X11_putAway_5 : dk me_X11_putAway 5 (.iload_n 2) 1 6 := And.intro (by decide +kernel) rfl
theorem d_X11_putAway_6 : dk me_X11_putAway 6 (.invokestatic 269) 3 9 := And.intro (by decide +kernel) rfl
theorem d_X11_putAway_9 : dk me_X11_putAway 9 (.astore 4) 2 11 := And.intro (by decide +kernel) rfl
theorem d_X11_putAway_11 : dk me_X11_putAway 11 (.aload_n 0) 1 12 := And.intro (by decide +kernel) rfl
theorem d_X11_putAway_12 : dk me_X11_putAway 12 (.iload_n 3) 1 13 := And.intro (by decide +kernel) rfl
theorem d_X11_putAway_13 : dk me_X11_putAway 13 (.invokevirtual 196) 3 16 := And.intro (by decide +kernel) rfl
theorem d_X11_putAway_16 : dk me_X11_putAway 16 (.astore 5) 2 18 := And.intro (by decide +kernel) rfl
theorem d_X11_putAway_18 : dk me_X11_putAway 18 (.aload 4) 2 20 := And.intro (by decide +kernel) rfl
theorem d_X11_putAway_20 : dk me_X11_putAway 20 (.getfield 273) 3 23 := And.intro (by decide +kernel) rfl
theorem d_X11_putAway_23 : dk me_X11_putAway 23 (.iconst 3) 1 24 := And.intro (by decide +kernel) rfl
theorem d_X11_putAway_24 : dk me_X11_putAway 24 (.if_icmp .ne 7) 3 27 := And.intro (by decide +kernel) rfl
theorem d_X11_putAway_27 : dk me_X11_putAway 27 (.iconst 1) 1 28 := And.intro (by decide +kernel) rfl
theorem d_X11_putAway_28 : dk me_X11_putAway 28 (.goto 4) 3 31 := And.intro (by decide +kernel) rfl
theorem d_X11_putAway_31 : dk me_X11_putAway 31 (.iconst 0) 1 32 := And.intro (by decide +kernel) rfl
theorem d_X11_putAway_32 : dk me_X11_putAway 32 (.invokestatic 69) 3 35 := And.intro (by decide +kernel) rfl
theorem d_X11_putAway_35 : dk me_X11_putAway 35 (.iconst 0) 1 36 := And.intro (by decide +kernel) rfl
theorem d_X11_putAway_36 : dk me_X11_putAway 36 (.istore 6) 2 38 := And.intro (by decide +kernel) rfl
theorem d_X11_putAway_38 : dk me_X11_putAway 38 (.aload 4) 2 40 := And.intro (by decide +kernel) rfl
theorem d_X11_putAway_40 : dk me_X11_putAway 40 (.getfield 352) 3 43 := And.intro (by decide +kernel) rfl
theorem d_X11_putAway_43 : dk me_X11_putAway 43 (.astore 7) 2 45 := And.intro (by decide +kernel) rfl
theorem d_X11_putAway_45 : dk me_X11_putAway 45 (.aload 7) 2 47 := And.intro (by decide +kernel) rfl
theorem d_X11_putAway_47 : dk me_X11_putAway 47 (.arraylength) 1 48 := And.intro (by decide +kernel) rfl
theorem d_X11_putAway_48 : dk me_X11_putAway 48 (.istore 8) 2 50 := And.intro (by decide +kernel) rfl
theorem d_X11_putAway_50 : dk me_X11_putAway 50 (.iconst 0) 1 51 := And.intro (by decide +kernel) rfl
theorem d_X11_putAway_51 : dk me_X11_putAway 51 (.istore 9) 2 53 := And.intro (by decide +kernel) rfl
theorem d_X11_putAway_53 : dk me_X11_putAway 53 (.iload 9) 2 55 := And.intro (by decide +kernel) rfl
theorem d_X11_putAway_55 : dk me_X11_putAway 55 (.iload 8) 2 57 := And.intro (by decide +kernel) rfl
theorem d_X11_putAway_57 : dk me_X11_putAway 57 (.if_icmp .ge 35) 3 60 := And.intro (by decide +kernel) rfl
theorem d_X11_putAway_60 : dk me_X11_putAway 60 (.aload 7) 2 62 := And.intro (by decide +kernel) rfl
theorem d_X11_putAway_62 : dk me_X11_putAway 62 (.iload 9) 2 64 := And.intro (by decide +kernel) rfl
theorem d_X11_putAway_64 : dk me_X11_putAway 64 (.aaload) 1 65 := And.intro (by decide +kernel) rfl
theorem d_X11_putAway_65 : dk me_X11_putAway 65 (.astore 10) 2 67 := And.intro (by decide +kernel) rfl
theorem d_X11_putAway_67 : dk me_X11_putAway 67 (.iload 6) 2 69 := And.intro (by decide +kernel) rfl
theorem d_X11_putAway_69 : dk me_X11_putAway 69 (.aload 10) 2 71 := And.intro (by decide +kernel) rfl
theorem d_X11_putAway_71 : dk me_X11_putAway 71 (.getfield 222) 3 74 := And.intro (by decide +kernel) rfl
theorem d_X11_putAway_74 : dk me_X11_putAway 74 (.aload_n 0) 1 75 := And.intro (by decide +kernel) rfl
theorem d_X11_putAway_75 : dk me_X11_putAway 75 (.getfield 19) 3 78 := And.intro (by decide +kernel) rfl
theorem d_X11_putAway_78 : dk me_X11_putAway 78 (.aload 5) 2 80 := And.intro (by decide +kernel) rfl
theorem d_X11_putAway_80 : dk me_X11_putAway 80 (.invokevirtual 353) 3 83 := And.intro (by decide +kernel) rfl
theorem d_X11_putAway_83 : dk me_X11_putAway 83 (.iadd) 1 84 := And.intro (by decide +kernel) rfl
theorem d_X11_putAway_84 : dk me_X11_putAway 84 (.istore 6) 2 86 := And.intro (by decide +kernel) rfl
theorem d_X11_putAway_86 : dk me_X11_putAway 86 (.iinc 9 1) 3 89 := And.intro (by decide +kernel) rfl
theorem d_X11_putAway_89 : dk me_X11_putAway 89 (.goto (-36)) 3 92 := And.intro (by decide +kernel) rfl
theorem d_X11_putAway_92 : dk me_X11_putAway 92 (.aload 4) 2 94 := And.intro (by decide +kernel) rfl
theorem d_X11_putAway_94 : dk me_X11_putAway 94 (.iconst 4) 1 95 := And.intro (by decide +kernel) rfl
theorem d_X11_putAway_95 : dk me_X11_putAway 95 (.putfield 273) 3 98 := And.intro (by decide +kernel) rfl
theorem d_X11_putAway_98 : dk me_X11_putAway 98 (.iload 6) 2 100 := And.intro (by decide +kernel) rfl
theorem d_X11_putAway_100 : dk me_X11_putAway 100 (.ireturn) 1 101 := And.intro (by decide +kernel) rfl
theorem ms_X11_putAway {fx : FX} {m : MM} {l0 : Nat} {l1 : Int} {l2 : Int} {l3 : Int} : MS fx me_X11_putAway [aR (some (11, l0)), aI l1, aI l2, aI l3] m (f_X11_putAway m l0 l1 l2 l3) := by
  refine ms_of rfl mf_X11_putAway (b8 rfl) ?_
  refine s_top ?_
  show Sim fx me_X11_putAway 0 [(0, aR (some (11, l0))), (1, aI l1), (2, aI l2), (3, aI l3)] [] m _
  unfold f_X11_putAway
  have hj_X11_putAway_0_92 : ∀ (m_92 : MM) (l4_92 : Nat) (l6_92 : Int), Sim fx me_X11_putAway 92 [(4, aR (some (2, l4_92))), (6, aI l6_92)] [] m_92 ((j_X11_putAway_0_92 m_92 l4_92 l6_92).bind (fun z => some z)) := by
    intro m_92 l4_92 l6_92
    unfold j_X11_putAway_0_92
    exact s_aload d_X11_putAway_92 m0_ (s_iconst d_X11_putAway_94 n_4 (s_putN cf d_X11_putAway_95 fl_X11_273 (fun h => by cases h) fun m19 => (s_iload d_X11_putAway_98 m1_ (s_iret d_X11_putAway_100 rfl rfl))))
  have hj_X11_putAway_0_32 : ∀ (m_32 : MM) (l0_32 : Nat) (l4_32 : Nat) (l5_32 : Nat) (s0_32 : Int), Sim fx me_X11_putAway 32 [(0, aR (some (11, l0_32))), (4, aR (some (2, l4_32))), (5, aR (some (3, l5_32)))] [aI s0_32] m_32 ((j_X11_putAway_0_32 m_32 l0_32 l4_32 l5_32 s0_32).bind (fun z => some z)) := by
    intro m_32 l0_32 l4_32 l5_32 s0_32
    unfold j_X11_putAway_0_32
    refine s_cV (r_S d_X11_putAway_32 k_X11_requireState w_363 rfl rfl) ms_X11_requireState (b8 rfl) rfl rfl rfl (fun h => by cases h) (fun _ _ => Or.inr rfl) fun m10 => (s_iconst d_X11_putAway_35 n_0 (s_istore (L' := [(6, aI 0), (0, aR (some (11, l0_32))), (4, aR (some (2, l4_32))), (5, aR (some (3, l5_32)))]) d_X11_putAway_36 (b8 rfl) rfl (s_aload d_X11_putAway_38 m2_ (s_getR cf d_X11_putAway_40 fl_X11_352 (s_nk fun i12 => ?_)))))
    refine s_astore (L' := [(7, aR (some (19, i12))), (6, aI 0), (0, aR (some (11, l0_32))), (4, aR (some (2, l4_32))), (5, aR (some (3, l5_32)))]) d_X11_putAway_43 (b8 rfl) rfl (s_aload d_X11_putAway_45 m0_ (s_len d_X11_putAway_47 ka_19 ta_19 (s_istore (L' := [(8, aI (lenI m10 19 i12)), (7, aR (some (19, i12))), (6, aI 0), (0, aR (some (11, l0_32))), (4, aR (some (2, l4_32))), (5, aR (some (3, l5_32)))]) d_X11_putAway_48 (b8 rfl) rfl (s_iconst d_X11_putAway_50 n_0 (s_istore (L' := [(9, aI 0), (8, aI (lenI m10 19 i12)), (7, aR (some (19, i12))), (6, aI 0), (0, aR (some (11, l0_32))), (4, aR (some (2, l4_32))), (5, aR (some (3, l5_32)))]) d_X11_putAway_51 (b8 rfl) rfl ?_)))))
    refine s_sub (subc m3_ (subc m0_ (subc m4_ (subc m5_ (subc m6_ (subc m2_ (subc m1_ sub0))))))) (s_lp2 (fun s => [(6, aI (s.1)), (9, aI (s.2.1)), (0, aR (some (11, l0_32))), (4, aR (some (2, l4_32))), (5, aR (some (3, l5_32))), (7, aR (some (19, i12))), (8, aI (lenI m10 19 i12))]) (fun s => s.2.2) (0, 0, m10) fun k53 hx53 s ih0 => ?_)
    obtain ⟨l6_53, l9_53, mm_53⟩ := s
    have ih53 := ih0
    clear ih0
    try dsimp only
    unfold b_X11_putAway_53
    refine s_iload d_X11_putAway_53 m1_ (s_iload d_X11_putAway_55 m6_ (s_icmp_ge (tgt := 92) d_X11_putAway_57 rfl ?_ ?_))
    · exact s_exit (hx53 _) (s_sub (subc m3_ (subc m0_ sub0)) (hj_X11_putAway_0_92 mm_53 l4_32 l6_53))
    refine s_aload d_X11_putAway_60 m5_ (s_iload d_X11_putAway_62 m1_ (s_ldR d_X11_putAway_64 ka_19 ta_19 rfl rfl fun r13 => (s_nk fun i14 => (s_astore (L' := [(10, aR (some (4, i14))), (6, aI l6_53), (9, aI l9_53), (0, aR (some (11, l0_32))), (4, aR (some (2, l4_32))), (5, aR (some (3, l5_32))), (7, aR (some (19, i12))), (8, aI (lenI m10 19 i12))]) d_X11_putAway_65 (b8 rfl) rfl (s_iload d_X11_putAway_67 m1_ ?_)))))
    refine s_aload d_X11_putAway_69 m0_ (s_getR cf d_X11_putAway_71 fl_X11_222 (s_nk fun i15 => (s_aload_n d_X11_putAway_74 m3_ (s_getR cf d_X11_putAway_75 fl_X11_19 (s_nk fun i16 => ?_)))))
    refine s_aload d_X11_putAway_78 m5_ (s_cI (r_V d_X11_putAway_80 k_X5_clear w_1139 rfl rfl) ms_X5_clear (b8 rfl) rfl rfl rfl (fun _ _ _ => rfl) (fun _ _ => Or.inl rfl) fun v18 m17 => (s_iadd d_X11_putAway_83 rfl rfl (s_ck (s_istore (L' := [(6, aI (l6_53 + v18)), (10, aR (some (4, i14))), (9, aI l9_53), (0, aR (some (11, l0_32))), (4, aR (some (2, l4_32))), (5, aR (some (3, l5_32))), (7, aR (some (19, i12))), (8, aI (lenI m10 19 i12))]) d_X11_putAway_84 (b8 rfl) rfl (s_iinc (L' := [(9, aI (l9_53 + 1)), (6, aI (l6_53 + v18)), (10, aR (some (4, i14))), (0, aR (some (11, l0_32))), (4, aR (some (2, l4_32))), (5, aR (some (3, l5_32))), (7, aR (some (19, i12))), (8, aI (lenI m10 19 i12))]) d_X11_putAway_86 m2_ (b8 rfl) rfl ?_)))))
    exact s_goto (tgt := 53) d_X11_putAway_89 rfl (s_sub (subc m1_ (subc m0_ (subc m3_ (subc m4_ (subc m5_ (subc m6_ (subc m7_ sub0))))))) (s_back (ih53 ((l6_53 + v18), (l9_53 + 1), m17))))
  refine s_aload_n d_X11_putAway_0 m0_ (s_iload_n d_X11_putAway_1 m1_ (s_cR (r_V d_X11_putAway_2 k_X11_bookAt w_814 rfl rfl) ms_X11_bookAt (b8 rfl) rfl rfl rfl (fun h => by cases h) (fun _ _ => Or.inr rfl) fun r2 m1 => (s_nk fun i3 => (s_iload_n d_X11_putAway_5 m2_ (s_cR (r_S d_X11_putAway_6 k_X11_formeOf w_1025 rfl rfl) ms_X11_formeOf (b8 rfl) rfl rfl rfl (fun h => by cases h) (fun _ _ => Or.inr rfl) fun r5 m4 => ?_)))))
  refine s_nk fun i6 => (s_astore (L' := [(4, aR (some (2, i6))), (0, aR (some (11, l0))), (1, aI l1), (2, aI l2), (3, aI l3)]) d_X11_putAway_9 (b8 rfl) rfl (s_aload_n d_X11_putAway_11 m1_ (s_iload_n d_X11_putAway_12 m4_ (s_cR (r_V d_X11_putAway_13 k_X11_handAt w_892 rfl rfl) ms_X11_handAt (b8 rfl) rfl rfl rfl (fun h => by cases h) (fun _ _ => Or.inr rfl) fun r8 m7 => (s_nk fun i9 => ?_)))))
  refine s_astore (L' := [(5, aR (some (3, i9))), (4, aR (some (2, i6))), (0, aR (some (11, l0))), (1, aI l1), (2, aI l2), (3, aI l3)]) d_X11_putAway_16 (b8 rfl) rfl (s_aload d_X11_putAway_18 m1_ (s_getN cf d_X11_putAway_20 fl_X11_273 (s_iconst d_X11_putAway_23 n_3 (s_icmp_ne (tgt := 31) d_X11_putAway_24 rfl ?_ ?_))))
  · exact s_iconst d_X11_putAway_31 n_0 (s_sub (subc m2_ (subc m1_ (subc m0_ sub0))) (hj_X11_putAway_0_32 m7 l0 i6 i9 0))
  exact s_iconst d_X11_putAway_27 n_1 (s_goto (tgt := 32) d_X11_putAway_28 rfl (s_sub (subc m2_ (subc m1_ (subc m0_ sub0))) (hj_X11_putAway_0_32 m7 l0 i6 i9 1)))
theorem d_L_putAway_0 : dk me_L_putAway 0 (.aload 4) 2 2 := And.intro (by decide +kernel) rfl
theorem d_L_putAway_2 : dk me_L_putAway 2 (.iconst 0) 1 3 := And.intro (by decide +kernel) rfl
theorem d_L_putAway_3 : dk me_L_putAway 3 (.aload_n 0) 1 4 := And.intro (by decide +kernel) rfl
theorem d_L_putAway_4 : dk me_L_putAway 4 (.iload_n 1) 1 5 := And.intro (by decide +kernel) rfl
theorem d_L_putAway_5 : dk me_L_putAway 5 (.iload_n 2) 1 6 := And.intro (by decide +kernel) rfl
theorem d_L_putAway_6 : dk me_L_putAway 6 (.iload_n 3) 1 7 := And.intro (by decide +kernel) rfl
theorem d_L_putAway_7 : dk me_L_putAway 7 (.invokevirtual 86) 3 10 := And.intro (by decide +kernel) rfl
theorem d_L_putAway_10 : dk me_L_putAway 10 (.i2l) 1 11 := And.intro (by decide +kernel) rfl
theorem d_L_putAway_11 : dk me_L_putAway 11 (.lastore) 1 12 := And.intro (by decide +kernel) rfl
theorem d_L_putAway_12 : dk me_L_putAway 12 (.goto 11) 3 15 := And.intro (by decide +kernel) rfl
theorem d_L_putAway_15 : dk me_L_putAway 15 (.astore 5) 2 17 := And.intro (by decide +kernel) rfl
theorem d_L_putAway_17 : dk me_L_putAway 17 (.iconst 1) 1 18 := And.intro (by decide +kernel) rfl
theorem d_L_putAway_18 : dk me_L_putAway 18 (.ireturn) 1 19 := And.intro (by decide +kernel) rfl
theorem d_L_putAway_19 : dk me_L_putAway 19 (.astore 5) 2 21 := And.intro (by decide +kernel) rfl
theorem d_L_putAway_21 : dk me_L_putAway 21 (.iconst 2) 1 22 := And.intro (by decide +kernel) rfl
theorem d_L_putAway_22 : dk me_L_putAway 22 (.ireturn) 1 23 := And.intro (by decide +kernel) rfl
theorem d_L_putAway_23 : dk me_L_putAway 23 (.iconst 0) 1 24 := And.intro (by decide +kernel) rfl
theorem d_L_putAway_24 : dk me_L_putAway 24 (.ireturn) 1 25 := And.intro (by decide +kernel) rfl
theorem ms_L_putAway {fx : FX} {m : MM} {l0 : Nat} {l1 : Int} {l2 : Int} {l3 : Int} {l4 : Nat} : MS fx me_L_putAway [aR (some (11, l0)), aI l1, aI l2, aI l3, aR (some (131, l4))] m (f_L_putAway m l0 l1 l2 l3 l4) := by
  refine ms_ofH rfl mf_L_putAway (b8 rfl) ?_
  refine s_top ?_
  show Sim fx me_L_putAway 0 [(0, aR (some (11, l0))), (1, aI l1), (2, aI l2), (3, aI l3), (4, aR (some (131, l4)))] [] m _
  unfold f_L_putAway
  refine s_aload d_L_putAway_0 m4_ (s_iconst d_L_putAway_2 n_0 (s_aload_n d_L_putAway_3 m0_ (s_iload_n d_L_putAway_4 m1_ (s_iload_n d_L_putAway_5 m2_ (s_iload_n d_L_putAway_6 m3_ ?_)))))
  refine s_cIC (r_V d_L_putAway_7 k_X11_putAway w_1135 rfl rfl) ms_X11_putAway (b8 rfl) rfl rfl ?_ ?_ ?_ fun v2 m1 => ?_
  · refine fun mx => Or.inr ⟨15, ⟨rfl, by decide, 0, wx_29_0, Or.inl ⟨rfl, rfl⟩⟩, fun qx => ?_⟩
    exact s_astoreV (L' := [(5, aV (.ref qx)), (0, aR (some (11, l0))), (1, aI l1), (2, aI l2), (3, aI l3), (4, aR (some (131, l4)))]) d_L_putAway_15 (b8 rfl) rfl (s_iconst d_L_putAway_17 n_1 (s_iret d_L_putAway_18 rfl rfl))
  · exact fun _ => Or.inl rfl
  · refine fun mx => Or.inr ⟨19, ⟨rfl, by decide, 0, wx_29_0, Or.inr ⟨by decide, ⟨rfl, by decide, 2, wx_15_2, Or.inl ⟨rfl, rfl⟩⟩⟩⟩, fun qx => ?_⟩
    exact s_astoreV (L' := [(5, aV (.ref qx)), (0, aR (some (11, l0))), (1, aI l1), (2, aI l2), (3, aI l3), (4, aR (some (131, l4)))]) d_L_putAway_19 (b8 rfl) rfl (s_iconst d_L_putAway_21 n_2 (s_iret d_L_putAway_22 rfl rfl))
  exact s_i2l d_L_putAway_10 (s_stL d_L_putAway_11 ka_131 rfl fun m3 => (s_goto (tgt := 23) d_L_putAway_12 rfl (s_iconst d_L_putAway_23 n_0 (s_iret d_L_putAway_24 rfl rfl))))
theorem d_X0_wordBehindPart_0 : dk me_X0_wordBehindPart 0 (.aload_n 0) 1 1 := And.intro (by decide +kernel) rfl
theorem d_X0_wordBehindPart_1 : dk me_X0_wordBehindPart 1 (.getfield 114) 3 4 := And.intro (by decide +kernel) rfl
theorem d_X0_wordBehindPart_4 : dk me_X0_wordBehindPart 4 (.ifCond .eq 25) 3 7 := And.intro (by decide +kernel) rfl
theorem d_X0_wordBehindPart_7 : dk me_X0_wordBehindPart 7 (.iload_n 1) 1 8 := And.intro (by decide +kernel) rfl
theorem d_X0_wordBehindPart_8 : dk me_X0_wordBehindPart 8 (.iconst 1) 1 9 := And.intro (by decide +kernel) rfl
theorem d_X0_wordBehindPart_9 : dk me_X0_wordBehindPart 9 (.iadd) 1 10 := And.intro (by decide +kernel) rfl
theorem d_X0_wordBehindPart_10 : dk me_X0_wordBehindPart 10 (.aload_n 0) 1 11 := And.intro (by decide +kernel) rfl
theorem d_X0_wordBehindPart_11 : dk me_X0_wordBehindPart 11 (.getfield 33) 3 14 := And.intro (by decide +kernel) rfl
theorem d_X0_wordBehindPart_14 : dk me_X0_wordBehindPart 14 (.arraylength) 1 15 := And.intro (by decide +kernel) rfl
theorem d_X0_wordBehindPart_15 : dk me_X0_wordBehindPart 15 (.if_icmp .ge 14) 3 18 := And.intro (by decide +kernel) rfl
theorem d_X0_wordBehindPart_18 : dk me_X0_wordBehindPart 18 (.aload_n 0) 1 19 := And.intro (by decide +kernel) rfl
theorem d_X0_wordBehindPart_19 : dk me_X0_wordBehindPart 19 (.getfield 62) 3 22 := And.intro (by decide +kernel) rfl
theorem d_X0_wordBehindPart_22 : dk me_X0_wordBehindPart 22 (.iload_n 1) 1 23 := And.intro (by decide +kernel) rfl
theorem d_X0_wordBehindPart_23 : dk me_X0_wordBehindPart 23 (.iconst 1) 1 24 := And.intro (by decide +kernel) rfl
theorem d_X0_wordBehindPart_24 : dk me_X0_wordBehindPart 24 (.iadd) 1 25 := And.intro (by decide +kernel) rfl
theorem d_X0_wordBehindPart_25 : dk me_X0_wordBehindPart 25 (.iaload) 1 26 := And.intro (by decide +kernel) rfl
theorem d_X0_wordBehindPart_26 : dk me_X0_wordBehindPart 26 (.goto 10) 3 29 := And.intro (by decide +kernel) rfl
theorem d_X0_wordBehindPart_29 : dk me_X0_wordBehindPart 29 (.aload_n 0) 1 30 := And.intro (by decide +kernel) rfl
theorem d_X0_wordBehindPart_30 : dk me_X0_wordBehindPart 30 (.getfield 12) 3 33 := And.intro (by decide +kernel) rfl
theorem d_X0_wordBehindPart_33 : dk me_X0_wordBehindPart 33 (.getfield 103) 3 36 := And.intro (by decide +kernel) rfl
theorem d_X0_wordBehindPart_36 : dk me_X0_wordBehindPart 36 (.ireturn) 1 37 := And.intro (by decide +kernel) rfl
theorem ms_X0_wordBehindPart {fx : FX} {m : MM} {l0 : Nat} {l1 : Int} : MS fx me_X0_wordBehindPart [aR (some (0, l0)), aI l1] m ((f_X0_wordBehindPart m l0 l1).bind fun v => some (.inl (some (aI v)), m)) := by
  refine ms_of rfl mf_X0_wordBehindPart (b8 rfl) ?_
  show Sim fx me_X0_wordBehindPart 0 [(0, aR (some (0, l0))), (1, aI l1)] [] m _
  unfold f_X0_wordBehindPart
  have hj_X0_wordBehindPart_0_29 : ∀ (l0_29 : Nat), Sim fx me_X0_wordBehindPart 29 [(0, aR (some (0, l0_29)))] [] m ((j_X0_wordBehindPart_0_29 m l0_29).bind (fun v => some (.inl (some (aI v)), m))) := by
    intro l0_29
    unfold j_X0_wordBehindPart_0_29
    exact s_aload_n d_X0_wordBehindPart_29 m0_ (s_getR cf d_X0_wordBehindPart_30 fl_X0_12 (s_nk fun i4 => (s_getN cf d_X0_wordBehindPart_33 fl_X0_103 (s_iret d_X0_wordBehindPart_36 rfl rfl))))
  refine s_aload_n d_X0_wordBehindPart_0 m0_ (s_getB cf d_X0_wordBehindPart_1 fl_X0_114 (s_if_eq (tgt := 29) d_X0_wordBehindPart_4 rfl ?_ ?_))
  · exact s_sub (subc m0_ sub0) (hj_X0_wordBehindPart_0_29 l0)
  refine s_iload_n d_X0_wordBehindPart_7 m1_ (s_iconst d_X0_wordBehindPart_8 n_1 (s_iadd d_X0_wordBehindPart_9 rfl rfl (s_aload_n d_X0_wordBehindPart_10 m0_ (s_getR cf d_X0_wordBehindPart_11 fl_X0_33 (s_nk fun i1 => ?_)))))
  refine s_len d_X0_wordBehindPart_14 ka_13 ta_13 (s_ck1 (s_icmp_ge (tgt := 29) d_X0_wordBehindPart_15 rfl ?_ ?_))
  · exact s_sub (subc m0_ sub0) (hj_X0_wordBehindPart_0_29 l0)
  refine s_aload_n d_X0_wordBehindPart_18 m0_ (s_getR cf d_X0_wordBehindPart_19 fl_X0_62 (s_nk fun i2 => (s_iload_n d_X0_wordBehindPart_22 m1_ (s_iconst d_X0_wordBehindPart_23 n_1 (s_iadd d_X0_wordBehindPart_24 rfl rfl ?_)))))
  exact s_ldN d_X0_wordBehindPart_25 ka_16 rfl fun v3 => (s_goto (tgt := 36) d_X0_wordBehindPart_26 rfl (s_iret d_X0_wordBehindPart_36 rfl rfl))
theorem d_X9_growth_0 : dk me_X9_growth 0 (.aload_n 0) 1 1 := And.intro (by decide +kernel) rfl
theorem d_X9_growth_1 : dk me_X9_growth 1 (.getfield 18) 3 4 := And.intro (by decide +kernel) rfl
theorem d_X9_growth_4 : dk me_X9_growth 4 (.iload_n 1) 1 5 := And.intro (by decide +kernel) rfl
theorem d_X9_growth_5 : dk me_X9_growth 5 (.laload) 1 6 := And.intro (by decide +kernel) rfl
theorem d_X9_growth_6 : dk me_X9_growth 6 (.invokestatic 67) 3 9 := And.intro (by decide +kernel) rfl
theorem d_X9_growth_9 : dk me_X9_growth 9 (.aload_n 0) 1 10 := And.intro (by decide +kernel) rfl
theorem d_X9_growth_10 : dk me_X9_growth 10 (.getfield 15) 3 13 := And.intro (by decide +kernel) rfl
theorem d_X9_growth_13 : dk me_X9_growth 13 (.iload_n 1) 1 14 := And.intro (by decide +kernel) rfl
theorem d_X9_growth_14 : dk me_X9_growth 14 (.laload) 1 15 := And.intro (by decide +kernel) rfl
theorem d_X9_growth_15 : dk me_X9_growth 15 (.invokestatic 67) 3 18 := And.intro (by decide +kernel) rfl
theorem d_X9_growth_18 : dk me_X9_growth 18 (.isub) 1 19 := And.intro (by decide +kernel) rfl
theorem d_X9_growth_19 : dk me_X9_growth 19 (.ireturn) 1 20 := And.intro (by decide +kernel) rfl
theorem ms_X9_growth {fx : FX} {m : MM} {l0 : Nat} {l1 : Int} : MS fx me_X9_growth [aR (some (9, l0)), aI l1] m ((f_X9_growth m l0 l1).bind fun v => some (.inl (some (aI v)), m)) := by
  refine ms_of rfl mf_X9_growth (b8 rfl) ?_
  show Sim fx me_X9_growth 0 [(0, aR (some (9, l0))), (1, aI l1)] [] m _
  unfold f_X9_growth
  refine s_aload_n d_X9_growth_0 m0_ (s_getR cf d_X9_growth_1 fl_X9_18 (s_nk fun i1 => (s_iload_n d_X9_growth_4 m1_ (s_ldL d_X9_growth_5 ka_47 rfl fun v2 => (s_pI (r_SN d_X9_growth_6 k_X11_letters ne_7 rfl rfl) ms_X11_letters (b8 rfl) rfl rfl rfl fun v3 => ?_)))))
  refine s_aload_n d_X9_growth_9 m0_ (s_getR cf d_X9_growth_10 fl_X9_15 (s_nk fun i4 => (s_iload_n d_X9_growth_13 m1_ (s_ldL d_X9_growth_14 ka_46 rfl fun v5 => (s_pI (r_SN d_X9_growth_15 k_X11_letters ne_7 rfl rfl) ms_X11_letters (b8 rfl) rfl rfl rfl fun v6 => ?_)))))
  exact s_isub d_X9_growth_18 rfl rfl (s_ck (s_iret d_X9_growth_19 rfl rfl))
theorem d_X4_fillOut_0 : dk me_X4_fillOut 0 (.aload_n 0) 1 1 := And.intro (by decide +kernel) rfl
theorem d_X4_fillOut_1 : dk me_X4_fillOut 1 (.getfield 38) 3 4 := And.intro (by decide +kernel) rfl
theorem d_X4_fillOut_4 : dk me_X4_fillOut 4 (.iload_n 2) 1 5 := And.intro (by decide +kernel) rfl
theorem d_X4_fillOut_5 : dk me_X4_fillOut 5 (.baload) 1 6 := And.intro (by decide +kernel) rfl
theorem d_X4_fillOut_6 : dk me_X4_fillOut 6 (.ifCond .ne 4) 3 9 := And.intro (by decide +kernel) rfl
theorem d_X4_fillOut_9 : dk me_X4_fillOut 9 (.return_) 1 10 := And.intro (by decide +kernel) rfl
theorem d_X4_fillOut_10 : dk me_X4_fillOut 10 (.aload_n 0) 1 11 := And.intro (by decide +kernel) rfl
theorem d_X4_fillOut_11 : dk me_X4_fillOut 11 (.getfield 35) 3 14 := And.intro (by decide +kernel) rfl
theorem d_X4_fillOut_14 : dk me_X4_fillOut 14 (.iload_n 2) 1 15 := And.intro (by decide +kernel) rfl
theorem d_X4_fillOut_15 : dk me_X4_fillOut 15 (.iaload) 1 16 := And.intro (by decide +kernel) rfl
theorem d_X4_fillOut_16 : dk me_X4_fillOut 16 (.istore_n 3) 1 17 := And.intro (by decide +kernel) rfl
theorem d_X4_fillOut_17 : dk me_X4_fillOut 17 (.aload_n 0) 1 18 := And.intro (by decide +kernel) rfl
theorem d_X4_fillOut_18 : dk me_X4_fillOut 18 (.iload_n 2) 1 19 := And.intro (by decide +kernel) rfl
theorem d_X4_fillOut_19 : dk me_X4_fillOut 19 (.invokevirtual 73) 3 22 := And.intro (by decide +kernel) rfl
theorem d_X4_fillOut_22 : dk me_X4_fillOut 22 (.istore 4) 2 24 := And.intro (by decide +kernel) rfl
theorem d_X4_fillOut_24 : dk me_X4_fillOut 24 (.iconst 1) 1 25 := And.intro (by decide +kernel) rfl
theorem d_X4_fillOut_25 : dk me_X4_fillOut 25 (.istore 5) 2 27 := And.intro (by decide +kernel) rfl
theorem d_X4_fillOut_27 : dk me_X4_fillOut 27 (.iload 5) 2 29 := And.intro (by decide +kernel) rfl
theorem d_X4_fillOut_29 : dk me_X4_fillOut 29 (.iconst 3) 1 30 := And.intro (by decide +kernel) rfl
theorem d_X4_fillOut_30 : dk me_X4_fillOut 30 (.if_icmp .ge 50) 3 33 := And.intro (by decide +kernel) rfl
theorem d_X4_fillOut_33 : dk me_X4_fillOut 33 (.aload_n 0) 1 34 := And.intro (by decide +kernel) rfl
theorem d_X4_fillOut_34 : dk me_X4_fillOut 34 (.getfield 32) 3 37 := And.intro (by decide +kernel) rfl
theorem d_X4_fillOut_37 : dk me_X4_fillOut 37 (.iload_n 2) 1 38 := And.intro (by decide +kernel) rfl
theorem d_X4_fillOut_38 : dk me_X4_fillOut 38 (.iaload) 1 39 := And.intro (by decide +kernel) rfl
theorem d_X4_fillOut_39 : dk me_X4_fillOut 39 (.istore 6) 2 41 := And.intro (by decide +kernel) rfl
theorem d_X4_fillOut_41 : dk me_X4_fillOut 41 (.iload 6) 2 43 := And.intro (by decide +kernel) rfl
theorem d_X4_fillOut_43 : dk me_X4_fillOut 43 (.iload 4) 2 45 := And.intro (by decide +kernel) rfl
theorem d_X4_fillOut_45 : dk me_X4_fillOut 45 (.iconst 1) 1 46 := And.intro (by decide +kernel) rfl
theorem d_X4_fillOut_46 : dk me_X4_fillOut 46 (.isub) 1 47 := And.intro (by decide +kernel) rfl
theorem d_X4_fillOut_47 : dk me_X4_fillOut 47 (.if_icmp .ge 27) 3 50 := And.intro (by decide +kernel) rfl
theorem d_X4_fillOut_50 : dk me_X4_fillOut 50 (.iload_n 3) 1 51 := And.intro (by decide +kernel) rfl
theorem d_X4_fillOut_51 : dk me_X4_fillOut 51 (.ifCond .le 23) 3 54 := And.intro (by decide +kernel) rfl
theorem d_X4_fillOut_54 : dk me_X4_fillOut 54 (.aload_n 0) 1 55 := And.intro (by decide +kernel) rfl
theorem d_X4_fillOut_55 : dk me_X4_fillOut 55 (.getfield 19) 3 58 := And.intro (by decide +kernel) rfl
theorem d_X4_fillOut_58 : dk me_X4_fillOut 58 (.iload 6) 2 60 := And.intro (by decide +kernel) rfl
theorem d_X4_fillOut_60 : dk me_X4_fillOut 60 (.dup2) 1 61 := And.intro (by decide +kernel) rfl
theorem d_X4_fillOut_61 : dk me_X4_fillOut 61 (.iaload) 1 62 := And.intro (by decide +kernel) rfl
theorem d_X4_fillOut_62 : dk me_X4_fillOut 62 (.iconst 1) 1 63 := And.intro (by decide +kernel) rfl
theorem d_X4_fillOut_63 : dk me_X4_fillOut 63 (.iadd) 1 64 := And.intro (by decide +kernel) rfl
theorem d_X4_fillOut_64 : dk me_X4_fillOut 64 (.iastore) 1 65 := And.intro (by decide +kernel) rfl
theorem d_X4_fillOut_65 : dk me_X4_fillOut 65 (.iinc 3 (-1)) 3 68 := And.intro (by decide +kernel) rfl
theorem d_X4_fillOut_68 : dk me_X4_fillOut 68 (.iinc 6 1) 3 71 := And.intro (by decide +kernel) rfl
theorem d_X4_fillOut_71 : dk me_X4_fillOut 71 (.goto (-30)) 3 74 := And.intro (by decide +kernel) rfl
theorem d_X4_fillOut_74 : dk me_X4_fillOut 74 (.iinc 5 1) 3 77 := And.intro (by decide +kernel) rfl
theorem d_X4_fillOut_77 : dk me_X4_fillOut 77 (.goto (-50)) 3 80 := And.intro (by decide +kernel) rfl
theorem d_X4_fillOut_80 : dk me_X4_fillOut 80 (.aload_n 0) 1 81 := And.intro (by decide +kernel) rfl
theorem d_X4_fillOut_81 : dk me_X4_fillOut 81 (.getfield 32) 3 84 := And.intro (by decide +kernel) rfl
theorem d_X4_fillOut_84 : dk me_X4_fillOut 84 (.iload_n 2) 1 85 := And.intro (by decide +kernel) rfl
theorem d_X4_fillOut_85 : dk me_X4_fillOut 85 (.iaload) 1 86 := And.intro (by decide +kernel) rfl
theorem d_X4_fillOut_86 : dk me_X4_fillOut 86 (.istore 5) 2 88 := And.intro (by decide +kernel) rfl
theorem d_X4_fillOut_88 : dk me_X4_fillOut 88 (.iload 5) 2 90 := And.intro (by decide +kernel) rfl
theorem d_X4_fillOut_90 : dk me_X4_fillOut 90 (.iload 4) 2 92 := And.intro (by decide +kernel) rfl
theorem d_X4_fillOut_92 : dk me_X4_fillOut 92 (.if_icmp .ge 63) 3 95 := And.intro (by decide +kernel) rfl
theorem d_X4_fillOut_95 : dk me_X4_fillOut 95 (.aload_n 0) 1 96 := And.intro (by decide +kernel) rfl
theorem d_X4_fillOut_96 : dk me_X4_fillOut 96 (.getfield 60) 3 99 := And.intro (by decide +kernel) rfl
theorem d_X4_fillOut_99 : dk me_X4_fillOut 99 (.ifCond .ne 56) 3 102 := And.intro (by decide +kernel) rfl
theorem d_X4_fillOut_102 : dk me_X4_fillOut 102 (.aload_n 1) 1 103 := And.intro (by decide +kernel) rfl
theorem d_X4_fillOut_103 : dk me_X4_fillOut 103 (.aload_n 0) 1 104 := And.intro (by decide +kernel) rfl
theorem d_X4_fillOut_104 : dk me_X4_fillOut 104 (.getfield 9) 3 107 := And.intro (by decide +kernel) rfl
theorem d_X4_fillOut_107 : dk me_X4_fillOut 107 (.iload 5) 2 109 := And.intro (by decide +kernel) rfl
theorem d_X4_fillOut_109 : dk me_X4_fillOut 109 (.iaload) 1 110 := And.intro (by decide +kernel) rfl
theorem d_X4_fillOut_110 : dk me_X4_fillOut 110 (.invokevirtual 148) 3 113 := And.intro (by decide +kernel) rfl
theorem d_X4_fillOut_113 : dk me_X4_fillOut 113 (.istore 6) 2 115 := And.intro (by decide +kernel) rfl
theorem d_X4_fillOut_115 : dk me_X4_fillOut 115 (.iload 6) 2 117 := And.intro (by decide +kernel) rfl
theorem d_X4_fillOut_117 : dk me_X4_fillOut 117 (.ifCond .le 32) 3 120 := And.intro (by decide +kernel) rfl
theorem d_X4_fillOut_120 : dk me_X4_fillOut 120 (.aload_n 0) 1 121 := And.intro (by decide +kernel) rfl
theorem d_X4_fillOut_121 : dk me_X4_fillOut 121 (.getfield 15) 3 124 := And.intro (by decide +kernel) rfl
theorem d_X4_fillOut_124 : dk me_X4_fillOut 124 (.iload 5) 2 126 := And.intro (by decide +kernel) rfl
theorem d_X4_fillOut_126 : dk me_X4_fillOut 126 (.baload) 1 127 := And.intro (by decide +kernel) rfl
theorem d_X4_fillOut_127 : dk me_X4_fillOut 127 (.ifCond .ne 22) 3 130 := And.intro (by decide +kernel) rfl
theorem d_X4_fillOut_130 : dk me_X4_fillOut 130 (.iload 6) 2 132 := And.intro (by decide +kernel) rfl
theorem d_X4_fillOut_132 : dk me_X4_fillOut 132 (.iload_n 3) 1 133 := And.intro (by decide +kernel) rfl
theorem d_X4_fillOut_133 : dk me_X4_fillOut 133 (.if_icmp .gt 16) 3 136 := And.intro (by decide +kernel) rfl
theorem d_X4_fillOut_136 : dk me_X4_fillOut 136 (.aload_n 0) 1 137 := And.intro (by decide +kernel) rfl
theorem d_X4_fillOut_137 : dk me_X4_fillOut 137 (.getfield 15) 3 140 := And.intro (by decide +kernel) rfl
theorem d_X4_fillOut_140 : dk me_X4_fillOut 140 (.iload 5) 2 142 := And.intro (by decide +kernel) rfl
theorem d_X4_fillOut_142 : dk me_X4_fillOut 142 (.iconst 1) 1 143 := And.intro (by decide +kernel) rfl
theorem d_X4_fillOut_143 : dk me_X4_fillOut 143 (.bastore) 1 144 := And.intro (by decide +kernel) rfl
theorem d_X4_fillOut_144 : dk me_X4_fillOut 144 (.iload_n 3) 1 145 := And.intro (by decide +kernel) rfl
theorem d_X4_fillOut_145 : dk me_X4_fillOut 145 (.iload 6) 2 147 := And.intro (by decide +kernel) rfl
theorem d_X4_fillOut_147 : dk me_X4_fillOut 147 (.isub) 1 148 := And.intro (by decide +kernel) rfl
theorem d_X4_fillOut_148 : dk me_X4_fillOut 148 (.istore_n 3) 1 149 := And.intro (by decide +kernel) rfl
theorem d_X4_fillOut_149 : dk me_X4_fillOut 149 (.iinc 5 1) 3 152 := And.intro (by decide +kernel) rfl
theorem d_X4_fillOut_152 : dk me_X4_fillOut 152 (.goto (-64)) 3 155 := And.intro (by decide +kernel) rfl
theorem d_X4_fillOut_155 : dk me_X4_fillOut 155 (.aload_n 0) 1 156 := And.intro (by decide +kernel) rfl
theorem d_X4_fillOut_156 : dk me_X4_fillOut 156 (.getfield 35) 3 159 := And.intro (by decide +kernel) rfl
theorem d_X4_fillOut_159 : dk me_X4_fillOut 159 (.iload_n 2) 1 160 := And.intro (by decide +kernel) rfl
theorem d_X4_fillOut_160 : dk me_X4_fillOut 160 (.iload_n 3) 1 161 := And.intro (by decide +kernel) rfl
theorem d_X4_fillOut_161 : dk me_X4_fillOut 161 (.iastore) 1 162 := And.intro (by decide +kernel) rfl
theorem d_X4_fillOut_162 : dk me_X4_fillOut 162 (.return_) 1 163 := And.intro (by decide +kernel) rfl
theorem ms_X4_fillOut {fx : FX} {m : MM} {l0 : Nat} {l1 : Nat} {l2 : Int} : MS fx me_X4_fillOut [aR (some (4, l0)), aR (some (9, l1)), aI l2] m (f_X4_fillOut m l0 l1 l2) := by
  refine ms_of rfl mf_X4_fillOut (b8 rfl) ?_
  refine s_top ?_
  show Sim fx me_X4_fillOut 0 [(0, aR (some (4, l0))), (1, aR (some (9, l1))), (2, aI l2)] [] m _
  unfold f_X4_fillOut
  have hj_X4_fillOut_0_155 : ∀ (m_155 : MM) (l0_155 : Nat) (l2_155 : Int) (l3_155 : Int), Sim fx me_X4_fillOut 155 [(0, aR (some (4, l0_155))), (2, aI l2_155), (3, aI l3_155)] [] m_155 ((j_X4_fillOut_0_155 m_155 l0_155 l2_155 l3_155).bind (fun z => some z)) := by
    intro m_155 l0_155 l2_155 l3_155
    unfold j_X4_fillOut_0_155
    refine s_aload_n d_X4_fillOut_155 m0_ (s_getR cf d_X4_fillOut_156 fl_X4_35 (s_nk fun i20 => (s_iload_n d_X4_fillOut_159 m1_ (s_iload_n d_X4_fillOut_160 m2_ (s_stN d_X4_fillOut_161 ka_32 rfl fun m21 => ?_)))))
    exact s_vret d_X4_fillOut_162 rfl rfl
  have hj_X4_fillOut_0_80 : ∀ (m_80 : MM) (l0_80 : Nat) (l1_80 : Nat) (l2_80 : Int) (l3_80 : Int) (l4_80 : Int), Sim fx me_X4_fillOut 80 [(0, aR (some (4, l0_80))), (1, aR (some (9, l1_80))), (2, aI l2_80), (3, aI l3_80), (4, aI l4_80)] [] m_80 ((j_X4_fillOut_0_80 m_80 l0_80 l1_80 l2_80 l3_80 l4_80).bind (fun z => some z)) := by
    intro m_80 l0_80 l1_80 l2_80 l3_80 l4_80
    unfold j_X4_fillOut_0_80
    refine s_aload_n d_X4_fillOut_80 m0_ (s_getR cf d_X4_fillOut_81 fl_X4_32 (s_nk fun i11 => (s_iload_n d_X4_fillOut_84 m2_ (s_ldN d_X4_fillOut_85 ka_31 rfl fun v12 => (s_istore (L' := [(5, aI v12), (0, aR (some (4, l0_80))), (1, aR (some (9, l1_80))), (2, aI l2_80), (3, aI l3_80), (4, aI l4_80)]) d_X4_fillOut_86 (b8 rfl) rfl ?_)))))
    refine s_sub (subc m4_ (subc m0_ (subc m1_ (subc m2_ (subc m3_ (subc m5_ sub0)))))) (s_lp2 (fun s => [(3, aI (s.1)), (5, aI (s.2.1)), (0, aR (some (4, l0_80))), (1, aR (some (9, l1_80))), (2, aI l2_80), (4, aI l4_80)]) (fun s => s.2.2) (l3_80, v12, m_80) fun k88 hx88 s ih0 => ?_)
    obtain ⟨l3_88, l5_88, mm_88⟩ := s
    have ih88 := ih0
    clear ih0
    try dsimp only
    unfold b_X4_fillOut_88
    refine s_iload d_X4_fillOut_88 m1_ (s_iload d_X4_fillOut_90 m5_ (s_icmp_ge (tgt := 155) d_X4_fillOut_92 rfl ?_ ?_))
    · exact s_exit (hx88 _) (s_sub (subc m2_ (subc m4_ (subc m0_ sub0))) (hj_X4_fillOut_0_155 mm_88 l0_80 l2_80 l3_88))
    refine s_aload_n d_X4_fillOut_95 m2_ (s_getB cf d_X4_fillOut_96 fl_X4_60 (s_if_ne (tgt := 155) d_X4_fillOut_99 rfl ?_ ?_))
    · exact s_exit (hx88 _) (s_sub (subc m2_ (subc m4_ (subc m0_ sub0))) (hj_X4_fillOut_0_155 mm_88 l0_80 l2_80 l3_88))
    refine s_aload_n d_X4_fillOut_102 m3_ (s_aload_n d_X4_fillOut_103 m2_ (s_getR cf d_X4_fillOut_104 fl_X4_9 (s_nk fun i13 => (s_iload d_X4_fillOut_107 m1_ (s_ldN d_X4_fillOut_109 ka_27 rfl fun v14 => ?_)))))
    refine s_pI (r_V d_X4_fillOut_110 k_X9_growth w_945 rfl rfl) ms_X9_growth (b8 rfl) rfl rfl rfl fun v15 => (s_istore (L' := [(6, aI v15), (3, aI l3_88), (5, aI l5_88), (0, aR (some (4, l0_80))), (1, aR (some (9, l1_80))), (2, aI l2_80), (4, aI l4_80)]) d_X4_fillOut_113 (b8 rfl) rfl (s_iload d_X4_fillOut_115 m0_ (s_if_le (tgt := 149) d_X4_fillOut_117 rfl ?_ ?_)))
    · exact s_iinc (L' := [(5, aI (l5_88 + 1)), (6, aI v15), (3, aI l3_88), (0, aR (some (4, l0_80))), (1, aR (some (9, l1_80))), (2, aI l2_80), (4, aI l4_80)]) d_X4_fillOut_149 m2_ (b8 rfl) rfl (s_goto (tgt := 88) d_X4_fillOut_152 rfl (s_sub (subc m2_ (subc m0_ (subc m3_ (subc m4_ (subc m5_ (subc m6_ sub0)))))) (s_back (ih88 (l3_88, (l5_88 + 1), mm_88)))))
    refine s_aload_n d_X4_fillOut_120 m3_ (s_getR cf d_X4_fillOut_121 fl_X4_15 (s_nk fun i16 => (s_iload d_X4_fillOut_124 m2_ (s_ldB d_X4_fillOut_126 ka_28 rfl fun v17 => (s_if_ne (tgt := 149) d_X4_fillOut_127 rfl ?_ ?_)))))
    · exact s_iinc (L' := [(5, aI (l5_88 + 1)), (6, aI v15), (3, aI l3_88), (0, aR (some (4, l0_80))), (1, aR (some (9, l1_80))), (2, aI l2_80), (4, aI l4_80)]) d_X4_fillOut_149 m2_ (b8 rfl) rfl (s_goto (tgt := 88) d_X4_fillOut_152 rfl (s_sub (subc m2_ (subc m0_ (subc m3_ (subc m4_ (subc m5_ (subc m6_ sub0)))))) (s_back (ih88 (l3_88, (l5_88 + 1), mm_88)))))
    refine s_iload d_X4_fillOut_130 m0_ (s_iload_n d_X4_fillOut_132 m1_ (s_icmp_gt (tgt := 149) d_X4_fillOut_133 rfl ?_ ?_))
    · exact s_iinc (L' := [(5, aI (l5_88 + 1)), (6, aI v15), (3, aI l3_88), (0, aR (some (4, l0_80))), (1, aR (some (9, l1_80))), (2, aI l2_80), (4, aI l4_80)]) d_X4_fillOut_149 m2_ (b8 rfl) rfl (s_goto (tgt := 88) d_X4_fillOut_152 rfl (s_sub (subc m2_ (subc m0_ (subc m3_ (subc m4_ (subc m5_ (subc m6_ sub0)))))) (s_back (ih88 (l3_88, (l5_88 + 1), mm_88)))))
    refine s_aload_n d_X4_fillOut_136 m3_ (s_getR cf d_X4_fillOut_137 fl_X4_15 (s_nk fun i18 => (s_iload d_X4_fillOut_140 m2_ (s_iconst d_X4_fillOut_142 n_1 (s_stBl d_X4_fillOut_143 ka_28 rfl (by decide) fun m19 => ?_)))))
    refine s_iload_n d_X4_fillOut_144 m1_ (s_iload d_X4_fillOut_145 m0_ (s_isub d_X4_fillOut_147 rfl rfl (s_ck (s_istore_n (L' := [(3, aI (l3_88 - v15)), (6, aI v15), (5, aI l5_88), (0, aR (some (4, l0_80))), (1, aR (some (9, l1_80))), (2, aI l2_80), (4, aI l4_80)]) d_X4_fillOut_148 (b8 rfl) rfl (s_iinc (L' := [(5, aI (l5_88 + 1)), (3, aI (l3_88 - v15)), (6, aI v15), (0, aR (some (4, l0_80))), (1, aR (some (9, l1_80))), (2, aI l2_80), (4, aI l4_80)]) d_X4_fillOut_149 m2_ (b8 rfl) rfl ?_)))))
    exact s_goto (tgt := 88) d_X4_fillOut_152 rfl (s_sub (subc m1_ (subc m0_ (subc m3_ (subc m4_ (subc m5_ (subc m6_ sub0)))))) (s_back (ih88 ((l3_88 - v15), (l5_88 + 1), m19))))
  refine s_aload_n d_X4_fillOut_0 m0_ (s_getR cf d_X4_fillOut_1 fl_X4_38 (s_nk fun i1 => (s_iload_n d_X4_fillOut_4 m2_ (s_ldB d_X4_fillOut_5 ka_33 rfl fun v2 => (s_if_ne (tgt := 10) d_X4_fillOut_6 rfl ?_ ?_)))))
  · refine s_aload_n d_X4_fillOut_10 m0_ (s_getR cf d_X4_fillOut_11 fl_X4_35 (s_nk fun i3 => (s_iload_n d_X4_fillOut_14 m2_ (s_ldN d_X4_fillOut_15 ka_32 rfl fun v4 => (s_istore_n (L' := [(3, aI v4), (0, aR (some (4, l0))), (1, aR (some (9, l1))), (2, aI l2)]) d_X4_fillOut_16 (b8 rfl) rfl ?_)))))
    refine s_aload_n d_X4_fillOut_17 m1_ (s_iload_n d_X4_fillOut_18 m3_ (s_pI (r_V d_X4_fillOut_19 k_X4_wordBehindLine w_944 rfl rfl) ms_X4_wordBehindLine (b8 rfl) rfl rfl rfl fun v5 => (s_istore (L' := [(4, aI v5), (3, aI v4), (0, aR (some (4, l0))), (1, aR (some (9, l1))), (2, aI l2)]) d_X4_fillOut_22 (b8 rfl) rfl (s_iconst d_X4_fillOut_24 n_1 (s_istore (L' := [(5, aI 1), (4, aI v5), (3, aI v4), (0, aR (some (4, l0))), (1, aR (some (9, l1))), (2, aI l2)]) d_X4_fillOut_25 (b8 rfl) rfl ?_)))))
    refine s_sub (subc m2_ (subc m0_ (subc m3_ (subc m4_ (subc m5_ (subc m1_ sub0)))))) (s_lp2 (fun s => [(3, aI (s.1)), (5, aI (s.2.1)), (0, aR (some (4, l0))), (1, aR (some (9, l1))), (2, aI l2), (4, aI v5)]) (fun s => s.2.2) (v4, 1, m) fun k27 hx27 s ih0 => ?_)
    obtain ⟨l3_27, l5_27, mm_27⟩ := s
    have ih27 := ih0
    clear ih0
    try dsimp only
    unfold b_X4_fillOut_27
    have hj_X4_fillOut_27_74 : ∀ (m_74 : MM) (l3_74 : Int) (l5_74 : Int), Sim fx me_X4_fillOut 74 [(0, aR (some (4, l0))), (1, aR (some (9, l1))), (2, aI l2), (3, aI l3_74), (4, aI v5), (5, aI l5_74)] [] m_74 ((j_X4_fillOut_27_74 m_74 l0 l1 l2 l3_74 v5 l5_74).bind k27) := by
      intro m_74 l3_74 l5_74
      unfold j_X4_fillOut_27_74
      exact s_iinc (L' := [(5, aI (l5_74 + 1)), (0, aR (some (4, l0))), (1, aR (some (9, l1))), (2, aI l2), (3, aI l3_74), (4, aI v5)]) d_X4_fillOut_74 m5_ (b8 rfl) rfl (s_goto (tgt := 27) d_X4_fillOut_77 rfl (s_sub (subc m4_ (subc m0_ (subc m1_ (subc m2_ (subc m3_ (subc m5_ sub0)))))) (s_back (ih27 (l3_74, (l5_74 + 1), m_74)))))
    refine s_iload d_X4_fillOut_27 m1_ (s_iconst d_X4_fillOut_29 n_3 (s_icmp_ge (tgt := 80) d_X4_fillOut_30 rfl ?_ ?_))
    · exact s_exit (hx27 _) (s_sub (subc m2_ (subc m3_ (subc m4_ (subc m0_ (subc m5_ sub0))))) (hj_X4_fillOut_0_80 mm_27 l0 l1 l2 l3_27 v5))
    refine s_aload_n d_X4_fillOut_33 m2_ (s_getR cf d_X4_fillOut_34 fl_X4_32 (s_nk fun i6 => (s_iload_n d_X4_fillOut_37 m4_ (s_ldN d_X4_fillOut_38 ka_31 rfl fun v7 => (s_istore (L' := [(6, aI v7), (3, aI l3_27), (5, aI l5_27), (0, aR (some (4, l0))), (1, aR (some (9, l1))), (2, aI l2), (4, aI v5)]) d_X4_fillOut_39 (b8 rfl) rfl ?_)))))
    refine s_sub (subc m1_ (subc m0_ (subc m3_ (subc m4_ (subc m5_ (subc m6_ (subc m2_ sub0))))))) (s_lp2 (fun s => [(3, aI (s.1)), (6, aI (s.2.1)), (0, aR (some (4, l0))), (1, aR (some (9, l1))), (2, aI l2), (4, aI v5), (5, aI l5_27)]) (fun s => s.2.2) (l3_27, v7, mm_27) fun k41 hx41 s ih0 => ?_)
    obtain ⟨l3_41, l6_41, mm_41⟩ := s
    have ih41 := ih0
    clear ih0
    try dsimp only
    unfold b_X4_fillOut_41
    refine s_iload d_X4_fillOut_41 m1_ (s_iload d_X4_fillOut_43 m5_ (s_iconst d_X4_fillOut_45 n_1 (s_isub d_X4_fillOut_46 rfl rfl (s_ck (s_icmp_ge (tgt := 74) d_X4_fillOut_47 rfl ?_ ?_)))))
    · exact s_exit (hx41 _) (s_sub (subc m2_ (subc m3_ (subc m4_ (subc m0_ (subc m5_ (subc m6_ sub0)))))) (hj_X4_fillOut_27_74 mm_41 l3_41 l5_27))
    refine s_iload_n d_X4_fillOut_50 m0_ (s_if_le (tgt := 74) d_X4_fillOut_51 rfl ?_ ?_)
    · exact s_exit (hx41 _) (s_sub (subc m2_ (subc m3_ (subc m4_ (subc m0_ (subc m5_ (subc m6_ sub0)))))) (hj_X4_fillOut_27_74 mm_41 l3_41 l5_27))
    refine s_aload_n d_X4_fillOut_54 m2_ (s_getR cf d_X4_fillOut_55 fl_X4_19 (s_nk fun i8 => (s_iload d_X4_fillOut_58 m1_ (s_dup2 d_X4_fillOut_60 rfl rfl (s_ldN d_X4_fillOut_61 ka_29 rfl fun v9 => ?_)))))
    refine s_iconst d_X4_fillOut_62 n_1 (s_iadd d_X4_fillOut_63 rfl rfl (s_ck (s_stN d_X4_fillOut_64 ka_29 rfl fun m10 => (s_iinc (L' := [(3, aI (l3_41 + (-1))), (6, aI l6_41), (0, aR (some (4, l0))), (1, aR (some (9, l1))), (2, aI l2), (4, aI v5), (5, aI l5_27)]) d_X4_fillOut_65 m0_ (b8 rfl) rfl (s_iinc (L' := [(6, aI (l6_41 + 1)), (3, aI (l3_41 + (-1))), (0, aR (some (4, l0))), (1, aR (some (9, l1))), (2, aI l2), (4, aI v5), (5, aI l5_27)]) d_X4_fillOut_68 m1_ (b8 rfl) rfl ?_)))))
    exact s_goto (tgt := 41) d_X4_fillOut_71 rfl (s_sub (subc m1_ (subc m0_ (subc m2_ (subc m3_ (subc m4_ (subc m5_ (subc m6_ sub0))))))) (s_back (ih41 ((l3_41 + (-1)), (l6_41 + 1), m10))))
  exact s_vret d_X4_fillOut_9 rfl rfl
theorem d_X4_addWord_0 : dk me_X4_addWord 0 (.aload_n 0) 1 1 := And.intro (by decide +kernel) rfl
theorem d_X4_addWord_1 : dk me_X4_addWord 1 (.getfield 9) 3 4 := And.intro (by decide +kernel) rfl
theorem d_X4_addWord_4 : dk me_X4_addWord 4 (.aload_n 0) 1 5 := And.intro (by decide +kernel) rfl
theorem d_X4_addWord_5 : dk me_X4_addWord 5 (.getfield 54) 3 8 := And.intro (by decide +kernel) rfl
theorem d_X4_addWord_8 : dk me_X4_addWord 8 (.iload_n 1) 1 9 := And.intro (by decide +kernel) rfl
theorem d_X4_addWord_9 : dk me_X4_addWord 9 (.iastore) 1 10 := And.intro (by decide +kernel) rfl
theorem d_X4_addWord_10 : dk me_X4_addWord 10 (.aload_n 0) 1 11 := And.intro (by decide +kernel) rfl
theorem d_X4_addWord_11 : dk me_X4_addWord 11 (.getfield 15) 3 14 := And.intro (by decide +kernel) rfl
theorem d_X4_addWord_14 : dk me_X4_addWord 14 (.aload_n 0) 1 15 := And.intro (by decide +kernel) rfl
theorem d_X4_addWord_15 : dk me_X4_addWord 15 (.getfield 54) 3 18 := And.intro (by decide +kernel) rfl
theorem d_X4_addWord_18 : dk me_X4_addWord 18 (.iload_n 2) 1 19 := And.intro (by decide +kernel) rfl
theorem d_X4_addWord_19 : dk me_X4_addWord 19 (.bastore) 1 20 := And.intro (by decide +kernel) rfl
theorem d_X4_addWord_20 : dk me_X4_addWord 20 (.aload_n 0) 1 21 := And.intro (by decide +kernel) rfl
theorem d_X4_addWord_21 : dk me_X4_addWord 21 (.getfield 19) 3 24 := And.intro (by decide +kernel) rfl
theorem d_X4_addWord_24 : dk me_X4_addWord 24 (.aload_n 0) 1 25 := And.intro (by decide +kernel) rfl
theorem d_X4_addWord_25 : dk me_X4_addWord 25 (.getfield 54) 3 28 := And.intro (by decide +kernel) rfl
theorem d_X4_addWord_28 : dk me_X4_addWord 28 (.iconst 1) 1 29 := And.intro (by decide +kernel) rfl
theorem d_X4_addWord_29 : dk me_X4_addWord 29 (.iastore) 1 30 := And.intro (by decide +kernel) rfl
theorem d_X4_addWord_30 : dk me_X4_addWord 30 (.aload_n 0) 1 31 := And.intro (by decide +kernel) rfl
theorem d_X4_addWord_31 : dk me_X4_addWord 31 (.dup) 1 32 := And.intro (by decide +kernel) rfl
theorem d_X4_addWord_32 : dk me_X4_addWord 32 (.getfield 54) 3 35 := And.intro (by decide +kernel) rfl
theorem d_X4_addWord_35 : dk me_X4_addWord 35 (.iconst 1) 1 36 := And.intro (by decide +kernel) rfl
theorem d_X4_addWord_36 : dk me_X4_addWord 36 (.iadd) 1 37 := And.intro (by decide +kernel) rfl
theorem d_X4_addWord_37 : dk me_X4_addWord 37 (.putfield 54) 3 40 := And.intro (by decide +kernel) rfl
theorem d_X4_addWord_40 : dk me_X4_addWord 40 (.return_) 1 41 := And.intro (by decide +kernel) rfl
theorem ms_X4_addWord {fx : FX} {m : MM} {l0 : Nat} {l1 : Int} {l2 : Int} : MS fx me_X4_addWord [aR (some (4, l0)), aI l1, aI l2] m (f_X4_addWord m l0 l1 l2) := by
  refine ms_of rfl mf_X4_addWord (b8 rfl) ?_
  refine s_top ?_
  show Sim fx me_X4_addWord 0 [(0, aR (some (4, l0))), (1, aI l1), (2, aI l2)] [] m _
  unfold f_X4_addWord
  refine s_aload_n d_X4_addWord_0 m0_ (s_getR cf d_X4_addWord_1 fl_X4_9 (s_nk fun i1 => (s_aload_n d_X4_addWord_4 m0_ (s_getN cf d_X4_addWord_5 fl_X4_54 (s_iload_n d_X4_addWord_8 m1_ ?_)))))
  refine s_stN d_X4_addWord_9 ka_27 rfl fun m2 => (s_aload_n d_X4_addWord_10 m0_ (s_getR cf d_X4_addWord_11 fl_X4_15 (s_nk fun i3 => (s_aload_n d_X4_addWord_14 m0_ (s_getN cf d_X4_addWord_15 fl_X4_54 ?_)))))
  refine s_iload_n d_X4_addWord_18 m2_ (s_stB d_X4_addWord_19 ka_28 rfl fun m4 => (s_aload_n d_X4_addWord_20 m0_ (s_getR cf d_X4_addWord_21 fl_X4_19 (s_nk fun i5 => (s_aload_n d_X4_addWord_24 m0_ ?_)))))
  refine s_getN cf d_X4_addWord_25 fl_X4_54 (s_iconst d_X4_addWord_28 n_1 (s_stN d_X4_addWord_29 ka_29 rfl fun m6 => (s_aload_n d_X4_addWord_30 m0_ (s_dup d_X4_addWord_31 rfl (s_getN cf d_X4_addWord_32 fl_X4_54 ?_)))))
  exact s_iconst d_X4_addWord_35 n_1 (s_iadd d_X4_addWord_36 rfl rfl (s_ck (s_putN cf d_X4_addWord_37 fl_X4_54 (fun h => by cases h) fun m7 => (s_vret d_X4_addWord_40 rfl rfl))))
theorem d_X3_skipsNow_0 : dk me_X3_skipsNow 0 (.aload_n 0) 1 1 := And.intro (by decide +kernel) rfl
theorem d_X3_skipsNow_1 : dk me_X3_skipsNow 1 (.dup) 1 2 := And.intro (by decide +kernel) rfl
theorem d_X3_skipsNow_2 : dk me_X3_skipsNow 2 (.getfield 21) 3 5 := And.intro (by decide +kernel) rfl
theorem d_X3_skipsNow_5 : dk me_X3_skipsNow 5 (.iconst 1) 1 6 := And.intro (by decide +kernel) rfl
theorem d_X3_skipsNow_6 : dk me_X3_skipsNow 6 (.iadd) 1 7 := And.intro (by decide +kernel) rfl
theorem d_X3_skipsNow_7 : dk me_X3_skipsNow 7 (.putfield 21) 3 10 := And.intro (by decide +kernel) rfl
theorem d_X3_skipsNow_10 : dk me_X3_skipsNow 10 (.aload_n 0) 1 11 := And.intro (by decide +kernel) rfl
theorem d_X3_skipsNow_11 : dk me_X3_skipsNow 11 (.getfield 18) 3 14 := And.intro (by decide +kernel) rfl
theorem d_X3_skipsNow_14 : dk me_X3_skipsNow 14 (.ifCond .le 19) 3 17 := And.intro (by decide +kernel) rfl
theorem d_X3_skipsNow_17 : dk me_X3_skipsNow 17 (.aload_n 0) 1 18 := And.intro (by decide +kernel) rfl
theorem d_X3_skipsNow_18 : dk me_X3_skipsNow 18 (.getfield 21) 3 21 := And.intro (by decide +kernel) rfl
theorem d_X3_skipsNow_21 : dk me_X3_skipsNow 21 (.aload_n 0) 1 22 := And.intro (by decide +kernel) rfl
theorem d_X3_skipsNow_22 : dk me_X3_skipsNow 22 (.getfield 18) 3 25 := And.intro (by decide +kernel) rfl
theorem d_X3_skipsNow_25 : dk me_X3_skipsNow 25 (.irem) 1 26 := And.intro (by decide +kernel) rfl
theorem d_X3_skipsNow_26 : dk me_X3_skipsNow 26 (.ifCond .ne 7) 3 29 := And.intro (by decide +kernel) rfl
theorem d_X3_skipsNow_29 : dk me_X3_skipsNow 29 (.iconst 1) 1 30 := And.intro (by decide +kernel) rfl
theorem d_X3_skipsNow_30 : dk me_X3_skipsNow 30 (.goto 4) 3 33 := And.intro (by decide +kernel) rfl
theorem d_X3_skipsNow_33 : dk me_X3_skipsNow 33 (.iconst 0) 1 34 := And.intro (by decide +kernel) rfl
theorem d_X3_skipsNow_34 : dk me_X3_skipsNow 34 (.ireturn) 1 35 := And.intro (by decide +kernel) rfl
theorem ms_X3_skipsNow {fx : FX} {m : MM} {l0 : Nat} : MS fx me_X3_skipsNow [aR (some (3, l0))] m (f_X3_skipsNow m l0) := by
  refine ms_of rfl mf_X3_skipsNow (b8 rfl) ?_
  refine s_top ?_
  show Sim fx me_X3_skipsNow 0 [(0, aR (some (3, l0)))] [] m _
  unfold f_X3_skipsNow
  refine s_aload_n d_X3_skipsNow_0 m0_ (s_dup d_X3_skipsNow_1 rfl (s_getN cf d_X3_skipsNow_2 fl_X3_21 (s_iconst d_X3_skipsNow_5 n_1 (s_iadd d_X3_skipsNow_6 rfl rfl (s_ck ?_)))))
  refine s_putN cf d_X3_skipsNow_7 fl_X3_21 (fun h => by cases h) fun m1 => (s_aload_n d_X3_skipsNow_10 m0_ (s_getN cf d_X3_skipsNow_11 fl_X3_18 (s_if_le (tgt := 33) d_X3_skipsNow_14 rfl ?_ ?_)))
  · exact s_iconst d_X3_skipsNow_33 n_0 (s_zretl d_X3_skipsNow_34 rfl (by decide) rfl)
  refine s_aload_n d_X3_skipsNow_17 m0_ (s_getN cf d_X3_skipsNow_18 fl_X3_21 (s_aload_n d_X3_skipsNow_21 m0_ (s_getN cf d_X3_skipsNow_22 fl_X3_18 (s_irem d_X3_skipsNow_25 (s_if_ne (tgt := 33) d_X3_skipsNow_26 rfl ?_ ?_)))))
  · exact s_iconst d_X3_skipsNow_33 n_0 (s_zretl d_X3_skipsNow_34 rfl (by decide) rfl)
  exact s_iconst d_X3_skipsNow_29 n_1 (s_goto (tgt := 34) d_X3_skipsNow_30 rfl (s_zretl d_X3_skipsNow_34 rfl (by decide) rfl))
theorem d_X9_sameSoon_0 : dk me_X9_sameSoon 0 (.iload_n 1) 1 1 := And.intro (by decide +kernel) rfl
theorem d_X9_sameSoon_1 : dk me_X9_sameSoon 1 (.iconst 1) 1 2 := And.intro (by decide +kernel) rfl
theorem d_X9_sameSoon_2 : dk me_X9_sameSoon 2 (.iadd) 1 3 := And.intro (by decide +kernel) rfl
theorem d_X9_sameSoon_3 : dk me_X9_sameSoon 3 (.istore_n 3) 1 4 := And.intro (by decide +kernel) rfl
theorem d_X9_sameSoon_4 : dk me_X9_sameSoon 4 (.iload_n 3) 1 5 := And.intro (by decide +kernel) rfl
theorem d_X9_sameSoon_5 : dk me_X9_sameSoon 5 (.iload_n 1) 1 6 := And.intro (by decide +kernel) rfl
theorem d_X9_sameSoon_6 : dk me_X9_sameSoon 6 (.iconst 4) 1 7 := And.intro (by decide +kernel) rfl
theorem d_X9_sameSoon_7 : dk me_X9_sameSoon 7 (.iadd) 1 8 := And.intro (by decide +kernel) rfl
theorem d_X9_sameSoon_8 : dk me_X9_sameSoon 8 (.if_icmp .gt 32) 3 11 := And.intro (by decide +kernel) rfl
theorem d_X9_sameSoon_11 : dk me_X9_sameSoon 11 (.iload_n 3) 1 12 := And.intro (by decide +kernel) rfl
theorem d_X9_sameSoon_12 : dk me_X9_sameSoon 12 (.iload_n 2) 1 13 := And.intro (by decide +kernel) rfl
theorem d_X9_sameSoon_13 : dk me_X9_sameSoon 13 (.if_icmp .ge 27) 3 16 := And.intro (by decide +kernel) rfl
theorem d_X9_sameSoon_16 : dk me_X9_sameSoon 16 (.aload_n 0) 1 17 := And.intro (by decide +kernel) rfl
theorem d_X9_sameSoon_17 : dk me_X9_sameSoon 17 (.getfield 9) 3 20 := And.intro (by decide +kernel) rfl
theorem d_X9_sameSoon_20 : dk me_X9_sameSoon 20 (.iload_n 3) 1 21 := And.intro (by decide +kernel) rfl
theorem d_X9_sameSoon_21 : dk me_X9_sameSoon 21 (.laload) 1 22 := And.intro (by decide +kernel) rfl
theorem d_X9_sameSoon_22 : dk me_X9_sameSoon 22 (.aload_n 0) 1 23 := And.intro (by decide +kernel) rfl
theorem d_X9_sameSoon_23 : dk me_X9_sameSoon 23 (.getfield 9) 3 26 := And.intro (by decide +kernel) rfl
theorem d_X9_sameSoon_26 : dk me_X9_sameSoon 26 (.iload_n 1) 1 27 := And.intro (by decide +kernel) rfl
theorem d_X9_sameSoon_27 : dk me_X9_sameSoon 27 (.laload) 1 28 := And.intro (by decide +kernel) rfl
theorem d_X9_sameSoon_28 : dk me_X9_sameSoon 28 (.lcmp) 1 29 := And.intro (by decide +kernel) rfl
theorem d_X9_sameSoon_29 : dk me_X9_sameSoon 29 (.ifCond .ne 5) 3 32 := And.intro (by decide +kernel) rfl
theorem d_X9_sameSoon_32 : dk me_X9_sameSoon 32 (.iload_n 3) 1 33 := And.intro (by decide +kernel) rfl
theorem d_X9_sameSoon_33 : dk me_X9_sameSoon 33 (.ireturn) 1 34 := And.intro (by decide +kernel) rfl
theorem d_X9_sameSoon_34 : dk me_X9_sameSoon 34 (.iinc 3 1) 3 37 := And.intro (by decide +kernel) rfl
theorem d_X9_sameSoon_37 : dk me_X9_sameSoon 37 (.goto (-33)) 3 40 := And.intro (by decide +kernel) rfl
theorem d_X9_sameSoon_40 : dk me_X9_sameSoon 40 (.iconst (-1)) 1 41 := And.intro (by decide +kernel) rfl
theorem d_X9_sameSoon_41 : dk me_X9_sameSoon 41 (.ireturn) 1 42 := And.intro (by decide +kernel) rfl
theorem ms_X9_sameSoon {fx : FX} {m : MM} {l0 : Nat} {l1 : Int} {l2 : Int} : MS fx me_X9_sameSoon [aR (some (9, l0)), aI l1, aI l2] m ((f_X9_sameSoon m l0 l1 l2).bind fun v => some (.inl (some (aI v)), m)) := by
  refine ms_of rfl mf_X9_sameSoon (b8 rfl) ?_
  show Sim fx me_X9_sameSoon 0 [(0, aR (some (9, l0))), (1, aI l1), (2, aI l2)] [] m _
  unfold f_X9_sameSoon
  have hj_X9_sameSoon_0_40 : Sim fx me_X9_sameSoon 40 [] [] m ((j_X9_sameSoon_0_40 m).bind (fun v => some (.inl (some (aI v)), m))) := by
    unfold j_X9_sameSoon_0_40
    exact s_iconst d_X9_sameSoon_40 n_m1 (s_iret d_X9_sameSoon_41 rfl rfl)
  refine s_iload_n d_X9_sameSoon_0 m1_ (s_iconst d_X9_sameSoon_1 n_1 (s_iadd d_X9_sameSoon_2 rfl rfl (s_ck (s_istore_n (L' := [(3, aI (l1 + 1)), (0, aR (some (9, l0))), (1, aI l1), (2, aI l2)]) d_X9_sameSoon_3 (b8 rfl) rfl (s_sub (subc m0_ (subc m1_ (subc m2_ (subc m3_ sub0)))) (s_lp2 (fun s => [(3, aI s), (0, aR (some (9, l0))), (1, aI l1), (2, aI l2)]) (fun s => m) (l1 + 1) fun k4 hx4 s ih0 => ?_))))))
  obtain ⟨l3_4, rfl⟩ : ∃ q, q = s := ⟨s, rfl⟩
  have ih4 := ih0
  clear ih0
  try dsimp only
  unfold b_X9_sameSoon_4
  refine s_iload_n d_X9_sameSoon_4 m0_ (s_iload_n d_X9_sameSoon_5 m2_ (s_iconst d_X9_sameSoon_6 n_4 (s_iadd d_X9_sameSoon_7 rfl rfl (s_ck (s_icmp_gt (tgt := 40) d_X9_sameSoon_8 rfl ?_ ?_)))))
  · exact s_exit (hx4 _) (s_sub (sub0) (hj_X9_sameSoon_0_40 ))
  refine s_iload_n d_X9_sameSoon_11 m0_ (s_iload_n d_X9_sameSoon_12 m3_ (s_icmp_ge (tgt := 40) d_X9_sameSoon_13 rfl ?_ ?_))
  · exact s_exit (hx4 _) (s_sub (sub0) (hj_X9_sameSoon_0_40 ))
  refine s_aload_n d_X9_sameSoon_16 m1_ (s_getR cf d_X9_sameSoon_17 fl_X9_9 (s_nk fun i1 => (s_iload_n d_X9_sameSoon_20 m0_ (s_ldL d_X9_sameSoon_21 ka_45 rfl fun v2 => (s_aload_n d_X9_sameSoon_22 m1_ ?_)))))
  refine s_getR cf d_X9_sameSoon_23 fl_X9_9 (s_nk fun i3 => (s_iload_n d_X9_sameSoon_26 m2_ (s_ldL d_X9_sameSoon_27 ka_45 rfl fun v4 => (s_lcmp d_X9_sameSoon_28 (s_if_ne (tgt := 34) d_X9_sameSoon_29 rfl ?_ ?_)))))
  · exact s_iinc (L' := [(3, aI (l3_4 + 1)), (0, aR (some (9, l0))), (1, aI l1), (2, aI l2)]) d_X9_sameSoon_34 m0_ (b8 rfl) rfl (s_goto (tgt := 4) d_X9_sameSoon_37 rfl (s_sub (subc m0_ (subc m1_ (subc m2_ (subc m3_ sub0)))) (s_back (ih4 (l3_4 + 1)))))
  exact s_iload_n d_X9_sameSoon_32 m0_ (s_iret d_X9_sameSoon_33 rfl ((hx4 _).trans rfl))
theorem d_X4_goOnBehind_0 : dk me_X4_goOnBehind 0 (.aload_n 1) 1 1 := And.intro (by decide +kernel) rfl
theorem d_X4_goOnBehind_1 : dk me_X4_goOnBehind 1 (.aload_n 0) 1 2 := And.intro (by decide +kernel) rfl
theorem d_X4_goOnBehind_2 : dk me_X4_goOnBehind 2 (.getfield 57) 3 5 := And.intro (by decide +kernel) rfl
theorem d_X4_goOnBehind_5 : dk me_X4_goOnBehind 5 (.iload_n 3) 1 6 := And.intro (by decide +kernel) rfl
theorem d_X4_goOnBehind_6 : dk me_X4_goOnBehind 6 (.invokevirtual 142) 3 9 := And.intro (by decide +kernel) rfl
theorem d_X4_goOnBehind_9 : dk me_X4_goOnBehind 9 (.istore 4) 2 11 := And.intro (by decide +kernel) rfl
theorem d_X4_goOnBehind_11 : dk me_X4_goOnBehind 11 (.iload 4) 2 13 := And.intro (by decide +kernel) rfl
theorem d_X4_goOnBehind_13 : dk me_X4_goOnBehind 13 (.iconst (-1)) 1 14 := And.intro (by decide +kernel) rfl
theorem d_X4_goOnBehind_14 : dk me_X4_goOnBehind 14 (.if_icmp .eq 14) 3 17 := And.intro (by decide +kernel) rfl
theorem d_X4_goOnBehind_17 : dk me_X4_goOnBehind 17 (.aload_n 2) 1 18 := And.intro (by decide +kernel) rfl
theorem d_X4_goOnBehind_18 : dk me_X4_goOnBehind 18 (.invokevirtual 145) 3 21 := And.intro (by decide +kernel) rfl
theorem d_X4_goOnBehind_21 : dk me_X4_goOnBehind 21 (.ifCond .eq 7) 3 24 := And.intro (by decide +kernel) rfl
theorem d_X4_goOnBehind_24 : dk me_X4_goOnBehind 24 (.iconst 1) 1 25 := And.intro (by decide +kernel) rfl
theorem d_X4_goOnBehind_25 : dk me_X4_goOnBehind 25 (.goto 4) 3 28 := And.intro (by decide +kernel) rfl
theorem d_X4_goOnBehind_28 : dk me_X4_goOnBehind 28 (.iconst 0) 1 29 := And.intro (by decide +kernel) rfl
theorem d_X4_goOnBehind_29 : dk me_X4_goOnBehind 29 (.istore 5) 2 31 := And.intro (by decide +kernel) rfl
theorem d_X4_goOnBehind_31 : dk me_X4_goOnBehind 31 (.aload_n 0) 1 32 := And.intro (by decide +kernel) rfl
theorem d_X4_goOnBehind_32 : dk me_X4_goOnBehind 32 (.iload 5) 2 34 := And.intro (by decide +kernel) rfl
theorem d_X4_goOnBehind_34 : dk me_X4_goOnBehind 34 (.ifCond .eq 10) 3 37 := And.intro (by decide +kernel) rfl
theorem d_X4_goOnBehind_37 : dk me_X4_goOnBehind 37 (.iload 4) 2 39 := And.intro (by decide +kernel) rfl
theorem d_X4_goOnBehind_39 : dk me_X4_goOnBehind 39 (.iconst 1) 1 40 := And.intro (by decide +kernel) rfl
theorem d_X4_goOnBehind_40 : dk me_X4_goOnBehind 40 (.iadd) 1 41 := And.intro (by decide +kernel) rfl
theorem d_X4_goOnBehind_41 : dk me_X4_goOnBehind 41 (.goto 9) 3 44 := And.intro (by decide +kernel) rfl
theorem d_X4_goOnBehind_44 : dk me_X4_goOnBehind 44 (.aload_n 0) 1 45 := And.intro (by decide +kernel) rfl
theorem d_X4_goOnBehind_45 : dk me_X4_goOnBehind 45 (.getfield 57) 3 48 := And.intro (by decide +kernel) rfl
theorem d_X4_goOnBehind_48 : dk me_X4_goOnBehind 48 (.iconst 1) 1 49 := And.intro (by decide +kernel) rfl
theorem d_X4_goOnBehind_49 : dk me_X4_goOnBehind 49 (.iadd) 1 50 := And.intro (by decide +kernel) rfl
theorem d_X4_goOnBehind_50 : dk me_X4_goOnBehind 50 (.putfield 57) 3 53 := And.intro (by decide +kernel) rfl
theorem d_X4_goOnBehind_53 : dk me_X4_goOnBehind 53 (.return_) 1 54 := And.intro (by decide +kernel) rfl
theorem ms_X4_goOnBehind {fx : FX} {m : MM} {l0 : Nat} {l1 : Nat} {l2 : Nat} {l3 : Int} : MS fx me_X4_goOnBehind [aR (some (4, l0)), aR (some (9, l1)), aR (some (3, l2)), aI l3] m (f_X4_goOnBehind m l0 l1 l2 l3) := by
  refine ms_of rfl mf_X4_goOnBehind (b8 rfl) ?_
  refine s_top ?_
  show Sim fx me_X4_goOnBehind 0 [(0, aR (some (4, l0))), (1, aR (some (9, l1))), (2, aR (some (3, l2))), (3, aI l3)] [] m _
  unfold f_X4_goOnBehind
  have hj_X4_goOnBehind_0_50 : ∀ (m_50 : MM) (s0_50 : Nat) (s1_50 : Int), Sim fx me_X4_goOnBehind 50 [] [aI s1_50, aR (some (4, s0_50))] m_50 ((j_X4_goOnBehind_0_50 m_50 s0_50 s1_50).bind (fun z => some z)) := by
    intro m_50 s0_50 s1_50
    unfold j_X4_goOnBehind_0_50
    exact s_putN cf d_X4_goOnBehind_50 fl_X4_57 (fun h => by cases h) fun m4 => (s_vret d_X4_goOnBehind_53 rfl rfl)
  have hj_X4_goOnBehind_0_29 : ∀ (m_29 : MM) (l0_29 : Nat) (l4_29 : Int) (s0_29 : Int), Sim fx me_X4_goOnBehind 29 [(0, aR (some (4, l0_29))), (4, aI l4_29)] [aI s0_29] m_29 ((j_X4_goOnBehind_0_29 m_29 l0_29 l4_29 s0_29).bind (fun z => some z)) := by
    intro m_29 l0_29 l4_29 s0_29
    unfold j_X4_goOnBehind_0_29
    refine s_istore (L' := [(5, aI s0_29), (0, aR (some (4, l0_29))), (4, aI l4_29)]) d_X4_goOnBehind_29 (b8 rfl) rfl (s_aload_n d_X4_goOnBehind_31 m1_ (s_iload d_X4_goOnBehind_32 m0_ (s_if_eq (tgt := 44) d_X4_goOnBehind_34 rfl ?_ ?_)))
    · exact s_aload_n d_X4_goOnBehind_44 m1_ (s_getN cf d_X4_goOnBehind_45 fl_X4_57 (s_iconst d_X4_goOnBehind_48 n_1 (s_iadd d_X4_goOnBehind_49 rfl rfl (s_ck (s_sub (sub0) (hj_X4_goOnBehind_0_50 m_29 l0_29 ((gN m_29 4 l0_29 12) + 1)))))))
    exact s_iload d_X4_goOnBehind_37 m2_ (s_iconst d_X4_goOnBehind_39 n_1 (s_iadd d_X4_goOnBehind_40 rfl rfl (s_goto (tgt := 50) d_X4_goOnBehind_41 rfl (s_ck (s_sub (sub0) (hj_X4_goOnBehind_0_50 m_29 l0_29 (l4_29 + 1)))))))
  have hj_X4_goOnBehind_0_28 : ∀ (m_28 : MM) (l0_28 : Nat) (l4_28 : Int), Sim fx me_X4_goOnBehind 28 [(0, aR (some (4, l0_28))), (4, aI l4_28)] [] m_28 ((j_X4_goOnBehind_0_28 m_28 l0_28 l4_28).bind (fun z => some z)) := by
    intro m_28 l0_28 l4_28
    unfold j_X4_goOnBehind_0_28
    exact s_iconst d_X4_goOnBehind_28 n_0 (s_sub (subc m0_ (subc m1_ sub0)) (hj_X4_goOnBehind_0_29 m_28 l0_28 l4_28 0))
  refine s_aload_n d_X4_goOnBehind_0 m1_ (s_aload_n d_X4_goOnBehind_1 m0_ (s_getN cf d_X4_goOnBehind_2 fl_X4_57 (s_iload_n d_X4_goOnBehind_5 m3_ (s_pI (r_V d_X4_goOnBehind_6 k_X9_sameSoon w_932 rfl rfl) ms_X9_sameSoon (b8 rfl) rfl rfl rfl fun v1 => (s_istore (L' := [(4, aI v1), (0, aR (some (4, l0))), (1, aR (some (9, l1))), (2, aR (some (3, l2))), (3, aI l3)]) d_X4_goOnBehind_9 (b8 rfl) rfl ?_)))))
  refine s_iload d_X4_goOnBehind_11 m0_ (s_iconst d_X4_goOnBehind_13 n_m1 (s_icmp_eq (tgt := 28) d_X4_goOnBehind_14 rfl ?_ ?_))
  · exact s_sub (subc m1_ (subc m0_ sub0)) (hj_X4_goOnBehind_0_28 m l0 v1)
  refine s_aload_n d_X4_goOnBehind_17 m3_ (s_cI (r_V d_X4_goOnBehind_18 k_X3_skipsNow w_936 rfl rfl) ms_X3_skipsNow (b8 rfl) rfl rfl rfl (fun _ _ _ => rfl) (fun _ _ => Or.inl rfl) fun v3 m2 => (s_if_eq (tgt := 28) d_X4_goOnBehind_21 rfl ?_ ?_))
  · exact s_sub (subc m1_ (subc m0_ sub0)) (hj_X4_goOnBehind_0_28 m2 l0 v1)
  exact s_iconst d_X4_goOnBehind_24 n_1 (s_goto (tgt := 29) d_X4_goOnBehind_25 rfl (s_sub (subc m1_ (subc m0_ sub0)) (hj_X4_goOnBehind_0_29 m2 l0 v1 1)))
theorem d_X3_likesLong_0 : dk me_X3_likesLong 0 (.iload_n 1) 1 1 := And.intro (by decide +kernel) rfl
theorem d_X3_likesLong_1 : dk me_X3_likesLong 1 (.iconst (-1)) 1 2 := And.intro (by decide +kernel) rfl
theorem d_X3_likesLong_2 : dk me_X3_likesLong 2 (.if_icmp .eq 19) 3 5 := And.intro (by decide +kernel) rfl
theorem d_X3_likesLong_5 : dk me_X3_likesLong 5 (.aload_n 0) 1 6 := And.intro (by decide +kernel) rfl
theorem d_X3_likesLong_6 : dk me_X3_likesLong 6 (.getfield 9) 3 9 := And.intro (by decide +kernel) rfl
theorem d_X3_likesLong_9 : dk me_X3_likesLong 9 (.iload_n 1) 1 10 := And.intro (by decide +kernel) rfl
theorem d_X3_likesLong_10 : dk me_X3_likesLong 10 (.ishr) 1 11 := And.intro (by decide +kernel) rfl
theorem d_X3_likesLong_11 : dk me_X3_likesLong 11 (.iconst 1) 1 12 := And.intro (by decide +kernel) rfl
theorem d_X3_likesLong_12 : dk me_X3_likesLong 12 (.iand) 1 13 := And.intro (by decide +kernel) rfl
theorem d_X3_likesLong_13 : dk me_X3_likesLong 13 (.iconst 1) 1 14 := And.intro (by decide +kernel) rfl
theorem d_X3_likesLong_14 : dk me_X3_likesLong 14 (.if_icmp .ne 7) 3 17 := And.intro (by decide +kernel) rfl
theorem d_X3_likesLong_17 : dk me_X3_likesLong 17 (.iconst 1) 1 18 := And.intro (by decide +kernel) rfl
theorem d_X3_likesLong_18 : dk me_X3_likesLong 18 (.goto 4) 3 21 := And.intro (by decide +kernel) rfl
theorem d_X3_likesLong_21 : dk me_X3_likesLong 21 (.iconst 0) 1 22 := And.intro (by decide +kernel) rfl
theorem d_X3_likesLong_22 : dk me_X3_likesLong 22 (.ireturn) 1 23 := And.intro (by decide +kernel) rfl
theorem ms_X3_likesLong {fx : FX} {m : MM} {l0 : Nat} {l1 : Int} : MS fx me_X3_likesLong [aR (some (3, l0)), aI l1] m ((f_X3_likesLong m l0 l1).bind fun v => some (.inl (some (aI v)), m)) := by
  refine ms_of rfl mf_X3_likesLong (b8 rfl) ?_
  show Sim fx me_X3_likesLong 0 [(0, aR (some (3, l0))), (1, aI l1)] [] m _
  unfold f_X3_likesLong
  refine s_iload_n d_X3_likesLong_0 m1_ (s_iconst d_X3_likesLong_1 n_m1 (s_icmp_eq (tgt := 21) d_X3_likesLong_2 rfl ?_ ?_))
  · exact s_iconst d_X3_likesLong_21 n_0 (s_zretl d_X3_likesLong_22 rfl (by decide) rfl)
  refine s_aload_n d_X3_likesLong_5 m0_ (s_getN cf d_X3_likesLong_6 fl_X3_9 (s_iload_n d_X3_likesLong_9 m1_ (s_ishr d_X3_likesLong_10 (s_iconst d_X3_likesLong_11 n_1 (s_iand d_X3_likesLong_12 ?_)))))
  refine s_iconst d_X3_likesLong_13 n_1 (s_icmp_ne (tgt := 21) d_X3_likesLong_14 rfl ?_ ?_)
  · exact s_iconst d_X3_likesLong_21 n_0 (s_zretl d_X3_likesLong_22 rfl (by decide) rfl)
  exact s_iconst d_X3_likesLong_17 n_1 (s_goto (tgt := 22) d_X3_likesLong_18 rfl (s_zretl d_X3_likesLong_22 rfl (by decide) rfl))
theorem d_X4_prefersLong_0 : dk me_X4_prefersLong 0 (.aload_n 0) 1 1 := And.intro (by decide +kernel) rfl
theorem d_X4_prefersLong_1 : dk me_X4_prefersLong 1 (.getfield 60) 3 4 := And.intro (by decide +kernel) rfl
theorem d_X4_prefersLong_4 : dk me_X4_prefersLong 4 (.ifCond .ne 34) 3 7 := And.intro (by decide +kernel) rfl
theorem d_X4_prefersLong_7 : dk me_X4_prefersLong 7 (.aload_n 2) 1 8 := And.intro (by decide +kernel) rfl
theorem d_X4_prefersLong_8 : dk me_X4_prefersLong 8 (.aload_n 1) 1 9 := And.intro (by decide +kernel) rfl
theorem d_X4_prefersLong_9 : dk me_X4_prefersLong 9 (.getfield 83) 3 12 := And.intro (by decide +kernel) rfl
theorem d_X4_prefersLong_12 : dk me_X4_prefersLong 12 (.iload_n 3) 1 13 := And.intro (by decide +kernel) rfl
theorem d_X4_prefersLong_13 : dk me_X4_prefersLong 13 (.iaload) 1 14 := And.intro (by decide +kernel) rfl
theorem d_X4_prefersLong_14 : dk me_X4_prefersLong 14 (.invokevirtual 135) 3 17 := And.intro (by decide +kernel) rfl
theorem d_X4_prefersLong_17 : dk me_X4_prefersLong 17 (.ifCond .eq 21) 3 20 := And.intro (by decide +kernel) rfl
theorem d_X4_prefersLong_20 : dk me_X4_prefersLong 20 (.aload_n 1) 1 21 := And.intro (by decide +kernel) rfl
theorem d_X4_prefersLong_21 : dk me_X4_prefersLong 21 (.getfield 138) 3 24 := And.intro (by decide +kernel) rfl
theorem d_X4_prefersLong_24 : dk me_X4_prefersLong 24 (.iload_n 3) 1 25 := And.intro (by decide +kernel) rfl
theorem d_X4_prefersLong_25 : dk me_X4_prefersLong 25 (.laload) 1 26 := And.intro (by decide +kernel) rfl
theorem d_X4_prefersLong_26 : dk me_X4_prefersLong 26 (.invokestatic 120) 3 29 := And.intro (by decide +kernel) rfl
theorem d_X4_prefersLong_29 : dk me_X4_prefersLong 29 (.iload 4) 2 31 := And.intro (by decide +kernel) rfl
theorem d_X4_prefersLong_31 : dk me_X4_prefersLong 31 (.if_icmp .gt 7) 3 34 := And.intro (by decide +kernel) rfl
theorem d_X4_prefersLong_34 : dk me_X4_prefersLong 34 (.iconst 1) 1 35 := And.intro (by decide +kernel) rfl
theorem d_X4_prefersLong_35 : dk me_X4_prefersLong 35 (.goto 4) 3 38 := And.intro (by decide +kernel) rfl
theorem d_X4_prefersLong_38 : dk me_X4_prefersLong 38 (.iconst 0) 1 39 := And.intro (by decide +kernel) rfl
theorem d_X4_prefersLong_39 : dk me_X4_prefersLong 39 (.ireturn) 1 40 := And.intro (by decide +kernel) rfl
theorem ms_X4_prefersLong {fx : FX} {m : MM} {l0 : Nat} {l1 : Nat} {l2 : Nat} {l3 : Int} {l4 : Int} : MS fx me_X4_prefersLong [aR (some (4, l0)), aR (some (9, l1)), aR (some (3, l2)), aI l3, aI l4] m ((f_X4_prefersLong m l0 l1 l2 l3 l4).bind fun v => some (.inl (some (aI v)), m)) := by
  refine ms_of rfl mf_X4_prefersLong (b8 rfl) ?_
  show Sim fx me_X4_prefersLong 0 [(0, aR (some (4, l0))), (1, aR (some (9, l1))), (2, aR (some (3, l2))), (3, aI l3), (4, aI l4)] [] m _
  unfold f_X4_prefersLong
  refine s_aload_n d_X4_prefersLong_0 m0_ (s_getB cf d_X4_prefersLong_1 fl_X4_60 (s_if_ne (tgt := 38) d_X4_prefersLong_4 rfl ?_ ?_))
  · exact s_iconst d_X4_prefersLong_38 n_0 (s_zretl d_X4_prefersLong_39 rfl (by decide) rfl)
  refine s_aload_n d_X4_prefersLong_7 m2_ (s_aload_n d_X4_prefersLong_8 m1_ (s_getR cf d_X4_prefersLong_9 fl_X4_83 (s_nk fun i1 => (s_iload_n d_X4_prefersLong_12 m3_ (s_ldN d_X4_prefersLong_13 ka_48 rfl fun v2 => ?_)))))
  refine s_pI (r_V d_X4_prefersLong_14 k_X3_likesLong w_918 rfl rfl) ms_X3_likesLong (b8 rfl) rfl rfl rfl fun v3 => (s_if_eq (tgt := 38) d_X4_prefersLong_17 rfl ?_ ?_)
  · exact s_iconst d_X4_prefersLong_38 n_0 (s_zretl d_X4_prefersLong_39 rfl (by decide) rfl)
  refine s_aload_n d_X4_prefersLong_20 m1_ (s_getR cf d_X4_prefersLong_21 fl_X4_138 (s_nk fun i4 => (s_iload_n d_X4_prefersLong_24 m3_ (s_ldL d_X4_prefersLong_25 ka_47 rfl fun v5 => (s_pI (r_SN d_X4_prefersLong_26 k_X11_letters ne_6 rfl rfl) ms_X11_letters (b8 rfl) rfl rfl rfl fun v6 => ?_)))))
  refine s_iload d_X4_prefersLong_29 m4_ (s_icmp_gt (tgt := 38) d_X4_prefersLong_31 rfl ?_ ?_)
  · exact s_iconst d_X4_prefersLong_38 n_0 (s_zretl d_X4_prefersLong_39 rfl (by decide) rfl)
  exact s_iconst d_X4_prefersLong_34 n_1 (s_goto (tgt := 39) d_X4_prefersLong_35 rfl (s_zretl d_X4_prefersLong_39 rfl (by decide) rfl))
theorem d_X4_takeLine_0 : dk me_X4_takeLine 0 (.aload_n 0) 1 1 := And.intro (by decide +kernel) rfl
theorem d_X4_takeLine_1 : dk me_X4_takeLine 1 (.getfield 29) 3 4 := And.intro (by decide +kernel) rfl
theorem d_X4_takeLine_4 : dk me_X4_takeLine 4 (.istore 5) 2 6 := And.intro (by decide +kernel) rfl
theorem d_X4_takeLine_6 : dk me_X4_takeLine 6 (.iconst 1) 1 7 := And.intro (by decide +kernel) rfl
theorem d_X4_takeLine_7 : dk me_X4_takeLine 7 (.istore 6) 2 9 := And.intro (by decide +kernel) rfl
theorem d_X4_takeLine_9 : dk me_X4_takeLine 9 (.aload_n 0) 1 10 := And.intro (by decide +kernel) rfl
theorem d_X4_takeLine_10 : dk me_X4_takeLine 10 (.getfield 32) 3 13 := And.intro (by decide +kernel) rfl
theorem d_X4_takeLine_13 : dk me_X4_takeLine 13 (.iload_n 3) 1 14 := And.intro (by decide +kernel) rfl
theorem d_X4_takeLine_14 : dk me_X4_takeLine 14 (.aload_n 0) 1 15 := And.intro (by decide +kernel) rfl
theorem d_X4_takeLine_15 : dk me_X4_takeLine 15 (.getfield 54) 3 18 := And.intro (by decide +kernel) rfl
theorem d_X4_takeLine_18 : dk me_X4_takeLine 18 (.iastore) 1 19 := And.intro (by decide +kernel) rfl
theorem d_X4_takeLine_19 : dk me_X4_takeLine 19 (.aload_n 0) 1 20 := And.intro (by decide +kernel) rfl
theorem d_X4_takeLine_20 : dk me_X4_takeLine 20 (.getfield 38) 3 23 := And.intro (by decide +kernel) rfl
theorem d_X4_takeLine_23 : dk me_X4_takeLine 23 (.iload_n 3) 1 24 := And.intro (by decide +kernel) rfl
theorem d_X4_takeLine_24 : dk me_X4_takeLine 24 (.iconst 0) 1 25 := And.intro (by decide +kernel) rfl
theorem d_X4_takeLine_25 : dk me_X4_takeLine 25 (.bastore) 1 26 := And.intro (by decide +kernel) rfl
theorem d_X4_takeLine_26 : dk me_X4_takeLine 26 (.iconst 0) 1 27 := And.intro (by decide +kernel) rfl
theorem d_X4_takeLine_27 : dk me_X4_takeLine 27 (.istore 7) 2 29 := And.intro (by decide +kernel) rfl
theorem d_X4_takeLine_29 : dk me_X4_takeLine 29 (.iload 7) 2 31 := And.intro (by decide +kernel) rfl
theorem d_X4_takeLine_31 : dk me_X4_takeLine 31 (.bipush 60) 2 33 := And.intro (by decide +kernel) rfl
theorem d_X4_takeLine_33 : dk me_X4_takeLine 33 (.if_icmp .ge 154) 3 36 := And.intro (by decide +kernel) rfl
theorem d_X4_takeLine_36 : dk me_X4_takeLine 36 (.iload 6) 2 38 := And.intro (by decide +kernel) rfl
theorem d_X4_takeLine_38 : dk me_X4_takeLine 38 (.ifCond .eq 149) 3 41 := And.intro (by decide +kernel) rfl
theorem d_X4_takeLine_41 : dk me_X4_takeLine 41 (.aload_n 0) 1 42 := And.intro (by decide +kernel) rfl
theorem d_X4_takeLine_42 : dk me_X4_takeLine 42 (.getfield 57) 3 45 := And.intro (by decide +kernel) rfl
theorem d_X4_takeLine_45 : dk me_X4_takeLine 45 (.iload 4) 2 47 := And.intro (by decide +kernel) rfl
theorem d_X4_takeLine_47 : dk me_X4_takeLine 47 (.if_icmp .ge 140) 3 50 := And.intro (by decide +kernel) rfl
theorem d_X4_takeLine_50 : dk me_X4_takeLine 50 (.aload_n 0) 1 51 := And.intro (by decide +kernel) rfl
theorem d_X4_takeLine_51 : dk me_X4_takeLine 51 (.getfield 54) 3 54 := And.intro (by decide +kernel) rfl
theorem d_X4_takeLine_54 : dk me_X4_takeLine 54 (.bipush 60) 2 56 := And.intro (by decide +kernel) rfl
theorem d_X4_takeLine_56 : dk me_X4_takeLine 56 (.if_icmp .ge 131) 3 59 := And.intro (by decide +kernel) rfl
theorem d_X4_takeLine_59 : dk me_X4_takeLine 59 (.iload 7) 2 61 := And.intro (by decide +kernel) rfl
theorem d_X4_takeLine_61 : dk me_X4_takeLine 61 (.ifCond .ne 8) 3 64 := And.intro (by decide +kernel) rfl
theorem d_X4_takeLine_64 : dk me_X4_takeLine 64 (.iload 5) 2 66 := And.intro (by decide +kernel) rfl
theorem d_X4_takeLine_66 : dk me_X4_takeLine 66 (.goto 7) 3 69 := And.intro (by decide +kernel) rfl
theorem d_X4_takeLine_69 : dk me_X4_takeLine 69 (.iload 5) 2 71 := And.intro (by decide +kernel) rfl
theorem d_X4_takeLine_71 : dk me_X4_takeLine 71 (.iconst 1) 1 72 := And.intro (by decide +kernel) rfl
theorem d_X4_takeLine_72 : dk me_X4_takeLine 72 (.isub) 1 73 := And.intro (by decide +kernel) rfl
theorem d_X4_takeLine_73 : dk me_X4_takeLine 73 (.istore 8) 2 75 := And.intro (by decide +kernel) rfl
theorem d_X4_takeLine_75 : dk me_X4_takeLine 75 (.aload_n 0) 1 76 := And.intro (by decide +kernel) rfl
theorem d_X4_takeLine_76 : dk me_X4_takeLine 76 (.aload_n 1) 1 77 := And.intro (by decide +kernel) rfl
theorem d_X4_takeLine_77 : dk me_X4_takeLine 77 (.aload_n 2) 1 78 := And.intro (by decide +kernel) rfl
theorem d_X4_takeLine_78 : dk me_X4_takeLine 78 (.aload_n 0) 1 79 := And.intro (by decide +kernel) rfl
theorem d_X4_takeLine_79 : dk me_X4_takeLine 79 (.getfield 57) 3 82 := And.intro (by decide +kernel) rfl
theorem d_X4_takeLine_82 : dk me_X4_takeLine 82 (.iload 8) 2 84 := And.intro (by decide +kernel) rfl
theorem d_X4_takeLine_84 : dk me_X4_takeLine 84 (.invokevirtual 112) 3 87 := And.intro (by decide +kernel) rfl
theorem d_X4_takeLine_87 : dk me_X4_takeLine 87 (.istore 9) 2 89 := And.intro (by decide +kernel) rfl
theorem d_X4_takeLine_89 : dk me_X4_takeLine 89 (.aload_n 1) 1 90 := And.intro (by decide +kernel) rfl
theorem d_X4_takeLine_90 : dk me_X4_takeLine 90 (.aload_n 0) 1 91 := And.intro (by decide +kernel) rfl
theorem d_X4_takeLine_91 : dk me_X4_takeLine 91 (.getfield 57) 3 94 := And.intro (by decide +kernel) rfl
theorem d_X4_takeLine_94 : dk me_X4_takeLine 94 (.iload 9) 2 96 := And.intro (by decide +kernel) rfl
theorem d_X4_takeLine_96 : dk me_X4_takeLine 96 (.invokevirtual 116) 3 99 := And.intro (by decide +kernel) rfl
theorem d_X4_takeLine_99 : dk me_X4_takeLine 99 (.invokestatic 120) 3 102 := And.intro (by decide +kernel) rfl
theorem d_X4_takeLine_102 : dk me_X4_takeLine 102 (.istore 10) 2 104 := And.intro (by decide +kernel) rfl
theorem d_X4_takeLine_104 : dk me_X4_takeLine 104 (.aload_n 0) 1 105 := And.intro (by decide +kernel) rfl
theorem d_X4_takeLine_105 : dk me_X4_takeLine 105 (.getfield 38) 3 108 := And.intro (by decide +kernel) rfl
theorem d_X4_takeLine_108 : dk me_X4_takeLine 108 (.iload_n 3) 1 109 := And.intro (by decide +kernel) rfl
theorem d_X4_takeLine_109 : dk me_X4_takeLine 109 (.iload 10) 2 111 := And.intro (by decide +kernel) rfl
theorem d_X4_takeLine_111 : dk me_X4_takeLine 111 (.iload 8) 2 113 := And.intro (by decide +kernel) rfl
theorem d_X4_takeLine_113 : dk me_X4_takeLine 113 (.if_icmp .le 7) 3 116 := And.intro (by decide +kernel) rfl
theorem d_X4_takeLine_116 : dk me_X4_takeLine 116 (.iconst 1) 1 117 := And.intro (by decide +kernel) rfl
theorem d_X4_takeLine_117 : dk me_X4_takeLine 117 (.goto 4) 3 120 := And.intro (by decide +kernel) rfl
theorem d_X4_takeLine_120 : dk me_X4_takeLine 120 (.iconst 0) 1 121 := And.intro (by decide +kernel) rfl
theorem d_X4_takeLine_121 : dk me_X4_takeLine 121 (.bastore) 1 122 := And.intro (by decide +kernel) rfl
theorem d_X4_takeLine_122 : dk me_X4_takeLine 122 (.aload_n 0) 1 123 := And.intro (by decide +kernel) rfl
theorem d_X4_takeLine_123 : dk me_X4_takeLine 123 (.getfield 38) 3 126 := And.intro (by decide +kernel) rfl
theorem d_X4_takeLine_126 : dk me_X4_takeLine 126 (.iload_n 3) 1 127 := And.intro (by decide +kernel) rfl
theorem d_X4_takeLine_127 : dk me_X4_takeLine 127 (.baload) 1 128 := And.intro (by decide +kernel) rfl
theorem d_X4_takeLine_128 : dk me_X4_takeLine 128 (.ifCond .eq 9) 3 131 := And.intro (by decide +kernel) rfl
theorem d_X4_takeLine_131 : dk me_X4_takeLine 131 (.iconst 0) 1 132 := And.intro (by decide +kernel) rfl
theorem d_X4_takeLine_132 : dk me_X4_takeLine 132 (.istore 6) 2 134 := And.intro (by decide +kernel) rfl
theorem d_X4_takeLine_134 : dk me_X4_takeLine 134 (.goto 47) 3 137 := And.intro (by decide +kernel) rfl
theorem d_X4_takeLine_137 : dk me_X4_takeLine 137 (.iload 8) 2 139 := And.intro (by decide +kernel) rfl
theorem d_X4_takeLine_139 : dk me_X4_takeLine 139 (.iload 10) 2 141 := And.intro (by decide +kernel) rfl
theorem d_X4_takeLine_141 : dk me_X4_takeLine 141 (.isub) 1 142 := And.intro (by decide +kernel) rfl
theorem d_X4_takeLine_142 : dk me_X4_takeLine 142 (.istore 5) 2 144 := And.intro (by decide +kernel) rfl
theorem d_X4_takeLine_144 : dk me_X4_takeLine 144 (.aload_n 0) 1 145 := And.intro (by decide +kernel) rfl
theorem d_X4_takeLine_145 : dk me_X4_takeLine 145 (.aload_n 0) 1 146 := And.intro (by decide +kernel) rfl
theorem d_X4_takeLine_146 : dk me_X4_takeLine 146 (.getfield 57) 3 149 := And.intro (by decide +kernel) rfl
theorem d_X4_takeLine_149 : dk me_X4_takeLine 149 (.iload 9) 2 151 := And.intro (by decide +kernel) rfl
theorem d_X4_takeLine_151 : dk me_X4_takeLine 151 (.invokevirtual 124) 3 154 := And.intro (by decide +kernel) rfl
theorem d_X4_takeLine_154 : dk me_X4_takeLine 154 (.aload_n 1) 1 155 := And.intro (by decide +kernel) rfl
theorem d_X4_takeLine_155 : dk me_X4_takeLine 155 (.getfield 128) 3 158 := And.intro (by decide +kernel) rfl
theorem d_X4_takeLine_158 : dk me_X4_takeLine 158 (.aload_n 0) 1 159 := And.intro (by decide +kernel) rfl
theorem d_X4_takeLine_159 : dk me_X4_takeLine 159 (.getfield 57) 3 162 := And.intro (by decide +kernel) rfl
theorem d_X4_takeLine_162 : dk me_X4_takeLine 162 (.baload) 1 163 := And.intro (by decide +kernel) rfl
theorem d_X4_takeLine_163 : dk me_X4_takeLine 163 (.ifCond .ne 7) 3 166 := And.intro (by decide +kernel) rfl
theorem d_X4_takeLine_166 : dk me_X4_takeLine 166 (.iconst 1) 1 167 := And.intro (by decide +kernel) rfl
theorem d_X4_takeLine_167 : dk me_X4_takeLine 167 (.goto 4) 3 170 := And.intro (by decide +kernel) rfl
theorem d_X4_takeLine_170 : dk me_X4_takeLine 170 (.iconst 0) 1 171 := And.intro (by decide +kernel) rfl
theorem d_X4_takeLine_171 : dk me_X4_takeLine 171 (.istore 6) 2 173 := And.intro (by decide +kernel) rfl
theorem d_X4_takeLine_173 : dk me_X4_takeLine 173 (.aload_n 0) 1 174 := And.intro (by decide +kernel) rfl
theorem d_X4_takeLine_174 : dk me_X4_takeLine 174 (.aload_n 1) 1 175 := And.intro (by decide +kernel) rfl
theorem d_X4_takeLine_175 : dk me_X4_takeLine 175 (.aload_n 2) 1 176 := And.intro (by decide +kernel) rfl
theorem d_X4_takeLine_176 : dk me_X4_takeLine 176 (.iload 4) 2 178 := And.intro (by decide +kernel) rfl
theorem d_X4_takeLine_178 : dk me_X4_takeLine 178 (.invokevirtual 131) 3 181 := And.intro (by decide +kernel) rfl
theorem d_X4_takeLine_181 : dk me_X4_takeLine 181 (.iinc 7 1) 3 184 := And.intro (by decide +kernel) rfl
theorem d_X4_takeLine_184 : dk me_X4_takeLine 184 (.goto (-155)) 3 187 := And.intro (by decide +kernel) rfl
theorem d_X4_takeLine_187 : dk me_X4_takeLine 187 (.aload_n 0) 1 188 := And.intro (by decide +kernel) rfl
theorem d_X4_takeLine_188 : dk me_X4_takeLine 188 (.getfield 35) 3 191 := And.intro (by decide +kernel) rfl
theorem d_X4_takeLine_191 : dk me_X4_takeLine 191 (.iload_n 3) 1 192 := And.intro (by decide +kernel) rfl
theorem d_X4_takeLine_192 : dk me_X4_takeLine 192 (.iload 5) 2 194 := And.intro (by decide +kernel) rfl
theorem d_X4_takeLine_194 : dk me_X4_takeLine 194 (.iastore) 1 195 := And.intro (by decide +kernel) rfl
theorem d_X4_takeLine_195 : dk me_X4_takeLine 195 (.return_) 1 196 := And.intro (by decide +kernel) rfl
theorem ms_X4_takeLine {fx : FX} {m : MM} {l0 : Nat} {l1 : Nat} {l2 : Nat} {l3 : Int} {l4 : Int} : MS fx me_X4_takeLine [aR (some (4, l0)), aR (some (9, l1)), aR (some (3, l2)), aI l3, aI l4] m (f_X4_takeLine m l0 l1 l2 l3 l4) := by
  refine ms_of rfl mf_X4_takeLine (b8 rfl) ?_
  refine s_top ?_
  show Sim fx me_X4_takeLine 0 [(0, aR (some (4, l0))), (1, aR (some (9, l1))), (2, aR (some (3, l2))), (3, aI l3), (4, aI l4)] [] m _
  unfold f_X4_takeLine
  have hj_X4_takeLine_0_187 : ∀ (m_187 : MM) (l0_187 : Nat) (l3_187 : Int) (l5_187 : Int), Sim fx me_X4_takeLine 187 [(0, aR (some (4, l0_187))), (3, aI l3_187), (5, aI l5_187)] [] m_187 ((j_X4_takeLine_0_187 m_187 l0_187 l3_187 l5_187).bind (fun z => some z)) := by
    intro m_187 l0_187 l3_187 l5_187
    unfold j_X4_takeLine_0_187
    refine s_aload_n d_X4_takeLine_187 m0_ (s_getR cf d_X4_takeLine_188 fl_X4_35 (s_nk fun i18 => (s_iload_n d_X4_takeLine_191 m1_ (s_iload d_X4_takeLine_192 m2_ (s_stN d_X4_takeLine_194 ka_32 rfl fun m19 => ?_)))))
    exact s_vret d_X4_takeLine_195 rfl rfl
  refine s_aload_n d_X4_takeLine_0 m0_ (s_getN cf d_X4_takeLine_1 fl_X4_29 (s_istore (L' := [(5, aI (gN m 4 l0 0)), (0, aR (some (4, l0))), (1, aR (some (9, l1))), (2, aR (some (3, l2))), (3, aI l3), (4, aI l4)]) d_X4_takeLine_4 (b8 rfl) rfl (s_iconst d_X4_takeLine_6 n_1 (s_istore (L' := [(6, aI 1), (5, aI (gN m 4 l0 0)), (0, aR (some (4, l0))), (1, aR (some (9, l1))), (2, aR (some (3, l2))), (3, aI l3), (4, aI l4)]) d_X4_takeLine_7 (b8 rfl) rfl (s_aload_n d_X4_takeLine_9 m2_ ?_)))))
  refine s_getR cf d_X4_takeLine_10 fl_X4_32 (s_nk fun i1 => (s_iload_n d_X4_takeLine_13 m5_ (s_aload_n d_X4_takeLine_14 m2_ (s_getN cf d_X4_takeLine_15 fl_X4_54 (s_stN d_X4_takeLine_18 ka_31 rfl fun m2 => ?_)))))
  refine s_aload_n d_X4_takeLine_19 m2_ (s_getR cf d_X4_takeLine_20 fl_X4_38 (s_nk fun i3 => (s_iload_n d_X4_takeLine_23 m5_ (s_iconst d_X4_takeLine_24 n_0 (s_stBl d_X4_takeLine_25 ka_33 rfl (by decide) fun m4 => ?_)))))
  refine s_iconst d_X4_takeLine_26 n_0 (s_istore (L' := [(7, aI 0), (6, aI 1), (5, aI (gN m 4 l0 0)), (0, aR (some (4, l0))), (1, aR (some (9, l1))), (2, aR (some (3, l2))), (3, aI l3), (4, aI l4)]) d_X4_takeLine_27 (b8 rfl) rfl (s_sub (subc m2_ (subc m1_ (subc m0_ (subc m3_ (subc m4_ (subc m5_ (subc m6_ (subc m7_ sub0)))))))) (s_lp2 (fun s => [(5, aI (s.1)), (6, aI (s.2.1)), (7, aI (s.2.2.1)), (0, aR (some (4, l0))), (1, aR (some (9, l1))), (2, aR (some (3, l2))), (3, aI l3), (4, aI l4)]) (fun s => s.2.2.2) ((gN m 4 l0 0), 1, 0, m4) fun k29 hx29 s ih0 => ?_)))
  obtain ⟨l5_29, l6_29, l7_29, mm_29⟩ := s
  have ih29 := ih0
  clear ih0
  try dsimp only
  unfold b_X4_takeLine_29
  have hj_X4_takeLine_29_171 : ∀ (m_171 : MM) (l5_171 : Int) (l7_171 : Int) (s0_171 : Int), Sim fx me_X4_takeLine 171 [(0, aR (some (4, l0))), (1, aR (some (9, l1))), (2, aR (some (3, l2))), (3, aI l3), (4, aI l4), (5, aI l5_171), (7, aI l7_171)] [aI s0_171] m_171 ((j_X4_takeLine_29_171 m_171 l0 l1 l2 l3 l4 l5_171 l7_171 s0_171).bind k29) := by
    intro m_171 l5_171 l7_171 s0_171
    unfold j_X4_takeLine_29_171
    refine s_istore (L' := [(6, aI s0_171), (0, aR (some (4, l0))), (1, aR (some (9, l1))), (2, aR (some (3, l2))), (3, aI l3), (4, aI l4), (5, aI l5_171), (7, aI l7_171)]) d_X4_takeLine_171 (b8 rfl) rfl (s_aload_n d_X4_takeLine_173 m1_ (s_aload_n d_X4_takeLine_174 m2_ (s_aload_n d_X4_takeLine_175 m3_ (s_iload d_X4_takeLine_176 m5_ (s_cV (r_V d_X4_takeLine_178 k_X4_goOnBehind w_928 rfl rfl) ms_X4_goOnBehind (b8 rfl) rfl rfl rfl (fun _ _ _ => rfl) (fun _ _ => Or.inl rfl) fun m16 => ?_)))))
    exact s_iinc (L' := [(7, aI (l7_171 + 1)), (6, aI s0_171), (0, aR (some (4, l0))), (1, aR (some (9, l1))), (2, aR (some (3, l2))), (3, aI l3), (4, aI l4), (5, aI l5_171)]) d_X4_takeLine_181 m7_ (b8 rfl) rfl (s_goto (tgt := 29) d_X4_takeLine_184 rfl (s_sub (subc m7_ (subc m1_ (subc m0_ (subc m2_ (subc m3_ (subc m4_ (subc m5_ (subc m6_ sub0)))))))) (s_back (ih29 (l5_171, s0_171, (l7_171 + 1), m16)))))
  have hj_X4_takeLine_29_121 : ∀ (m_121 : MM) (l5_121 : Int) (l7_121 : Int) (l8_121 : Int) (l9_121 : Int) (l10_121 : Int) (s0_121 : Nat) (s1_121 : Int) (s2_121 : Int), Sim fx me_X4_takeLine 121 [(0, aR (some (4, l0))), (1, aR (some (9, l1))), (2, aR (some (3, l2))), (3, aI l3), (4, aI l4), (5, aI l5_121), (7, aI l7_121), (8, aI l8_121), (9, aI l9_121), (10, aI l10_121)] [aI s2_121, aI s1_121, aR (some (33, s0_121))] m_121 ((j_X4_takeLine_29_121 m_121 l0 l1 l2 l3 l4 l5_121 l7_121 l8_121 l9_121 l10_121 s0_121 s1_121 s2_121).bind k29) := by
    intro m_121 l5_121 l7_121 l8_121 l9_121 l10_121 s0_121 s1_121 s2_121
    unfold j_X4_takeLine_29_121
    refine s_stB d_X4_takeLine_121 ka_33 rfl fun m9 => (s_aload_n d_X4_takeLine_122 m0_ (s_getR cf d_X4_takeLine_123 fl_X4_38 (s_nk fun i10 => (s_iload_n d_X4_takeLine_126 m3_ (s_ldB d_X4_takeLine_127 ka_33 rfl fun v11 => ?_)))))
    refine s_if_eq (tgt := 137) d_X4_takeLine_128 rfl ?_ ?_
    · refine s_iload d_X4_takeLine_137 m7_ (s_iload d_X4_takeLine_139 m9_ (s_isub d_X4_takeLine_141 rfl rfl (s_ck (s_istore (L' := [(5, aI (l8_121 - l10_121)), (0, aR (some (4, l0))), (1, aR (some (9, l1))), (2, aR (some (3, l2))), (3, aI l3), (4, aI l4), (7, aI l7_121), (8, aI l8_121), (9, aI l9_121), (10, aI l10_121)]) d_X4_takeLine_142 (b8 rfl) rfl (s_aload_n d_X4_takeLine_144 m1_ ?_)))))
      refine s_aload_n d_X4_takeLine_145 m1_ (s_getN cf d_X4_takeLine_146 fl_X4_57 (s_iload d_X4_takeLine_149 m8_ (s_cV (r_V d_X4_takeLine_151 k_X4_addWord w_924 rfl rfl) ms_X4_addWord (b8 rfl) rfl rfl rfl (fun _ _ _ => rfl) (fun _ _ => Or.inl rfl) fun m12 => (s_aload_n d_X4_takeLine_154 m2_ (s_getR cf d_X4_takeLine_155 fl_X4_128 ?_)))))
      refine s_nk fun i14 => (s_aload_n d_X4_takeLine_158 m1_ (s_getN cf d_X4_takeLine_159 fl_X4_57 (s_ldB d_X4_takeLine_162 ka_49 rfl fun v15 => (s_if_ne (tgt := 170) d_X4_takeLine_163 rfl ?_ ?_))))
      · exact s_iconst d_X4_takeLine_170 n_0 (s_sub (subc m1_ (subc m2_ (subc m3_ (subc m4_ (subc m5_ (subc m0_ (subc m6_ sub0))))))) (hj_X4_takeLine_29_171 m12 (l8_121 - l10_121) l7_121 0))
      exact s_iconst d_X4_takeLine_166 n_1 (s_goto (tgt := 171) d_X4_takeLine_167 rfl (s_sub (subc m1_ (subc m2_ (subc m3_ (subc m4_ (subc m5_ (subc m0_ (subc m6_ sub0))))))) (hj_X4_takeLine_29_171 m12 (l8_121 - l10_121) l7_121 1)))
    exact s_iconst d_X4_takeLine_131 n_0 (s_istore (L' := [(6, aI 0), (0, aR (some (4, l0))), (1, aR (some (9, l1))), (2, aR (some (3, l2))), (3, aI l3), (4, aI l4), (5, aI l5_121), (7, aI l7_121), (8, aI l8_121), (9, aI l9_121), (10, aI l10_121)]) d_X4_takeLine_132 (b8 rfl) rfl (s_goto (tgt := 181) d_X4_takeLine_134 rfl (s_iinc (L' := [(7, aI (l7_121 + 1)), (6, aI 0), (0, aR (some (4, l0))), (1, aR (some (9, l1))), (2, aR (some (3, l2))), (3, aI l3), (4, aI l4), (5, aI l5_121), (8, aI l8_121), (9, aI l9_121), (10, aI l10_121)]) d_X4_takeLine_181 m7_ (b8 rfl) rfl (s_goto (tgt := 29) d_X4_takeLine_184 rfl (s_sub (subc m7_ (subc m1_ (subc m0_ (subc m2_ (subc m3_ (subc m4_ (subc m5_ (subc m6_ sub0)))))))) (s_back (ih29 (l5_121, 0, (l7_121 + 1), m9))))))))
  have hj_X4_takeLine_29_73 : ∀ (m_73 : MM) (l5_73 : Int) (l7_73 : Int) (s0_73 : Int), Sim fx me_X4_takeLine 73 [(0, aR (some (4, l0))), (1, aR (some (9, l1))), (2, aR (some (3, l2))), (3, aI l3), (4, aI l4), (5, aI l5_73), (7, aI l7_73)] [aI s0_73] m_73 ((j_X4_takeLine_29_73 m_73 l0 l1 l2 l3 l4 l5_73 l7_73 s0_73).bind k29) := by
    intro m_73 l5_73 l7_73 s0_73
    unfold j_X4_takeLine_29_73
    refine s_istore (L' := [(8, aI s0_73), (0, aR (some (4, l0))), (1, aR (some (9, l1))), (2, aR (some (3, l2))), (3, aI l3), (4, aI l4), (5, aI l5_73), (7, aI l7_73)]) d_X4_takeLine_73 (b8 rfl) rfl (s_aload_n d_X4_takeLine_75 m1_ (s_aload_n d_X4_takeLine_76 m2_ (s_aload_n d_X4_takeLine_77 m3_ (s_aload_n d_X4_takeLine_78 m1_ (s_getN cf d_X4_takeLine_79 fl_X4_57 ?_)))))
    refine s_iload d_X4_takeLine_82 m0_ (s_pI (r_V d_X4_takeLine_84 k_X4_prefersLong w_914 rfl rfl) ms_X4_prefersLong (b8 rfl) rfl rfl rfl fun v5 => (s_istore (L' := [(9, aI v5), (8, aI s0_73), (0, aR (some (4, l0))), (1, aR (some (9, l1))), (2, aR (some (3, l2))), (3, aI l3), (4, aI l4), (5, aI l5_73), (7, aI l7_73)]) d_X4_takeLine_87 (b8 rfl) rfl (s_aload_n d_X4_takeLine_89 m3_ (s_aload_n d_X4_takeLine_90 m2_ (s_getN cf d_X4_takeLine_91 fl_X4_57 ?_)))))
    refine s_iload d_X4_takeLine_94 m0_ (s_pL (r_V d_X4_takeLine_96 k_X9_form w_923 rfl rfl) ms_X9_form (b8 rfl) rfl rfl rfl fun v6 => (s_pI (r_SN d_X4_takeLine_99 k_X11_letters ne_6 rfl rfl) ms_X11_letters (b8 rfl) rfl rfl rfl fun v7 => (s_istore (L' := [(10, aI v7), (9, aI v5), (8, aI s0_73), (0, aR (some (4, l0))), (1, aR (some (9, l1))), (2, aR (some (3, l2))), (3, aI l3), (4, aI l4), (5, aI l5_73), (7, aI l7_73)]) d_X4_takeLine_102 (b8 rfl) rfl (s_aload_n d_X4_takeLine_104 m3_ (s_getR cf d_X4_takeLine_105 fl_X4_38 ?_)))))
    refine s_nk fun i8 => (s_iload_n d_X4_takeLine_108 m6_ (s_iload d_X4_takeLine_109 m0_ (s_iload d_X4_takeLine_111 m2_ (s_icmp_le (tgt := 120) d_X4_takeLine_113 rfl ?_ ?_))))
    · exact s_iconst d_X4_takeLine_120 n_0 (s_sub (subc m3_ (subc m4_ (subc m5_ (subc m6_ (subc m7_ (subc m8_ (subc m9_ (subc m2_ (subc m1_ (subc m0_ sub0)))))))))) (hj_X4_takeLine_29_121 m_73 l5_73 l7_73 s0_73 v5 v7 i8 l3 0))
    exact s_iconst d_X4_takeLine_116 n_1 (s_goto (tgt := 121) d_X4_takeLine_117 rfl (s_sub (subc m3_ (subc m4_ (subc m5_ (subc m6_ (subc m7_ (subc m8_ (subc m9_ (subc m2_ (subc m1_ (subc m0_ sub0)))))))))) (hj_X4_takeLine_29_121 m_73 l5_73 l7_73 s0_73 v5 v7 i8 l3 1)))
  refine s_iload d_X4_takeLine_29 m2_ (s_bipush d_X4_takeLine_31 n_60 rfl (s_icmp_ge (tgt := 187) d_X4_takeLine_33 rfl ?_ ?_))
  · exact s_exit (hx29 _) (s_sub (subc m3_ (subc m6_ (subc m0_ sub0))) (hj_X4_takeLine_0_187 mm_29 l0 l3 l5_29))
  refine s_iload d_X4_takeLine_36 m1_ (s_if_eq (tgt := 187) d_X4_takeLine_38 rfl ?_ ?_)
  · exact s_exit (hx29 _) (s_sub (subc m3_ (subc m6_ (subc m0_ sub0))) (hj_X4_takeLine_0_187 mm_29 l0 l3 l5_29))
  refine s_aload_n d_X4_takeLine_41 m3_ (s_getN cf d_X4_takeLine_42 fl_X4_57 (s_iload d_X4_takeLine_45 m7_ (s_icmp_ge (tgt := 187) d_X4_takeLine_47 rfl ?_ ?_)))
  · exact s_exit (hx29 _) (s_sub (subc m3_ (subc m6_ (subc m0_ sub0))) (hj_X4_takeLine_0_187 mm_29 l0 l3 l5_29))
  refine s_aload_n d_X4_takeLine_50 m3_ (s_getN cf d_X4_takeLine_51 fl_X4_54 (s_bipush d_X4_takeLine_54 n_60 rfl (s_icmp_ge (tgt := 187) d_X4_takeLine_56 rfl ?_ ?_)))
  · exact s_exit (hx29 _) (s_sub (subc m3_ (subc m6_ (subc m0_ sub0))) (hj_X4_takeLine_0_187 mm_29 l0 l3 l5_29))
  refine s_iload d_X4_takeLine_59 m2_ (s_if_ne (tgt := 69) d_X4_takeLine_61 rfl ?_ ?_)
  · exact s_iload d_X4_takeLine_69 m0_ (s_iconst d_X4_takeLine_71 n_1 (s_isub d_X4_takeLine_72 rfl rfl (s_ck (s_sub (subc m3_ (subc m4_ (subc m5_ (subc m6_ (subc m7_ (subc m0_ (subc m2_ sub0))))))) (hj_X4_takeLine_29_73 mm_29 l5_29 l7_29 (l5_29 - 1))))))
  exact s_iload d_X4_takeLine_64 m0_ (s_goto (tgt := 73) d_X4_takeLine_66 rfl (s_sub (subc m3_ (subc m4_ (subc m5_ (subc m6_ (subc m7_ (subc m0_ (subc m2_ sub0))))))) (hj_X4_takeLine_29_73 mm_29 l5_29 l7_29 l5_29)))
theorem d_X4_takeLines_0 : dk me_X4_takeLines 0 (.aload_n 0) 1 1 := And.intro (by decide +kernel) rfl
theorem d_X4_takeLines_1 : dk me_X4_takeLines 1 (.iconst 0) 1 2 := And.intro (by decide +kernel) rfl
theorem d_X4_takeLines_2 : dk me_X4_takeLines 2 (.putfield 54) 3 5 := And.intro (by decide +kernel) rfl
theorem d_X4_takeLines_5 : dk me_X4_takeLines 5 (.aload_n 0) 1 6 := And.intro (by decide +kernel) rfl
theorem d_X4_takeLines_6 : dk me_X4_takeLines 6 (.iconst 0) 1 7 := And.intro (by decide +kernel) rfl
theorem d_X4_takeLines_7 : dk me_X4_takeLines 7 (.putfield 70) 3 10 := And.intro (by decide +kernel) rfl
theorem d_X4_takeLines_10 : dk me_X4_takeLines 10 (.aload_n 0) 1 11 := And.intro (by decide +kernel) rfl
theorem d_X4_takeLines_11 : dk me_X4_takeLines 11 (.iload_n 3) 1 12 := And.intro (by decide +kernel) rfl
theorem d_X4_takeLines_12 : dk me_X4_takeLines 12 (.putfield 57) 3 15 := And.intro (by decide +kernel) rfl
theorem d_X4_takeLines_15 : dk me_X4_takeLines 15 (.iconst 0) 1 16 := And.intro (by decide +kernel) rfl
theorem d_X4_takeLines_16 : dk me_X4_takeLines 16 (.istore 5) 2 18 := And.intro (by decide +kernel) rfl
theorem d_X4_takeLines_18 : dk me_X4_takeLines 18 (.iload 5) 2 20 := And.intro (by decide +kernel) rfl
theorem d_X4_takeLines_20 : dk me_X4_takeLines 20 (.aload_n 0) 1 21 := And.intro (by decide +kernel) rfl
theorem d_X4_takeLines_21 : dk me_X4_takeLines 21 (.getfield 32) 3 24 := And.intro (by decide +kernel) rfl
theorem d_X4_takeLines_24 : dk me_X4_takeLines 24 (.arraylength) 1 25 := And.intro (by decide +kernel) rfl
theorem d_X4_takeLines_25 : dk me_X4_takeLines 25 (.if_icmp .ge 38) 3 28 := And.intro (by decide +kernel) rfl
theorem d_X4_takeLines_28 : dk me_X4_takeLines 28 (.aload_n 0) 1 29 := And.intro (by decide +kernel) rfl
theorem d_X4_takeLines_29 : dk me_X4_takeLines 29 (.getfield 57) 3 32 := And.intro (by decide +kernel) rfl
theorem d_X4_takeLines_32 : dk me_X4_takeLines 32 (.iload 4) 2 34 := And.intro (by decide +kernel) rfl
theorem d_X4_takeLines_34 : dk me_X4_takeLines 34 (.if_icmp .ge 29) 3 37 := And.intro (by decide +kernel) rfl
theorem d_X4_takeLines_37 : dk me_X4_takeLines 37 (.aload_n 0) 1 38 := And.intro (by decide +kernel) rfl
theorem d_X4_takeLines_38 : dk me_X4_takeLines 38 (.aload_n 1) 1 39 := And.intro (by decide +kernel) rfl
theorem d_X4_takeLines_39 : dk me_X4_takeLines 39 (.aload_n 2) 1 40 := And.intro (by decide +kernel) rfl
theorem d_X4_takeLines_40 : dk me_X4_takeLines 40 (.iload 5) 2 42 := And.intro (by decide +kernel) rfl
theorem d_X4_takeLines_42 : dk me_X4_takeLines 42 (.iload 4) 2 44 := And.intro (by decide +kernel) rfl
theorem d_X4_takeLines_44 : dk me_X4_takeLines 44 (.invokevirtual 109) 3 47 := And.intro (by decide +kernel) rfl
theorem d_X4_takeLines_47 : dk me_X4_takeLines 47 (.aload_n 0) 1 48 := And.intro (by decide +kernel) rfl
theorem d_X4_takeLines_48 : dk me_X4_takeLines 48 (.dup) 1 49 := And.intro (by decide +kernel) rfl
theorem d_X4_takeLines_49 : dk me_X4_takeLines 49 (.getfield 70) 3 52 := And.intro (by decide +kernel) rfl
theorem d_X4_takeLines_52 : dk me_X4_takeLines 52 (.iconst 1) 1 53 := And.intro (by decide +kernel) rfl
theorem d_X4_takeLines_53 : dk me_X4_takeLines 53 (.iadd) 1 54 := And.intro (by decide +kernel) rfl
theorem d_X4_takeLines_54 : dk me_X4_takeLines 54 (.putfield 70) 3 57 := And.intro (by decide +kernel) rfl
theorem d_X4_takeLines_57 : dk me_X4_takeLines 57 (.iinc 5 1) 3 60 := And.intro (by decide +kernel) rfl
theorem d_X4_takeLines_60 : dk me_X4_takeLines 60 (.goto (-42)) 3 63 := And.intro (by decide +kernel) rfl
theorem d_X4_takeLines_63 : dk me_X4_takeLines 63 (.return_) 1 64 := And.intro (by decide +kernel) rfl
theorem ms_X4_takeLines {fx : FX} {m : MM} {l0 : Nat} {l1 : Nat} {l2 : Nat} {l3 : Int} {l4 : Int} : MS fx me_X4_takeLines [aR (some (4, l0)), aR (some (9, l1)), aR (some (3, l2)), aI l3, aI l4] m (f_X4_takeLines m l0 l1 l2 l3 l4) := by
  refine ms_of rfl mf_X4_takeLines (b8 rfl) ?_
  refine s_top ?_
  show Sim fx me_X4_takeLines 0 [(0, aR (some (4, l0))), (1, aR (some (9, l1))), (2, aR (some (3, l2))), (3, aI l3), (4, aI l4)] [] m _
  unfold f_X4_takeLines
  have hj_X4_takeLines_0_63 : ∀ (m_63 : MM), Sim fx me_X4_takeLines 63 [] [] m_63 ((j_X4_takeLines_0_63 m_63).bind (fun z => some z)) := by
    intro m_63
    unfold j_X4_takeLines_0_63
    exact s_vret d_X4_takeLines_63 rfl rfl
  refine s_aload_n d_X4_takeLines_0 m0_ (s_iconst d_X4_takeLines_1 n_0 (s_putN cf d_X4_takeLines_2 fl_X4_54 (fun h => by cases h) fun m1 => (s_aload_n d_X4_takeLines_5 m0_ (s_iconst d_X4_takeLines_6 n_0 (s_putN cf d_X4_takeLines_7 fl_X4_70 (fun h => by cases h) fun m2 => ?_)))))
  refine s_aload_n d_X4_takeLines_10 m0_ (s_iload_n d_X4_takeLines_11 m3_ (s_putN cf d_X4_takeLines_12 fl_X4_57 (fun h => by cases h) fun m3 => (s_iconst d_X4_takeLines_15 n_0 (s_istore (L' := [(5, aI 0), (0, aR (some (4, l0))), (1, aR (some (9, l1))), (2, aR (some (3, l2))), (3, aI l3), (4, aI l4)]) d_X4_takeLines_16 (b8 rfl) rfl (s_sub (subc m0_ (subc m1_ (subc m2_ (subc m3_ (subc m5_ sub0))))) (s_lp2 (fun s => [(5, aI (s.1)), (0, aR (some (4, l0))), (1, aR (some (9, l1))), (2, aR (some (3, l2))), (4, aI l4)]) (fun s => s.2) (0, m3) fun k18 hx18 s ih0 => ?_))))))
  obtain ⟨l5_18, mm_18⟩ := s
  have ih18 := ih0
  clear ih0
  try dsimp only
  unfold b_X4_takeLines_18
  refine s_iload d_X4_takeLines_18 m0_ (s_aload_n d_X4_takeLines_20 m1_ (s_getR cf d_X4_takeLines_21 fl_X4_32 (s_nk fun i4 => (s_len d_X4_takeLines_24 ka_31 ta_31 (s_icmp_ge (tgt := 63) d_X4_takeLines_25 rfl ?_ ?_)))))
  · exact s_exit (hx18 _) (s_sub (sub0) (hj_X4_takeLines_0_63 mm_18))
  refine s_aload_n d_X4_takeLines_28 m1_ (s_getN cf d_X4_takeLines_29 fl_X4_57 (s_iload d_X4_takeLines_32 m4_ (s_icmp_ge (tgt := 63) d_X4_takeLines_34 rfl ?_ ?_)))
  · exact s_exit (hx18 _) (s_sub (sub0) (hj_X4_takeLines_0_63 mm_18))
  refine s_aload_n d_X4_takeLines_37 m1_ (s_aload_n d_X4_takeLines_38 m2_ (s_aload_n d_X4_takeLines_39 m3_ (s_iload d_X4_takeLines_40 m0_ (s_iload d_X4_takeLines_42 m4_ (s_cV (r_V d_X4_takeLines_44 k_X4_takeLine w_910 rfl rfl) ms_X4_takeLine (b8 rfl) rfl rfl rfl (fun _ _ _ => rfl) (fun _ _ => Or.inl rfl) fun m5 => ?_)))))
  refine s_aload_n d_X4_takeLines_47 m1_ (s_dup d_X4_takeLines_48 rfl (s_getN cf d_X4_takeLines_49 fl_X4_70 (s_iconst d_X4_takeLines_52 n_1 (s_iadd d_X4_takeLines_53 rfl rfl (s_ck ?_)))))
  exact s_putN cf d_X4_takeLines_54 fl_X4_70 (fun h => by cases h) fun m7 => (s_iinc (L' := [(5, aI (l5_18 + 1)), (0, aR (some (4, l0))), (1, aR (some (9, l1))), (2, aR (some (3, l2))), (4, aI l4)]) d_X4_takeLines_57 m0_ (b8 rfl) rfl (s_goto (tgt := 18) d_X4_takeLines_60 rfl (s_sub (subc m0_ (subc m1_ (subc m2_ (subc m3_ (subc m4_ sub0))))) (s_back (ih18 ((l5_18 + 1), m7))))))
theorem d_X4_compose_0 : dk me_X4_compose 0 (.aload_n 2) 1 1 := And.intro (by decide +kernel) rfl
theorem d_X4_compose_1 : dk me_X4_compose 1 (.getfield 96) 3 4 := And.intro (by decide +kernel) rfl
theorem d_X4_compose_4 : dk me_X4_compose 4 (.istore 6) 2 6 := And.intro (by decide +kernel) rfl
theorem d_X4_compose_6 : dk me_X4_compose 6 (.aload_n 0) 1 7 := And.intro (by decide +kernel) rfl
theorem d_X4_compose_7 : dk me_X4_compose 7 (.aload_n 1) 1 8 := And.intro (by decide +kernel) rfl
theorem d_X4_compose_8 : dk me_X4_compose 8 (.aload_n 2) 1 9 := And.intro (by decide +kernel) rfl
theorem d_X4_compose_9 : dk me_X4_compose 9 (.iload_n 3) 1 10 := And.intro (by decide +kernel) rfl
theorem d_X4_compose_10 : dk me_X4_compose 10 (.iload 4) 2 12 := And.intro (by decide +kernel) rfl
theorem d_X4_compose_12 : dk me_X4_compose 12 (.invokevirtual 101) 3 15 := And.intro (by decide +kernel) rfl
theorem d_X4_compose_15 : dk me_X4_compose 15 (.iload 5) 2 17 := And.intro (by decide +kernel) rfl
theorem d_X4_compose_17 : dk me_X4_compose 17 (.ifCond .eq 43) 3 20 := And.intro (by decide +kernel) rfl
theorem d_X4_compose_20 : dk me_X4_compose 20 (.aload_n 0) 1 21 := And.intro (by decide +kernel) rfl
theorem d_X4_compose_21 : dk me_X4_compose 21 (.getfield 57) 3 24 := And.intro (by decide +kernel) rfl
theorem d_X4_compose_24 : dk me_X4_compose 24 (.iload 4) 2 26 := And.intro (by decide +kernel) rfl
theorem d_X4_compose_26 : dk me_X4_compose 26 (.if_icmp .ge 34) 3 29 := And.intro (by decide +kernel) rfl
theorem d_X4_compose_29 : dk me_X4_compose 29 (.aload_n 2) 1 30 := And.intro (by decide +kernel) rfl
theorem d_X4_compose_30 : dk me_X4_compose 30 (.iload 6) 2 32 := And.intro (by decide +kernel) rfl
theorem d_X4_compose_32 : dk me_X4_compose 32 (.putfield 96) 3 35 := And.intro (by decide +kernel) rfl
theorem d_X4_compose_35 : dk me_X4_compose 35 (.aload_n 0) 1 36 := And.intro (by decide +kernel) rfl
theorem d_X4_compose_36 : dk me_X4_compose 36 (.iconst 1) 1 37 := And.intro (by decide +kernel) rfl
theorem d_X4_compose_37 : dk me_X4_compose 37 (.putfield 60) 3 40 := And.intro (by decide +kernel) rfl
theorem d_X4_compose_40 : dk me_X4_compose 40 (.aload_n 0) 1 41 := And.intro (by decide +kernel) rfl
theorem d_X4_compose_41 : dk me_X4_compose 41 (.aload_n 1) 1 42 := And.intro (by decide +kernel) rfl
theorem d_X4_compose_42 : dk me_X4_compose 42 (.aload_n 2) 1 43 := And.intro (by decide +kernel) rfl
theorem d_X4_compose_43 : dk me_X4_compose 43 (.iload_n 3) 1 44 := And.intro (by decide +kernel) rfl
theorem d_X4_compose_44 : dk me_X4_compose 44 (.iload 4) 2 46 := And.intro (by decide +kernel) rfl
theorem d_X4_compose_46 : dk me_X4_compose 46 (.invokevirtual 101) 3 49 := And.intro (by decide +kernel) rfl
theorem d_X4_compose_49 : dk me_X4_compose 49 (.aload_n 0) 1 50 := And.intro (by decide +kernel) rfl
theorem d_X4_compose_50 : dk me_X4_compose 50 (.iload 4) 2 52 := And.intro (by decide +kernel) rfl
theorem d_X4_compose_52 : dk me_X4_compose 52 (.aload_n 0) 1 53 := And.intro (by decide +kernel) rfl
theorem d_X4_compose_53 : dk me_X4_compose 53 (.getfield 57) 3 56 := And.intro (by decide +kernel) rfl
theorem d_X4_compose_56 : dk me_X4_compose 56 (.isub) 1 57 := And.intro (by decide +kernel) rfl
theorem d_X4_compose_57 : dk me_X4_compose 57 (.putfield 64) 3 60 := And.intro (by decide +kernel) rfl
theorem d_X4_compose_60 : dk me_X4_compose 60 (.iconst 0) 1 61 := And.intro (by decide +kernel) rfl
theorem d_X4_compose_61 : dk me_X4_compose 61 (.istore 7) 2 63 := And.intro (by decide +kernel) rfl
theorem d_X4_compose_63 : dk me_X4_compose 63 (.iload 7) 2 65 := And.intro (by decide +kernel) rfl
theorem d_X4_compose_65 : dk me_X4_compose 65 (.aload_n 0) 1 66 := And.intro (by decide +kernel) rfl
theorem d_X4_compose_66 : dk me_X4_compose 66 (.getfield 70) 3 69 := And.intro (by decide +kernel) rfl
theorem d_X4_compose_69 : dk me_X4_compose 69 (.if_icmp .ge 16) 3 72 := And.intro (by decide +kernel) rfl
theorem d_X4_compose_72 : dk me_X4_compose 72 (.aload_n 0) 1 73 := And.intro (by decide +kernel) rfl
theorem d_X4_compose_73 : dk me_X4_compose 73 (.aload_n 1) 1 74 := And.intro (by decide +kernel) rfl
theorem d_X4_compose_74 : dk me_X4_compose 74 (.iload 7) 2 76 := And.intro (by decide +kernel) rfl
theorem d_X4_compose_76 : dk me_X4_compose 76 (.invokevirtual 105) 3 79 := And.intro (by decide +kernel) rfl
theorem d_X4_compose_79 : dk me_X4_compose 79 (.iinc 7 1) 3 82 := And.intro (by decide +kernel) rfl
theorem d_X4_compose_82 : dk me_X4_compose 82 (.goto (-19)) 3 85 := And.intro (by decide +kernel) rfl
theorem d_X4_compose_85 : dk me_X4_compose 85 (.return_) 1 86 := And.intro (by decide +kernel) rfl
theorem ms_X4_compose {fx : FX} {m : MM} {l0 : Nat} {l1 : Nat} {l2 : Nat} {l3 : Int} {l4 : Int} {l5 : Int} : MS fx me_X4_compose [aR (some (4, l0)), aR (some (9, l1)), aR (some (3, l2)), aI l3, aI l4, aI l5] m (f_X4_compose m l0 l1 l2 l3 l4 l5) := by
  refine ms_of rfl mf_X4_compose (b8 rfl) ?_
  refine s_top ?_
  show Sim fx me_X4_compose 0 [(0, aR (some (4, l0))), (1, aR (some (9, l1))), (2, aR (some (3, l2))), (3, aI l3), (4, aI l4), (5, aI l5)] [] m _
  unfold f_X4_compose
  have hj_X4_compose_0_85 : ∀ (m_85 : MM), Sim fx me_X4_compose 85 [] [] m_85 ((j_X4_compose_0_85 m_85).bind (fun z => some z)) := by
    intro m_85
    unfold j_X4_compose_0_85
    exact s_vret d_X4_compose_85 rfl rfl
  have hj_X4_compose_0_60 : ∀ (m_60 : MM) (l0_60 : Nat) (l1_60 : Nat), Sim fx me_X4_compose 60 [(0, aR (some (4, l0_60))), (1, aR (some (9, l1_60)))] [] m_60 ((j_X4_compose_0_60 m_60 l0_60 l1_60).bind (fun z => some z)) := by
    intro m_60 l0_60 l1_60
    unfold j_X4_compose_0_60
    refine s_iconst d_X4_compose_60 n_0 (s_istore (L' := [(7, aI 0), (0, aR (some (4, l0_60))), (1, aR (some (9, l1_60)))]) d_X4_compose_61 (b8 rfl) rfl (s_sub (subc m0_ (subc m1_ (subc m2_ sub0))) (s_lp2 (fun s => [(7, aI (s.1)), (0, aR (some (4, l0_60))), (1, aR (some (9, l1_60)))]) (fun s => s.2) (0, m_60) fun k63 hx63 s ih0 => ?_)))
    obtain ⟨l7_63, mm_63⟩ := s
    have ih63 := ih0
    clear ih0
    try dsimp only
    unfold b_X4_compose_63
    refine s_iload d_X4_compose_63 m0_ (s_aload_n d_X4_compose_65 m1_ (s_getN cf d_X4_compose_66 fl_X4_70 (s_icmp_ge (tgt := 85) d_X4_compose_69 rfl ?_ ?_)))
    · exact s_exit (hx63 _) (s_sub (sub0) (hj_X4_compose_0_85 mm_63))
    refine s_aload_n d_X4_compose_72 m1_ (s_aload_n d_X4_compose_73 m2_ (s_iload d_X4_compose_74 m0_ (s_cV (r_V d_X4_compose_76 k_X4_fillOut w_940 rfl rfl) ms_X4_fillOut (b8 rfl) rfl rfl rfl (fun _ _ _ => rfl) (fun _ _ => Or.inl rfl) fun m8 => (s_iinc (L' := [(7, aI (l7_63 + 1)), (0, aR (some (4, l0_60))), (1, aR (some (9, l1_60)))]) d_X4_compose_79 m0_ (b8 rfl) rfl (s_goto (tgt := 63) d_X4_compose_82 rfl ?_)))))
    exact s_sub (subc m0_ (subc m1_ (subc m2_ sub0))) (s_back (ih63 ((l7_63 + 1), m8)))
  refine s_aload_n d_X4_compose_0 m2_ (s_getN cf d_X4_compose_1 fl_X4_96 (s_istore (L' := [(6, aI (gN m 3 l2 3)), (0, aR (some (4, l0))), (1, aR (some (9, l1))), (2, aR (some (3, l2))), (3, aI l3), (4, aI l4), (5, aI l5)]) d_X4_compose_4 (b8 rfl) rfl (s_aload_n d_X4_compose_6 m1_ (s_aload_n d_X4_compose_7 m2_ (s_aload_n d_X4_compose_8 m3_ ?_)))))
  refine s_iload_n d_X4_compose_9 m4_ (s_iload d_X4_compose_10 m5_ (s_cV (r_V d_X4_compose_12 k_X4_takeLines w_906 rfl rfl) ms_X4_takeLines (b8 rfl) rfl rfl rfl (fun _ _ _ => rfl) (fun _ _ => Or.inl rfl) fun m1 => (s_iload d_X4_compose_15 m6_ (s_if_eq (tgt := 60) d_X4_compose_17 rfl ?_ ?_))))
  · exact s_sub (subc m1_ (subc m2_ sub0)) (hj_X4_compose_0_60 m1 l0 l1)
  refine s_aload_n d_X4_compose_20 m1_ (s_getN cf d_X4_compose_21 fl_X4_57 (s_iload d_X4_compose_24 m5_ (s_icmp_ge (tgt := 60) d_X4_compose_26 rfl ?_ ?_)))
  · exact s_sub (subc m1_ (subc m2_ sub0)) (hj_X4_compose_0_60 m1 l0 l1)
  refine s_aload_n d_X4_compose_29 m3_ (s_iload d_X4_compose_30 m0_ (s_putN cf d_X4_compose_32 fl_X4_96 (fun h => by cases h) fun m3 => (s_aload_n d_X4_compose_35 m1_ (s_iconst d_X4_compose_36 n_1 (s_putBl cf d_X4_compose_37 fl_X4_60 (fun h => by cases h) (by decide) fun m4 => ?_)))))
  refine s_aload_n d_X4_compose_40 m1_ (s_aload_n d_X4_compose_41 m2_ (s_aload_n d_X4_compose_42 m3_ (s_iload_n d_X4_compose_43 m4_ (s_iload d_X4_compose_44 m5_ (s_cV (r_V d_X4_compose_46 k_X4_takeLines w_906 rfl rfl) ms_X4_takeLines (b8 rfl) rfl rfl rfl (fun _ _ _ => rfl) (fun _ _ => Or.inl rfl) fun m5 => ?_)))))
  refine s_aload_n d_X4_compose_49 m1_ (s_iload d_X4_compose_50 m5_ (s_aload_n d_X4_compose_52 m1_ (s_getN cf d_X4_compose_53 fl_X4_57 (s_isub d_X4_compose_56 rfl rfl (s_ck ?_)))))
  exact s_putN cf d_X4_compose_57 fl_X4_64 (fun h => by cases h) fun m7 => (s_sub (subc m1_ (subc m2_ sub0)) (hj_X4_compose_0_60 m7 l0 l1))
theorem d_X4_joined_0 : dk me_X4_joined 0 (.iload_n 0) 1 1 := And.intro (by decide +kernel) rfl
theorem d_X4_joined_1 : dk me_X4_joined 1 (.bipush 102) 2 3 := And.intro (by decide +kernel) rfl
theorem d_X4_joined_3 : dk me_X4_joined 3 (.if_icmp .eq 5) 3 6 := And.intro (by decide +kernel) rfl
theorem d_X4_joined_6 : dk me_X4_joined 6 (.iconst (-1)) 1 7 := And.intro (by decide +kernel) rfl
theorem d_X4_joined_7 : dk me_X4_joined 7 (.ireturn) 1 8 := And.intro (by decide +kernel) rfl
theorem d_X4_joined_8 : dk me_X4_joined 8 (.iload_n 1) 1 9 := And.intro (by decide +kernel) rfl
theorem d_X4_joined_9 : dk me_X4_joined 9 (.bipush 105) 2 11 := And.intro (by decide +kernel) rfl
theorem d_X4_joined_11 : dk me_X4_joined 11 (.if_icmp .ne 8) 3 14 := And.intro (by decide +kernel) rfl
theorem d_X4_joined_14 : dk me_X4_joined 14 (.bipush 26) 2 16 := And.intro (by decide +kernel) rfl
theorem d_X4_joined_16 : dk me_X4_joined 16 (.goto 15) 3 19 := And.intro (by decide +kernel) rfl
theorem d_X4_joined_19 : dk me_X4_joined 19 (.iload_n 1) 1 20 := And.intro (by decide +kernel) rfl
theorem d_X4_joined_20 : dk me_X4_joined 20 (.bipush 108) 2 22 := And.intro (by decide +kernel) rfl
theorem d_X4_joined_22 : dk me_X4_joined 22 (.if_icmp .ne 8) 3 25 := And.intro (by decide +kernel) rfl
theorem d_X4_joined_25 : dk me_X4_joined 25 (.bipush 27) 2 27 := And.intro (by decide +kernel) rfl
theorem d_X4_joined_27 : dk me_X4_joined 27 (.goto 4) 3 30 := And.intro (by decide +kernel) rfl
theorem d_X4_joined_30 : dk me_X4_joined 30 (.iconst (-1)) 1 31 := And.intro (by decide +kernel) rfl
theorem d_X4_joined_31 : dk me_X4_joined 31 (.ireturn) 1 32 := And.intro (by decide +kernel) rfl
theorem ms_X4_joined {fx : FX} {m : MM} {l0 : Int} {l1 : Int} : MS fx me_X4_joined [aI l0, aI l1] m ((f_X4_joined m l0 l1).bind fun v => some (.inl (some (aI v)), m)) := by
  refine ms_of rfl mf_X4_joined (b8 rfl) ?_
  show Sim fx me_X4_joined 0 [(0, aI l0), (1, aI l1)] [] m _
  unfold f_X4_joined
  refine s_iload_n d_X4_joined_0 m0_ (s_bipush d_X4_joined_1 n_102 rfl (s_icmp_eq (tgt := 8) d_X4_joined_3 rfl ?_ ?_))
  · refine s_iload_n d_X4_joined_8 m1_ (s_bipush d_X4_joined_9 n_105 rfl (s_icmp_ne (tgt := 19) d_X4_joined_11 rfl ?_ ?_))
    · refine s_iload_n d_X4_joined_19 m1_ (s_bipush d_X4_joined_20 n_108 rfl (s_icmp_ne (tgt := 30) d_X4_joined_22 rfl ?_ ?_))
      · exact s_iconst d_X4_joined_30 n_m1 (s_iret d_X4_joined_31 rfl rfl)
      exact s_bipush d_X4_joined_25 n_27 rfl (s_goto (tgt := 31) d_X4_joined_27 rfl (s_iret d_X4_joined_31 rfl rfl))
    exact s_bipush d_X4_joined_14 n_26 rfl (s_goto (tgt := 31) d_X4_joined_16 rfl (s_iret d_X4_joined_31 rfl rfl))
  exact s_iconst d_X4_joined_6 n_m1 (s_iret d_X4_joined_7 rfl rfl)
theorem d_X1_turnedBox_0 : dk me_X1_turnedBox 0 (.iload_n 0) 1 1 := And.intro (by decide +kernel) rfl
theorem d_X1_turnedBox_1 : dk me_X1_turnedBox 1 (.tableswitch 111 1 20 #[101, 111, 106, 111, 111, 111, 111, 111, 111, 111, 111, 111, 95, 111, 109, 104, 111, 111, 111, 98]) 95 96 := And.intro (by decide +kernel) rfl
theorem d_X1_turnedBox_96 : dk me_X1_turnedBox 96 (.bipush 20) 2 98 := And.intro (by decide +kernel) rfl
theorem d_X1_turnedBox_98 : dk me_X1_turnedBox 98 (.ireturn) 1 99 := And.intro (by decide +kernel) rfl
theorem d_X1_turnedBox_99 : dk me_X1_turnedBox 99 (.bipush 13) 2 101 := And.intro (by decide +kernel) rfl
theorem d_X1_turnedBox_101 : dk me_X1_turnedBox 101 (.ireturn) 1 102 := And.intro (by decide +kernel) rfl
theorem d_X1_turnedBox_102 : dk me_X1_turnedBox 102 (.bipush 16) 2 104 := And.intro (by decide +kernel) rfl
theorem d_X1_turnedBox_104 : dk me_X1_turnedBox 104 (.ireturn) 1 105 := And.intro (by decide +kernel) rfl
theorem d_X1_turnedBox_105 : dk me_X1_turnedBox 105 (.iconst 1) 1 106 := And.intro (by decide +kernel) rfl
theorem d_X1_turnedBox_106 : dk me_X1_turnedBox 106 (.ireturn) 1 107 := And.intro (by decide +kernel) rfl
theorem d_X1_turnedBox_107 : dk me_X1_turnedBox 107 (.bipush 15) 2 109 := And.intro (by decide +kernel) rfl
theorem d_X1_turnedBox_109 : dk me_X1_turnedBox 109 (.ireturn) 1 110 := And.intro (by decide +kernel) rfl
theorem d_X1_turnedBox_110 : dk me_X1_turnedBox 110 (.iconst 3) 1 111 := And.intro (by decide +kernel) rfl
theorem d_X1_turnedBox_111 : dk me_X1_turnedBox 111 (.ireturn) 1 112 := And.intro (by decide +kernel) rfl
theorem d_X1_turnedBox_112 : dk me_X1_turnedBox 112 (.iconst (-1)) 1 113 := And.intro (by decide +kernel) rfl
theorem d_X1_turnedBox_113 : dk me_X1_turnedBox 113 (.ireturn) 1 114 := And.intro (by decide +kernel) rfl
theorem ms_X1_turnedBox {fx : FX} {m : MM} {l0 : Int} : MS fx me_X1_turnedBox [aI l0] m ((f_X1_turnedBox m l0).bind fun v => some (.inl (some (aI v)), m)) := by
  refine ms_of rfl mf_X1_turnedBox (b8 rfl) ?_
  show Sim fx me_X1_turnedBox 0 [(0, aI l0)] [] m _
  unfold f_X1_turnedBox
  refine s_iload_n d_X1_turnedBox_0 m0_ (s_tsw (dt := 112) d_X1_turnedBox_1 n_1 rfl ⟨⟨102, rfl, ?_⟩, ⟨112, rfl, ?_⟩, ⟨107, rfl, ?_⟩, ⟨112, rfl, ?_⟩, ⟨112, rfl, ?_⟩, ⟨112, rfl, ?_⟩, ⟨112, rfl, ?_⟩, ⟨112, rfl, ?_⟩, ⟨112, rfl, ?_⟩, ⟨112, rfl, ?_⟩, ⟨112, rfl, ?_⟩, ⟨112, rfl, ?_⟩, ⟨96, rfl, ?_⟩, ⟨112, rfl, ?_⟩, ⟨110, rfl, ?_⟩, ⟨105, rfl, ?_⟩, ⟨112, rfl, ?_⟩, ⟨112, rfl, ?_⟩, ⟨112, rfl, ?_⟩, ⟨99, rfl, ?_⟩, trivial⟩ rfl ?_)
  · exact s_bipush d_X1_turnedBox_102 n_16 rfl (s_iret d_X1_turnedBox_104 rfl rfl)
  · exact s_iconst d_X1_turnedBox_112 n_m1 (s_iret d_X1_turnedBox_113 rfl rfl)
  · exact s_bipush d_X1_turnedBox_107 n_15 rfl (s_iret d_X1_turnedBox_109 rfl rfl)
  · exact s_iconst d_X1_turnedBox_112 n_m1 (s_iret d_X1_turnedBox_113 rfl rfl)
  · exact s_iconst d_X1_turnedBox_112 n_m1 (s_iret d_X1_turnedBox_113 rfl rfl)
  · exact s_iconst d_X1_turnedBox_112 n_m1 (s_iret d_X1_turnedBox_113 rfl rfl)
  · exact s_iconst d_X1_turnedBox_112 n_m1 (s_iret d_X1_turnedBox_113 rfl rfl)
  · exact s_iconst d_X1_turnedBox_112 n_m1 (s_iret d_X1_turnedBox_113 rfl rfl)
  · exact s_iconst d_X1_turnedBox_112 n_m1 (s_iret d_X1_turnedBox_113 rfl rfl)
  · exact s_iconst d_X1_turnedBox_112 n_m1 (s_iret d_X1_turnedBox_113 rfl rfl)
  · exact s_iconst d_X1_turnedBox_112 n_m1 (s_iret d_X1_turnedBox_113 rfl rfl)
  · exact s_iconst d_X1_turnedBox_112 n_m1 (s_iret d_X1_turnedBox_113 rfl rfl)
  · exact s_bipush d_X1_turnedBox_96 n_20 rfl (s_iret d_X1_turnedBox_98 rfl rfl)
  · exact s_iconst d_X1_turnedBox_112 n_m1 (s_iret d_X1_turnedBox_113 rfl rfl)
  · exact s_iconst d_X1_turnedBox_110 n_3 (s_iret d_X1_turnedBox_111 rfl rfl)
  · exact s_iconst d_X1_turnedBox_105 n_1 (s_iret d_X1_turnedBox_106 rfl rfl)
  · exact s_iconst d_X1_turnedBox_112 n_m1 (s_iret d_X1_turnedBox_113 rfl rfl)
  · exact s_iconst d_X1_turnedBox_112 n_m1 (s_iret d_X1_turnedBox_113 rfl rfl)
  · exact s_iconst d_X1_turnedBox_112 n_m1 (s_iret d_X1_turnedBox_113 rfl rfl)
  · exact s_bipush d_X1_turnedBox_99 n_13 rfl (s_iret d_X1_turnedBox_101 rfl rfl)
  exact s_iconst d_X1_turnedBox_112 n_m1 (s_iret d_X1_turnedBox_113 rfl rfl)
theorem d_X5_fillNext_0 : dk me_X5_fillNext 0 (.aload_n 0) 1 1 := And.intro (by decide +kernel) rfl
theorem d_X5_fillNext_1 : dk me_X5_fillNext 1 (.getfield 27) 3 4 := And.intro (by decide +kernel) rfl
theorem d_X5_fillNext_4 : dk me_X5_fillNext 4 (.aload_n 0) 1 5 := And.intro (by decide +kernel) rfl
theorem d_X5_fillNext_5 : dk me_X5_fillNext 5 (.getfield 9) 3 8 := And.intro (by decide +kernel) rfl
theorem d_X5_fillNext_8 : dk me_X5_fillNext 8 (.arraylength) 1 9 := And.intro (by decide +kernel) rfl
theorem d_X5_fillNext_9 : dk me_X5_fillNext 9 (.if_icmp .lt 5) 3 12 := And.intro (by decide +kernel) rfl
theorem d_X5_fillNext_12 : dk me_X5_fillNext 12 (.iconst 0) 1 13 := And.intro (by decide +kernel) rfl
theorem d_X5_fillNext_13 : dk me_X5_fillNext 13 (.ireturn) 1 14 := And.intro (by decide +kernel) rfl
theorem d_X5_fillNext_14 : dk me_X5_fillNext 14 (.iload_n 1) 1 15 := And.intro (by decide +kernel) rfl
theorem d_X5_fillNext_15 : dk me_X5_fillNext 15 (.istore 4) 2 17 := And.intro (by decide +kernel) rfl
theorem d_X5_fillNext_17 : dk me_X5_fillNext 17 (.aload_n 2) 1 18 := And.intro (by decide +kernel) rfl
theorem d_X5_fillNext_18 : dk me_X5_fillNext 18 (.iload 4) 2 20 := And.intro (by decide +kernel) rfl
theorem d_X5_fillNext_20 : dk me_X5_fillNext 20 (.iload_n 3) 1 21 := And.intro (by decide +kernel) rfl
theorem d_X5_fillNext_21 : dk me_X5_fillNext 21 (.invokevirtual 31) 3 24 := And.intro (by decide +kernel) rfl
theorem d_X5_fillNext_24 : dk me_X5_fillNext 24 (.istore 5) 2 26 := And.intro (by decide +kernel) rfl
theorem d_X5_fillNext_26 : dk me_X5_fillNext 26 (.iload_n 1) 1 27 := And.intro (by decide +kernel) rfl
theorem d_X5_fillNext_27 : dk me_X5_fillNext 27 (.invokestatic 37) 3 30 := And.intro (by decide +kernel) rfl
theorem d_X5_fillNext_30 : dk me_X5_fillNext 30 (.istore 6) 2 32 := And.intro (by decide +kernel) rfl
theorem d_X5_fillNext_32 : dk me_X5_fillNext 32 (.iload 5) 2 34 := And.intro (by decide +kernel) rfl
theorem d_X5_fillNext_34 : dk me_X5_fillNext 34 (.iconst (-1)) 1 35 := And.intro (by decide +kernel) rfl
theorem d_X5_fillNext_35 : dk me_X5_fillNext 35 (.if_icmp .ne 24) 3 38 := And.intro (by decide +kernel) rfl
theorem d_X5_fillNext_38 : dk me_X5_fillNext 38 (.iload 6) 2 40 := And.intro (by decide +kernel) rfl
theorem d_X5_fillNext_40 : dk me_X5_fillNext 40 (.iconst (-1)) 1 41 := And.intro (by decide +kernel) rfl
theorem d_X5_fillNext_41 : dk me_X5_fillNext 41 (.if_icmp .eq 18) 3 44 := And.intro (by decide +kernel) rfl
theorem d_X5_fillNext_44 : dk me_X5_fillNext 44 (.aload_n 2) 1 45 := And.intro (by decide +kernel) rfl
theorem d_X5_fillNext_45 : dk me_X5_fillNext 45 (.getfield 41) 3 48 := And.intro (by decide +kernel) rfl
theorem d_X5_fillNext_48 : dk me_X5_fillNext 48 (.iload 6) 2 50 := And.intro (by decide +kernel) rfl
theorem d_X5_fillNext_50 : dk me_X5_fillNext 50 (.iaload) 1 51 := And.intro (by decide +kernel) rfl
theorem d_X5_fillNext_51 : dk me_X5_fillNext 51 (.iconst (-1)) 1 52 := And.intro (by decide +kernel) rfl
theorem d_X5_fillNext_52 : dk me_X5_fillNext 52 (.if_icmp .eq 7) 3 55 := And.intro (by decide +kernel) rfl
theorem d_X5_fillNext_55 : dk me_X5_fillNext 55 (.iconst 1) 1 56 := And.intro (by decide +kernel) rfl
theorem d_X5_fillNext_56 : dk me_X5_fillNext 56 (.goto 4) 3 59 := And.intro (by decide +kernel) rfl
theorem d_X5_fillNext_59 : dk me_X5_fillNext 59 (.iconst 0) 1 60 := And.intro (by decide +kernel) rfl
theorem d_X5_fillNext_60 : dk me_X5_fillNext 60 (.istore 7) 2 62 := And.intro (by decide +kernel) rfl
theorem d_X5_fillNext_62 : dk me_X5_fillNext 62 (.iload 7) 2 64 := And.intro (by decide +kernel) rfl
theorem d_X5_fillNext_64 : dk me_X5_fillNext 64 (.ifCond .eq 16) 3 67 := And.intro (by decide +kernel) rfl
theorem d_X5_fillNext_67 : dk me_X5_fillNext 67 (.iload 6) 2 69 := And.intro (by decide +kernel) rfl
theorem d_X5_fillNext_69 : dk me_X5_fillNext 69 (.istore 4) 2 71 := And.intro (by decide +kernel) rfl
theorem d_X5_fillNext_71 : dk me_X5_fillNext 71 (.aload_n 2) 1 72 := And.intro (by decide +kernel) rfl
theorem d_X5_fillNext_72 : dk me_X5_fillNext 72 (.iload 4) 2 74 := And.intro (by decide +kernel) rfl
theorem d_X5_fillNext_74 : dk me_X5_fillNext 74 (.iload_n 3) 1 75 := And.intro (by decide +kernel) rfl
theorem d_X5_fillNext_75 : dk me_X5_fillNext 75 (.invokevirtual 31) 3 78 := And.intro (by decide +kernel) rfl
theorem d_X5_fillNext_78 : dk me_X5_fillNext 78 (.istore 5) 2 80 := And.intro (by decide +kernel) rfl
theorem d_X5_fillNext_80 : dk me_X5_fillNext 80 (.aload_n 0) 1 81 := And.intro (by decide +kernel) rfl
theorem d_X5_fillNext_81 : dk me_X5_fillNext 81 (.getfield 9) 3 84 := And.intro (by decide +kernel) rfl
theorem d_X5_fillNext_84 : dk me_X5_fillNext 84 (.aload_n 0) 1 85 := And.intro (by decide +kernel) rfl
theorem d_X5_fillNext_85 : dk me_X5_fillNext 85 (.getfield 27) 3 88 := And.intro (by decide +kernel) rfl
theorem d_X5_fillNext_88 : dk me_X5_fillNext 88 (.iload_n 1) 1 89 := And.intro (by decide +kernel) rfl
theorem d_X5_fillNext_89 : dk me_X5_fillNext 89 (.iastore) 1 90 := And.intro (by decide +kernel) rfl
theorem d_X5_fillNext_90 : dk me_X5_fillNext 90 (.aload_n 0) 1 91 := And.intro (by decide +kernel) rfl
theorem d_X5_fillNext_91 : dk me_X5_fillNext 91 (.getfield 15) 3 94 := And.intro (by decide +kernel) rfl
theorem d_X5_fillNext_94 : dk me_X5_fillNext 94 (.aload_n 0) 1 95 := And.intro (by decide +kernel) rfl
theorem d_X5_fillNext_95 : dk me_X5_fillNext 95 (.getfield 27) 3 98 := And.intro (by decide +kernel) rfl
theorem d_X5_fillNext_98 : dk me_X5_fillNext 98 (.iload 5) 2 100 := And.intro (by decide +kernel) rfl
theorem d_X5_fillNext_100 : dk me_X5_fillNext 100 (.iastore) 1 101 := And.intro (by decide +kernel) rfl
theorem d_X5_fillNext_101 : dk me_X5_fillNext 101 (.aload_n 0) 1 102 := And.intro (by decide +kernel) rfl
theorem d_X5_fillNext_102 : dk me_X5_fillNext 102 (.getfield 18) 3 105 := And.intro (by decide +kernel) rfl
theorem d_X5_fillNext_105 : dk me_X5_fillNext 105 (.aload_n 0) 1 106 := And.intro (by decide +kernel) rfl
theorem d_X5_fillNext_106 : dk me_X5_fillNext 106 (.getfield 27) 3 109 := And.intro (by decide +kernel) rfl
theorem d_X5_fillNext_109 : dk me_X5_fillNext 109 (.iload 7) 2 111 := And.intro (by decide +kernel) rfl
theorem d_X5_fillNext_111 : dk me_X5_fillNext 111 (.bastore) 1 112 := And.intro (by decide +kernel) rfl
theorem d_X5_fillNext_112 : dk me_X5_fillNext 112 (.iload 5) 2 114 := And.intro (by decide +kernel) rfl
theorem d_X5_fillNext_114 : dk me_X5_fillNext 114 (.iconst (-1)) 1 115 := And.intro (by decide +kernel) rfl
theorem d_X5_fillNext_115 : dk me_X5_fillNext 115 (.if_icmp .ne 7) 3 118 := And.intro (by decide +kernel) rfl
theorem d_X5_fillNext_118 : dk me_X5_fillNext 118 (.iconst (-1)) 1 119 := And.intro (by decide +kernel) rfl
theorem d_X5_fillNext_119 : dk me_X5_fillNext 119 (.goto 10) 3 122 := And.intro (by decide +kernel) rfl
theorem d_X5_fillNext_122 : dk me_X5_fillNext 122 (.aload_n 2) 1 123 := And.intro (by decide +kernel) rfl
theorem d_X5_fillNext_123 : dk me_X5_fillNext 123 (.getfield 44) 3 126 := And.intro (by decide +kernel) rfl
theorem d_X5_fillNext_126 : dk me_X5_fillNext 126 (.iload 5) 2 128 := And.intro (by decide +kernel) rfl
theorem d_X5_fillNext_128 : dk me_X5_fillNext 128 (.iaload) 1 129 := And.intro (by decide +kernel) rfl
theorem d_X5_fillNext_129 : dk me_X5_fillNext 129 (.istore 8) 2 131 := And.intro (by decide +kernel) rfl
theorem d_X5_fillNext_131 : dk me_X5_fillNext 131 (.aload_n 0) 1 132 := And.intro (by decide +kernel) rfl
theorem d_X5_fillNext_132 : dk me_X5_fillNext 132 (.getfield 24) 3 135 := And.intro (by decide +kernel) rfl
theorem d_X5_fillNext_135 : dk me_X5_fillNext 135 (.iconst 0) 1 136 := And.intro (by decide +kernel) rfl
theorem d_X5_fillNext_136 : dk me_X5_fillNext 136 (.aaload) 1 137 := And.intro (by decide +kernel) rfl
theorem d_X5_fillNext_137 : dk me_X5_fillNext 137 (.aload_n 0) 1 138 := And.intro (by decide +kernel) rfl
theorem d_X5_fillNext_138 : dk me_X5_fillNext 138 (.getfield 27) 3 141 := And.intro (by decide +kernel) rfl
theorem d_X5_fillNext_141 : dk me_X5_fillNext 141 (.iload 7) 2 143 := And.intro (by decide +kernel) rfl
theorem d_X5_fillNext_143 : dk me_X5_fillNext 143 (.ifCond .eq 14) 3 146 := And.intro (by decide +kernel) rfl
theorem d_X5_fillNext_146 : dk me_X5_fillNext 146 (.iload 8) 2 148 := And.intro (by decide +kernel) rfl
theorem d_X5_fillNext_148 : dk me_X5_fillNext 148 (.iload 4) 2 150 := And.intro (by decide +kernel) rfl
theorem d_X5_fillNext_150 : dk me_X5_fillNext 150 (.if_icmp .ne 7) 3 153 := And.intro (by decide +kernel) rfl
theorem d_X5_fillNext_153 : dk me_X5_fillNext 153 (.iload_n 1) 1 154 := And.intro (by decide +kernel) rfl
theorem d_X5_fillNext_154 : dk me_X5_fillNext 154 (.goto 5) 3 157 := And.intro (by decide +kernel) rfl
theorem d_X5_fillNext_157 : dk me_X5_fillNext 157 (.iload 8) 2 159 := And.intro (by decide +kernel) rfl
theorem d_X5_fillNext_159 : dk me_X5_fillNext 159 (.iastore) 1 160 := And.intro (by decide +kernel) rfl
theorem d_X5_fillNext_160 : dk me_X5_fillNext 160 (.aload_n 0) 1 161 := And.intro (by decide +kernel) rfl
theorem d_X5_fillNext_161 : dk me_X5_fillNext 161 (.dup) 1 162 := And.intro (by decide +kernel) rfl
theorem d_X5_fillNext_162 : dk me_X5_fillNext 162 (.getfield 27) 3 165 := And.intro (by decide +kernel) rfl
theorem d_X5_fillNext_165 : dk me_X5_fillNext 165 (.iconst 1) 1 166 := And.intro (by decide +kernel) rfl
theorem d_X5_fillNext_166 : dk me_X5_fillNext 166 (.iadd) 1 167 := And.intro (by decide +kernel) rfl
theorem d_X5_fillNext_167 : dk me_X5_fillNext 167 (.putfield 27) 3 170 := And.intro (by decide +kernel) rfl
theorem d_X5_fillNext_170 : dk me_X5_fillNext 170 (.iload 5) 2 172 := And.intro (by decide +kernel) rfl
theorem d_X5_fillNext_172 : dk me_X5_fillNext 172 (.iconst (-1)) 1 173 := And.intro (by decide +kernel) rfl
theorem d_X5_fillNext_173 : dk me_X5_fillNext 173 (.if_icmp .eq 7) 3 176 := And.intro (by decide +kernel) rfl
theorem d_X5_fillNext_176 : dk me_X5_fillNext 176 (.iconst 1) 1 177 := And.intro (by decide +kernel) rfl
theorem d_X5_fillNext_177 : dk me_X5_fillNext 177 (.goto 4) 3 180 := And.intro (by decide +kernel) rfl
theorem d_X5_fillNext_180 : dk me_X5_fillNext 180 (.iconst 0) 1 181 := And.intro (by decide +kernel) rfl
theorem d_X5_fillNext_181 : dk me_X5_fillNext 181 (.ireturn) 1 182 := And.intro (by decide +kernel) rfl
theorem ms_X5_fillNext {fx : FX} {m : MM} {l0 : Nat} {l1 : Int} {l2 : Nat} {l3 : Int} : MS fx me_X5_fillNext [aR (some (5, l0)), aI l1, aR (some (1, l2)), aI l3] m (f_X5_fillNext m l0 l1 l2 l3) := by
  refine ms_of rfl mf_X5_fillNext (b8 rfl) ?_
  refine s_top ?_
  show Sim fx me_X5_fillNext 0 [(0, aR (some (5, l0))), (1, aI l1), (2, aR (some (1, l2))), (3, aI l3)] [] m _
  unfold f_X5_fillNext
  have hj_X5_fillNext_0_159 : ∀ (m_159 : MM) (l0_159 : Nat) (l5_159 : Int) (s0_159 : Nat) (s1_159 : Int) (s2_159 : Int), Sim fx me_X5_fillNext 159 [(0, aR (some (5, l0_159))), (5, aI l5_159)] [aI s2_159, aI s1_159, aR (some (38, s0_159))] m_159 ((j_X5_fillNext_0_159 m_159 l0_159 l5_159 s0_159 s1_159 s2_159).bind (fun z => some z)) := by
    intro m_159 l0_159 l5_159 s0_159 s1_159 s2_159
    unfold j_X5_fillNext_0_159
    refine s_stN d_X5_fillNext_159 ka_38 rfl fun m20 => (s_aload_n d_X5_fillNext_160 m0_ (s_dup d_X5_fillNext_161 rfl (s_getN cf d_X5_fillNext_162 fl_X5_27 (s_iconst d_X5_fillNext_165 n_1 (s_iadd d_X5_fillNext_166 rfl rfl ?_)))))
    refine s_ck (s_putN cf d_X5_fillNext_167 fl_X5_27 (fun h => by cases h) fun m21 => (s_iload d_X5_fillNext_170 m1_ (s_iconst d_X5_fillNext_172 n_m1 (s_icmp_eq (tgt := 180) d_X5_fillNext_173 rfl ?_ ?_))))
    · exact s_iconst d_X5_fillNext_180 n_0 (s_zretl d_X5_fillNext_181 rfl (by decide) rfl)
    exact s_iconst d_X5_fillNext_176 n_1 (s_goto (tgt := 181) d_X5_fillNext_177 rfl (s_zretl d_X5_fillNext_181 rfl (by decide) rfl))
  have hj_X5_fillNext_0_157 : ∀ (m_157 : MM) (l0_157 : Nat) (l5_157 : Int) (l8_157 : Int) (s0_157 : Nat) (s1_157 : Int), Sim fx me_X5_fillNext 157 [(0, aR (some (5, l0_157))), (5, aI l5_157), (8, aI l8_157)] [aI s1_157, aR (some (38, s0_157))] m_157 ((j_X5_fillNext_0_157 m_157 l0_157 l5_157 l8_157 s0_157 s1_157).bind (fun z => some z)) := by
    intro m_157 l0_157 l5_157 l8_157 s0_157 s1_157
    unfold j_X5_fillNext_0_157
    exact s_iload d_X5_fillNext_157 m2_ (s_sub (subc m0_ (subc m1_ sub0)) (hj_X5_fillNext_0_159 m_157 l0_157 l5_157 s0_157 s1_157 l8_157))
  have hj_X5_fillNext_0_129 : ∀ (m_129 : MM) (l0_129 : Nat) (l1_129 : Int) (l4_129 : Int) (l5_129 : Int) (l7_129 : Int) (s0_129 : Int), Sim fx me_X5_fillNext 129 [(0, aR (some (5, l0_129))), (1, aI l1_129), (4, aI l4_129), (5, aI l5_129), (7, aI l7_129)] [aI s0_129] m_129 ((j_X5_fillNext_0_129 m_129 l0_129 l1_129 l4_129 l5_129 l7_129 s0_129).bind (fun z => some z)) := by
    intro m_129 l0_129 l1_129 l4_129 l5_129 l7_129 s0_129
    unfold j_X5_fillNext_0_129
    refine s_istore (L' := [(8, aI s0_129), (0, aR (some (5, l0_129))), (1, aI l1_129), (4, aI l4_129), (5, aI l5_129), (7, aI l7_129)]) d_X5_fillNext_129 (b8 rfl) rfl (s_aload_n d_X5_fillNext_131 m1_ (s_getR cf d_X5_fillNext_132 fl_X5_24 (s_nk fun i17 => (s_iconst d_X5_fillNext_135 n_0 (s_ldR d_X5_fillNext_136 ka_37 ta_37 rfl rfl fun r18 => ?_)))))
    refine s_nk fun i19 => (s_aload_n d_X5_fillNext_137 m1_ (s_getN cf d_X5_fillNext_138 fl_X5_27 (s_iload d_X5_fillNext_141 m5_ (s_if_eq (tgt := 157) d_X5_fillNext_143 rfl ?_ ?_))))
    · exact s_sub (subc m1_ (subc m4_ (subc m0_ sub0))) (hj_X5_fillNext_0_157 m_129 l0_129 l5_129 s0_129 i19 (gN m_129 5 l0_129 4))
    refine s_iload d_X5_fillNext_146 m0_ (s_iload d_X5_fillNext_148 m3_ (s_icmp_ne (tgt := 157) d_X5_fillNext_150 rfl ?_ ?_))
    · exact s_sub (subc m1_ (subc m4_ (subc m0_ sub0))) (hj_X5_fillNext_0_157 m_129 l0_129 l5_129 s0_129 i19 (gN m_129 5 l0_129 4))
    exact s_iload_n d_X5_fillNext_153 m2_ (s_goto (tgt := 159) d_X5_fillNext_154 rfl (s_sub (subc m1_ (subc m4_ sub0)) (hj_X5_fillNext_0_159 m_129 l0_129 l5_129 i19 (gN m_129 5 l0_129 4) l1_129)))
  have hj_X5_fillNext_0_80 : ∀ (m_80 : MM) (l0_80 : Nat) (l1_80 : Int) (l2_80 : Nat) (l4_80 : Int) (l5_80 : Int) (l7_80 : Int), Sim fx me_X5_fillNext 80 [(0, aR (some (5, l0_80))), (1, aI l1_80), (2, aR (some (1, l2_80))), (4, aI l4_80), (5, aI l5_80), (7, aI l7_80)] [] m_80 ((j_X5_fillNext_0_80 m_80 l0_80 l1_80 l2_80 l4_80 l5_80 l7_80).bind (fun z => some z)) := by
    intro m_80 l0_80 l1_80 l2_80 l4_80 l5_80 l7_80
    unfold j_X5_fillNext_0_80
    refine s_aload_n d_X5_fillNext_80 m0_ (s_getR cf d_X5_fillNext_81 fl_X5_9 (s_nk fun i9 => (s_aload_n d_X5_fillNext_84 m0_ (s_getN cf d_X5_fillNext_85 fl_X5_27 (s_iload_n d_X5_fillNext_88 m1_ ?_)))))
    refine s_stN d_X5_fillNext_89 ka_34 rfl fun m10 => (s_aload_n d_X5_fillNext_90 m0_ (s_getR cf d_X5_fillNext_91 fl_X5_15 (s_nk fun i11 => (s_aload_n d_X5_fillNext_94 m0_ (s_getN cf d_X5_fillNext_95 fl_X5_27 ?_)))))
    refine s_iload d_X5_fillNext_98 m4_ (s_stN d_X5_fillNext_100 ka_35 rfl fun m12 => (s_aload_n d_X5_fillNext_101 m0_ (s_getR cf d_X5_fillNext_102 fl_X5_18 (s_nk fun i13 => (s_aload_n d_X5_fillNext_105 m0_ ?_)))))
    refine s_getN cf d_X5_fillNext_106 fl_X5_27 (s_iload d_X5_fillNext_109 m5_ (s_stB d_X5_fillNext_111 ka_36 rfl fun m14 => (s_iload d_X5_fillNext_112 m4_ (s_iconst d_X5_fillNext_114 n_m1 (s_icmp_ne (tgt := 122) d_X5_fillNext_115 rfl ?_ ?_)))))
    · exact s_aload_n d_X5_fillNext_122 m2_ (s_getR cf d_X5_fillNext_123 fl_X5_44 (s_nk fun i15 => (s_iload d_X5_fillNext_126 m4_ (s_ldN d_X5_fillNext_128 ka_20 rfl fun v16 => (s_sub (subc m0_ (subc m1_ (subc m3_ (subc m4_ (subc m5_ sub0))))) (hj_X5_fillNext_0_129 m14 l0_80 l1_80 l4_80 l5_80 l7_80 v16))))))
    exact s_iconst d_X5_fillNext_118 n_m1 (s_goto (tgt := 129) d_X5_fillNext_119 rfl (s_sub (subc m0_ (subc m1_ (subc m3_ (subc m4_ (subc m5_ sub0))))) (hj_X5_fillNext_0_129 m14 l0_80 l1_80 l4_80 l5_80 l7_80 (-1))))
  have hj_X5_fillNext_0_60 : ∀ (m_60 : MM) (l0_60 : Nat) (l1_60 : Int) (l2_60 : Nat) (l3_60 : Int) (l4_60 : Int) (l5_60 : Int) (l6_60 : Int) (s0_60 : Int), Sim fx me_X5_fillNext 60 [(0, aR (some (5, l0_60))), (1, aI l1_60), (2, aR (some (1, l2_60))), (3, aI l3_60), (4, aI l4_60), (5, aI l5_60), (6, aI l6_60)] [aI s0_60] m_60 ((j_X5_fillNext_0_60 m_60 l0_60 l1_60 l2_60 l3_60 l4_60 l5_60 l6_60 s0_60).bind (fun z => some z)) := by
    intro m_60 l0_60 l1_60 l2_60 l3_60 l4_60 l5_60 l6_60 s0_60
    unfold j_X5_fillNext_0_60
    refine s_istore (L' := [(7, aI s0_60), (0, aR (some (5, l0_60))), (1, aI l1_60), (2, aR (some (1, l2_60))), (3, aI l3_60), (4, aI l4_60), (5, aI l5_60), (6, aI l6_60)]) d_X5_fillNext_60 (b8 rfl) rfl (s_iload d_X5_fillNext_62 m0_ (s_if_eq (tgt := 80) d_X5_fillNext_64 rfl ?_ ?_))
    · exact s_sub (subc m1_ (subc m2_ (subc m3_ (subc m5_ (subc m6_ (subc m0_ sub0)))))) (hj_X5_fillNext_0_80 m_60 l0_60 l1_60 l2_60 l4_60 l5_60 s0_60)
    refine s_iload d_X5_fillNext_67 m7_ (s_istore (L' := [(4, aI l6_60), (7, aI s0_60), (0, aR (some (5, l0_60))), (1, aI l1_60), (2, aR (some (1, l2_60))), (3, aI l3_60), (5, aI l5_60), (6, aI l6_60)]) d_X5_fillNext_69 (b8 rfl) rfl (s_aload_n d_X5_fillNext_71 m4_ (s_iload d_X5_fillNext_72 m0_ (s_iload_n d_X5_fillNext_74 m5_ (s_cI (r_V d_X5_fillNext_75 k_X1_take w_966 rfl rfl) ms_X1_take (b8 rfl) rfl rfl rfl (fun _ _ _ => rfl) (fun _ _ => Or.inl rfl) fun v8 m7 => ?_)))))
    exact s_istore (L' := [(5, aI v8), (4, aI l6_60), (7, aI s0_60), (0, aR (some (5, l0_60))), (1, aI l1_60), (2, aR (some (1, l2_60))), (3, aI l3_60), (6, aI l6_60)]) d_X5_fillNext_78 (b8 rfl) rfl (s_sub (subc m3_ (subc m4_ (subc m5_ (subc m1_ (subc m0_ (subc m2_ sub0)))))) (hj_X5_fillNext_0_80 m7 l0_60 l1_60 l2_60 l6_60 v8 s0_60))
  have hj_X5_fillNext_0_59 : ∀ (m_59 : MM) (l0_59 : Nat) (l1_59 : Int) (l2_59 : Nat) (l3_59 : Int) (l4_59 : Int) (l5_59 : Int) (l6_59 : Int), Sim fx me_X5_fillNext 59 [(0, aR (some (5, l0_59))), (1, aI l1_59), (2, aR (some (1, l2_59))), (3, aI l3_59), (4, aI l4_59), (5, aI l5_59), (6, aI l6_59)] [] m_59 ((j_X5_fillNext_0_59 m_59 l0_59 l1_59 l2_59 l3_59 l4_59 l5_59 l6_59).bind (fun z => some z)) := by
    intro m_59 l0_59 l1_59 l2_59 l3_59 l4_59 l5_59 l6_59
    unfold j_X5_fillNext_0_59
    exact s_iconst d_X5_fillNext_59 n_0 (s_sub (subc m0_ (subc m1_ (subc m2_ (subc m3_ (subc m4_ (subc m5_ (subc m6_ sub0))))))) (hj_X5_fillNext_0_60 m_59 l0_59 l1_59 l2_59 l3_59 l4_59 l5_59 l6_59 0))
  refine s_aload_n d_X5_fillNext_0 m0_ (s_getN cf d_X5_fillNext_1 fl_X5_27 (s_aload_n d_X5_fillNext_4 m0_ (s_getR cf d_X5_fillNext_5 fl_X5_9 (s_nk fun i1 => (s_len d_X5_fillNext_8 ka_34 ta_34 ?_)))))
  refine s_icmp_lt (tgt := 14) d_X5_fillNext_9 rfl ?_ ?_
  · refine s_iload_n d_X5_fillNext_14 m1_ (s_istore (L' := [(4, aI l1), (0, aR (some (5, l0))), (1, aI l1), (2, aR (some (1, l2))), (3, aI l3)]) d_X5_fillNext_15 (b8 rfl) rfl (s_aload_n d_X5_fillNext_17 m3_ (s_iload d_X5_fillNext_18 m0_ (s_iload_n d_X5_fillNext_20 m4_ (s_cI (r_V d_X5_fillNext_21 k_X1_take w_966 rfl rfl) ms_X1_take (b8 rfl) rfl rfl rfl (fun _ _ _ => rfl) (fun _ _ => Or.inl rfl) fun v3 m2 => ?_)))))
    refine s_istore (L' := [(5, aI v3), (4, aI l1), (0, aR (some (5, l0))), (1, aI l1), (2, aR (some (1, l2))), (3, aI l3)]) d_X5_fillNext_24 (b8 rfl) rfl (s_iload_n d_X5_fillNext_26 m3_ (s_pI (r_S d_X5_fillNext_27 k_X1_turnedBox w_970 rfl rfl) ms_X1_turnedBox (b8 rfl) rfl rfl rfl fun v4 => (s_istore (L' := [(6, aI v4), (5, aI v3), (4, aI l1), (0, aR (some (5, l0))), (1, aI l1), (2, aR (some (1, l2))), (3, aI l3)]) d_X5_fillNext_30 (b8 rfl) rfl (s_iload d_X5_fillNext_32 m1_ (s_iconst d_X5_fillNext_34 n_m1 ?_)))))
    refine s_icmp_ne (tgt := 59) d_X5_fillNext_35 rfl ?_ ?_
    · exact s_sub (subc m3_ (subc m4_ (subc m5_ (subc m6_ (subc m2_ (subc m1_ (subc m0_ sub0))))))) (hj_X5_fillNext_0_59 m2 l0 l1 l2 l3 l1 v3 v4)
    refine s_iload d_X5_fillNext_38 m0_ (s_iconst d_X5_fillNext_40 n_m1 (s_icmp_eq (tgt := 59) d_X5_fillNext_41 rfl ?_ ?_))
    · exact s_sub (subc m3_ (subc m4_ (subc m5_ (subc m6_ (subc m2_ (subc m1_ (subc m0_ sub0))))))) (hj_X5_fillNext_0_59 m2 l0 l1 l2 l3 l1 v3 v4)
    refine s_aload_n d_X5_fillNext_44 m5_ (s_getR cf d_X5_fillNext_45 fl_X5_41 (s_nk fun i5 => (s_iload d_X5_fillNext_48 m0_ (s_ldN d_X5_fillNext_50 ka_24 rfl fun v6 => (s_iconst d_X5_fillNext_51 n_m1 ?_)))))
    refine s_icmp_eq (tgt := 59) d_X5_fillNext_52 rfl ?_ ?_
    · exact s_sub (subc m3_ (subc m4_ (subc m5_ (subc m6_ (subc m2_ (subc m1_ (subc m0_ sub0))))))) (hj_X5_fillNext_0_59 m2 l0 l1 l2 l3 l1 v3 v4)
    exact s_iconst d_X5_fillNext_55 n_1 (s_goto (tgt := 60) d_X5_fillNext_56 rfl (s_sub (subc m3_ (subc m4_ (subc m5_ (subc m6_ (subc m2_ (subc m1_ (subc m0_ sub0))))))) (hj_X5_fillNext_0_60 m2 l0 l1 l2 l3 l1 v3 v4 1)))
  exact s_iconst d_X5_fillNext_12 n_0 (s_zretl d_X5_fillNext_13 rfl (by decide) rfl)
theorem d_X4_fillWord_0 : dk me_X4_fillWord 0 (.iconst 0) 1 1 := And.intro (by decide +kernel) rfl
theorem d_X4_fillWord_1 : dk me_X4_fillWord 1 (.istore 5) 2 3 := And.intro (by decide +kernel) rfl
theorem d_X4_fillWord_3 : dk me_X4_fillWord 3 (.lload_n 1) 1 4 := And.intro (by decide +kernel) rfl
theorem d_X4_fillWord_4 : dk me_X4_fillWord 4 (.invokestatic 120) 3 7 := And.intro (by decide +kernel) rfl
theorem d_X4_fillWord_7 : dk me_X4_fillWord 7 (.istore 6) 2 9 := And.intro (by decide +kernel) rfl
theorem d_X4_fillWord_9 : dk me_X4_fillWord 9 (.iconst 0) 1 10 := And.intro (by decide +kernel) rfl
theorem d_X4_fillWord_10 : dk me_X4_fillWord 10 (.istore 7) 2 12 := And.intro (by decide +kernel) rfl
theorem d_X4_fillWord_12 : dk me_X4_fillWord 12 (.iload 7) 2 14 := And.intro (by decide +kernel) rfl
theorem d_X4_fillWord_14 : dk me_X4_fillWord 14 (.iload 6) 2 16 := And.intro (by decide +kernel) rfl
theorem d_X4_fillWord_16 : dk me_X4_fillWord 16 (.if_icmp .ge 112) 3 19 := And.intro (by decide +kernel) rfl
theorem d_X4_fillWord_19 : dk me_X4_fillWord 19 (.iload 7) 2 21 := And.intro (by decide +kernel) rfl
theorem d_X4_fillWord_21 : dk me_X4_fillWord 21 (.iconst 1) 1 22 := And.intro (by decide +kernel) rfl
theorem d_X4_fillWord_22 : dk me_X4_fillWord 22 (.iadd) 1 23 := And.intro (by decide +kernel) rfl
theorem d_X4_fillWord_23 : dk me_X4_fillWord 23 (.iload 6) 2 25 := And.intro (by decide +kernel) rfl
theorem d_X4_fillWord_25 : dk me_X4_fillWord 25 (.if_icmp .ge 23) 3 28 := And.intro (by decide +kernel) rfl
theorem d_X4_fillWord_28 : dk me_X4_fillWord 28 (.lload_n 1) 1 29 := And.intro (by decide +kernel) rfl
theorem d_X4_fillWord_29 : dk me_X4_fillWord 29 (.iload 7) 2 31 := And.intro (by decide +kernel) rfl
theorem d_X4_fillWord_31 : dk me_X4_fillWord 31 (.invokestatic 155) 3 34 := And.intro (by decide +kernel) rfl
theorem d_X4_fillWord_34 : dk me_X4_fillWord 34 (.lload_n 1) 1 35 := And.intro (by decide +kernel) rfl
theorem d_X4_fillWord_35 : dk me_X4_fillWord 35 (.iload 7) 2 37 := And.intro (by decide +kernel) rfl
theorem d_X4_fillWord_37 : dk me_X4_fillWord 37 (.iconst 1) 1 38 := And.intro (by decide +kernel) rfl
theorem d_X4_fillWord_38 : dk me_X4_fillWord 38 (.iadd) 1 39 := And.intro (by decide +kernel) rfl
theorem d_X4_fillWord_39 : dk me_X4_fillWord 39 (.invokestatic 155) 3 42 := And.intro (by decide +kernel) rfl
theorem d_X4_fillWord_42 : dk me_X4_fillWord 42 (.invokestatic 159) 3 45 := And.intro (by decide +kernel) rfl
theorem d_X4_fillWord_45 : dk me_X4_fillWord 45 (.goto 4) 3 48 := And.intro (by decide +kernel) rfl
theorem d_X4_fillWord_48 : dk me_X4_fillWord 48 (.iconst (-1)) 1 49 := And.intro (by decide +kernel) rfl
theorem d_X4_fillWord_49 : dk me_X4_fillWord 49 (.istore 8) 2 51 := And.intro (by decide +kernel) rfl
theorem d_X4_fillWord_51 : dk me_X4_fillWord 51 (.iload 8) 2 53 := And.intro (by decide +kernel) rfl
theorem d_X4_fillWord_53 : dk me_X4_fillWord 53 (.iconst (-1)) 1 54 := And.intro (by decide +kernel) rfl
theorem d_X4_fillWord_54 : dk me_X4_fillWord 54 (.if_icmp .eq 18) 3 57 := And.intro (by decide +kernel) rfl
theorem d_X4_fillWord_57 : dk me_X4_fillWord 57 (.aload_n 3) 1 58 := And.intro (by decide +kernel) rfl
theorem d_X4_fillWord_58 : dk me_X4_fillWord 58 (.getfield 162) 3 61 := And.intro (by decide +kernel) rfl
theorem d_X4_fillWord_61 : dk me_X4_fillWord 61 (.iload 8) 2 63 := And.intro (by decide +kernel) rfl
theorem d_X4_fillWord_63 : dk me_X4_fillWord 63 (.iaload) 1 64 := And.intro (by decide +kernel) rfl
theorem d_X4_fillWord_64 : dk me_X4_fillWord 64 (.iconst (-1)) 1 65 := And.intro (by decide +kernel) rfl
theorem d_X4_fillWord_65 : dk me_X4_fillWord 65 (.if_icmp .eq 7) 3 68 := And.intro (by decide +kernel) rfl
theorem d_X4_fillWord_68 : dk me_X4_fillWord 68 (.iconst 1) 1 69 := And.intro (by decide +kernel) rfl
theorem d_X4_fillWord_69 : dk me_X4_fillWord 69 (.goto 4) 3 72 := And.intro (by decide +kernel) rfl
theorem d_X4_fillWord_72 : dk me_X4_fillWord 72 (.iconst 0) 1 73 := And.intro (by decide +kernel) rfl
theorem d_X4_fillWord_73 : dk me_X4_fillWord 73 (.istore 9) 2 75 := And.intro (by decide +kernel) rfl
theorem d_X4_fillWord_75 : dk me_X4_fillWord 75 (.iload 9) 2 77 := And.intro (by decide +kernel) rfl
theorem d_X4_fillWord_77 : dk me_X4_fillWord 77 (.ifCond .eq 8) 3 80 := And.intro (by decide +kernel) rfl
theorem d_X4_fillWord_80 : dk me_X4_fillWord 80 (.iload 8) 2 82 := And.intro (by decide +kernel) rfl
theorem d_X4_fillWord_82 : dk me_X4_fillWord 82 (.goto 12) 3 85 := And.intro (by decide +kernel) rfl
theorem d_X4_fillWord_85 : dk me_X4_fillWord 85 (.lload_n 1) 1 86 := And.intro (by decide +kernel) rfl
theorem d_X4_fillWord_86 : dk me_X4_fillWord 86 (.iload 7) 2 88 := And.intro (by decide +kernel) rfl
theorem d_X4_fillWord_88 : dk me_X4_fillWord 88 (.invokestatic 155) 3 91 := And.intro (by decide +kernel) rfl
theorem d_X4_fillWord_91 : dk me_X4_fillWord 91 (.bipush 97) 2 93 := And.intro (by decide +kernel) rfl
theorem d_X4_fillWord_93 : dk me_X4_fillWord 93 (.isub) 1 94 := And.intro (by decide +kernel) rfl
theorem d_X4_fillWord_94 : dk me_X4_fillWord 94 (.istore 10) 2 96 := And.intro (by decide +kernel) rfl
theorem d_X4_fillWord_96 : dk me_X4_fillWord 96 (.aload_n 0) 1 97 := And.intro (by decide +kernel) rfl
theorem d_X4_fillWord_97 : dk me_X4_fillWord 97 (.getfield 46) 3 100 := And.intro (by decide +kernel) rfl
theorem d_X4_fillWord_100 : dk me_X4_fillWord 100 (.iload 10) 2 102 := And.intro (by decide +kernel) rfl
theorem d_X4_fillWord_102 : dk me_X4_fillWord 102 (.aload_n 3) 1 103 := And.intro (by decide +kernel) rfl
theorem d_X4_fillWord_103 : dk me_X4_fillWord 103 (.iload 4) 2 105 := And.intro (by decide +kernel) rfl
theorem d_X4_fillWord_105 : dk me_X4_fillWord 105 (.invokevirtual 167) 3 108 := And.intro (by decide +kernel) rfl
theorem d_X4_fillWord_108 : dk me_X4_fillWord 108 (.ifCond .ne 6) 3 111 := And.intro (by decide +kernel) rfl
theorem d_X4_fillWord_111 : dk me_X4_fillWord 111 (.iinc 5 1) 3 114 := And.intro (by decide +kernel) rfl
theorem d_X4_fillWord_114 : dk me_X4_fillWord 114 (.iload 9) 2 116 := And.intro (by decide +kernel) rfl
theorem d_X4_fillWord_116 : dk me_X4_fillWord 116 (.ifCond .eq 6) 3 119 := And.intro (by decide +kernel) rfl
theorem d_X4_fillWord_119 : dk me_X4_fillWord 119 (.iinc 7 1) 3 122 := And.intro (by decide +kernel) rfl
theorem d_X4_fillWord_122 : dk me_X4_fillWord 122 (.iinc 7 1) 3 125 := And.intro (by decide +kernel) rfl
theorem d_X4_fillWord_125 : dk me_X4_fillWord 125 (.goto (-113)) 3 128 := And.intro (by decide +kernel) rfl
theorem d_X4_fillWord_128 : dk me_X4_fillWord 128 (.iload 5) 2 130 := And.intro (by decide +kernel) rfl
theorem d_X4_fillWord_130 : dk me_X4_fillWord 130 (.ireturn) 1 131 := And.intro (by decide +kernel) rfl
theorem ms_X4_fillWord {fx : FX} {m : MM} {l0 : Nat} {l1 : Int64} {l3 : Nat} {l4 : Int} : MS fx me_X4_fillWord [aR (some (4, l0)), aL l1, aR (some (1, l3)), aI l4] m (f_X4_fillWord m l0 l1 l3 l4) := by
  refine ms_of rfl mf_X4_fillWord (b8 rfl) ?_
  refine s_top ?_
  show Sim fx me_X4_fillWord 0 [(0, aR (some (4, l0))), (1, aL l1), (3, aR (some (1, l3))), (4, aI l4)] [] m _
  unfold f_X4_fillWord
  have hj_X4_fillWord_0_128 : ∀ (m_128 : MM) (l5_128 : Int), Sim fx me_X4_fillWord 128 [(5, aI l5_128)] [] m_128 ((j_X4_fillWord_0_128 m_128 l5_128).bind (fun z => some z)) := by
    intro m_128 l5_128
    unfold j_X4_fillWord_0_128
    exact s_iload d_X4_fillWord_128 m0_ (s_iret d_X4_fillWord_130 rfl rfl)
  refine s_iconst d_X4_fillWord_0 n_0 (s_istore (L' := [(5, aI 0), (0, aR (some (4, l0))), (1, aL l1), (3, aR (some (1, l3))), (4, aI l4)]) d_X4_fillWord_1 (b8 rfl) rfl (s_lload_n d_X4_fillWord_3 m2_ (s_pI (r_SN d_X4_fillWord_4 k_X11_letters ne_6 rfl rfl) ms_X11_letters (b8 rfl) rfl rfl rfl fun v1 => (s_istore (L' := [(6, aI v1), (5, aI 0), (0, aR (some (4, l0))), (1, aL l1), (3, aR (some (1, l3))), (4, aI l4)]) d_X4_fillWord_7 (b8 rfl) rfl (s_iconst d_X4_fillWord_9 n_0 ?_)))))
  refine s_istore (L' := [(7, aI 0), (6, aI v1), (5, aI 0), (0, aR (some (4, l0))), (1, aL l1), (3, aR (some (1, l3))), (4, aI l4)]) d_X4_fillWord_10 (b8 rfl) rfl (s_sub (subc m2_ (subc m0_ (subc m3_ (subc m4_ (subc m5_ (subc m6_ (subc m1_ sub0))))))) (s_lp2 (fun s => [(5, aI (s.1)), (7, aI (s.2.1)), (0, aR (some (4, l0))), (1, aL l1), (3, aR (some (1, l3))), (4, aI l4), (6, aI v1)]) (fun s => s.2.2) (0, 0, m) fun k12 hx12 s ih0 => ?_))
  obtain ⟨l5_12, l7_12, mm_12⟩ := s
  have ih12 := ih0
  clear ih0
  try dsimp only
  unfold b_X4_fillWord_12
  have hj_X4_fillWord_12_114 : ∀ (m_114 : MM) (l5_114 : Int) (l7_114 : Int) (l9_114 : Int), Sim fx me_X4_fillWord 114 [(0, aR (some (4, l0))), (1, aL l1), (3, aR (some (1, l3))), (4, aI l4), (5, aI l5_114), (6, aI v1), (7, aI l7_114), (9, aI l9_114)] [] m_114 ((j_X4_fillWord_12_114 m_114 l0 l1 l3 l4 l5_114 v1 l7_114 l9_114).bind k12) := by
    intro m_114 l5_114 l7_114 l9_114
    unfold j_X4_fillWord_12_114
    refine s_iload d_X4_fillWord_114 m7_ (s_if_eq (tgt := 122) d_X4_fillWord_116 rfl ?_ ?_)
    · exact s_iinc (L' := [(7, aI (l7_114 + 1)), (0, aR (some (4, l0))), (1, aL l1), (3, aR (some (1, l3))), (4, aI l4), (5, aI l5_114), (6, aI v1), (9, aI l9_114)]) d_X4_fillWord_122 m6_ (b8 rfl) rfl (s_goto (tgt := 12) d_X4_fillWord_125 rfl (s_sub (subc m5_ (subc m0_ (subc m1_ (subc m2_ (subc m3_ (subc m4_ (subc m6_ sub0))))))) (s_back (ih12 (l5_114, (l7_114 + 1), m_114)))))
    exact s_iinc (L' := [(7, aI (l7_114 + 1)), (0, aR (some (4, l0))), (1, aL l1), (3, aR (some (1, l3))), (4, aI l4), (5, aI l5_114), (6, aI v1), (9, aI l9_114)]) d_X4_fillWord_119 m6_ (b8 rfl) rfl (s_iinc (L' := [(7, aI ((l7_114 + 1) + 1)), (0, aR (some (4, l0))), (1, aL l1), (3, aR (some (1, l3))), (4, aI l4), (5, aI l5_114), (6, aI v1), (9, aI l9_114)]) d_X4_fillWord_122 m0_ (b8 rfl) rfl (s_goto (tgt := 12) d_X4_fillWord_125 rfl (s_sub (subc m5_ (subc m0_ (subc m1_ (subc m2_ (subc m3_ (subc m4_ (subc m6_ sub0))))))) (s_back (ih12 (l5_114, ((l7_114 + 1) + 1), m_114))))))
  have hj_X4_fillWord_12_94 : ∀ (m_94 : MM) (l5_94 : Int) (l7_94 : Int) (l9_94 : Int) (s0_94 : Int), Sim fx me_X4_fillWord 94 [(0, aR (some (4, l0))), (1, aL l1), (3, aR (some (1, l3))), (4, aI l4), (5, aI l5_94), (6, aI v1), (7, aI l7_94), (9, aI l9_94)] [aI s0_94] m_94 ((j_X4_fillWord_12_94 m_94 l0 l1 l3 l4 l5_94 v1 l7_94 l9_94 s0_94).bind k12) := by
    intro m_94 l5_94 l7_94 l9_94 s0_94
    unfold j_X4_fillWord_12_94
    refine s_istore (L' := [(10, aI s0_94), (0, aR (some (4, l0))), (1, aL l1), (3, aR (some (1, l3))), (4, aI l4), (5, aI l5_94), (6, aI v1), (7, aI l7_94), (9, aI l9_94)]) d_X4_fillWord_94 (b8 rfl) rfl (s_aload_n d_X4_fillWord_96 m1_ (s_getR cf d_X4_fillWord_97 fl_X4_46 (s_nk fun i8 => (s_iload d_X4_fillWord_100 m0_ (s_aload_n d_X4_fillWord_102 m3_ ?_)))))
    refine s_iload d_X4_fillWord_103 m4_ (s_cI (r_V d_X4_fillWord_105 k_X5_fillNext w_962 rfl rfl) ms_X5_fillNext (b8 rfl) rfl rfl rfl (fun _ _ _ => rfl) (fun _ _ => Or.inl rfl) fun v10 m9 => (s_if_ne (tgt := 114) d_X4_fillWord_108 rfl ?_ ?_))
    · exact s_sub (subc m1_ (subc m2_ (subc m3_ (subc m4_ (subc m5_ (subc m6_ (subc m7_ (subc m8_ sub0)))))))) (hj_X4_fillWord_12_114 m9 l5_94 l7_94 l9_94)
    exact s_iinc (L' := [(5, aI (l5_94 + 1)), (10, aI s0_94), (0, aR (some (4, l0))), (1, aL l1), (3, aR (some (1, l3))), (4, aI l4), (6, aI v1), (7, aI l7_94), (9, aI l9_94)]) d_X4_fillWord_111 m5_ (b8 rfl) rfl (s_sub (subc m2_ (subc m3_ (subc m4_ (subc m5_ (subc m0_ (subc m6_ (subc m7_ (subc m8_ sub0)))))))) (hj_X4_fillWord_12_114 m9 (l5_94 + 1) l7_94 l9_94))
  have hj_X4_fillWord_12_73 : ∀ (m_73 : MM) (l5_73 : Int) (l7_73 : Int) (l8_73 : Int) (s0_73 : Int), Sim fx me_X4_fillWord 73 [(0, aR (some (4, l0))), (1, aL l1), (3, aR (some (1, l3))), (4, aI l4), (5, aI l5_73), (6, aI v1), (7, aI l7_73), (8, aI l8_73)] [aI s0_73] m_73 ((j_X4_fillWord_12_73 m_73 l0 l1 l3 l4 l5_73 v1 l7_73 l8_73 s0_73).bind k12) := by
    intro m_73 l5_73 l7_73 l8_73 s0_73
    unfold j_X4_fillWord_12_73
    refine s_istore (L' := [(9, aI s0_73), (0, aR (some (4, l0))), (1, aL l1), (3, aR (some (1, l3))), (4, aI l4), (5, aI l5_73), (6, aI v1), (7, aI l7_73), (8, aI l8_73)]) d_X4_fillWord_73 (b8 rfl) rfl (s_iload d_X4_fillWord_75 m0_ (s_if_eq (tgt := 85) d_X4_fillWord_77 rfl ?_ ?_))
    · refine s_lload_n d_X4_fillWord_85 m2_ (s_iload d_X4_fillWord_86 m7_ (s_pI (r_SN d_X4_fillWord_88 k_X11_letterAt ne_8 rfl rfl) ms_X11_letterAt (b8 rfl) rfl rfl rfl fun v7 => (s_bipush d_X4_fillWord_91 n_97 rfl (s_isub d_X4_fillWord_93 rfl rfl (s_ck ?_)))))
      exact s_sub (subc m1_ (subc m2_ (subc m3_ (subc m4_ (subc m5_ (subc m6_ (subc m7_ (subc m0_ sub0)))))))) (hj_X4_fillWord_12_94 m_73 l5_73 l7_73 s0_73 (v7 - 97))
    exact s_iload d_X4_fillWord_80 m8_ (s_goto (tgt := 94) d_X4_fillWord_82 rfl (s_sub (subc m1_ (subc m2_ (subc m3_ (subc m4_ (subc m5_ (subc m6_ (subc m7_ (subc m0_ sub0)))))))) (hj_X4_fillWord_12_94 m_73 l5_73 l7_73 s0_73 l8_73)))
  have hj_X4_fillWord_12_72 : ∀ (m_72 : MM) (l5_72 : Int) (l7_72 : Int) (l8_72 : Int), Sim fx me_X4_fillWord 72 [(0, aR (some (4, l0))), (1, aL l1), (3, aR (some (1, l3))), (4, aI l4), (5, aI l5_72), (6, aI v1), (7, aI l7_72), (8, aI l8_72)] [] m_72 ((j_X4_fillWord_12_72 m_72 l0 l1 l3 l4 l5_72 v1 l7_72 l8_72).bind k12) := by
    intro m_72 l5_72 l7_72 l8_72
    unfold j_X4_fillWord_12_72
    exact s_iconst d_X4_fillWord_72 n_0 (s_sub (subc m0_ (subc m1_ (subc m2_ (subc m3_ (subc m4_ (subc m5_ (subc m6_ (subc m7_ sub0)))))))) (hj_X4_fillWord_12_73 m_72 l5_72 l7_72 l8_72 0))
  have hj_X4_fillWord_12_49 : ∀ (m_49 : MM) (l5_49 : Int) (l7_49 : Int) (s0_49 : Int), Sim fx me_X4_fillWord 49 [(0, aR (some (4, l0))), (1, aL l1), (3, aR (some (1, l3))), (4, aI l4), (5, aI l5_49), (6, aI v1), (7, aI l7_49)] [aI s0_49] m_49 ((j_X4_fillWord_12_49 m_49 l0 l1 l3 l4 l5_49 v1 l7_49 s0_49).bind k12) := by
    intro m_49 l5_49 l7_49 s0_49
    unfold j_X4_fillWord_12_49
    refine s_istore (L' := [(8, aI s0_49), (0, aR (some (4, l0))), (1, aL l1), (3, aR (some (1, l3))), (4, aI l4), (5, aI l5_49), (6, aI v1), (7, aI l7_49)]) d_X4_fillWord_49 (b8 rfl) rfl (s_iload d_X4_fillWord_51 m0_ (s_iconst d_X4_fillWord_53 n_m1 (s_icmp_eq (tgt := 72) d_X4_fillWord_54 rfl ?_ ?_)))
    · exact s_sub (subc m1_ (subc m2_ (subc m3_ (subc m4_ (subc m5_ (subc m6_ (subc m7_ (subc m0_ sub0)))))))) (hj_X4_fillWord_12_72 m_49 l5_49 l7_49 s0_49)
    refine s_aload_n d_X4_fillWord_57 m3_ (s_getR cf d_X4_fillWord_58 fl_X4_162 (s_nk fun i5 => (s_iload d_X4_fillWord_61 m0_ (s_ldN d_X4_fillWord_63 ka_24 rfl fun v6 => (s_iconst d_X4_fillWord_64 n_m1 ?_)))))
    refine s_icmp_eq (tgt := 72) d_X4_fillWord_65 rfl ?_ ?_
    · exact s_sub (subc m1_ (subc m2_ (subc m3_ (subc m4_ (subc m5_ (subc m6_ (subc m7_ (subc m0_ sub0)))))))) (hj_X4_fillWord_12_72 m_49 l5_49 l7_49 s0_49)
    exact s_iconst d_X4_fillWord_68 n_1 (s_goto (tgt := 73) d_X4_fillWord_69 rfl (s_sub (subc m1_ (subc m2_ (subc m3_ (subc m4_ (subc m5_ (subc m6_ (subc m7_ (subc m0_ sub0)))))))) (hj_X4_fillWord_12_73 m_49 l5_49 l7_49 s0_49 1)))
  refine s_iload d_X4_fillWord_12 m1_ (s_iload d_X4_fillWord_14 m6_ (s_icmp_ge (tgt := 128) d_X4_fillWord_16 rfl ?_ ?_))
  · exact s_exit (hx12 _) (s_sub (subc m0_ sub0) (hj_X4_fillWord_0_128 mm_12 l5_12))
  refine s_iload d_X4_fillWord_19 m1_ (s_iconst d_X4_fillWord_21 n_1 (s_iadd d_X4_fillWord_22 rfl rfl (s_iload d_X4_fillWord_23 m6_ (s_ck1 (s_icmp_ge (tgt := 48) d_X4_fillWord_25 rfl ?_ ?_)))))
  · exact s_iconst d_X4_fillWord_48 n_m1 (s_sub (subc m2_ (subc m3_ (subc m4_ (subc m5_ (subc m0_ (subc m6_ (subc m1_ sub0))))))) (hj_X4_fillWord_12_49 mm_12 l5_12 l7_12 (-1)))
  refine s_lload_n d_X4_fillWord_28 m3_ (s_iload d_X4_fillWord_29 m1_ (s_pI (r_SN d_X4_fillWord_31 k_X11_letterAt ne_8 rfl rfl) ms_X11_letterAt (b8 rfl) rfl rfl rfl fun v2 => (s_lload_n d_X4_fillWord_34 m3_ (s_iload d_X4_fillWord_35 m1_ (s_iconst d_X4_fillWord_37 n_1 ?_)))))
  exact s_iadd d_X4_fillWord_38 rfl rfl (s_ck (s_pI (r_SN d_X4_fillWord_39 k_X11_letterAt ne_8 rfl rfl) ms_X11_letterAt (b8 rfl) rfl rfl rfl fun v3 => (s_pI (r_S d_X4_fillWord_42 k_X4_joined w_959 rfl rfl) ms_X4_joined (b8 rfl) rfl rfl rfl fun v4 => (s_goto (tgt := 49) d_X4_fillWord_45 rfl (s_sub (subc m2_ (subc m3_ (subc m4_ (subc m5_ (subc m0_ (subc m6_ (subc m1_ sub0))))))) (hj_X4_fillWord_12_49 mm_12 l5_12 l7_12 v4))))))
theorem d_X4_fillPlaces_0 : dk me_X4_fillPlaces 0 (.iconst 0) 1 1 := And.intro (by decide +kernel) rfl
theorem d_X4_fillPlaces_1 : dk me_X4_fillPlaces 1 (.istore 4) 2 3 := And.intro (by decide +kernel) rfl
theorem d_X4_fillPlaces_3 : dk me_X4_fillPlaces 3 (.iconst 0) 1 4 := And.intro (by decide +kernel) rfl
theorem d_X4_fillPlaces_4 : dk me_X4_fillPlaces 4 (.istore 5) 2 6 := And.intro (by decide +kernel) rfl
theorem d_X4_fillPlaces_6 : dk me_X4_fillPlaces 6 (.iload 5) 2 8 := And.intro (by decide +kernel) rfl
theorem d_X4_fillPlaces_8 : dk me_X4_fillPlaces 8 (.aload_n 0) 1 9 := And.intro (by decide +kernel) rfl
theorem d_X4_fillPlaces_9 : dk me_X4_fillPlaces 9 (.getfield 54) 3 12 := And.intro (by decide +kernel) rfl
theorem d_X4_fillPlaces_12 : dk me_X4_fillPlaces 12 (.if_icmp .ge 52) 3 15 := And.intro (by decide +kernel) rfl
theorem d_X4_fillPlaces_15 : dk me_X4_fillPlaces 15 (.aload_n 0) 1 16 := And.intro (by decide +kernel) rfl
theorem d_X4_fillPlaces_16 : dk me_X4_fillPlaces 16 (.getfield 22) 3 19 := And.intro (by decide +kernel) rfl
theorem d_X4_fillPlaces_19 : dk me_X4_fillPlaces 19 (.iload 5) 2 21 := And.intro (by decide +kernel) rfl
theorem d_X4_fillPlaces_21 : dk me_X4_fillPlaces 21 (.aload_n 0) 1 22 := And.intro (by decide +kernel) rfl
theorem d_X4_fillPlaces_22 : dk me_X4_fillPlaces 22 (.getfield 46) 3 25 := And.intro (by decide +kernel) rfl
theorem d_X4_fillPlaces_25 : dk me_X4_fillPlaces 25 (.getfield 67) 3 28 := And.intro (by decide +kernel) rfl
theorem d_X4_fillPlaces_28 : dk me_X4_fillPlaces 28 (.iastore) 1 29 := And.intro (by decide +kernel) rfl
theorem d_X4_fillPlaces_29 : dk me_X4_fillPlaces 29 (.iload 4) 2 31 := And.intro (by decide +kernel) rfl
theorem d_X4_fillPlaces_31 : dk me_X4_fillPlaces 31 (.aload_n 0) 1 32 := And.intro (by decide +kernel) rfl
theorem d_X4_fillPlaces_32 : dk me_X4_fillPlaces 32 (.aload_n 1) 1 33 := And.intro (by decide +kernel) rfl
theorem d_X4_fillPlaces_33 : dk me_X4_fillPlaces 33 (.aload_n 0) 1 34 := And.intro (by decide +kernel) rfl
theorem d_X4_fillPlaces_34 : dk me_X4_fillPlaces 34 (.getfield 9) 3 37 := And.intro (by decide +kernel) rfl
theorem d_X4_fillPlaces_37 : dk me_X4_fillPlaces 37 (.iload 5) 2 39 := And.intro (by decide +kernel) rfl
theorem d_X4_fillPlaces_39 : dk me_X4_fillPlaces 39 (.iaload) 1 40 := And.intro (by decide +kernel) rfl
theorem d_X4_fillPlaces_40 : dk me_X4_fillPlaces 40 (.aload_n 0) 1 41 := And.intro (by decide +kernel) rfl
theorem d_X4_fillPlaces_41 : dk me_X4_fillPlaces 41 (.getfield 15) 3 44 := And.intro (by decide +kernel) rfl
theorem d_X4_fillPlaces_44 : dk me_X4_fillPlaces 44 (.iload 5) 2 46 := And.intro (by decide +kernel) rfl
theorem d_X4_fillPlaces_46 : dk me_X4_fillPlaces 46 (.baload) 1 47 := And.intro (by decide +kernel) rfl
theorem d_X4_fillPlaces_47 : dk me_X4_fillPlaces 47 (.invokevirtual 116) 3 50 := And.intro (by decide +kernel) rfl
theorem d_X4_fillPlaces_50 : dk me_X4_fillPlaces 50 (.aload_n 2) 1 51 := And.intro (by decide +kernel) rfl
theorem d_X4_fillPlaces_51 : dk me_X4_fillPlaces 51 (.iload_n 3) 1 52 := And.intro (by decide +kernel) rfl
theorem d_X4_fillPlaces_52 : dk me_X4_fillPlaces 52 (.invokevirtual 151) 3 55 := And.intro (by decide +kernel) rfl
theorem d_X4_fillPlaces_55 : dk me_X4_fillPlaces 55 (.iadd) 1 56 := And.intro (by decide +kernel) rfl
theorem d_X4_fillPlaces_56 : dk me_X4_fillPlaces 56 (.istore 4) 2 58 := And.intro (by decide +kernel) rfl
theorem d_X4_fillPlaces_58 : dk me_X4_fillPlaces 58 (.iinc 5 1) 3 61 := And.intro (by decide +kernel) rfl
theorem d_X4_fillPlaces_61 : dk me_X4_fillPlaces 61 (.goto (-55)) 3 64 := And.intro (by decide +kernel) rfl
theorem d_X4_fillPlaces_64 : dk me_X4_fillPlaces 64 (.aload_n 0) 1 65 := And.intro (by decide +kernel) rfl
theorem d_X4_fillPlaces_65 : dk me_X4_fillPlaces 65 (.getfield 22) 3 68 := And.intro (by decide +kernel) rfl
theorem d_X4_fillPlaces_68 : dk me_X4_fillPlaces 68 (.aload_n 0) 1 69 := And.intro (by decide +kernel) rfl
theorem d_X4_fillPlaces_69 : dk me_X4_fillPlaces 69 (.getfield 54) 3 72 := And.intro (by decide +kernel) rfl
theorem d_X4_fillPlaces_72 : dk me_X4_fillPlaces 72 (.aload_n 0) 1 73 := And.intro (by decide +kernel) rfl
theorem d_X4_fillPlaces_73 : dk me_X4_fillPlaces 73 (.getfield 46) 3 76 := And.intro (by decide +kernel) rfl
theorem d_X4_fillPlaces_76 : dk me_X4_fillPlaces 76 (.getfield 67) 3 79 := And.intro (by decide +kernel) rfl
theorem d_X4_fillPlaces_79 : dk me_X4_fillPlaces 79 (.iastore) 1 80 := And.intro (by decide +kernel) rfl
theorem d_X4_fillPlaces_80 : dk me_X4_fillPlaces 80 (.iload 4) 2 82 := And.intro (by decide +kernel) rfl
theorem d_X4_fillPlaces_82 : dk me_X4_fillPlaces 82 (.ireturn) 1 83 := And.intro (by decide +kernel) rfl
theorem ms_X4_fillPlaces {fx : FX} {m : MM} {l0 : Nat} {l1 : Nat} {l2 : Nat} {l3 : Int} : MS fx me_X4_fillPlaces [aR (some (4, l0)), aR (some (9, l1)), aR (some (1, l2)), aI l3] m (f_X4_fillPlaces m l0 l1 l2 l3) := by
  refine ms_of rfl mf_X4_fillPlaces (b8 rfl) ?_
  refine s_top ?_
  show Sim fx me_X4_fillPlaces 0 [(0, aR (some (4, l0))), (1, aR (some (9, l1))), (2, aR (some (1, l2))), (3, aI l3)] [] m _
  unfold f_X4_fillPlaces
  have hj_X4_fillPlaces_0_64 : ∀ (m_64 : MM) (l0_64 : Nat) (l4_64 : Int), Sim fx me_X4_fillPlaces 64 [(0, aR (some (4, l0_64))), (4, aI l4_64)] [] m_64 ((j_X4_fillPlaces_0_64 m_64 l0_64 l4_64).bind (fun z => some z)) := by
    intro m_64 l0_64 l4_64
    unfold j_X4_fillPlaces_0_64
    refine s_aload_n d_X4_fillPlaces_64 m0_ (s_getR cf d_X4_fillPlaces_65 fl_X4_22 (s_nk fun i11 => (s_aload_n d_X4_fillPlaces_68 m0_ (s_getN cf d_X4_fillPlaces_69 fl_X4_54 (s_aload_n d_X4_fillPlaces_72 m0_ ?_)))))
    exact s_getR cf d_X4_fillPlaces_73 fl_X4_46 (s_nk fun i12 => (s_getN cf d_X4_fillPlaces_76 fl_X4_67 (s_stN d_X4_fillPlaces_79 ka_30 rfl fun m13 => (s_iload d_X4_fillPlaces_80 m1_ (s_iret d_X4_fillPlaces_82 rfl rfl)))))
  refine s_iconst d_X4_fillPlaces_0 n_0 (s_istore (L' := [(4, aI 0), (0, aR (some (4, l0))), (1, aR (some (9, l1))), (2, aR (some (1, l2))), (3, aI l3)]) d_X4_fillPlaces_1 (b8 rfl) rfl (s_iconst d_X4_fillPlaces_3 n_0 (s_istore (L' := [(5, aI 0), (4, aI 0), (0, aR (some (4, l0))), (1, aR (some (9, l1))), (2, aR (some (1, l2))), (3, aI l3)]) d_X4_fillPlaces_4 (b8 rfl) rfl (s_sub (subc m1_ (subc m0_ (subc m2_ (subc m3_ (subc m4_ (subc m5_ sub0)))))) (s_lp2 (fun s => [(4, aI (s.1)), (5, aI (s.2.1)), (0, aR (some (4, l0))), (1, aR (some (9, l1))), (2, aR (some (1, l2))), (3, aI l3)]) (fun s => s.2.2) (0, 0, m) fun k6 hx6 s ih0 => ?_)))))
  obtain ⟨l4_6, l5_6, mm_6⟩ := s
  have ih6 := ih0
  clear ih0
  try dsimp only
  unfold b_X4_fillPlaces_6
  refine s_iload d_X4_fillPlaces_6 m1_ (s_aload_n d_X4_fillPlaces_8 m2_ (s_getN cf d_X4_fillPlaces_9 fl_X4_54 (s_icmp_ge (tgt := 64) d_X4_fillPlaces_12 rfl ?_ ?_)))
  · exact s_exit (hx6 _) (s_sub (subc m2_ (subc m0_ sub0)) (hj_X4_fillPlaces_0_64 mm_6 l0 l4_6))
  refine s_aload_n d_X4_fillPlaces_15 m2_ (s_getR cf d_X4_fillPlaces_16 fl_X4_22 (s_nk fun i1 => (s_iload d_X4_fillPlaces_19 m1_ (s_aload_n d_X4_fillPlaces_21 m2_ (s_getR cf d_X4_fillPlaces_22 fl_X4_46 ?_)))))
  refine s_nk fun i2 => (s_getN cf d_X4_fillPlaces_25 fl_X4_67 (s_stN d_X4_fillPlaces_28 ka_30 rfl fun m3 => (s_iload d_X4_fillPlaces_29 m0_ (s_aload_n d_X4_fillPlaces_31 m2_ (s_aload_n d_X4_fillPlaces_32 m3_ ?_)))))
  refine s_aload_n d_X4_fillPlaces_33 m2_ (s_getR cf d_X4_fillPlaces_34 fl_X4_9 (s_nk fun i4 => (s_iload d_X4_fillPlaces_37 m1_ (s_ldN d_X4_fillPlaces_39 ka_27 rfl fun v5 => (s_aload_n d_X4_fillPlaces_40 m2_ ?_)))))
  refine s_getR cf d_X4_fillPlaces_41 fl_X4_15 (s_nk fun i6 => (s_iload d_X4_fillPlaces_44 m1_ (s_ldB d_X4_fillPlaces_46 ka_28 rfl fun v7 => (s_pL (r_V d_X4_fillPlaces_47 k_X9_form w_923 rfl rfl) ms_X9_form (b8 rfl) rfl rfl rfl fun v8 => (s_aload_n d_X4_fillPlaces_50 m4_ ?_)))))
  refine s_iload_n d_X4_fillPlaces_51 m5_ (s_cI (r_V d_X4_fillPlaces_52 k_X4_fillWord w_954 rfl rfl) ms_X4_fillWord (b8 rfl) rfl rfl rfl (fun _ _ _ => rfl) (fun _ _ => Or.inl rfl) fun v10 m9 => (s_iadd d_X4_fillPlaces_55 rfl rfl (s_ck (s_istore (L' := [(4, aI (l4_6 + v10)), (5, aI l5_6), (0, aR (some (4, l0))), (1, aR (some (9, l1))), (2, aR (some (1, l2))), (3, aI l3)]) d_X4_fillPlaces_56 (b8 rfl) rfl (s_iinc (L' := [(5, aI (l5_6 + 1)), (4, aI (l4_6 + v10)), (0, aR (some (4, l0))), (1, aR (some (9, l1))), (2, aR (some (1, l2))), (3, aI l3)]) d_X4_fillPlaces_58 m1_ (b8 rfl) rfl ?_)))))
  exact s_goto (tgt := 6) d_X4_fillPlaces_61 rfl (s_sub (subc m1_ (subc m0_ (subc m2_ (subc m3_ (subc m4_ (subc m5_ sub0)))))) (s_back (ih6 ((l4_6 + v10), (l5_6 + 1), m9))))
theorem d_X11_set_0 : dk me_X11_set 0 (.aload_n 0) 1 1 := And.intro (by decide +kernel) rfl
theorem d_X11_set_1 : dk me_X11_set 1 (.iload_n 1) 1 2 := And.intro (by decide +kernel) rfl
theorem d_X11_set_2 : dk me_X11_set 2 (.invokevirtual 143) 3 5 := And.intro (by decide +kernel) rfl
theorem d_X11_set_5 : dk me_X11_set 5 (.astore 4) 2 7 := And.intro (by decide +kernel) rfl
theorem d_X11_set_7 : dk me_X11_set 7 (.aload 4) 2 9 := And.intro (by decide +kernel) rfl
theorem d_X11_set_9 : dk me_X11_set 9 (.iload_n 2) 1 10 := And.intro (by decide +kernel) rfl
theorem d_X11_set_10 : dk me_X11_set 10 (.invokestatic 192) 3 13 := And.intro (by decide +kernel) rfl
theorem d_X11_set_13 : dk me_X11_set 13 (.astore 5) 2 15 := And.intro (by decide +kernel) rfl
theorem d_X11_set_15 : dk me_X11_set 15 (.aload_n 0) 1 16 := And.intro (by decide +kernel) rfl
theorem d_X11_set_16 : dk me_X11_set 16 (.iload_n 3) 1 17 := And.intro (by decide +kernel) rfl
theorem d_X11_set_17 : dk me_X11_set 17 (.invokevirtual 196) 3 20 := And.intro (by decide +kernel) rfl
theorem d_X11_set_20 : dk me_X11_set 20 (.astore 6) 2 22 := And.intro (by decide +kernel) rfl
theorem d_X11_set_22 : dk me_X11_set 22 (.aload 4) 2 24 := And.intro (by decide +kernel) rfl
theorem d_X11_set_24 : dk me_X11_set 24 (.getfield 153) 3 27 := And.intro (by decide +kernel) rfl
theorem d_X11_set_27 : dk me_X11_set 27 (.getfield 157) 3 30 := And.intro (by decide +kernel) rfl
theorem d_X11_set_30 : dk me_X11_set 30 (.ifCond .le 15) 3 33 := And.intro (by decide +kernel) rfl
theorem d_X11_set_33 : dk me_X11_set 33 (.aload 5) 2 35 := And.intro (by decide +kernel) rfl
theorem d_X11_set_35 : dk me_X11_set 35 (.invokevirtual 200) 3 38 := And.intro (by decide +kernel) rfl
theorem d_X11_set_38 : dk me_X11_set 38 (.ifCond .ne 7) 3 41 := And.intro (by decide +kernel) rfl
theorem d_X11_set_41 : dk me_X11_set 41 (.iconst 1) 1 42 := And.intro (by decide +kernel) rfl
theorem d_X11_set_42 : dk me_X11_set 42 (.goto 4) 3 45 := And.intro (by decide +kernel) rfl
theorem d_X11_set_45 : dk me_X11_set 45 (.iconst 0) 1 46 := And.intro (by decide +kernel) rfl
theorem d_X11_set_46 : dk me_X11_set 46 (.invokestatic 69) 3 49 := And.intro (by decide +kernel) rfl
theorem d_X11_set_49 : dk me_X11_set 49 (.aload 4) 2 51 := And.intro (by decide +kernel) rfl
theorem d_X11_set_51 : dk me_X11_set 51 (.iload_n 2) 1 52 := And.intro (by decide +kernel) rfl
theorem d_X11_set_52 : dk me_X11_set 52 (.invokevirtual 188) 3 55 := And.intro (by decide +kernel) rfl
theorem d_X11_set_55 : dk me_X11_set 55 (.istore 7) 2 57 := And.intro (by decide +kernel) rfl
theorem d_X11_set_57 : dk me_X11_set 57 (.iload 7) 2 59 := And.intro (by decide +kernel) rfl
theorem d_X11_set_59 : dk me_X11_set 59 (.iconst (-1)) 1 60 := And.intro (by decide +kernel) rfl
theorem d_X11_set_60 : dk me_X11_set 60 (.if_icmp .eq 7) 3 63 := And.intro (by decide +kernel) rfl
theorem d_X11_set_63 : dk me_X11_set 63 (.iconst 1) 1 64 := And.intro (by decide +kernel) rfl
theorem d_X11_set_64 : dk me_X11_set 64 (.goto 4) 3 67 := And.intro (by decide +kernel) rfl
theorem d_X11_set_67 : dk me_X11_set 67 (.iconst 0) 1 68 := And.intro (by decide +kernel) rfl
theorem d_X11_set_68 : dk me_X11_set 68 (.invokestatic 69) 3 71 := And.intro (by decide +kernel) rfl
theorem d_X11_set_71 : dk me_X11_set 71 (.aload 5) 2 73 := And.intro (by decide +kernel) rfl
theorem d_X11_set_73 : dk me_X11_set 73 (.aload 4) 2 75 := And.intro (by decide +kernel) rfl
theorem d_X11_set_75 : dk me_X11_set 75 (.getfield 153) 3 78 := And.intro (by decide +kernel) rfl
theorem d_X11_set_78 : dk me_X11_set 78 (.aload 6) 2 80 := And.intro (by decide +kernel) rfl
theorem d_X11_set_80 : dk me_X11_set 80 (.iload 7) 2 82 := And.intro (by decide +kernel) rfl
theorem d_X11_set_82 : dk me_X11_set 82 (.aload 4) 2 84 := And.intro (by decide +kernel) rfl
theorem d_X11_set_84 : dk me_X11_set 84 (.iload_n 2) 1 85 := And.intro (by decide +kernel) rfl
theorem d_X11_set_85 : dk me_X11_set 85 (.invokevirtual 205) 3 88 := And.intro (by decide +kernel) rfl
theorem d_X11_set_88 : dk me_X11_set 88 (.aload 4) 2 90 := And.intro (by decide +kernel) rfl
theorem d_X11_set_90 : dk me_X11_set 90 (.getfield 160) 3 93 := And.intro (by decide +kernel) rfl
theorem d_X11_set_93 : dk me_X11_set 93 (.invokevirtual 208) 3 96 := And.intro (by decide +kernel) rfl
theorem d_X11_set_96 : dk me_X11_set 96 (.aload 5) 2 98 := And.intro (by decide +kernel) rfl
theorem d_X11_set_98 : dk me_X11_set 98 (.iload_n 3) 1 99 := And.intro (by decide +kernel) rfl
theorem d_X11_set_99 : dk me_X11_set 99 (.putfield 212) 3 102 := And.intro (by decide +kernel) rfl
theorem d_X11_set_102 : dk me_X11_set 102 (.aload 5) 2 104 := And.intro (by decide +kernel) rfl
theorem d_X11_set_104 : dk me_X11_set 104 (.aload 4) 2 106 := And.intro (by decide +kernel) rfl
theorem d_X11_set_106 : dk me_X11_set 106 (.getfield 153) 3 109 := And.intro (by decide +kernel) rfl
theorem d_X11_set_109 : dk me_X11_set 109 (.aload_n 0) 1 110 := And.intro (by decide +kernel) rfl
theorem d_X11_set_110 : dk me_X11_set 110 (.getfield 19) 3 113 := And.intro (by decide +kernel) rfl
theorem d_X11_set_113 : dk me_X11_set 113 (.bipush 100) 2 115 := And.intro (by decide +kernel) rfl
theorem d_X11_set_115 : dk me_X11_set 115 (.bipush 100) 2 117 := And.intro (by decide +kernel) rfl
theorem d_X11_set_117 : dk me_X11_set 117 (.iload_n 1) 1 118 := And.intro (by decide +kernel) rfl
theorem d_X11_set_118 : dk me_X11_set 118 (.imul) 1 119 := And.intro (by decide +kernel) rfl
theorem d_X11_set_119 : dk me_X11_set 119 (.iadd) 1 120 := And.intro (by decide +kernel) rfl
theorem d_X11_set_120 : dk me_X11_set 120 (.iload_n 2) 1 121 := And.intro (by decide +kernel) rfl
theorem d_X11_set_121 : dk me_X11_set 121 (.iadd) 1 122 := And.intro (by decide +kernel) rfl
theorem d_X11_set_122 : dk me_X11_set 122 (.invokevirtual 215) 3 125 := And.intro (by decide +kernel) rfl
theorem d_X11_set_125 : dk me_X11_set 125 (.istore 8) 2 127 := And.intro (by decide +kernel) rfl
theorem d_X11_set_127 : dk me_X11_set 127 (.aload 6) 2 129 := And.intro (by decide +kernel) rfl
theorem d_X11_set_129 : dk me_X11_set 129 (.dup) 1 130 := And.intro (by decide +kernel) rfl
theorem d_X11_set_130 : dk me_X11_set 130 (.getfield 219) 3 133 := And.intro (by decide +kernel) rfl
theorem d_X11_set_133 : dk me_X11_set 133 (.aload 5) 2 135 := And.intro (by decide +kernel) rfl
theorem d_X11_set_135 : dk me_X11_set 135 (.getfield 222) 3 138 := And.intro (by decide +kernel) rfl
theorem d_X11_set_138 : dk me_X11_set 138 (.getfield 226) 3 141 := And.intro (by decide +kernel) rfl
theorem d_X11_set_141 : dk me_X11_set 141 (.iload 8) 2 143 := And.intro (by decide +kernel) rfl
theorem d_X11_set_143 : dk me_X11_set 143 (.isub) 1 144 := And.intro (by decide +kernel) rfl
theorem d_X11_set_144 : dk me_X11_set 144 (.iadd) 1 145 := And.intro (by decide +kernel) rfl
theorem d_X11_set_145 : dk me_X11_set 145 (.putfield 219) 3 148 := And.intro (by decide +kernel) rfl
theorem d_X11_set_148 : dk me_X11_set 148 (.iload 8) 2 150 := And.intro (by decide +kernel) rfl
theorem d_X11_set_150 : dk me_X11_set 150 (.ireturn) 1 151 := And.intro (by decide +kernel) rfl
theorem ms_X11_set {fx : FX} {m : MM} {l0 : Nat} {l1 : Int} {l2 : Int} {l3 : Int} : MS fx me_X11_set [aR (some (11, l0)), aI l1, aI l2, aI l3] m (f_X11_set m l0 l1 l2 l3) := by
  refine ms_of rfl mf_X11_set (b8 rfl) ?_
  refine s_top ?_
  show Sim fx me_X11_set 0 [(0, aR (some (11, l0))), (1, aI l1), (2, aI l2), (3, aI l3)] [] m _
  unfold f_X11_set
  have hj_X11_set_0_68 : ∀ (m_68 : MM) (l0_68 : Nat) (l1_68 : Int) (l2_68 : Int) (l3_68 : Int) (l4_68 : Nat) (l5_68 : Nat) (l6_68 : Nat) (l7_68 : Int) (s0_68 : Int), Sim fx me_X11_set 68 [(0, aR (some (11, l0_68))), (1, aI l1_68), (2, aI l2_68), (3, aI l3_68), (4, aR (some (0, l4_68))), (5, aR (some (4, l5_68))), (6, aR (some (3, l6_68))), (7, aI l7_68)] [aI s0_68] m_68 ((j_X11_set_0_68 m_68 l0_68 l1_68 l2_68 l3_68 l4_68 l5_68 l6_68 l7_68 s0_68).bind (fun z => some z)) := by
    intro m_68 l0_68 l1_68 l2_68 l3_68 l4_68 l5_68 l6_68 l7_68 s0_68
    unfold j_X11_set_0_68
    refine s_cV (r_S d_X11_set_68 k_X11_requireState w_363 rfl rfl) ms_X11_requireState (b8 rfl) rfl rfl rfl (fun h => by cases h) (fun _ _ => Or.inr rfl) fun m15 => (s_aload d_X11_set_71 m5_ (s_aload d_X11_set_73 m4_ (s_getR cf d_X11_set_75 fl_X11_153 (s_nk fun i17 => (s_aload d_X11_set_78 m6_ ?_)))))
    refine s_iload d_X11_set_80 m7_ (s_aload d_X11_set_82 m4_ (s_iload_n d_X11_set_84 m2_ (s_pI (r_V d_X11_set_85 k_X0_wordBehindPart w_898 rfl rfl) ms_X0_wordBehindPart (b8 rfl) rfl rfl rfl fun v18 => (s_aload d_X11_set_88 m4_ (s_getB cf d_X11_set_90 fl_X11_160 ?_)))))
    refine s_cV (r_V d_X11_set_93 k_X4_compose w_902 rfl rfl) ms_X4_compose (b8 rfl) rfl rfl rfl (fun _ _ _ => rfl) (fun _ _ => Or.inl rfl) fun m19 => (s_aload d_X11_set_96 m5_ (s_iload_n d_X11_set_98 m3_ (s_putN cf d_X11_set_99 fl_X11_212 (fun h => by cases h) fun m21 => (s_aload d_X11_set_102 m5_ (s_aload d_X11_set_104 m4_ ?_)))))
    refine s_getR cf d_X11_set_106 fl_X11_153 (s_nk fun i22 => (s_aload_n d_X11_set_109 m0_ (s_getR cf d_X11_set_110 fl_X11_19 (s_nk fun i23 => (s_bipush d_X11_set_113 n_100 rfl ?_)))))
    refine s_bipush d_X11_set_115 n_100 rfl (s_iload_n d_X11_set_117 m1_ (s_imul d_X11_set_118 rfl rfl (s_iadd d_X11_set_119 rfl rfl (s_iload_n d_X11_set_120 m2_ (s_iadd d_X11_set_121 rfl rfl ?_)))))
    refine s_ck (s_cI (r_V d_X11_set_122 k_X4_fillPlaces w_950 rfl rfl) ms_X4_fillPlaces (b8 rfl) rfl rfl rfl (fun _ _ _ => rfl) (fun _ _ => Or.inl rfl) fun v25 m24 => (s_istore (L' := [(8, aI v25), (0, aR (some (11, l0_68))), (1, aI l1_68), (2, aI l2_68), (3, aI l3_68), (4, aR (some (0, l4_68))), (5, aR (some (4, l5_68))), (6, aR (some (3, l6_68))), (7, aI l7_68)]) d_X11_set_125 (b8 rfl) rfl (s_aload d_X11_set_127 m7_ (s_dup d_X11_set_129 rfl (s_getN cf d_X11_set_130 fl_X11_219 ?_)))))
    refine s_aload d_X11_set_133 m6_ (s_getR cf d_X11_set_135 fl_X11_222 (s_nk fun i26 => (s_getN cf d_X11_set_138 fl_X11_226 (s_iload d_X11_set_141 m0_ (s_isub d_X11_set_143 rfl rfl ?_)))))
    exact s_iadd d_X11_set_144 rfl rfl (s_ck (s_putN cf d_X11_set_145 fl_X11_219 (fun h => by cases h) fun m27 => (s_iload d_X11_set_148 m0_ (s_iret d_X11_set_150 rfl rfl))))
  have hj_X11_set_0_46 : ∀ (m_46 : MM) (l0_46 : Nat) (l1_46 : Int) (l2_46 : Int) (l3_46 : Int) (l4_46 : Nat) (l5_46 : Nat) (l6_46 : Nat) (s0_46 : Int), Sim fx me_X11_set 46 [(0, aR (some (11, l0_46))), (1, aI l1_46), (2, aI l2_46), (3, aI l3_46), (4, aR (some (0, l4_46))), (5, aR (some (4, l5_46))), (6, aR (some (3, l6_46)))] [aI s0_46] m_46 ((j_X11_set_0_46 m_46 l0_46 l1_46 l2_46 l3_46 l4_46 l5_46 l6_46 s0_46).bind (fun z => some z)) := by
    intro m_46 l0_46 l1_46 l2_46 l3_46 l4_46 l5_46 l6_46 s0_46
    unfold j_X11_set_0_46
    refine s_cV (r_S d_X11_set_46 k_X11_requireState w_363 rfl rfl) ms_X11_requireState (b8 rfl) rfl rfl rfl (fun h => by cases h) (fun _ _ => Or.inr rfl) fun m12 => (s_aload d_X11_set_49 m4_ (s_iload_n d_X11_set_51 m2_ (s_pI (r_V d_X11_set_52 k_X0_firstWordOfPart w_873 rfl rfl) ms_X0_firstWordOfPart (b8 rfl) rfl rfl rfl fun v14 => (s_istore (L' := [(7, aI v14), (0, aR (some (11, l0_46))), (1, aI l1_46), (2, aI l2_46), (3, aI l3_46), (4, aR (some (0, l4_46))), (5, aR (some (4, l5_46))), (6, aR (some (3, l6_46)))]) d_X11_set_55 (b8 rfl) rfl (s_iload d_X11_set_57 m0_ ?_)))))
    refine s_iconst d_X11_set_59 n_m1 (s_icmp_eq (tgt := 67) d_X11_set_60 rfl ?_ ?_)
    · exact s_iconst d_X11_set_67 n_0 (s_sub (subc m1_ (subc m2_ (subc m3_ (subc m4_ (subc m5_ (subc m6_ (subc m7_ (subc m0_ sub0)))))))) (hj_X11_set_0_68 m12 l0_46 l1_46 l2_46 l3_46 l4_46 l5_46 l6_46 v14 0))
    exact s_iconst d_X11_set_63 n_1 (s_goto (tgt := 68) d_X11_set_64 rfl (s_sub (subc m1_ (subc m2_ (subc m3_ (subc m4_ (subc m5_ (subc m6_ (subc m7_ (subc m0_ sub0)))))))) (hj_X11_set_0_68 m12 l0_46 l1_46 l2_46 l3_46 l4_46 l5_46 l6_46 v14 1)))
  have hj_X11_set_0_45 : ∀ (m_45 : MM) (l0_45 : Nat) (l1_45 : Int) (l2_45 : Int) (l3_45 : Int) (l4_45 : Nat) (l5_45 : Nat) (l6_45 : Nat), Sim fx me_X11_set 45 [(0, aR (some (11, l0_45))), (1, aI l1_45), (2, aI l2_45), (3, aI l3_45), (4, aR (some (0, l4_45))), (5, aR (some (4, l5_45))), (6, aR (some (3, l6_45)))] [] m_45 ((j_X11_set_0_45 m_45 l0_45 l1_45 l2_45 l3_45 l4_45 l5_45 l6_45).bind (fun z => some z)) := by
    intro m_45 l0_45 l1_45 l2_45 l3_45 l4_45 l5_45 l6_45
    unfold j_X11_set_0_45
    exact s_iconst d_X11_set_45 n_0 (s_sub (subc m0_ (subc m1_ (subc m2_ (subc m3_ (subc m4_ (subc m5_ (subc m6_ sub0))))))) (hj_X11_set_0_46 m_45 l0_45 l1_45 l2_45 l3_45 l4_45 l5_45 l6_45 0))
  refine s_aload_n d_X11_set_0 m0_ (s_iload_n d_X11_set_1 m1_ (s_cR (r_V d_X11_set_2 k_X11_bookAt w_814 rfl rfl) ms_X11_bookAt (b8 rfl) rfl rfl rfl (fun h => by cases h) (fun _ _ => Or.inr rfl) fun r2 m1 => (s_nk fun i3 => (s_astore (L' := [(4, aR (some (0, i3))), (0, aR (some (11, l0))), (1, aI l1), (2, aI l2), (3, aI l3)]) d_X11_set_5 (b8 rfl) rfl (s_aload d_X11_set_7 m0_ ?_)))))
  refine s_iload_n d_X11_set_9 m3_ (s_cR (r_S d_X11_set_10 k_X11_pageOf w_884 rfl rfl) ms_X11_pageOf (b8 rfl) rfl rfl rfl (fun h => by cases h) (fun _ _ => Or.inr rfl) fun r5 m4 => (s_nk fun i6 => (s_astore (L' := [(5, aR (some (4, i6))), (4, aR (some (0, i3))), (0, aR (some (11, l0))), (1, aI l1), (2, aI l2), (3, aI l3)]) d_X11_set_13 (b8 rfl) rfl (s_aload_n d_X11_set_15 m2_ (s_iload_n d_X11_set_16 m5_ ?_)))))
  refine s_cR (r_V d_X11_set_17 k_X11_handAt w_892 rfl rfl) ms_X11_handAt (b8 rfl) rfl rfl rfl (fun h => by cases h) (fun _ _ => Or.inr rfl) fun r8 m7 => (s_nk fun i9 => (s_astore (L' := [(6, aR (some (3, i9))), (5, aR (some (4, i6))), (4, aR (some (0, i3))), (0, aR (some (11, l0))), (1, aI l1), (2, aI l2), (3, aI l3)]) d_X11_set_20 (b8 rfl) rfl (s_aload d_X11_set_22 m2_ (s_getR cf d_X11_set_24 fl_X11_153 (s_nk fun i10 => ?_)))))
  refine s_getN cf d_X11_set_27 fl_X11_157 (s_if_le (tgt := 45) d_X11_set_30 rfl ?_ ?_)
  · exact s_sub (subc m3_ (subc m4_ (subc m5_ (subc m6_ (subc m2_ (subc m1_ (subc m0_ sub0))))))) (hj_X11_set_0_45 m7 l0 l1 l2 l3 i3 i6 i9)
  refine s_aload d_X11_set_33 m1_ (s_pI (r_V d_X11_set_35 k_X4_isSet w_897 rfl rfl) ms_X4_isSet (b8 rfl) rfl rfl rfl fun v11 => (s_if_ne (tgt := 45) d_X11_set_38 rfl ?_ ?_))
  · exact s_sub (subc m3_ (subc m4_ (subc m5_ (subc m6_ (subc m2_ (subc m1_ (subc m0_ sub0))))))) (hj_X11_set_0_45 m7 l0 l1 l2 l3 i3 i6 i9)
  exact s_iconst d_X11_set_41 n_1 (s_goto (tgt := 46) d_X11_set_42 rfl (s_sub (subc m3_ (subc m4_ (subc m5_ (subc m6_ (subc m2_ (subc m1_ (subc m0_ sub0))))))) (hj_X11_set_0_46 m7 l0 l1 l2 l3 i3 i6 i9 1)))
theorem d_L_set_0 : dk me_L_set 0 (.aload 4) 2 2 := And.intro (by decide +kernel) rfl
theorem d_L_set_2 : dk me_L_set 2 (.iconst 0) 1 3 := And.intro (by decide +kernel) rfl
theorem d_L_set_3 : dk me_L_set 3 (.aload_n 0) 1 4 := And.intro (by decide +kernel) rfl
theorem d_L_set_4 : dk me_L_set 4 (.iload_n 1) 1 5 := And.intro (by decide +kernel) rfl
theorem d_L_set_5 : dk me_L_set 5 (.iload_n 2) 1 6 := And.intro (by decide +kernel) rfl
theorem d_L_set_6 : dk me_L_set 6 (.iload_n 3) 1 7 := And.intro (by decide +kernel) rfl
theorem d_L_set_7 : dk me_L_set 7 (.invokevirtual 54) 3 10 := And.intro (by decide +kernel) rfl
theorem d_L_set_10 : dk me_L_set 10 (.i2l) 1 11 := And.intro (by decide +kernel) rfl
theorem d_L_set_11 : dk me_L_set 11 (.lastore) 1 12 := And.intro (by decide +kernel) rfl
theorem d_L_set_12 : dk me_L_set 12 (.goto 11) 3 15 := And.intro (by decide +kernel) rfl
theorem d_L_set_15 : dk me_L_set 15 (.astore 5) 2 17 := And.intro (by decide +kernel) rfl
theorem d_L_set_17 : dk me_L_set 17 (.iconst 1) 1 18 := And.intro (by decide +kernel) rfl
theorem d_L_set_18 : dk me_L_set 18 (.ireturn) 1 19 := And.intro (by decide +kernel) rfl
theorem d_L_set_19 : dk me_L_set 19 (.astore 5) 2 21 := And.intro (by decide +kernel) rfl
theorem d_L_set_21 : dk me_L_set 21 (.iconst 2) 1 22 := And.intro (by decide +kernel) rfl
theorem d_L_set_22 : dk me_L_set 22 (.ireturn) 1 23 := And.intro (by decide +kernel) rfl
theorem d_L_set_23 : dk me_L_set 23 (.iconst 0) 1 24 := And.intro (by decide +kernel) rfl
theorem d_L_set_24 : dk me_L_set 24 (.ireturn) 1 25 := And.intro (by decide +kernel) rfl
theorem ms_L_set {fx : FX} {m : MM} {l0 : Nat} {l1 : Int} {l2 : Int} {l3 : Int} {l4 : Nat} : MS fx me_L_set [aR (some (11, l0)), aI l1, aI l2, aI l3, aR (some (131, l4))] m (f_L_set m l0 l1 l2 l3 l4) := by
  refine ms_ofH rfl mf_L_set (b8 rfl) ?_
  refine s_top ?_
  show Sim fx me_L_set 0 [(0, aR (some (11, l0))), (1, aI l1), (2, aI l2), (3, aI l3), (4, aR (some (131, l4)))] [] m _
  unfold f_L_set
  refine s_aload d_L_set_0 m4_ (s_iconst d_L_set_2 n_0 (s_aload_n d_L_set_3 m0_ (s_iload_n d_L_set_4 m1_ (s_iload_n d_L_set_5 m2_ (s_iload_n d_L_set_6 m3_ ?_)))))
  refine s_cIC (r_V d_L_set_7 k_X11_set w_880 rfl rfl) ms_X11_set (b8 rfl) rfl rfl ?_ ?_ ?_ fun v2 m1 => ?_
  · refine fun mx => Or.inr ⟨15, ⟨rfl, by decide, 0, wx_29_0, Or.inl ⟨rfl, rfl⟩⟩, fun qx => ?_⟩
    exact s_astoreV (L' := [(5, aV (.ref qx)), (0, aR (some (11, l0))), (1, aI l1), (2, aI l2), (3, aI l3), (4, aR (some (131, l4)))]) d_L_set_15 (b8 rfl) rfl (s_iconst d_L_set_17 n_1 (s_iret d_L_set_18 rfl rfl))
  · exact fun _ => Or.inl rfl
  · refine fun mx => Or.inr ⟨19, ⟨rfl, by decide, 0, wx_29_0, Or.inr ⟨by decide, ⟨rfl, by decide, 2, wx_15_2, Or.inl ⟨rfl, rfl⟩⟩⟩⟩, fun qx => ?_⟩
    exact s_astoreV (L' := [(5, aV (.ref qx)), (0, aR (some (11, l0))), (1, aI l1), (2, aI l2), (3, aI l3), (4, aR (some (131, l4)))]) d_L_set_19 (b8 rfl) rfl (s_iconst d_L_set_21 n_2 (s_iret d_L_set_22 rfl rfl))
  exact s_i2l d_L_set_10 (s_stL d_L_set_11 ka_131 rfl fun m3 => (s_goto (tgt := 23) d_L_set_12 rfl (s_iconst d_L_set_23 n_0 (s_iret d_L_set_24 rfl rfl))))
