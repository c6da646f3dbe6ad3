set_option maxRecDepth 8000
theorem d_X12_tapeFrom_0 : dk me_X12_tapeFrom 0 (.iconst 0) 1 1 := And.intro (by decide +kernel) rfl
theorem d_X12_tapeFrom_1 : dk me_X12_tapeFrom 1 (.istore_n 2) 1 2 := And.intro (by decide +kernel) rfl
theorem d_X12_tapeFrom_2 : dk me_X12_tapeFrom 2 (.iconst 0) 1 3 := And.intro (by decide +kernel) rfl
theorem d_X12_tapeFrom_3 : dk me_X12_tapeFrom 3 (.istore_n 3) 1 4 := And.intro (by decide +kernel) rfl
theorem d_X12_tapeFrom_4 : dk me_X12_tapeFrom 4 (.iload_n 2) 1 5 := And.intro (by decide +kernel) rfl
theorem d_X12_tapeFrom_5 : dk me_X12_tapeFrom 5 (.iload_n 1) 1 6 := And.intro (by decide +kernel) rfl
theorem d_X12_tapeFrom_6 : dk me_X12_tapeFrom 6 (.if_icmp .ge 33) 3 9 := And.intro (by decide +kernel) rfl
theorem d_X12_tapeFrom_9 : dk me_X12_tapeFrom 9 (.iload_n 2) 1 10 := And.intro (by decide +kernel) rfl
theorem d_X12_tapeFrom_10 : dk me_X12_tapeFrom 10 (.aload_n 0) 1 11 := And.intro (by decide +kernel) rfl
theorem d_X12_tapeFrom_11 : dk me_X12_tapeFrom 11 (.getfield 7) 3 14 := And.intro (by decide +kernel) rfl
theorem d_X12_tapeFrom_14 : dk me_X12_tapeFrom 14 (.iload_n 3) 1 15 := And.intro (by decide +kernel) rfl
theorem d_X12_tapeFrom_15 : dk me_X12_tapeFrom 15 (.iaload) 1 16 := And.intro (by decide +kernel) rfl
theorem d_X12_tapeFrom_16 : dk me_X12_tapeFrom 16 (.bipush 97) 2 18 := And.intro (by decide +kernel) rfl
theorem d_X12_tapeFrom_18 : dk me_X12_tapeFrom 18 (.bipush 122) 2 20 := And.intro (by decide +kernel) rfl
theorem d_X12_tapeFrom_20 : dk me_X12_tapeFrom 20 (.invokestatic 235) 3 23 := And.intro (by decide +kernel) rfl
theorem d_X12_tapeFrom_23 : dk me_X12_tapeFrom 23 (.ifCond .eq 7) 3 26 := And.intro (by decide +kernel) rfl
theorem d_X12_tapeFrom_26 : dk me_X12_tapeFrom 26 (.iconst 0) 1 27 := And.intro (by decide +kernel) rfl
theorem d_X12_tapeFrom_27 : dk me_X12_tapeFrom 27 (.goto 4) 3 30 := And.intro (by decide +kernel) rfl
theorem d_X12_tapeFrom_30 : dk me_X12_tapeFrom 30 (.iconst 1) 1 31 := And.intro (by decide +kernel) rfl
theorem d_X12_tapeFrom_31 : dk me_X12_tapeFrom 31 (.iadd) 1 32 := And.intro (by decide +kernel) rfl
theorem d_X12_tapeFrom_32 : dk me_X12_tapeFrom 32 (.istore_n 2) 1 33 := And.intro (by decide +kernel) rfl
theorem d_X12_tapeFrom_33 : dk me_X12_tapeFrom 33 (.iinc 3 1) 3 36 := And.intro (by decide +kernel) rfl
theorem d_X12_tapeFrom_36 : dk me_X12_tapeFrom 36 (.goto (-32)) 3 39 := And.intro (by decide +kernel) rfl
theorem d_X12_tapeFrom_39 : dk me_X12_tapeFrom 39 (.iload_n 3) 1 40 := And.intro (by decide +kernel) rfl
theorem d_X12_tapeFrom_40 : dk me_X12_tapeFrom 40 (.ireturn) 1 41 := And.intro (by decide +kernel) rfl
theorem ms_X12_tapeFrom {fx : FX} {m : MM} {l0 : Nat} {l1 : Int} : MS fx me_X12_tapeFrom [aR (some (12, l0)), aI l1] m ((f_X12_tapeFrom m l0 l1).bind fun v => some (.inl (some (aI v)), m)) := by
  refine ms_of rfl mf_X12_tapeFrom (b8 rfl) ?_
  show Sim fx me_X12_tapeFrom 0 [(0, aR (some (12, l0))), (1, aI l1)] [] m _
  unfold f_X12_tapeFrom
  have hj_X12_tapeFrom_0_39 : ∀ (l3_39 : Int), Sim fx me_X12_tapeFrom 39 [(3, aI l3_39)] [] m ((j_X12_tapeFrom_0_39 m l3_39).bind (fun v => some (.inl (some (aI v)), m))) := by
    intro l3_39
    unfold j_X12_tapeFrom_0_39
    exact s_iload_n d_X12_tapeFrom_39 m0_ (s_iret d_X12_tapeFrom_40 rfl rfl)
  refine s_iconst d_X12_tapeFrom_0 n_0 (s_istore_n (L' := [(2, aI 0), (0, aR (some (12, l0))), (1, aI l1)]) d_X12_tapeFrom_1 (b8 rfl) rfl (s_iconst d_X12_tapeFrom_2 n_0 (s_istore_n (L' := [(3, aI 0), (2, aI 0), (0, aR (some (12, l0))), (1, aI l1)]) d_X12_tapeFrom_3 (b8 rfl) rfl (s_sub (subc m1_ (subc m0_ (subc m2_ (subc m3_ sub0)))) (s_lp2 (fun s => [(2, aI (s.1)), (3, aI (s.2)), (0, aR (some (12, l0))), (1, aI l1)]) (fun s => m) (0, 0) fun k4 hx4 s ih0 => ?_)))))
  obtain ⟨l2_4, l3_4⟩ := s
  have ih4 := ih0
  clear ih0
  try dsimp only
  unfold b_X12_tapeFrom_4
  refine s_iload_n d_X12_tapeFrom_4 m0_ (s_iload_n d_X12_tapeFrom_5 m3_ (s_icmp_ge (tgt := 39) d_X12_tapeFrom_6 rfl ?_ ?_))
  · exact s_exit (hx4 _) (s_sub (subc m1_ sub0) (hj_X12_tapeFrom_0_39 l3_4))
  refine s_iload_n d_X12_tapeFrom_9 m0_ (s_aload_n d_X12_tapeFrom_10 m2_ (s_getR cf d_X12_tapeFrom_11 fl_X12_7 (s_nk fun i1 => (s_iload_n d_X12_tapeFrom_14 m1_ (s_ldN d_X12_tapeFrom_15 ka_59 rfl fun v2 => ?_)))))
  refine s_bipush d_X12_tapeFrom_16 n_97 rfl (s_bipush d_X12_tapeFrom_18 n_122 rfl (s_pI (r_S d_X12_tapeFrom_20 k_X12_isIn w_1664 rfl rfl) ms_X12_isIn (b8 rfl) rfl rfl rfl fun v3 => (s_if_eq (tgt := 30) d_X12_tapeFrom_23 rfl ?_ ?_)))
  · refine s_iconst d_X12_tapeFrom_30 n_1 (s_iadd d_X12_tapeFrom_31 rfl rfl (s_ck (s_istore_n (L' := [(2, aI (l2_4 + 1)), (3, aI l3_4), (0, aR (some (12, l0))), (1, aI l1)]) d_X12_tapeFrom_32 (b8 rfl) rfl (s_iinc (L' := [(3, aI (l3_4 + 1)), (2, aI (l2_4 + 1)), (0, aR (some (12, l0))), (1, aI l1)]) d_X12_tapeFrom_33 m1_ (b8 rfl) rfl (s_goto (tgt := 4) d_X12_tapeFrom_36 rfl ?_)))))
    exact s_sub (subc m1_ (subc m0_ (subc m2_ (subc m3_ sub0)))) (s_back (ih4 ((l2_4 + 1), (l3_4 + 1))))
  refine s_iconst d_X12_tapeFrom_26 n_0 (s_goto (tgt := 31) d_X12_tapeFrom_27 rfl (s_iadd d_X12_tapeFrom_31 rfl rfl (s_ck (s_istore_n (L' := [(2, aI (l2_4 + 0)), (3, aI l3_4), (0, aR (some (12, l0))), (1, aI l1)]) d_X12_tapeFrom_32 (b8 rfl) rfl (s_iinc (L' := [(3, aI (l3_4 + 1)), (2, aI (l2_4 + 0)), (0, aR (some (12, l0))), (1, aI l1)]) d_X12_tapeFrom_33 m1_ (b8 rfl) rfl ?_)))))
  exact s_goto (tgt := 4) d_X12_tapeFrom_36 rfl (s_sub (subc m1_ (subc m0_ (subc m2_ (subc m3_ sub0)))) (s_back (ih4 ((l2_4 + 0), (l3_4 + 1)))))
theorem d_X12_tapeEnds_0 : dk me_X12_tapeEnds 0 (.aload_n 0) 1 1 := And.intro (by decide +kernel) rfl
theorem d_X12_tapeEnds_1 : dk me_X12_tapeEnds 1 (.iload_n 1) 1 2 := And.intro (by decide +kernel) rfl
theorem d_X12_tapeEnds_2 : dk me_X12_tapeEnds 2 (.invokevirtual 267) 3 5 := And.intro (by decide +kernel) rfl
theorem d_X12_tapeEnds_5 : dk me_X12_tapeEnds 5 (.istore_n 2) 1 6 := And.intro (by decide +kernel) rfl
theorem d_X12_tapeEnds_6 : dk me_X12_tapeEnds 6 (.iload_n 2) 1 7 := And.intro (by decide +kernel) rfl
theorem d_X12_tapeEnds_7 : dk me_X12_tapeEnds 7 (.aload_n 0) 1 8 := And.intro (by decide +kernel) rfl
theorem d_X12_tapeEnds_8 : dk me_X12_tapeEnds 8 (.getfield 257) 3 11 := And.intro (by decide +kernel) rfl
theorem d_X12_tapeEnds_11 : dk me_X12_tapeEnds 11 (.if_icmp .ge 25) 3 14 := And.intro (by decide +kernel) rfl
theorem d_X12_tapeEnds_14 : dk me_X12_tapeEnds 14 (.aload_n 0) 1 15 := And.intro (by decide +kernel) rfl
theorem d_X12_tapeEnds_15 : dk me_X12_tapeEnds 15 (.getfield 7) 3 18 := And.intro (by decide +kernel) rfl
theorem d_X12_tapeEnds_18 : dk me_X12_tapeEnds 18 (.iload_n 2) 1 19 := And.intro (by decide +kernel) rfl
theorem d_X12_tapeEnds_19 : dk me_X12_tapeEnds 19 (.iaload) 1 20 := And.intro (by decide +kernel) rfl
theorem d_X12_tapeEnds_20 : dk me_X12_tapeEnds 20 (.bipush 97) 2 22 := And.intro (by decide +kernel) rfl
theorem d_X12_tapeEnds_22 : dk me_X12_tapeEnds 22 (.bipush 122) 2 24 := And.intro (by decide +kernel) rfl
theorem d_X12_tapeEnds_24 : dk me_X12_tapeEnds 24 (.invokestatic 235) 3 27 := And.intro (by decide +kernel) rfl
theorem d_X12_tapeEnds_27 : dk me_X12_tapeEnds 27 (.ifCond .eq 9) 3 30 := And.intro (by decide +kernel) rfl
theorem d_X12_tapeEnds_30 : dk me_X12_tapeEnds 30 (.iinc 2 1) 3 33 := And.intro (by decide +kernel) rfl
theorem d_X12_tapeEnds_33 : dk me_X12_tapeEnds 33 (.goto (-27)) 3 36 := And.intro (by decide +kernel) rfl
theorem d_X12_tapeEnds_36 : dk me_X12_tapeEnds 36 (.iload_n 2) 1 37 := And.intro (by decide +kernel) rfl
theorem d_X12_tapeEnds_37 : dk me_X12_tapeEnds 37 (.aload_n 0) 1 38 := And.intro (by decide +kernel) rfl
theorem d_X12_tapeEnds_38 : dk me_X12_tapeEnds 38 (.getfield 257) 3 41 := And.intro (by decide +kernel) rfl
theorem d_X12_tapeEnds_41 : dk me_X12_tapeEnds 41 (.if_icmp .eq 14) 3 44 := And.intro (by decide +kernel) rfl
theorem d_X12_tapeEnds_44 : dk me_X12_tapeEnds 44 (.aload_n 0) 1 45 := And.intro (by decide +kernel) rfl
theorem d_X12_tapeEnds_45 : dk me_X12_tapeEnds 45 (.getfield 7) 3 48 := And.intro (by decide +kernel) rfl
theorem d_X12_tapeEnds_48 : dk me_X12_tapeEnds 48 (.iload_n 2) 1 49 := And.intro (by decide +kernel) rfl
theorem d_X12_tapeEnds_49 : dk me_X12_tapeEnds 49 (.iaload) 1 50 := And.intro (by decide +kernel) rfl
theorem d_X12_tapeEnds_50 : dk me_X12_tapeEnds 50 (.bipush 47) 2 52 := And.intro (by decide +kernel) rfl
theorem d_X12_tapeEnds_52 : dk me_X12_tapeEnds 52 (.if_icmp .ne 7) 3 55 := And.intro (by decide +kernel) rfl
theorem d_X12_tapeEnds_55 : dk me_X12_tapeEnds 55 (.iconst 1) 1 56 := And.intro (by decide +kernel) rfl
theorem d_X12_tapeEnds_56 : dk me_X12_tapeEnds 56 (.goto 4) 3 59 := And.intro (by decide +kernel) rfl
theorem d_X12_tapeEnds_59 : dk me_X12_tapeEnds 59 (.iconst 0) 1 60 := And.intro (by decide +kernel) rfl
theorem d_X12_tapeEnds_60 : dk me_X12_tapeEnds 60 (.ireturn) 1 61 := And.intro (by decide +kernel) rfl
theorem ms_X12_tapeEnds {fx : FX} {m : MM} {l0 : Nat} {l1 : Int} : MS fx me_X12_tapeEnds [aR (some (12, l0)), aI l1] m ((f_X12_tapeEnds m l0 l1).bind fun v => some (.inl (some (aI v)), m)) := by
  refine ms_of rfl mf_X12_tapeEnds (b8 rfl) ?_
  show Sim fx me_X12_tapeEnds 0 [(0, aR (some (12, l0))), (1, aI l1)] [] m _
  unfold f_X12_tapeEnds
  have hj_X12_tapeEnds_0_36 : ∀ (l0_36 : Nat) (l2_36 : Int), Sim fx me_X12_tapeEnds 36 [(0, aR (some (12, l0_36))), (2, aI l2_36)] [] m ((j_X12_tapeEnds_0_36 m l0_36 l2_36).bind (fun v => some (.inl (some (aI v)), m))) := by
    intro l0_36 l2_36
    unfold j_X12_tapeEnds_0_36
    refine s_iload_n d_X12_tapeEnds_36 m1_ (s_aload_n d_X12_tapeEnds_37 m0_ (s_getN cf d_X12_tapeEnds_38 fl_X12_257 (s_icmp_eq (tgt := 55) d_X12_tapeEnds_41 rfl ?_ ?_)))
    · exact s_iconst d_X12_tapeEnds_55 n_1 (s_goto (tgt := 60) d_X12_tapeEnds_56 rfl (s_zretl d_X12_tapeEnds_60 rfl (by decide) rfl))
    refine s_aload_n d_X12_tapeEnds_44 m0_ (s_getR cf d_X12_tapeEnds_45 fl_X12_7 (s_nk fun i5 => (s_iload_n d_X12_tapeEnds_48 m1_ (s_ldN d_X12_tapeEnds_49 ka_59 rfl fun v6 => (s_bipush d_X12_tapeEnds_50 n_47 rfl ?_)))))
    refine s_icmp_ne (tgt := 59) d_X12_tapeEnds_52 rfl ?_ ?_
    · exact s_iconst d_X12_tapeEnds_59 n_0 (s_zretl d_X12_tapeEnds_60 rfl (by decide) rfl)
    exact s_iconst d_X12_tapeEnds_55 n_1 (s_goto (tgt := 60) d_X12_tapeEnds_56 rfl (s_zretl d_X12_tapeEnds_60 rfl (by decide) rfl))
  refine s_aload_n d_X12_tapeEnds_0 m0_ (s_iload_n d_X12_tapeEnds_1 m1_ (s_pI (r_V d_X12_tapeEnds_2 k_X12_tapeFrom w_1700 rfl rfl) ms_X12_tapeFrom (b8 rfl) rfl rfl rfl fun v1 => (s_istore_n (L' := [(2, aI v1), (0, aR (some (12, l0))), (1, aI l1)]) d_X12_tapeEnds_5 (b8 rfl) rfl (s_sub (subc m0_ (subc m1_ sub0)) (s_lp2 (fun s => [(2, aI s), (0, aR (some (12, l0)))]) (fun s => m) v1 fun k6 hx6 s ih0 => ?_)))))
  obtain ⟨l2_6, rfl⟩ : ∃ q, q = s := ⟨s, rfl⟩
  have ih6 := ih0
  clear ih0
  try dsimp only
  unfold b_X12_tapeEnds_6
  refine s_iload_n d_X12_tapeEnds_6 m0_ (s_aload_n d_X12_tapeEnds_7 m1_ (s_getN cf d_X12_tapeEnds_8 fl_X12_257 (s_icmp_ge (tgt := 36) d_X12_tapeEnds_11 rfl ?_ ?_)))
  · exact s_exit (hx6 _) (s_sub (subc m1_ (subc m0_ sub0)) (hj_X12_tapeEnds_0_36 l0 l2_6))
  refine s_aload_n d_X12_tapeEnds_14 m1_ (s_getR cf d_X12_tapeEnds_15 fl_X12_7 (s_nk fun i2 => (s_iload_n d_X12_tapeEnds_18 m0_ (s_ldN d_X12_tapeEnds_19 ka_59 rfl fun v3 => (s_bipush d_X12_tapeEnds_20 n_97 rfl ?_)))))
  refine s_bipush d_X12_tapeEnds_22 n_122 rfl (s_pI (r_S d_X12_tapeEnds_24 k_X12_isIn w_1664 rfl rfl) ms_X12_isIn (b8 rfl) rfl rfl rfl fun v4 => (s_if_eq (tgt := 36) d_X12_tapeEnds_27 rfl ?_ ?_))
  · exact s_exit (hx6 _) (s_sub (subc m1_ (subc m0_ sub0)) (hj_X12_tapeEnds_0_36 l0 l2_6))
  exact s_iinc (L' := [(2, aI (l2_6 + 1)), (0, aR (some (12, l0)))]) d_X12_tapeEnds_30 m0_ (b8 rfl) rfl (s_goto (tgt := 6) d_X12_tapeEnds_33 rfl (s_sub (subc m0_ (subc m1_ sub0)) (s_back (ih6 (l2_6 + 1)))))
theorem d_X12_tapeFault_0 : dk me_X12_tapeFault 0 (.iconst 0) 1 1 := And.intro (by decide +kernel) rfl
theorem d_X12_tapeFault_1 : dk me_X12_tapeFault 1 (.istore_n 1) 1 2 := And.intro (by decide +kernel) rfl
theorem d_X12_tapeFault_2 : dk me_X12_tapeFault 2 (.iconst 0) 1 3 := And.intro (by decide +kernel) rfl
theorem d_X12_tapeFault_3 : dk me_X12_tapeFault 3 (.istore_n 2) 1 4 := And.intro (by decide +kernel) rfl
theorem d_X12_tapeFault_4 : dk me_X12_tapeFault 4 (.iload_n 2) 1 5 := And.intro (by decide +kernel) rfl
theorem d_X12_tapeFault_5 : dk me_X12_tapeFault 5 (.aload_n 0) 1 6 := And.intro (by decide +kernel) rfl
theorem d_X12_tapeFault_6 : dk me_X12_tapeFault 6 (.getfield 257) 3 9 := And.intro (by decide +kernel) rfl
theorem d_X12_tapeFault_9 : dk me_X12_tapeFault 9 (.if_icmp .ge 54) 3 12 := And.intro (by decide +kernel) rfl
theorem d_X12_tapeFault_12 : dk me_X12_tapeFault 12 (.aload_n 0) 1 13 := And.intro (by decide +kernel) rfl
theorem d_X12_tapeFault_13 : dk me_X12_tapeFault 13 (.getfield 7) 3 16 := And.intro (by decide +kernel) rfl
theorem d_X12_tapeFault_16 : dk me_X12_tapeFault 16 (.iload_n 2) 1 17 := And.intro (by decide +kernel) rfl
theorem d_X12_tapeFault_17 : dk me_X12_tapeFault 17 (.iaload) 1 18 := And.intro (by decide +kernel) rfl
theorem d_X12_tapeFault_18 : dk me_X12_tapeFault 18 (.bipush 97) 2 20 := And.intro (by decide +kernel) rfl
theorem d_X12_tapeFault_20 : dk me_X12_tapeFault 20 (.bipush 122) 2 22 := And.intro (by decide +kernel) rfl
theorem d_X12_tapeFault_22 : dk me_X12_tapeFault 22 (.invokestatic 235) 3 25 := And.intro (by decide +kernel) rfl
theorem d_X12_tapeFault_25 : dk me_X12_tapeFault 25 (.istore_n 3) 1 26 := And.intro (by decide +kernel) rfl
theorem d_X12_tapeFault_26 : dk me_X12_tapeFault 26 (.iload_n 3) 1 27 := And.intro (by decide +kernel) rfl
theorem d_X12_tapeFault_27 : dk me_X12_tapeFault 27 (.ifCond .eq 12) 3 30 := And.intro (by decide +kernel) rfl
theorem d_X12_tapeFault_30 : dk me_X12_tapeFault 30 (.iload_n 1) 1 31 := And.intro (by decide +kernel) rfl
theorem d_X12_tapeFault_31 : dk me_X12_tapeFault 31 (.bipush 8) 2 33 := And.intro (by decide +kernel) rfl
theorem d_X12_tapeFault_33 : dk me_X12_tapeFault 33 (.if_icmp .ne 12) 3 36 := And.intro (by decide +kernel) rfl
theorem d_X12_tapeFault_36 : dk me_X12_tapeFault 36 (.goto 7) 3 39 := And.intro (by decide +kernel) rfl
theorem d_X12_tapeFault_39 : dk me_X12_tapeFault 39 (.iload_n 1) 1 40 := And.intro (by decide +kernel) rfl
theorem d_X12_tapeFault_40 : dk me_X12_tapeFault 40 (.ifCond .ne 5) 3 43 := And.intro (by decide +kernel) rfl
theorem d_X12_tapeFault_43 : dk me_X12_tapeFault 43 (.iload_n 2) 1 44 := And.intro (by decide +kernel) rfl
theorem d_X12_tapeFault_44 : dk me_X12_tapeFault 44 (.ireturn) 1 45 := And.intro (by decide +kernel) rfl
theorem d_X12_tapeFault_45 : dk me_X12_tapeFault 45 (.iload_n 3) 1 46 := And.intro (by decide +kernel) rfl
theorem d_X12_tapeFault_46 : dk me_X12_tapeFault 46 (.ifCond .eq 9) 3 49 := And.intro (by decide +kernel) rfl
theorem d_X12_tapeFault_49 : dk me_X12_tapeFault 49 (.iload_n 1) 1 50 := And.intro (by decide +kernel) rfl
theorem d_X12_tapeFault_50 : dk me_X12_tapeFault 50 (.iconst 1) 1 51 := And.intro (by decide +kernel) rfl
theorem d_X12_tapeFault_51 : dk me_X12_tapeFault 51 (.iadd) 1 52 := And.intro (by decide +kernel) rfl
theorem d_X12_tapeFault_52 : dk me_X12_tapeFault 52 (.goto 4) 3 55 := And.intro (by decide +kernel) rfl
theorem d_X12_tapeFault_55 : dk me_X12_tapeFault 55 (.iconst 0) 1 56 := And.intro (by decide +kernel) rfl
theorem d_X12_tapeFault_56 : dk me_X12_tapeFault 56 (.istore_n 1) 1 57 := And.intro (by decide +kernel) rfl
theorem d_X12_tapeFault_57 : dk me_X12_tapeFault 57 (.iinc 2 1) 3 60 := And.intro (by decide +kernel) rfl
theorem d_X12_tapeFault_60 : dk me_X12_tapeFault 60 (.goto (-56)) 3 63 := And.intro (by decide +kernel) rfl
theorem d_X12_tapeFault_63 : dk me_X12_tapeFault 63 (.iload_n 1) 1 64 := And.intro (by decide +kernel) rfl
theorem d_X12_tapeFault_64 : dk me_X12_tapeFault 64 (.ifCond .ne 10) 3 67 := And.intro (by decide +kernel) rfl
theorem d_X12_tapeFault_67 : dk me_X12_tapeFault 67 (.aload_n 0) 1 68 := And.intro (by decide +kernel) rfl
theorem d_X12_tapeFault_68 : dk me_X12_tapeFault 68 (.getfield 257) 3 71 := And.intro (by decide +kernel) rfl
theorem d_X12_tapeFault_71 : dk me_X12_tapeFault 71 (.goto 4) 3 74 := And.intro (by decide +kernel) rfl
theorem d_X12_tapeFault_74 : dk me_X12_tapeFault 74 (.iconst (-1)) 1 75 := And.intro (by decide +kernel) rfl
theorem d_X12_tapeFault_75 : dk me_X12_tapeFault 75 (.ireturn) 1 76 := And.intro (by decide +kernel) rfl
theorem ms_X12_tapeFault {fx : FX} {m : MM} {l0 : Nat} : MS fx me_X12_tapeFault [aR (some (12, l0))] m ((f_X12_tapeFault m l0).bind fun v => some (.inl (some (aI v)), m)) := by
  refine ms_of rfl mf_X12_tapeFault (b8 rfl) ?_
  show Sim fx me_X12_tapeFault 0 [(0, aR (some (12, l0)))] [] m _
  unfold f_X12_tapeFault
  have hj_X12_tapeFault_0_63 : ∀ (l0_63 : Nat) (l1_63 : Int), Sim fx me_X12_tapeFault 63 [(0, aR (some (12, l0_63))), (1, aI l1_63)] [] m ((j_X12_tapeFault_0_63 m l0_63 l1_63).bind (fun v => some (.inl (some (aI v)), m))) := by
    intro l0_63 l1_63
    unfold j_X12_tapeFault_0_63
    refine s_iload_n d_X12_tapeFault_63 m1_ (s_if_ne (tgt := 74) d_X12_tapeFault_64 rfl ?_ ?_)
    · exact s_iconst d_X12_tapeFault_74 n_m1 (s_iret d_X12_tapeFault_75 rfl rfl)
    exact s_aload_n d_X12_tapeFault_67 m0_ (s_getN cf d_X12_tapeFault_68 fl_X12_257 (s_goto (tgt := 75) d_X12_tapeFault_71 rfl (s_iret d_X12_tapeFault_75 rfl rfl)))
  refine s_iconst d_X12_tapeFault_0 n_0 (s_istore_n (L' := [(1, aI 0), (0, aR (some (12, l0)))]) d_X12_tapeFault_1 (b8 rfl) rfl (s_iconst d_X12_tapeFault_2 n_0 (s_istore_n (L' := [(2, aI 0), (1, aI 0), (0, aR (some (12, l0)))]) d_X12_tapeFault_3 (b8 rfl) rfl (s_sub (subc m1_ (subc m0_ (subc m2_ sub0))) (s_lp2 (fun s => [(1, aI (s.1)), (2, aI (s.2)), (0, aR (some (12, l0)))]) (fun s => m) (0, 0) fun k4 hx4 s ih0 => ?_)))))
  obtain ⟨l1_4, l2_4⟩ := s
  have ih4 := ih0
  clear ih0
  try dsimp only
  unfold b_X12_tapeFault_4
  have hj_X12_tapeFault_4_45 : ∀ (l1_45 : Int) (l2_45 : Int) (l3_45 : Int), Sim fx me_X12_tapeFault 45 [(0, aR (some (12, l0))), (1, aI l1_45), (2, aI l2_45), (3, aI l3_45)] [] m ((j_X12_tapeFault_4_45 m l0 l1_45 l2_45 l3_45).bind k4) := by
    intro l1_45 l2_45 l3_45
    unfold j_X12_tapeFault_4_45
    refine s_iload_n d_X12_tapeFault_45 m3_ (s_if_eq (tgt := 55) d_X12_tapeFault_46 rfl ?_ ?_)
    · exact s_iconst d_X12_tapeFault_55 n_0 (s_istore_n (L' := [(1, aI 0), (0, aR (some (12, l0))), (2, aI l2_45), (3, aI l3_45)]) d_X12_tapeFault_56 (b8 rfl) rfl (s_iinc (L' := [(2, aI (l2_45 + 1)), (1, aI 0), (0, aR (some (12, l0))), (3, aI l3_45)]) d_X12_tapeFault_57 m2_ (b8 rfl) rfl (s_goto (tgt := 4) d_X12_tapeFault_60 rfl (s_sub (subc m1_ (subc m0_ (subc m2_ sub0))) (s_back (ih4 (0, (l2_45 + 1))))))))
    refine s_iload_n d_X12_tapeFault_49 m1_ (s_iconst d_X12_tapeFault_50 n_1 (s_iadd d_X12_tapeFault_51 rfl rfl (s_goto (tgt := 56) d_X12_tapeFault_52 rfl (s_ck (s_istore_n (L' := [(1, aI (l1_45 + 1)), (0, aR (some (12, l0))), (2, aI l2_45), (3, aI l3_45)]) d_X12_tapeFault_56 (b8 rfl) rfl ?_)))))
    exact s_iinc (L' := [(2, aI (l2_45 + 1)), (1, aI (l1_45 + 1)), (0, aR (some (12, l0))), (3, aI l3_45)]) d_X12_tapeFault_57 m2_ (b8 rfl) rfl (s_goto (tgt := 4) d_X12_tapeFault_60 rfl (s_sub (subc m1_ (subc m0_ (subc m2_ sub0))) (s_back (ih4 ((l1_45 + 1), (l2_45 + 1))))))
  refine s_iload_n d_X12_tapeFault_4 m1_ (s_aload_n d_X12_tapeFault_5 m2_ (s_getN cf d_X12_tapeFault_6 fl_X12_257 (s_icmp_ge (tgt := 63) d_X12_tapeFault_9 rfl ?_ ?_)))
  · exact s_exit (hx4 _) (s_sub (subc m2_ (subc m0_ sub0)) (hj_X12_tapeFault_0_63 l0 l1_4))
  refine s_aload_n d_X12_tapeFault_12 m2_ (s_getR cf d_X12_tapeFault_13 fl_X12_7 (s_nk fun i1 => (s_iload_n d_X12_tapeFault_16 m1_ (s_ldN d_X12_tapeFault_17 ka_59 rfl fun v2 => (s_bipush d_X12_tapeFault_18 n_97 rfl ?_)))))
  refine s_bipush d_X12_tapeFault_20 n_122 rfl (s_pI (r_S d_X12_tapeFault_22 k_X12_isIn w_1664 rfl rfl) ms_X12_isIn (b8 rfl) rfl rfl rfl fun v3 => (s_istore_n (L' := [(3, aI v3), (1, aI l1_4), (2, aI l2_4), (0, aR (some (12, l0)))]) d_X12_tapeFault_25 (b8 rfl) rfl (s_iload_n d_X12_tapeFault_26 m0_ (s_if_eq (tgt := 39) d_X12_tapeFault_27 rfl ?_ ?_))))
  · refine s_iload_n d_X12_tapeFault_39 m1_ (s_if_ne (tgt := 45) d_X12_tapeFault_40 rfl ?_ ?_)
    · exact s_sub (subc m3_ (subc m1_ (subc m2_ (subc m0_ sub0)))) (hj_X12_tapeFault_4_45 l1_4 l2_4 v3)
    exact s_iload_n d_X12_tapeFault_43 m2_ (s_iret d_X12_tapeFault_44 rfl ((hx4 _).trans rfl))
  refine s_iload_n d_X12_tapeFault_30 m1_ (s_bipush d_X12_tapeFault_31 n_8 rfl (s_icmp_ne (tgt := 45) d_X12_tapeFault_33 rfl ?_ ?_))
  · exact s_sub (subc m3_ (subc m1_ (subc m2_ (subc m0_ sub0)))) (hj_X12_tapeFault_4_45 l1_4 l2_4 v3)
  exact s_goto (tgt := 43) d_X12_tapeFault_36 rfl (s_iload_n d_X12_tapeFault_43 m2_ (s_iret d_X12_tapeFault_44 rfl ((hx4 _).trans rfl)))
theorem d_X12_tapeWord_0 : dk me_X12_tapeWord 0 (.lconst 0) 1 1 := And.intro (by decide +kernel) rfl
theorem d_X12_tapeWord_1 : dk me_X12_tapeWord 1 (.lstore_n 2) 1 2 := And.intro (by decide +kernel) rfl
theorem d_X12_tapeWord_2 : dk me_X12_tapeWord 2 (.aload_n 0) 1 3 := And.intro (by decide +kernel) rfl
theorem d_X12_tapeWord_3 : dk me_X12_tapeWord 3 (.iload_n 1) 1 4 := And.intro (by decide +kernel) rfl
theorem d_X12_tapeWord_4 : dk me_X12_tapeWord 4 (.invokevirtual 267) 3 7 := And.intro (by decide +kernel) rfl
theorem d_X12_tapeWord_7 : dk me_X12_tapeWord 7 (.istore 4) 2 9 := And.intro (by decide +kernel) rfl
theorem d_X12_tapeWord_9 : dk me_X12_tapeWord 9 (.iload 4) 2 11 := And.intro (by decide +kernel) rfl
theorem d_X12_tapeWord_11 : dk me_X12_tapeWord 11 (.istore 5) 2 13 := And.intro (by decide +kernel) rfl
theorem d_X12_tapeWord_13 : dk me_X12_tapeWord 13 (.iload 5) 2 15 := And.intro (by decide +kernel) rfl
theorem d_X12_tapeWord_15 : dk me_X12_tapeWord 15 (.aload_n 0) 1 16 := And.intro (by decide +kernel) rfl
theorem d_X12_tapeWord_16 : dk me_X12_tapeWord 16 (.getfield 257) 3 19 := And.intro (by decide +kernel) rfl
theorem d_X12_tapeWord_19 : dk me_X12_tapeWord 19 (.if_icmp .ge 50) 3 22 := And.intro (by decide +kernel) rfl
theorem d_X12_tapeWord_22 : dk me_X12_tapeWord 22 (.aload_n 0) 1 23 := And.intro (by decide +kernel) rfl
theorem d_X12_tapeWord_23 : dk me_X12_tapeWord 23 (.getfield 7) 3 26 := And.intro (by decide +kernel) rfl
theorem d_X12_tapeWord_26 : dk me_X12_tapeWord 26 (.iload 5) 2 28 := And.intro (by decide +kernel) rfl
theorem d_X12_tapeWord_28 : dk me_X12_tapeWord 28 (.iaload) 1 29 := And.intro (by decide +kernel) rfl
theorem d_X12_tapeWord_29 : dk me_X12_tapeWord 29 (.bipush 97) 2 31 := And.intro (by decide +kernel) rfl
theorem d_X12_tapeWord_31 : dk me_X12_tapeWord 31 (.bipush 122) 2 33 := And.intro (by decide +kernel) rfl
theorem d_X12_tapeWord_33 : dk me_X12_tapeWord 33 (.invokestatic 235) 3 36 := And.intro (by decide +kernel) rfl
theorem d_X12_tapeWord_36 : dk me_X12_tapeWord 36 (.ifCond .eq 33) 3 39 := And.intro (by decide +kernel) rfl
theorem d_X12_tapeWord_39 : dk me_X12_tapeWord 39 (.lload_n 2) 1 40 := And.intro (by decide +kernel) rfl
theorem d_X12_tapeWord_40 : dk me_X12_tapeWord 40 (.aload_n 0) 1 41 := And.intro (by decide +kernel) rfl
theorem d_X12_tapeWord_41 : dk me_X12_tapeWord 41 (.getfield 7) 3 44 := And.intro (by decide +kernel) rfl
theorem d_X12_tapeWord_44 : dk me_X12_tapeWord 44 (.iload 5) 2 46 := And.intro (by decide +kernel) rfl
theorem d_X12_tapeWord_46 : dk me_X12_tapeWord 46 (.iaload) 1 47 := And.intro (by decide +kernel) rfl
theorem d_X12_tapeWord_47 : dk me_X12_tapeWord 47 (.bipush 97) 2 49 := And.intro (by decide +kernel) rfl
theorem d_X12_tapeWord_49 : dk me_X12_tapeWord 49 (.isub) 1 50 := And.intro (by decide +kernel) rfl
theorem d_X12_tapeWord_50 : dk me_X12_tapeWord 50 (.iconst 1) 1 51 := And.intro (by decide +kernel) rfl
theorem d_X12_tapeWord_51 : dk me_X12_tapeWord 51 (.iadd) 1 52 := And.intro (by decide +kernel) rfl
theorem d_X12_tapeWord_52 : dk me_X12_tapeWord 52 (.i2l) 1 53 := And.intro (by decide +kernel) rfl
theorem d_X12_tapeWord_53 : dk me_X12_tapeWord 53 (.iconst 5) 1 54 := And.intro (by decide +kernel) rfl
theorem d_X12_tapeWord_54 : dk me_X12_tapeWord 54 (.iload 5) 2 56 := And.intro (by decide +kernel) rfl
theorem d_X12_tapeWord_56 : dk me_X12_tapeWord 56 (.iload 4) 2 58 := And.intro (by decide +kernel) rfl
theorem d_X12_tapeWord_58 : dk me_X12_tapeWord 58 (.isub) 1 59 := And.intro (by decide +kernel) rfl
theorem d_X12_tapeWord_59 : dk me_X12_tapeWord 59 (.imul) 1 60 := And.intro (by decide +kernel) rfl
theorem d_X12_tapeWord_60 : dk me_X12_tapeWord 60 (.lshl) 1 61 := And.intro (by decide +kernel) rfl
theorem d_X12_tapeWord_61 : dk me_X12_tapeWord 61 (.lor) 1 62 := And.intro (by decide +kernel) rfl
theorem d_X12_tapeWord_62 : dk me_X12_tapeWord 62 (.lstore_n 2) 1 63 := And.intro (by decide +kernel) rfl
theorem d_X12_tapeWord_63 : dk me_X12_tapeWord 63 (.iinc 5 1) 3 66 := And.intro (by decide +kernel) rfl
theorem d_X12_tapeWord_66 : dk me_X12_tapeWord 66 (.goto (-53)) 3 69 := And.intro (by decide +kernel) rfl
theorem d_X12_tapeWord_69 : dk me_X12_tapeWord 69 (.lload_n 2) 1 70 := And.intro (by decide +kernel) rfl
theorem d_X12_tapeWord_70 : dk me_X12_tapeWord 70 (.lreturn) 1 71 := And.intro (by decide +kernel) rfl
theorem ms_X12_tapeWord {fx : FX} {m : MM} {l0 : Nat} {l1 : Int} : MS fx me_X12_tapeWord [aR (some (12, l0)), aI l1] m ((f_X12_tapeWord m l0 l1).bind fun v => some (.inl (some (aL v)), m)) := by
  refine ms_of rfl mf_X12_tapeWord (b8 rfl) ?_
  show Sim fx me_X12_tapeWord 0 [(0, aR (some (12, l0))), (1, aI l1)] [] m _
  unfold f_X12_tapeWord
  have hj_X12_tapeWord_0_69 : ∀ (l2_69 : Int64), Sim fx me_X12_tapeWord 69 [(2, aL l2_69)] [] m ((j_X12_tapeWord_0_69 m l2_69).bind (fun v => some (.inl (some (aL v)), m))) := by
    intro l2_69
    unfold j_X12_tapeWord_0_69
    exact s_lload_n d_X12_tapeWord_69 m0_ (s_lret d_X12_tapeWord_70 rfl rfl)
  refine s_lconst d_X12_tapeWord_0 rfl (s_lstore_n (L' := [(2, aL 0), (0, aR (some (12, l0))), (1, aI l1)]) d_X12_tapeWord_1 (b8 rfl) rfl (s_aload_n d_X12_tapeWord_2 m1_ (s_iload_n d_X12_tapeWord_3 m2_ (s_pI (r_V d_X12_tapeWord_4 k_X12_tapeFrom w_1700 rfl rfl) ms_X12_tapeFrom (b8 rfl) rfl rfl rfl fun v1 => (s_istore (L' := [(4, aI v1), (2, aL 0), (0, aR (some (12, l0))), (1, aI l1)]) d_X12_tapeWord_7 (b8 rfl) rfl ?_)))))
  refine s_iload d_X12_tapeWord_9 m0_ (s_istore (L' := [(5, aI v1), (4, aI v1), (2, aL 0), (0, aR (some (12, l0))), (1, aI l1)]) d_X12_tapeWord_11 (b8 rfl) rfl (s_sub (subc m2_ (subc m0_ (subc m3_ (subc m1_ sub0)))) (s_lp2 (fun s => [(2, aL (s.1)), (5, aI (s.2)), (0, aR (some (12, l0))), (4, aI v1)]) (fun s => m) (0, v1) fun k13 hx13 s ih0 => ?_)))
  obtain ⟨l2_13, l5_13⟩ := s
  have ih13 := ih0
  clear ih0
  try dsimp only
  unfold b_X12_tapeWord_13
  refine s_iload d_X12_tapeWord_13 m1_ (s_aload_n d_X12_tapeWord_15 m2_ (s_getN cf d_X12_tapeWord_16 fl_X12_257 (s_icmp_ge (tgt := 69) d_X12_tapeWord_19 rfl ?_ ?_)))
  · exact s_exit (hx13 _) (s_sub (subc m0_ sub0) (hj_X12_tapeWord_0_69 l2_13))
  refine s_aload_n d_X12_tapeWord_22 m2_ (s_getR cf d_X12_tapeWord_23 fl_X12_7 (s_nk fun i2 => (s_iload d_X12_tapeWord_26 m1_ (s_ldN d_X12_tapeWord_28 ka_59 rfl fun v3 => (s_bipush d_X12_tapeWord_29 n_97 rfl ?_)))))
  refine s_bipush d_X12_tapeWord_31 n_122 rfl (s_pI (r_S d_X12_tapeWord_33 k_X12_isIn w_1664 rfl rfl) ms_X12_isIn (b8 rfl) rfl rfl rfl fun v4 => (s_if_eq (tgt := 69) d_X12_tapeWord_36 rfl ?_ ?_))
  · exact s_exit (hx13 _) (s_sub (subc m0_ sub0) (hj_X12_tapeWord_0_69 l2_13))
  refine s_lload_n d_X12_tapeWord_39 m0_ (s_aload_n d_X12_tapeWord_40 m2_ (s_getR cf d_X12_tapeWord_41 fl_X12_7 (s_nk fun i5 => (s_iload d_X12_tapeWord_44 m1_ (s_ldN d_X12_tapeWord_46 ka_59 rfl fun v6 => ?_)))))
  refine s_bipush d_X12_tapeWord_47 n_97 rfl (s_isub d_X12_tapeWord_49 rfl rfl (s_iconst d_X12_tapeWord_50 n_1 (s_iadd d_X12_tapeWord_51 rfl rfl (s_ck (s_i2l d_X12_tapeWord_52 ?_)))))
  refine s_iconst d_X12_tapeWord_53 n_5 (s_iload d_X12_tapeWord_54 m1_ (s_iload d_X12_tapeWord_56 m3_ (s_isub d_X12_tapeWord_58 rfl rfl (s_imul d_X12_tapeWord_59 rfl rfl (s_ck ?_)))))
  refine s_lshl d_X12_tapeWord_60 (s_lor d_X12_tapeWord_61 (s_letL fun v7 => (s_lstore_n (L' := [(2, aL v7), (5, aI l5_13), (0, aR (some (12, l0))), (4, aI v1)]) d_X12_tapeWord_62 (b8 rfl) rfl (s_iinc (L' := [(5, aI (l5_13 + 1)), (2, aL v7), (0, aR (some (12, l0))), (4, aI v1)]) d_X12_tapeWord_63 m1_ (b8 rfl) rfl (s_goto (tgt := 13) d_X12_tapeWord_66 rfl ?_)))))
  exact s_sub (subc m1_ (subc m0_ (subc m2_ (subc m3_ sub0)))) (s_back (ih13 (v7, (l5_13 + 1))))
theorem d_X12_tapeWords_0 : dk me_X12_tapeWords 0 (.iconst 1) 1 1 := And.intro (by decide +kernel) rfl
theorem d_X12_tapeWords_1 : dk me_X12_tapeWords 1 (.istore_n 1) 1 2 := And.intro (by decide +kernel) rfl
theorem d_X12_tapeWords_2 : dk me_X12_tapeWords 2 (.iconst 0) 1 3 := And.intro (by decide +kernel) rfl
theorem d_X12_tapeWords_3 : dk me_X12_tapeWords 3 (.istore_n 2) 1 4 := And.intro (by decide +kernel) rfl
theorem d_X12_tapeWords_4 : dk me_X12_tapeWords 4 (.iload_n 2) 1 5 := And.intro (by decide +kernel) rfl
theorem d_X12_tapeWords_5 : dk me_X12_tapeWords 5 (.aload_n 0) 1 6 := And.intro (by decide +kernel) rfl
theorem d_X12_tapeWords_6 : dk me_X12_tapeWords 6 (.getfield 257) 3 9 := And.intro (by decide +kernel) rfl
theorem d_X12_tapeWords_9 : dk me_X12_tapeWords 9 (.if_icmp .ge 33) 3 12 := And.intro (by decide +kernel) rfl
theorem d_X12_tapeWords_12 : dk me_X12_tapeWords 12 (.iload_n 1) 1 13 := And.intro (by decide +kernel) rfl
theorem d_X12_tapeWords_13 : dk me_X12_tapeWords 13 (.aload_n 0) 1 14 := And.intro (by decide +kernel) rfl
theorem d_X12_tapeWords_14 : dk me_X12_tapeWords 14 (.getfield 7) 3 17 := And.intro (by decide +kernel) rfl
theorem d_X12_tapeWords_17 : dk me_X12_tapeWords 17 (.iload_n 2) 1 18 := And.intro (by decide +kernel) rfl
theorem d_X12_tapeWords_18 : dk me_X12_tapeWords 18 (.iaload) 1 19 := And.intro (by decide +kernel) rfl
theorem d_X12_tapeWords_19 : dk me_X12_tapeWords 19 (.bipush 97) 2 21 := And.intro (by decide +kernel) rfl
theorem d_X12_tapeWords_21 : dk me_X12_tapeWords 21 (.bipush 122) 2 23 := And.intro (by decide +kernel) rfl
theorem d_X12_tapeWords_23 : dk me_X12_tapeWords 23 (.invokestatic 235) 3 26 := And.intro (by decide +kernel) rfl
theorem d_X12_tapeWords_26 : dk me_X12_tapeWords 26 (.ifCond .eq 7) 3 29 := And.intro (by decide +kernel) rfl
theorem d_X12_tapeWords_29 : dk me_X12_tapeWords 29 (.iconst 0) 1 30 := And.intro (by decide +kernel) rfl
theorem d_X12_tapeWords_30 : dk me_X12_tapeWords 30 (.goto 4) 3 33 := And.intro (by decide +kernel) rfl
theorem d_X12_tapeWords_33 : dk me_X12_tapeWords 33 (.iconst 1) 1 34 := And.intro (by decide +kernel) rfl
theorem d_X12_tapeWords_34 : dk me_X12_tapeWords 34 (.iadd) 1 35 := And.intro (by decide +kernel) rfl
theorem d_X12_tapeWords_35 : dk me_X12_tapeWords 35 (.istore_n 1) 1 36 := And.intro (by decide +kernel) rfl
theorem d_X12_tapeWords_36 : dk me_X12_tapeWords 36 (.iinc 2 1) 3 39 := And.intro (by decide +kernel) rfl
theorem d_X12_tapeWords_39 : dk me_X12_tapeWords 39 (.goto (-35)) 3 42 := And.intro (by decide +kernel) rfl
theorem d_X12_tapeWords_42 : dk me_X12_tapeWords 42 (.iload_n 1) 1 43 := And.intro (by decide +kernel) rfl
theorem d_X12_tapeWords_43 : dk me_X12_tapeWords 43 (.ireturn) 1 44 := And.intro (by decide +kernel) rfl
theorem ms_X12_tapeWords {fx : FX} {m : MM} {l0 : Nat} : MS fx me_X12_tapeWords [aR (some (12, l0))] m ((f_X12_tapeWords m l0).bind fun v => some (.inl (some (aI v)), m)) := by
  refine ms_of rfl mf_X12_tapeWords (b8 rfl) ?_
  show Sim fx me_X12_tapeWords 0 [(0, aR (some (12, l0)))] [] m _
  unfold f_X12_tapeWords
  have hj_X12_tapeWords_0_42 : ∀ (l1_42 : Int), Sim fx me_X12_tapeWords 42 [(1, aI l1_42)] [] m ((j_X12_tapeWords_0_42 m l1_42).bind (fun v => some (.inl (some (aI v)), m))) := by
    intro l1_42
    unfold j_X12_tapeWords_0_42
    exact s_iload_n d_X12_tapeWords_42 m0_ (s_iret d_X12_tapeWords_43 rfl rfl)
  refine s_iconst d_X12_tapeWords_0 n_1 (s_istore_n (L' := [(1, aI 1), (0, aR (some (12, l0)))]) d_X12_tapeWords_1 (b8 rfl) rfl (s_iconst d_X12_tapeWords_2 n_0 (s_istore_n (L' := [(2, aI 0), (1, aI 1), (0, aR (some (12, l0)))]) d_X12_tapeWords_3 (b8 rfl) rfl (s_sub (subc m1_ (subc m0_ (subc m2_ sub0))) (s_lp2 (fun s => [(1, aI (s.1)), (2, aI (s.2)), (0, aR (some (12, l0)))]) (fun s => m) (1, 0) fun k4 hx4 s ih0 => ?_)))))
  obtain ⟨l1_4, l2_4⟩ := s
  have ih4 := ih0
  clear ih0
  try dsimp only
  unfold b_X12_tapeWords_4
  refine s_iload_n d_X12_tapeWords_4 m1_ (s_aload_n d_X12_tapeWords_5 m2_ (s_getN cf d_X12_tapeWords_6 fl_X12_257 (s_icmp_ge (tgt := 42) d_X12_tapeWords_9 rfl ?_ ?_)))
  · exact s_exit (hx4 _) (s_sub (subc m0_ sub0) (hj_X12_tapeWords_0_42 l1_4))
  refine s_iload_n d_X12_tapeWords_12 m0_ (s_aload_n d_X12_tapeWords_13 m2_ (s_getR cf d_X12_tapeWords_14 fl_X12_7 (s_nk fun i1 => (s_iload_n d_X12_tapeWords_17 m1_ (s_ldN d_X12_tapeWords_18 ka_59 rfl fun v2 => ?_)))))
  refine s_bipush d_X12_tapeWords_19 n_97 rfl (s_bipush d_X12_tapeWords_21 n_122 rfl (s_pI (r_S d_X12_tapeWords_23 k_X12_isIn w_1664 rfl rfl) ms_X12_isIn (b8 rfl) rfl rfl rfl fun v3 => (s_if_eq (tgt := 33) d_X12_tapeWords_26 rfl ?_ ?_)))
  · refine s_iconst d_X12_tapeWords_33 n_1 (s_iadd d_X12_tapeWords_34 rfl rfl (s_ck (s_istore_n (L' := [(1, aI (l1_4 + 1)), (2, aI l2_4), (0, aR (some (12, l0)))]) d_X12_tapeWords_35 (b8 rfl) rfl (s_iinc (L' := [(2, aI (l2_4 + 1)), (1, aI (l1_4 + 1)), (0, aR (some (12, l0)))]) d_X12_tapeWords_36 m1_ (b8 rfl) rfl (s_goto (tgt := 4) d_X12_tapeWords_39 rfl ?_)))))
    exact s_sub (subc m1_ (subc m0_ (subc m2_ sub0))) (s_back (ih4 ((l1_4 + 1), (l2_4 + 1))))
  refine s_iconst d_X12_tapeWords_29 n_0 (s_goto (tgt := 34) d_X12_tapeWords_30 rfl (s_iadd d_X12_tapeWords_34 rfl rfl (s_ck (s_istore_n (L' := [(1, aI (l1_4 + 0)), (2, aI l2_4), (0, aR (some (12, l0)))]) d_X12_tapeWords_35 (b8 rfl) rfl (s_iinc (L' := [(2, aI (l2_4 + 1)), (1, aI (l1_4 + 0)), (0, aR (some (12, l0)))]) d_X12_tapeWords_36 m1_ (b8 rfl) rfl ?_)))))
  exact s_goto (tgt := 4) d_X12_tapeWords_39 rfl (s_sub (subc m1_ (subc m0_ (subc m2_ sub0))) (s_back (ih4 ((l1_4 + 0), (l2_4 + 1)))))
theorem d_X12_copy_0 : dk me_X12_copy 0 (.aload_n 0) 1 1 := And.intro (by decide +kernel) rfl
theorem d_X12_copy_1 : dk me_X12_copy 1 (.iload_n 1) 1 2 := And.intro (by decide +kernel) rfl
theorem d_X12_copy_2 : dk me_X12_copy 2 (.invokevirtual 239) 3 5 := And.intro (by decide +kernel) rfl
theorem d_X12_copy_5 : dk me_X12_copy 5 (.istore_n 2) 1 6 := And.intro (by decide +kernel) rfl
theorem d_X12_copy_6 : dk me_X12_copy 6 (.aload_n 0) 1 7 := And.intro (by decide +kernel) rfl
theorem d_X12_copy_7 : dk me_X12_copy 7 (.invokevirtual 263) 3 10 := And.intro (by decide +kernel) rfl
theorem d_X12_copy_10 : dk me_X12_copy 10 (.iconst (-1)) 1 11 := And.intro (by decide +kernel) rfl
theorem d_X12_copy_11 : dk me_X12_copy 11 (.if_icmp .ne 7) 3 14 := And.intro (by decide +kernel) rfl
theorem d_X12_copy_14 : dk me_X12_copy 14 (.iconst 1) 1 15 := And.intro (by decide +kernel) rfl
theorem d_X12_copy_15 : dk me_X12_copy 15 (.goto 4) 3 18 := And.intro (by decide +kernel) rfl
theorem d_X12_copy_18 : dk me_X12_copy 18 (.iconst 0) 1 19 := And.intro (by decide +kernel) rfl
theorem d_X12_copy_19 : dk me_X12_copy 19 (.istore_n 3) 1 20 := And.intro (by decide +kernel) rfl
theorem d_X12_copy_20 : dk me_X12_copy 20 (.iload_n 2) 1 21 := And.intro (by decide +kernel) rfl
theorem d_X12_copy_21 : dk me_X12_copy 21 (.ifCond .eq 44) 3 24 := And.intro (by decide +kernel) rfl
theorem d_X12_copy_24 : dk me_X12_copy 24 (.iload_n 3) 1 25 := And.intro (by decide +kernel) rfl
theorem d_X12_copy_25 : dk me_X12_copy 25 (.ifCond .eq 40) 3 28 := And.intro (by decide +kernel) rfl
theorem d_X12_copy_28 : dk me_X12_copy 28 (.aload_n 0) 1 29 := And.intro (by decide +kernel) rfl
theorem d_X12_copy_29 : dk me_X12_copy 29 (.getfield 75) 3 32 := And.intro (by decide +kernel) rfl
theorem d_X12_copy_32 : dk me_X12_copy 32 (.iload_n 1) 1 33 := And.intro (by decide +kernel) rfl
theorem d_X12_copy_33 : dk me_X12_copy 33 (.iaload) 1 34 := And.intro (by decide +kernel) rfl
theorem d_X12_copy_34 : dk me_X12_copy 34 (.aload_n 0) 1 35 := And.intro (by decide +kernel) rfl
theorem d_X12_copy_35 : dk me_X12_copy 35 (.invokevirtual 270) 3 38 := And.intro (by decide +kernel) rfl
theorem d_X12_copy_38 : dk me_X12_copy 38 (.iadd) 1 39 := And.intro (by decide +kernel) rfl
theorem d_X12_copy_39 : dk me_X12_copy 39 (.bipush 60) 2 41 := And.intro (by decide +kernel) rfl
theorem d_X12_copy_41 : dk me_X12_copy 41 (.if_icmp .gt 24) 3 44 := And.intro (by decide +kernel) rfl
theorem d_X12_copy_44 : dk me_X12_copy 44 (.aload_n 0) 1 45 := And.intro (by decide +kernel) rfl
theorem d_X12_copy_45 : dk me_X12_copy 45 (.getfield 68) 3 48 := And.intro (by decide +kernel) rfl
theorem d_X12_copy_48 : dk me_X12_copy 48 (.iload_n 1) 1 49 := And.intro (by decide +kernel) rfl
theorem d_X12_copy_49 : dk me_X12_copy 49 (.iaload) 1 50 := And.intro (by decide +kernel) rfl
theorem d_X12_copy_50 : dk me_X12_copy 50 (.ifCond .ne 15) 3 53 := And.intro (by decide +kernel) rfl
theorem d_X12_copy_53 : dk me_X12_copy 53 (.aload_n 0) 1 54 := And.intro (by decide +kernel) rfl
theorem d_X12_copy_54 : dk me_X12_copy 54 (.iload_n 1) 1 55 := And.intro (by decide +kernel) rfl
theorem d_X12_copy_55 : dk me_X12_copy 55 (.invokevirtual 298) 3 58 := And.intro (by decide +kernel) rfl
theorem d_X12_copy_58 : dk me_X12_copy 58 (.ifCond .ne 7) 3 61 := And.intro (by decide +kernel) rfl
theorem d_X12_copy_61 : dk me_X12_copy 61 (.iconst 1) 1 62 := And.intro (by decide +kernel) rfl
theorem d_X12_copy_62 : dk me_X12_copy 62 (.goto 4) 3 65 := And.intro (by decide +kernel) rfl
theorem d_X12_copy_65 : dk me_X12_copy 65 (.iconst 0) 1 66 := And.intro (by decide +kernel) rfl
theorem d_X12_copy_66 : dk me_X12_copy 66 (.istore 4) 2 68 := And.intro (by decide +kernel) rfl
theorem d_X12_copy_68 : dk me_X12_copy 68 (.aload_n 0) 1 69 := And.intro (by decide +kernel) rfl
theorem d_X12_copy_69 : dk me_X12_copy 69 (.iload_n 2) 1 70 := And.intro (by decide +kernel) rfl
theorem d_X12_copy_70 : dk me_X12_copy 70 (.ifCond .ne 7) 3 73 := And.intro (by decide +kernel) rfl
theorem d_X12_copy_73 : dk me_X12_copy 73 (.iconst 1) 1 74 := And.intro (by decide +kernel) rfl
theorem d_X12_copy_74 : dk me_X12_copy 74 (.goto 21) 3 77 := And.intro (by decide +kernel) rfl
theorem d_X12_copy_77 : dk me_X12_copy 77 (.iload_n 3) 1 78 := And.intro (by decide +kernel) rfl
theorem d_X12_copy_78 : dk me_X12_copy 78 (.ifCond .ne 7) 3 81 := And.intro (by decide +kernel) rfl
theorem d_X12_copy_81 : dk me_X12_copy 81 (.iconst 2) 1 82 := And.intro (by decide +kernel) rfl
theorem d_X12_copy_82 : dk me_X12_copy 82 (.goto 13) 3 85 := And.intro (by decide +kernel) rfl
theorem d_X12_copy_85 : dk me_X12_copy 85 (.iload 4) 2 87 := And.intro (by decide +kernel) rfl
theorem d_X12_copy_87 : dk me_X12_copy 87 (.ifCond .eq 7) 3 90 := And.intro (by decide +kernel) rfl
theorem d_X12_copy_90 : dk me_X12_copy 90 (.iconst 0) 1 91 := And.intro (by decide +kernel) rfl
theorem d_X12_copy_91 : dk me_X12_copy 91 (.goto 4) 3 94 := And.intro (by decide +kernel) rfl
theorem d_X12_copy_94 : dk me_X12_copy 94 (.iconst 3) 1 95 := And.intro (by decide +kernel) rfl
theorem d_X12_copy_95 : dk me_X12_copy 95 (.invokevirtual 260) 3 98 := And.intro (by decide +kernel) rfl
theorem d_X12_copy_98 : dk me_X12_copy 98 (.ifCond .ne 5) 3 101 := And.intro (by decide +kernel) rfl
theorem d_X12_copy_101 : dk me_X12_copy 101 (.iconst 0) 1 102 := And.intro (by decide +kernel) rfl
theorem d_X12_copy_102 : dk me_X12_copy 102 (.ireturn) 1 103 := And.intro (by decide +kernel) rfl
theorem d_X12_copy_103 : dk me_X12_copy 103 (.aload_n 0) 1 104 := And.intro (by decide +kernel) rfl
theorem d_X12_copy_104 : dk me_X12_copy 104 (.invokevirtual 270) 3 107 := And.intro (by decide +kernel) rfl
theorem d_X12_copy_107 : dk me_X12_copy 107 (.istore 5) 2 109 := And.intro (by decide +kernel) rfl
theorem d_X12_copy_109 : dk me_X12_copy 109 (.iconst 0) 1 110 := And.intro (by decide +kernel) rfl
theorem d_X12_copy_110 : dk me_X12_copy 110 (.istore 6) 2 112 := And.intro (by decide +kernel) rfl
theorem d_X12_copy_112 : dk me_X12_copy 112 (.iload 6) 2 114 := And.intro (by decide +kernel) rfl
theorem d_X12_copy_114 : dk me_X12_copy 114 (.iload 5) 2 116 := And.intro (by decide +kernel) rfl
theorem d_X12_copy_116 : dk me_X12_copy 116 (.if_icmp .ge 63) 3 119 := And.intro (by decide +kernel) rfl
theorem d_X12_copy_119 : dk me_X12_copy 119 (.aload_n 0) 1 120 := And.intro (by decide +kernel) rfl
theorem d_X12_copy_120 : dk me_X12_copy 120 (.getfield 78) 3 123 := And.intro (by decide +kernel) rfl
theorem d_X12_copy_123 : dk me_X12_copy 123 (.bipush 60) 2 125 := And.intro (by decide +kernel) rfl
theorem d_X12_copy_125 : dk me_X12_copy 125 (.iload_n 1) 1 126 := And.intro (by decide +kernel) rfl
theorem d_X12_copy_126 : dk me_X12_copy 126 (.imul) 1 127 := And.intro (by decide +kernel) rfl
theorem d_X12_copy_127 : dk me_X12_copy 127 (.aload_n 0) 1 128 := And.intro (by decide +kernel) rfl
theorem d_X12_copy_128 : dk me_X12_copy 128 (.getfield 75) 3 131 := And.intro (by decide +kernel) rfl
theorem d_X12_copy_131 : dk me_X12_copy 131 (.iload_n 1) 1 132 := And.intro (by decide +kernel) rfl
theorem d_X12_copy_132 : dk me_X12_copy 132 (.iaload) 1 133 := And.intro (by decide +kernel) rfl
theorem d_X12_copy_133 : dk me_X12_copy 133 (.iadd) 1 134 := And.intro (by decide +kernel) rfl
theorem d_X12_copy_134 : dk me_X12_copy 134 (.aload_n 0) 1 135 := And.intro (by decide +kernel) rfl
theorem d_X12_copy_135 : dk me_X12_copy 135 (.iload 6) 2 137 := And.intro (by decide +kernel) rfl
theorem d_X12_copy_137 : dk me_X12_copy 137 (.invokevirtual 276) 3 140 := And.intro (by decide +kernel) rfl
theorem d_X12_copy_140 : dk me_X12_copy 140 (.lastore) 1 141 := And.intro (by decide +kernel) rfl
theorem d_X12_copy_141 : dk me_X12_copy 141 (.aload_n 0) 1 142 := And.intro (by decide +kernel) rfl
theorem d_X12_copy_142 : dk me_X12_copy 142 (.getfield 81) 3 145 := And.intro (by decide +kernel) rfl
theorem d_X12_copy_145 : dk me_X12_copy 145 (.bipush 60) 2 147 := And.intro (by decide +kernel) rfl
theorem d_X12_copy_147 : dk me_X12_copy 147 (.iload_n 1) 1 148 := And.intro (by decide +kernel) rfl
theorem d_X12_copy_148 : dk me_X12_copy 148 (.imul) 1 149 := And.intro (by decide +kernel) rfl
theorem d_X12_copy_149 : dk me_X12_copy 149 (.aload_n 0) 1 150 := And.intro (by decide +kernel) rfl
theorem d_X12_copy_150 : dk me_X12_copy 150 (.getfield 75) 3 153 := And.intro (by decide +kernel) rfl
theorem d_X12_copy_153 : dk me_X12_copy 153 (.iload_n 1) 1 154 := And.intro (by decide +kernel) rfl
theorem d_X12_copy_154 : dk me_X12_copy 154 (.iaload) 1 155 := And.intro (by decide +kernel) rfl
theorem d_X12_copy_155 : dk me_X12_copy 155 (.iadd) 1 156 := And.intro (by decide +kernel) rfl
theorem d_X12_copy_156 : dk me_X12_copy 156 (.aload_n 0) 1 157 := And.intro (by decide +kernel) rfl
theorem d_X12_copy_157 : dk me_X12_copy 157 (.iload 6) 2 159 := And.intro (by decide +kernel) rfl
theorem d_X12_copy_159 : dk me_X12_copy 159 (.invokevirtual 273) 3 162 := And.intro (by decide +kernel) rfl
theorem d_X12_copy_162 : dk me_X12_copy 162 (.bastore) 1 163 := And.intro (by decide +kernel) rfl
theorem d_X12_copy_163 : dk me_X12_copy 163 (.aload_n 0) 1 164 := And.intro (by decide +kernel) rfl
theorem d_X12_copy_164 : dk me_X12_copy 164 (.getfield 75) 3 167 := And.intro (by decide +kernel) rfl
theorem d_X12_copy_167 : dk me_X12_copy 167 (.iload_n 1) 1 168 := And.intro (by decide +kernel) rfl
theorem d_X12_copy_168 : dk me_X12_copy 168 (.dup2) 1 169 := And.intro (by decide +kernel) rfl
theorem d_X12_copy_169 : dk me_X12_copy 169 (.iaload) 1 170 := And.intro (by decide +kernel) rfl
theorem d_X12_copy_170 : dk me_X12_copy 170 (.iconst 1) 1 171 := And.intro (by decide +kernel) rfl
theorem d_X12_copy_171 : dk me_X12_copy 171 (.iadd) 1 172 := And.intro (by decide +kernel) rfl
theorem d_X12_copy_172 : dk me_X12_copy 172 (.iastore) 1 173 := And.intro (by decide +kernel) rfl
theorem d_X12_copy_173 : dk me_X12_copy 173 (.iinc 6 1) 3 176 := And.intro (by decide +kernel) rfl
theorem d_X12_copy_176 : dk me_X12_copy 176 (.goto (-64)) 3 179 := And.intro (by decide +kernel) rfl
theorem d_X12_copy_179 : dk me_X12_copy 179 (.aload_n 0) 1 180 := And.intro (by decide +kernel) rfl
theorem d_X12_copy_180 : dk me_X12_copy 180 (.iconst 0) 1 181 := And.intro (by decide +kernel) rfl
theorem d_X12_copy_181 : dk me_X12_copy 181 (.putfield 257) 3 184 := And.intro (by decide +kernel) rfl
theorem d_X12_copy_184 : dk me_X12_copy 184 (.aload_n 0) 1 185 := And.intro (by decide +kernel) rfl
theorem d_X12_copy_185 : dk me_X12_copy 185 (.getfield 75) 3 188 := And.intro (by decide +kernel) rfl
theorem d_X12_copy_188 : dk me_X12_copy 188 (.iload_n 1) 1 189 := And.intro (by decide +kernel) rfl
theorem d_X12_copy_189 : dk me_X12_copy 189 (.iaload) 1 190 := And.intro (by decide +kernel) rfl
theorem d_X12_copy_190 : dk me_X12_copy 190 (.ireturn) 1 191 := And.intro (by decide +kernel) rfl
theorem ms_X12_copy {fx : FX} {m : MM} {l0 : Nat} {l1 : Int} : MS fx me_X12_copy [aR (some (12, l0)), aI l1] m (f_X12_copy m l0 l1) := by
  refine ms_of rfl mf_X12_copy (b8 rfl) ?_
  refine s_top ?_
  show Sim fx me_X12_copy 0 [(0, aR (some (12, l0))), (1, aI l1)] [] m _
  unfold f_X12_copy
  have hj_X12_copy_0_179 : ∀ (m_179 : MM) (l0_179 : Nat) (l1_179 : Int), Sim fx me_X12_copy 179 [(0, aR (some (12, l0_179))), (1, aI l1_179)] [] m_179 ((j_X12_copy_0_179 m_179 l0_179 l1_179).bind (fun z => some z)) := by
    intro m_179 l0_179 l1_179
    unfold j_X12_copy_0_179
    refine s_aload_n d_X12_copy_179 m0_ (s_iconst d_X12_copy_180 n_0 (s_putN cf d_X12_copy_181 fl_X12_257 (fun h => by cases h) fun m25 => (s_aload_n d_X12_copy_184 m0_ (s_getR cf d_X12_copy_185 fl_X12_75 (s_nk fun i26 => ?_)))))
    exact s_iload_n d_X12_copy_188 m1_ (s_ldN d_X12_copy_189 ka_80 rfl fun v27 => (s_iret d_X12_copy_190 rfl rfl))
  have hj_X12_copy_0_95 : ∀ (m_95 : MM) (l0_95 : Nat) (l1_95 : Int) (s0_95 : Nat) (s1_95 : Int), Sim fx me_X12_copy 95 [(0, aR (some (12, l0_95))), (1, aI l1_95)] [aI s1_95, aR (some (12, s0_95))] m_95 ((j_X12_copy_0_95 m_95 l0_95 l1_95 s0_95 s1_95).bind (fun z => some z)) := by
    intro m_95 l0_95 l1_95 s0_95 s1_95
    unfold j_X12_copy_0_95
    refine s_cI (r_V d_X12_copy_95 k_X12_holds w_1668 rfl rfl) ms_X12_holds (b8 rfl) rfl rfl rfl (fun _ _ _ => rfl) (fun _ _ => Or.inl rfl) fun v10 m9 => (s_if_ne (tgt := 103) d_X12_copy_98 rfl ?_ ?_)
    · refine s_aload_n d_X12_copy_103 m0_ (s_pI (r_V d_X12_copy_104 k_X12_tapeWords w_1692 rfl rfl) ms_X12_tapeWords (b8 rfl) rfl rfl rfl fun v11 => (s_istore (L' := [(5, aI v11), (0, aR (some (12, l0_95))), (1, aI l1_95)]) d_X12_copy_107 (b8 rfl) rfl (s_iconst d_X12_copy_109 n_0 (s_istore (L' := [(6, aI 0), (5, aI v11), (0, aR (some (12, l0_95))), (1, aI l1_95)]) d_X12_copy_110 (b8 rfl) rfl (s_sub (subc m0_ (subc m2_ (subc m3_ (subc m1_ sub0)))) (s_lp2 (fun s => [(6, aI (s.1)), (0, aR (some (12, l0_95))), (1, aI l1_95), (5, aI v11)]) (fun s => s.2) (0, m9) fun k112 hx112 s ih0 => ?_))))))
      obtain ⟨l6_112, mm_112⟩ := s
      have ih112 := ih0
      clear ih0
      try dsimp only
      unfold b_X12_copy_112
      refine s_iload d_X12_copy_112 m0_ (s_iload d_X12_copy_114 m3_ (s_icmp_ge (tgt := 179) d_X12_copy_116 rfl ?_ ?_))
      · exact s_exit (hx112 _) (s_sub (subc m1_ (subc m2_ sub0)) (hj_X12_copy_0_179 mm_112 l0_95 l1_95))
      refine s_aload_n d_X12_copy_119 m1_ (s_getR cf d_X12_copy_120 fl_X12_78 (s_nk fun i12 => (s_bipush d_X12_copy_123 n_60 rfl (s_iload_n d_X12_copy_125 m2_ (s_imul d_X12_copy_126 rfl rfl ?_)))))
      refine s_aload_n d_X12_copy_127 m1_ (s_getR cf d_X12_copy_128 fl_X12_75 (s_nk fun i13 => (s_iload_n d_X12_copy_131 m2_ (s_ldN d_X12_copy_132 ka_80 rfl fun v14 => (s_iadd d_X12_copy_133 rfl rfl ?_)))))
      refine s_aload_n d_X12_copy_134 m1_ (s_iload d_X12_copy_135 m0_ (s_pL (r_V d_X12_copy_137 k_X12_tapeWord w_1704 rfl rfl) ms_X12_tapeWord (b8 rfl) rfl rfl rfl fun v15 => (s_stL d_X12_copy_140 ka_81 rfl fun m16 => (s_aload_n d_X12_copy_141 m1_ (s_getR cf d_X12_copy_142 fl_X12_81 ?_)))))
      refine s_nk fun i17 => (s_bipush d_X12_copy_145 n_60 rfl (s_iload_n d_X12_copy_147 m2_ (s_imul d_X12_copy_148 rfl rfl (s_aload_n d_X12_copy_149 m1_ (s_getR cf d_X12_copy_150 fl_X12_75 ?_)))))
      refine s_nk fun i18 => (s_iload_n d_X12_copy_153 m2_ (s_ldN d_X12_copy_154 ka_80 rfl fun v19 => (s_iadd d_X12_copy_155 rfl rfl (s_aload_n d_X12_copy_156 m1_ (s_iload d_X12_copy_157 m0_ ?_)))))
      refine s_pI (r_V d_X12_copy_159 k_X12_tapeEnds w_1696 rfl rfl) ms_X12_tapeEnds (b8 rfl) rfl rfl rfl fun v20 => (s_stB d_X12_copy_162 ka_82 rfl fun m21 => (s_aload_n d_X12_copy_163 m1_ (s_getR cf d_X12_copy_164 fl_X12_75 (s_nk fun i22 => (s_iload_n d_X12_copy_167 m2_ ?_)))))
      refine s_dup2 d_X12_copy_168 rfl rfl (s_ldN d_X12_copy_169 ka_80 rfl fun v23 => (s_iconst d_X12_copy_170 n_1 (s_iadd d_X12_copy_171 rfl rfl (s_ck (s_stN d_X12_copy_172 ka_80 rfl fun m24 => ?_)))))
      exact s_iinc (L' := [(6, aI (l6_112 + 1)), (0, aR (some (12, l0_95))), (1, aI l1_95), (5, aI v11)]) d_X12_copy_173 m0_ (b8 rfl) rfl (s_goto (tgt := 112) d_X12_copy_176 rfl (s_sub (subc m0_ (subc m1_ (subc m2_ (subc m3_ sub0)))) (s_back (ih112 ((l6_112 + 1), m24)))))
    exact s_iconst d_X12_copy_101 n_0 (s_iret d_X12_copy_102 rfl rfl)
  have hj_X12_copy_0_66 : ∀ (m_66 : MM) (l0_66 : Nat) (l1_66 : Int) (l2_66 : Int) (l3_66 : Int) (s0_66 : Int), Sim fx me_X12_copy 66 [(0, aR (some (12, l0_66))), (1, aI l1_66), (2, aI l2_66), (3, aI l3_66)] [aI s0_66] m_66 ((j_X12_copy_0_66 m_66 l0_66 l1_66 l2_66 l3_66 s0_66).bind (fun z => some z)) := by
    intro m_66 l0_66 l1_66 l2_66 l3_66 s0_66
    unfold j_X12_copy_0_66
    refine s_istore (L' := [(4, aI s0_66), (0, aR (some (12, l0_66))), (1, aI l1_66), (2, aI l2_66), (3, aI l3_66)]) d_X12_copy_66 (b8 rfl) rfl (s_aload_n d_X12_copy_68 m1_ (s_iload_n d_X12_copy_69 m3_ (s_if_ne (tgt := 77) d_X12_copy_70 rfl ?_ ?_)))
    · refine s_iload_n d_X12_copy_77 m4_ (s_if_ne (tgt := 85) d_X12_copy_78 rfl ?_ ?_)
      · refine s_iload d_X12_copy_85 m0_ (s_if_eq (tgt := 94) d_X12_copy_87 rfl ?_ ?_)
        · exact s_iconst d_X12_copy_94 n_3 (s_sub (subc m1_ (subc m2_ sub0)) (hj_X12_copy_0_95 m_66 l0_66 l1_66 l0_66 3))
        exact s_iconst d_X12_copy_90 n_0 (s_goto (tgt := 95) d_X12_copy_91 rfl (s_sub (subc m1_ (subc m2_ sub0)) (hj_X12_copy_0_95 m_66 l0_66 l1_66 l0_66 0)))
      exact s_iconst d_X12_copy_81 n_2 (s_goto (tgt := 95) d_X12_copy_82 rfl (s_sub (subc m1_ (subc m2_ sub0)) (hj_X12_copy_0_95 m_66 l0_66 l1_66 l0_66 2)))
    exact s_iconst d_X12_copy_73 n_1 (s_goto (tgt := 95) d_X12_copy_74 rfl (s_sub (subc m1_ (subc m2_ sub0)) (hj_X12_copy_0_95 m_66 l0_66 l1_66 l0_66 1)))
  have hj_X12_copy_0_65 : ∀ (m_65 : MM) (l0_65 : Nat) (l1_65 : Int) (l2_65 : Int) (l3_65 : Int), Sim fx me_X12_copy 65 [(0, aR (some (12, l0_65))), (1, aI l1_65), (2, aI l2_65), (3, aI l3_65)] [] m_65 ((j_X12_copy_0_65 m_65 l0_65 l1_65 l2_65 l3_65).bind (fun z => some z)) := by
    intro m_65 l0_65 l1_65 l2_65 l3_65
    unfold j_X12_copy_0_65
    exact s_iconst d_X12_copy_65 n_0 (s_sub (subc m0_ (subc m1_ (subc m2_ (subc m3_ sub0)))) (hj_X12_copy_0_66 m_65 l0_65 l1_65 l2_65 l3_65 0))
  have hj_X12_copy_0_19 : ∀ (m_19 : MM) (l0_19 : Nat) (l1_19 : Int) (l2_19 : Int) (s0_19 : Int), Sim fx me_X12_copy 19 [(0, aR (some (12, l0_19))), (1, aI l1_19), (2, aI l2_19)] [aI s0_19] m_19 ((j_X12_copy_0_19 m_19 l0_19 l1_19 l2_19 s0_19).bind (fun z => some z)) := by
    intro m_19 l0_19 l1_19 l2_19 s0_19
    unfold j_X12_copy_0_19
    refine s_istore_n (L' := [(3, aI s0_19), (0, aR (some (12, l0_19))), (1, aI l1_19), (2, aI l2_19)]) d_X12_copy_19 (b8 rfl) rfl (s_iload_n d_X12_copy_20 m3_ (s_if_eq (tgt := 65) d_X12_copy_21 rfl ?_ ?_))
    · exact s_sub (subc m1_ (subc m2_ (subc m3_ (subc m0_ sub0)))) (hj_X12_copy_0_65 m_19 l0_19 l1_19 l2_19 s0_19)
    refine s_iload_n d_X12_copy_24 m0_ (s_if_eq (tgt := 65) d_X12_copy_25 rfl ?_ ?_)
    · exact s_sub (subc m1_ (subc m2_ (subc m3_ (subc m0_ sub0)))) (hj_X12_copy_0_65 m_19 l0_19 l1_19 l2_19 s0_19)
    refine s_aload_n d_X12_copy_28 m1_ (s_getR cf d_X12_copy_29 fl_X12_75 (s_nk fun i3 => (s_iload_n d_X12_copy_32 m2_ (s_ldN d_X12_copy_33 ka_80 rfl fun v4 => (s_aload_n d_X12_copy_34 m1_ ?_)))))
    refine s_pI (r_V d_X12_copy_35 k_X12_tapeWords w_1692 rfl rfl) ms_X12_tapeWords (b8 rfl) rfl rfl rfl fun v5 => (s_iadd d_X12_copy_38 rfl rfl (s_bipush d_X12_copy_39 n_60 rfl (s_ck1 (s_icmp_gt (tgt := 65) d_X12_copy_41 rfl ?_ ?_))))
    · exact s_sub (subc m1_ (subc m2_ (subc m3_ (subc m0_ sub0)))) (hj_X12_copy_0_65 m_19 l0_19 l1_19 l2_19 s0_19)
    refine s_aload_n d_X12_copy_44 m1_ (s_getR cf d_X12_copy_45 fl_X12_68 (s_nk fun i6 => (s_iload_n d_X12_copy_48 m2_ (s_ldN d_X12_copy_49 ka_78 rfl fun v7 => (s_if_ne (tgt := 65) d_X12_copy_50 rfl ?_ ?_)))))
    · exact s_sub (subc m1_ (subc m2_ (subc m3_ (subc m0_ sub0)))) (hj_X12_copy_0_65 m_19 l0_19 l1_19 l2_19 s0_19)
    refine s_aload_n d_X12_copy_53 m1_ (s_iload_n d_X12_copy_54 m2_ (s_pI (r_V d_X12_copy_55 k_X12_hasSet w_1751 rfl rfl) ms_X12_hasSet (b8 rfl) rfl rfl rfl fun v8 => (s_if_ne (tgt := 65) d_X12_copy_58 rfl ?_ ?_)))
    · exact s_sub (subc m1_ (subc m2_ (subc m3_ (subc m0_ sub0)))) (hj_X12_copy_0_65 m_19 l0_19 l1_19 l2_19 s0_19)
    exact s_iconst d_X12_copy_61 n_1 (s_goto (tgt := 66) d_X12_copy_62 rfl (s_sub (subc m1_ (subc m2_ (subc m3_ (subc m0_ sub0)))) (hj_X12_copy_0_66 m_19 l0_19 l1_19 l2_19 s0_19 1)))
  refine s_aload_n d_X12_copy_0 m0_ (s_iload_n d_X12_copy_1 m1_ (s_pI (r_V d_X12_copy_2 k_X12_isBook w_1747 rfl rfl) ms_X12_isBook (b8 rfl) rfl rfl rfl fun v1 => (s_istore_n (L' := [(2, aI v1), (0, aR (some (12, l0))), (1, aI l1)]) d_X12_copy_5 (b8 rfl) rfl (s_aload_n d_X12_copy_6 m1_ (s_pI (r_V d_X12_copy_7 k_X12_tapeFault w_1680 rfl rfl) ms_X12_tapeFault (b8 rfl) rfl rfl rfl fun v2 => ?_)))))
  refine s_iconst d_X12_copy_10 n_m1 (s_icmp_ne (tgt := 18) d_X12_copy_11 rfl ?_ ?_)
  · exact s_iconst d_X12_copy_18 n_0 (s_sub (subc m1_ (subc m2_ (subc m0_ sub0))) (hj_X12_copy_0_19 m l0 l1 v1 0))
  exact s_iconst d_X12_copy_14 n_1 (s_goto (tgt := 19) d_X12_copy_15 rfl (s_sub (subc m1_ (subc m2_ (subc m0_ sub0))) (hj_X12_copy_0_19 m l0 l1 v1 1)))
theorem d_X12_turnedOf_0 : dk me_X12_turnedOf 0 (.bipush 97) 2 2 := And.intro (by decide +kernel) rfl
theorem d_X12_turnedOf_2 : dk me_X12_turnedOf 2 (.iload_n 0) 1 3 := And.intro (by decide +kernel) rfl
theorem d_X12_turnedOf_3 : dk me_X12_turnedOf 3 (.iadd) 1 4 := And.intro (by decide +kernel) rfl
theorem d_X12_turnedOf_4 : dk me_X12_turnedOf 4 (.istore_n 1) 1 5 := And.intro (by decide +kernel) rfl
theorem d_X12_turnedOf_5 : dk me_X12_turnedOf 5 (.iload_n 1) 1 6 := And.intro (by decide +kernel) rfl
theorem d_X12_turnedOf_6 : dk me_X12_turnedOf 6 (.bipush 110) 2 8 := And.intro (by decide +kernel) rfl
theorem d_X12_turnedOf_8 : dk me_X12_turnedOf 8 (.if_icmp .ne 8) 3 11 := And.intro (by decide +kernel) rfl
theorem d_X12_turnedOf_11 : dk me_X12_turnedOf 11 (.bipush 117) 2 13 := And.intro (by decide +kernel) rfl
theorem d_X12_turnedOf_13 : dk me_X12_turnedOf 13 (.goto 59) 3 16 := And.intro (by decide +kernel) rfl
theorem d_X12_turnedOf_16 : dk me_X12_turnedOf 16 (.iload_n 1) 1 17 := And.intro (by decide +kernel) rfl
theorem d_X12_turnedOf_17 : dk me_X12_turnedOf 17 (.bipush 117) 2 19 := And.intro (by decide +kernel) rfl
theorem d_X12_turnedOf_19 : dk me_X12_turnedOf 19 (.if_icmp .ne 8) 3 22 := And.intro (by decide +kernel) rfl
theorem d_X12_turnedOf_22 : dk me_X12_turnedOf 22 (.bipush 110) 2 24 := And.intro (by decide +kernel) rfl
theorem d_X12_turnedOf_24 : dk me_X12_turnedOf 24 (.goto 48) 3 27 := And.intro (by decide +kernel) rfl
theorem d_X12_turnedOf_27 : dk me_X12_turnedOf 27 (.iload_n 1) 1 28 := And.intro (by decide +kernel) rfl
theorem d_X12_turnedOf_28 : dk me_X12_turnedOf 28 (.bipush 98) 2 30 := And.intro (by decide +kernel) rfl
theorem d_X12_turnedOf_30 : dk me_X12_turnedOf 30 (.if_icmp .ne 8) 3 33 := And.intro (by decide +kernel) rfl
theorem d_X12_turnedOf_33 : dk me_X12_turnedOf 33 (.bipush 113) 2 35 := And.intro (by decide +kernel) rfl
theorem d_X12_turnedOf_35 : dk me_X12_turnedOf 35 (.goto 37) 3 38 := And.intro (by decide +kernel) rfl
theorem d_X12_turnedOf_38 : dk me_X12_turnedOf 38 (.iload_n 1) 1 39 := And.intro (by decide +kernel) rfl
theorem d_X12_turnedOf_39 : dk me_X12_turnedOf 39 (.bipush 113) 2 41 := And.intro (by decide +kernel) rfl
theorem d_X12_turnedOf_41 : dk me_X12_turnedOf 41 (.if_icmp .ne 8) 3 44 := And.intro (by decide +kernel) rfl
theorem d_X12_turnedOf_44 : dk me_X12_turnedOf 44 (.bipush 98) 2 46 := And.intro (by decide +kernel) rfl
theorem d_X12_turnedOf_46 : dk me_X12_turnedOf 46 (.goto 26) 3 49 := And.intro (by decide +kernel) rfl
theorem d_X12_turnedOf_49 : dk me_X12_turnedOf 49 (.iload_n 1) 1 50 := And.intro (by decide +kernel) rfl
theorem d_X12_turnedOf_50 : dk me_X12_turnedOf 50 (.bipush 100) 2 52 := And.intro (by decide +kernel) rfl
theorem d_X12_turnedOf_52 : dk me_X12_turnedOf 52 (.if_icmp .ne 8) 3 55 := And.intro (by decide +kernel) rfl
theorem d_X12_turnedOf_55 : dk me_X12_turnedOf 55 (.bipush 112) 2 57 := And.intro (by decide +kernel) rfl
theorem d_X12_turnedOf_57 : dk me_X12_turnedOf 57 (.goto 15) 3 60 := And.intro (by decide +kernel) rfl
theorem d_X12_turnedOf_60 : dk me_X12_turnedOf 60 (.iload_n 1) 1 61 := And.intro (by decide +kernel) rfl
theorem d_X12_turnedOf_61 : dk me_X12_turnedOf 61 (.bipush 112) 2 63 := And.intro (by decide +kernel) rfl
theorem d_X12_turnedOf_63 : dk me_X12_turnedOf 63 (.if_icmp .ne 8) 3 66 := And.intro (by decide +kernel) rfl
theorem d_X12_turnedOf_66 : dk me_X12_turnedOf 66 (.bipush 100) 2 68 := And.intro (by decide +kernel) rfl
theorem d_X12_turnedOf_68 : dk me_X12_turnedOf 68 (.goto 4) 3 71 := And.intro (by decide +kernel) rfl
theorem d_X12_turnedOf_71 : dk me_X12_turnedOf 71 (.iconst 0) 1 72 := And.intro (by decide +kernel) rfl
theorem d_X12_turnedOf_72 : dk me_X12_turnedOf 72 (.istore_n 2) 1 73 := And.intro (by decide +kernel) rfl
theorem d_X12_turnedOf_73 : dk me_X12_turnedOf 73 (.iload_n 2) 1 74 := And.intro (by decide +kernel) rfl
theorem d_X12_turnedOf_74 : dk me_X12_turnedOf 74 (.ifCond .ne 7) 3 77 := And.intro (by decide +kernel) rfl
theorem d_X12_turnedOf_77 : dk me_X12_turnedOf 77 (.iconst (-1)) 1 78 := And.intro (by decide +kernel) rfl
theorem d_X12_turnedOf_78 : dk me_X12_turnedOf 78 (.goto 7) 3 81 := And.intro (by decide +kernel) rfl
theorem d_X12_turnedOf_81 : dk me_X12_turnedOf 81 (.iload_n 2) 1 82 := And.intro (by decide +kernel) rfl
theorem d_X12_turnedOf_82 : dk me_X12_turnedOf 82 (.bipush 97) 2 84 := And.intro (by decide +kernel) rfl
theorem d_X12_turnedOf_84 : dk me_X12_turnedOf 84 (.isub) 1 85 := And.intro (by decide +kernel) rfl
theorem d_X12_turnedOf_85 : dk me_X12_turnedOf 85 (.ireturn) 1 86 := And.intro (by decide +kernel) rfl
theorem ms_X12_turnedOf {fx : FX} {m : MM} {l0 : Int} : MS fx me_X12_turnedOf [aI l0] m ((f_X12_turnedOf m l0).bind fun v => some (.inl (some (aI v)), m)) := by
  refine ms_of rfl mf_X12_turnedOf (b8 rfl) ?_
  show Sim fx me_X12_turnedOf 0 [(0, aI l0)] [] m _
  unfold f_X12_turnedOf
  have hj_X12_turnedOf_0_72 : ∀ (s0_72 : Int), Sim fx me_X12_turnedOf 72 [] [aI s0_72] m ((j_X12_turnedOf_0_72 m s0_72).bind (fun v => some (.inl (some (aI v)), m))) := by
    intro s0_72
    unfold j_X12_turnedOf_0_72
    refine s_istore_n (L' := [(2, aI s0_72)]) d_X12_turnedOf_72 (b8 rfl) rfl (s_iload_n d_X12_turnedOf_73 m0_ (s_if_ne (tgt := 81) d_X12_turnedOf_74 rfl ?_ ?_))
    · exact s_iload_n d_X12_turnedOf_81 m0_ (s_bipush d_X12_turnedOf_82 n_97 rfl (s_isub d_X12_turnedOf_84 rfl rfl (s_ck (s_iret d_X12_turnedOf_85 rfl rfl))))
    exact s_iconst d_X12_turnedOf_77 n_m1 (s_goto (tgt := 85) d_X12_turnedOf_78 rfl (s_iret d_X12_turnedOf_85 rfl rfl))
  refine s_bipush d_X12_turnedOf_0 n_97 rfl (s_iload_n d_X12_turnedOf_2 m0_ (s_iadd d_X12_turnedOf_3 rfl rfl (s_ck (s_istore_n (L' := [(1, aI (97 + l0)), (0, aI l0)]) d_X12_turnedOf_4 (b8 rfl) rfl (s_iload_n d_X12_turnedOf_5 m0_ ?_)))))
  refine s_bipush d_X12_turnedOf_6 n_110 rfl (s_icmp_ne (tgt := 16) d_X12_turnedOf_8 rfl ?_ ?_)
  · refine s_iload_n d_X12_turnedOf_16 m0_ (s_bipush d_X12_turnedOf_17 n_117 rfl (s_icmp_ne (tgt := 27) d_X12_turnedOf_19 rfl ?_ ?_))
    · refine s_iload_n d_X12_turnedOf_27 m0_ (s_bipush d_X12_turnedOf_28 n_98 rfl (s_icmp_ne (tgt := 38) d_X12_turnedOf_30 rfl ?_ ?_))
      · refine s_iload_n d_X12_turnedOf_38 m0_ (s_bipush d_X12_turnedOf_39 n_113 rfl (s_icmp_ne (tgt := 49) d_X12_turnedOf_41 rfl ?_ ?_))
        · refine s_iload_n d_X12_turnedOf_49 m0_ (s_bipush d_X12_turnedOf_50 n_100 rfl (s_icmp_ne (tgt := 60) d_X12_turnedOf_52 rfl ?_ ?_))
          · refine s_iload_n d_X12_turnedOf_60 m0_ (s_bipush d_X12_turnedOf_61 n_112 rfl (s_icmp_ne (tgt := 71) d_X12_turnedOf_63 rfl ?_ ?_))
            · exact s_iconst d_X12_turnedOf_71 n_0 (s_sub (sub0) (hj_X12_turnedOf_0_72 0))
            exact s_bipush d_X12_turnedOf_66 n_100 rfl (s_goto (tgt := 72) d_X12_turnedOf_68 rfl (s_sub (sub0) (hj_X12_turnedOf_0_72 100)))
          exact s_bipush d_X12_turnedOf_55 n_112 rfl (s_goto (tgt := 72) d_X12_turnedOf_57 rfl (s_sub (sub0) (hj_X12_turnedOf_0_72 112)))
        exact s_bipush d_X12_turnedOf_44 n_98 rfl (s_goto (tgt := 72) d_X12_turnedOf_46 rfl (s_sub (sub0) (hj_X12_turnedOf_0_72 98)))
      exact s_bipush d_X12_turnedOf_33 n_113 rfl (s_goto (tgt := 72) d_X12_turnedOf_35 rfl (s_sub (sub0) (hj_X12_turnedOf_0_72 113)))
    exact s_bipush d_X12_turnedOf_22 n_110 rfl (s_goto (tgt := 72) d_X12_turnedOf_24 rfl (s_sub (sub0) (hj_X12_turnedOf_0_72 110)))
  exact s_bipush d_X12_turnedOf_11 n_117 rfl (s_goto (tgt := 72) d_X12_turnedOf_13 rfl (s_sub (sub0) (hj_X12_turnedOf_0_72 117)))
theorem d_X12_printOf_0 : dk me_X12_printOf 0 (.iload_n 1) 1 1 := And.intro (by decide +kernel) rfl
theorem d_X12_printOf_1 : dk me_X12_printOf 1 (.iconst (-1)) 1 2 := And.intro (by decide +kernel) rfl
theorem d_X12_printOf_2 : dk me_X12_printOf 2 (.if_icmp .ne 6) 3 5 := And.intro (by decide +kernel) rfl
theorem d_X12_printOf_5 : dk me_X12_printOf 5 (.bipush 28) 2 7 := And.intro (by decide +kernel) rfl
theorem d_X12_printOf_7 : dk me_X12_printOf 7 (.ireturn) 1 8 := And.intro (by decide +kernel) rfl
theorem d_X12_printOf_8 : dk me_X12_printOf 8 (.iload_n 3) 1 9 := And.intro (by decide +kernel) rfl
theorem d_X12_printOf_9 : dk me_X12_printOf 9 (.iconst 1) 1 10 := And.intro (by decide +kernel) rfl
theorem d_X12_printOf_10 : dk me_X12_printOf 10 (.if_icmp .ne 20) 3 13 := And.intro (by decide +kernel) rfl
theorem d_X12_printOf_13 : dk me_X12_printOf 13 (.aload_n 0) 1 14 := And.intro (by decide +kernel) rfl
theorem d_X12_printOf_14 : dk me_X12_printOf 14 (.getfield 20) 3 17 := And.intro (by decide +kernel) rfl
theorem d_X12_printOf_17 : dk me_X12_printOf 17 (.iload_n 1) 1 18 := And.intro (by decide +kernel) rfl
theorem d_X12_printOf_18 : dk me_X12_printOf 18 (.iaload) 1 19 := And.intro (by decide +kernel) rfl
theorem d_X12_printOf_19 : dk me_X12_printOf 19 (.iload_n 2) 1 20 := And.intro (by decide +kernel) rfl
theorem d_X12_printOf_20 : dk me_X12_printOf 20 (.invokestatic 316) 3 23 := And.intro (by decide +kernel) rfl
theorem d_X12_printOf_23 : dk me_X12_printOf 23 (.if_icmp .ne 7) 3 26 := And.intro (by decide +kernel) rfl
theorem d_X12_printOf_26 : dk me_X12_printOf 26 (.iload_n 2) 1 27 := And.intro (by decide +kernel) rfl
theorem d_X12_printOf_27 : dk me_X12_printOf 27 (.goto 9) 3 30 := And.intro (by decide +kernel) rfl
theorem d_X12_printOf_30 : dk me_X12_printOf 30 (.aload_n 0) 1 31 := And.intro (by decide +kernel) rfl
theorem d_X12_printOf_31 : dk me_X12_printOf 31 (.getfield 20) 3 34 := And.intro (by decide +kernel) rfl
theorem d_X12_printOf_34 : dk me_X12_printOf 34 (.iload_n 1) 1 35 := And.intro (by decide +kernel) rfl
theorem d_X12_printOf_35 : dk me_X12_printOf 35 (.iaload) 1 36 := And.intro (by decide +kernel) rfl
theorem d_X12_printOf_36 : dk me_X12_printOf 36 (.ireturn) 1 37 := And.intro (by decide +kernel) rfl
theorem ms_X12_printOf {fx : FX} {m : MM} {l0 : Nat} {l1 : Int} {l2 : Int} {l3 : Int} : MS fx me_X12_printOf [aR (some (12, l0)), aI l1, aI l2, aI l3] m ((f_X12_printOf m l0 l1 l2 l3).bind fun v => some (.inl (some (aI v)), m)) := by
  refine ms_of rfl mf_X12_printOf (b8 rfl) ?_
  show Sim fx me_X12_printOf 0 [(0, aR (some (12, l0))), (1, aI l1), (2, aI l2), (3, aI l3)] [] m _
  unfold f_X12_printOf
  have hj_X12_printOf_0_30 : ∀ (l0_30 : Nat) (l1_30 : Int), Sim fx me_X12_printOf 30 [(0, aR (some (12, l0_30))), (1, aI l1_30)] [] m ((j_X12_printOf_0_30 m l0_30 l1_30).bind (fun v => some (.inl (some (aI v)), m))) := by
    intro l0_30 l1_30
    unfold j_X12_printOf_0_30
    exact s_aload_n d_X12_printOf_30 m0_ (s_getR cf d_X12_printOf_31 fl_X12_20 (s_nk fun i4 => (s_iload_n d_X12_printOf_34 m1_ (s_ldN d_X12_printOf_35 ka_62 rfl fun v5 => (s_iret d_X12_printOf_36 rfl rfl)))))
  refine s_iload_n d_X12_printOf_0 m1_ (s_iconst d_X12_printOf_1 n_m1 (s_icmp_ne (tgt := 8) d_X12_printOf_2 rfl ?_ ?_))
  · refine s_iload_n d_X12_printOf_8 m3_ (s_iconst d_X12_printOf_9 n_1 (s_icmp_ne (tgt := 30) d_X12_printOf_10 rfl ?_ ?_))
    · exact s_sub (subc m0_ (subc m1_ sub0)) (hj_X12_printOf_0_30 l0 l1)
    refine s_aload_n d_X12_printOf_13 m0_ (s_getR cf d_X12_printOf_14 fl_X12_20 (s_nk fun i1 => (s_iload_n d_X12_printOf_17 m1_ (s_ldN d_X12_printOf_18 ka_62 rfl fun v2 => (s_iload_n d_X12_printOf_19 m2_ ?_)))))
    refine s_pI (r_S d_X12_printOf_20 k_X12_turnedOf w_1831 rfl rfl) ms_X12_turnedOf (b8 rfl) rfl rfl rfl fun v3 => (s_icmp_ne (tgt := 30) d_X12_printOf_23 rfl ?_ ?_)
    · exact s_sub (subc m0_ (subc m1_ sub0)) (hj_X12_printOf_0_30 l0 l1)
    exact s_iload_n d_X12_printOf_26 m2_ (s_goto (tgt := 36) d_X12_printOf_27 rfl (s_iret d_X12_printOf_36 rfl rfl))
  exact s_bipush d_X12_printOf_5 n_28 rfl (s_iret d_X12_printOf_7 rfl rfl)
theorem d_X12_takes_0 : dk me_X12_takes 0 (.aload_n 0) 1 1 := And.intro (by decide +kernel) rfl
theorem d_X12_takes_1 : dk me_X12_takes 1 (.getfield 32) 3 4 := And.intro (by decide +kernel) rfl
theorem d_X12_takes_4 : dk me_X12_takes 4 (.iload_n 1) 1 5 := And.intro (by decide +kernel) rfl
theorem d_X12_takes_5 : dk me_X12_takes 5 (.iaload) 1 6 := And.intro (by decide +kernel) rfl
theorem d_X12_takes_6 : dk me_X12_takes 6 (.istore_n 2) 1 7 := And.intro (by decide +kernel) rfl
theorem d_X12_takes_7 : dk me_X12_takes 7 (.aload_n 0) 1 8 := And.intro (by decide +kernel) rfl
theorem d_X12_takes_8 : dk me_X12_takes 8 (.getfield 32) 3 11 := And.intro (by decide +kernel) rfl
theorem d_X12_takes_11 : dk me_X12_takes 11 (.iload_n 1) 1 12 := And.intro (by decide +kernel) rfl
theorem d_X12_takes_12 : dk me_X12_takes 12 (.aload_n 0) 1 13 := And.intro (by decide +kernel) rfl
theorem d_X12_takes_13 : dk me_X12_takes 13 (.getfield 29) 3 16 := And.intro (by decide +kernel) rfl
theorem d_X12_takes_16 : dk me_X12_takes 16 (.iload_n 2) 1 17 := And.intro (by decide +kernel) rfl
theorem d_X12_takes_17 : dk me_X12_takes 17 (.iaload) 1 18 := And.intro (by decide +kernel) rfl
theorem d_X12_takes_18 : dk me_X12_takes 18 (.iastore) 1 19 := And.intro (by decide +kernel) rfl
theorem d_X12_takes_19 : dk me_X12_takes 19 (.iload_n 2) 1 20 := And.intro (by decide +kernel) rfl
theorem d_X12_takes_20 : dk me_X12_takes 20 (.ireturn) 1 21 := And.intro (by decide +kernel) rfl
theorem ms_X12_takes {fx : FX} {m : MM} {l0 : Nat} {l1 : Int} : MS fx me_X12_takes [aR (some (12, l0)), aI l1] m (f_X12_takes m l0 l1) := by
  refine ms_of rfl mf_X12_takes (b8 rfl) ?_
  refine s_top ?_
  show Sim fx me_X12_takes 0 [(0, aR (some (12, l0))), (1, aI l1)] [] m _
  unfold f_X12_takes
  refine s_aload_n d_X12_takes_0 m0_ (s_getR cf d_X12_takes_1 fl_X12_32 (s_nk fun i1 => (s_iload_n d_X12_takes_4 m1_ (s_ldN d_X12_takes_5 ka_66 rfl fun v2 => (s_istore_n (L' := [(2, aI v2), (0, aR (some (12, l0))), (1, aI l1)]) d_X12_takes_6 (b8 rfl) rfl ?_)))))
  refine s_aload_n d_X12_takes_7 m1_ (s_getR cf d_X12_takes_8 fl_X12_32 (s_nk fun i3 => (s_iload_n d_X12_takes_11 m2_ (s_aload_n d_X12_takes_12 m1_ (s_getR cf d_X12_takes_13 fl_X12_29 ?_)))))
  exact s_nk fun i4 => (s_iload_n d_X12_takes_16 m0_ (s_ldN d_X12_takes_17 ka_65 rfl fun v5 => (s_stN d_X12_takes_18 ka_66 rfl fun m6 => (s_iload_n d_X12_takes_19 m0_ (s_iret d_X12_takes_20 rfl rfl)))))
theorem d_X12_correct_0 : dk me_X12_correct 0 (.aload_n 0) 1 1 := And.intro (by decide +kernel) rfl
theorem d_X12_correct_1 : dk me_X12_correct 1 (.iload_n 1) 1 2 := And.intro (by decide +kernel) rfl
theorem d_X12_correct_2 : dk me_X12_correct 2 (.iload_n 2) 1 3 := And.intro (by decide +kernel) rfl
theorem d_X12_correct_3 : dk me_X12_correct 3 (.invokevirtual 333) 3 6 := And.intro (by decide +kernel) rfl
theorem d_X12_correct_6 : dk me_X12_correct 6 (.ifCond .eq 42) 3 9 := And.intro (by decide +kernel) rfl
theorem d_X12_correct_9 : dk me_X12_correct 9 (.aload_n 0) 1 10 := And.intro (by decide +kernel) rfl
theorem d_X12_correct_10 : dk me_X12_correct 10 (.getfield 84) 3 13 := And.intro (by decide +kernel) rfl
theorem d_X12_correct_13 : dk me_X12_correct 13 (.bipush 16) 2 15 := And.intro (by decide +kernel) rfl
theorem d_X12_correct_15 : dk me_X12_correct 15 (.iload_n 1) 1 16 := And.intro (by decide +kernel) rfl
theorem d_X12_correct_16 : dk me_X12_correct 16 (.imul) 1 17 := And.intro (by decide +kernel) rfl
theorem d_X12_correct_17 : dk me_X12_correct 17 (.iload_n 2) 1 18 := And.intro (by decide +kernel) rfl
theorem d_X12_correct_18 : dk me_X12_correct 18 (.iadd) 1 19 := And.intro (by decide +kernel) rfl
theorem d_X12_correct_19 : dk me_X12_correct 19 (.baload) 1 20 := And.intro (by decide +kernel) rfl
theorem d_X12_correct_20 : dk me_X12_correct 20 (.ifCond .eq 28) 3 23 := And.intro (by decide +kernel) rfl
theorem d_X12_correct_23 : dk me_X12_correct 23 (.iload_n 3) 1 24 := And.intro (by decide +kernel) rfl
theorem d_X12_correct_24 : dk me_X12_correct 24 (.iconst 0) 1 25 := And.intro (by decide +kernel) rfl
theorem d_X12_correct_25 : dk me_X12_correct 25 (.aload_n 0) 1 26 := And.intro (by decide +kernel) rfl
theorem d_X12_correct_26 : dk me_X12_correct 26 (.getfield 105) 3 29 := And.intro (by decide +kernel) rfl
theorem d_X12_correct_29 : dk me_X12_correct 29 (.bipush 16) 2 31 := And.intro (by decide +kernel) rfl
theorem d_X12_correct_31 : dk me_X12_correct 31 (.iload_n 1) 1 32 := And.intro (by decide +kernel) rfl
theorem d_X12_correct_32 : dk me_X12_correct 32 (.imul) 1 33 := And.intro (by decide +kernel) rfl
theorem d_X12_correct_33 : dk me_X12_correct 33 (.iload_n 2) 1 34 := And.intro (by decide +kernel) rfl
theorem d_X12_correct_34 : dk me_X12_correct 34 (.iadd) 1 35 := And.intro (by decide +kernel) rfl
theorem d_X12_correct_35 : dk me_X12_correct 35 (.iaload) 1 36 := And.intro (by decide +kernel) rfl
theorem d_X12_correct_36 : dk me_X12_correct 36 (.iconst 1) 1 37 := And.intro (by decide +kernel) rfl
theorem d_X12_correct_37 : dk me_X12_correct 37 (.isub) 1 38 := And.intro (by decide +kernel) rfl
theorem d_X12_correct_38 : dk me_X12_correct 38 (.invokestatic 235) 3 41 := And.intro (by decide +kernel) rfl
theorem d_X12_correct_41 : dk me_X12_correct 41 (.ifCond .eq 7) 3 44 := And.intro (by decide +kernel) rfl
theorem d_X12_correct_44 : dk me_X12_correct 44 (.iconst 1) 1 45 := And.intro (by decide +kernel) rfl
theorem d_X12_correct_45 : dk me_X12_correct 45 (.goto 4) 3 48 := And.intro (by decide +kernel) rfl
theorem d_X12_correct_48 : dk me_X12_correct 48 (.iconst 0) 1 49 := And.intro (by decide +kernel) rfl
theorem d_X12_correct_49 : dk me_X12_correct 49 (.istore 4) 2 51 := And.intro (by decide +kernel) rfl
theorem d_X12_correct_51 : dk me_X12_correct 51 (.iload 4) 2 53 := And.intro (by decide +kernel) rfl
theorem d_X12_correct_53 : dk me_X12_correct 53 (.ifCond .eq 12) 3 56 := And.intro (by decide +kernel) rfl
theorem d_X12_correct_56 : dk me_X12_correct 56 (.bipush 16) 2 58 := And.intro (by decide +kernel) rfl
theorem d_X12_correct_58 : dk me_X12_correct 58 (.iload_n 1) 1 59 := And.intro (by decide +kernel) rfl
theorem d_X12_correct_59 : dk me_X12_correct 59 (.imul) 1 60 := And.intro (by decide +kernel) rfl
theorem d_X12_correct_60 : dk me_X12_correct 60 (.iload_n 2) 1 61 := And.intro (by decide +kernel) rfl
theorem d_X12_correct_61 : dk me_X12_correct 61 (.iadd) 1 62 := And.intro (by decide +kernel) rfl
theorem d_X12_correct_62 : dk me_X12_correct 62 (.goto 4) 3 65 := And.intro (by decide +kernel) rfl
theorem d_X12_correct_65 : dk me_X12_correct 65 (.iconst 0) 1 66 := And.intro (by decide +kernel) rfl
theorem d_X12_correct_66 : dk me_X12_correct 66 (.istore 5) 2 68 := And.intro (by decide +kernel) rfl
theorem d_X12_correct_68 : dk me_X12_correct 68 (.iload 4) 2 70 := And.intro (by decide +kernel) rfl
theorem d_X12_correct_70 : dk me_X12_correct 70 (.ifCond .eq 14) 3 73 := And.intro (by decide +kernel) rfl
theorem d_X12_correct_73 : dk me_X12_correct 73 (.sipush 150) 3 76 := And.intro (by decide +kernel) rfl
theorem d_X12_correct_76 : dk me_X12_correct 76 (.iload 5) 2 78 := And.intro (by decide +kernel) rfl
theorem d_X12_correct_78 : dk me_X12_correct 78 (.imul) 1 79 := And.intro (by decide +kernel) rfl
theorem d_X12_correct_79 : dk me_X12_correct 79 (.iload_n 3) 1 80 := And.intro (by decide +kernel) rfl
theorem d_X12_correct_80 : dk me_X12_correct 80 (.iadd) 1 81 := And.intro (by decide +kernel) rfl
theorem d_X12_correct_81 : dk me_X12_correct 81 (.goto 4) 3 84 := And.intro (by decide +kernel) rfl
theorem d_X12_correct_84 : dk me_X12_correct 84 (.iconst 0) 1 85 := And.intro (by decide +kernel) rfl
theorem d_X12_correct_85 : dk me_X12_correct 85 (.istore 6) 2 87 := And.intro (by decide +kernel) rfl
theorem d_X12_correct_87 : dk me_X12_correct 87 (.iload 4) 2 89 := And.intro (by decide +kernel) rfl
theorem d_X12_correct_89 : dk me_X12_correct 89 (.ifCond .eq 17) 3 92 := And.intro (by decide +kernel) rfl
theorem d_X12_correct_92 : dk me_X12_correct 92 (.bipush 8) 2 94 := And.intro (by decide +kernel) rfl
theorem d_X12_correct_94 : dk me_X12_correct 94 (.iload_n 1) 1 95 := And.intro (by decide +kernel) rfl
theorem d_X12_correct_95 : dk me_X12_correct 95 (.imul) 1 96 := And.intro (by decide +kernel) rfl
theorem d_X12_correct_96 : dk me_X12_correct 96 (.aload_n 0) 1 97 := And.intro (by decide +kernel) rfl
theorem d_X12_correct_97 : dk me_X12_correct 97 (.iload_n 1) 1 98 := And.intro (by decide +kernel) rfl
theorem d_X12_correct_98 : dk me_X12_correct 98 (.iload_n 2) 1 99 := And.intro (by decide +kernel) rfl
theorem d_X12_correct_99 : dk me_X12_correct 99 (.invokevirtual 360) 3 102 := And.intro (by decide +kernel) rfl
theorem d_X12_correct_102 : dk me_X12_correct 102 (.iadd) 1 103 := And.intro (by decide +kernel) rfl
theorem d_X12_correct_103 : dk me_X12_correct 103 (.goto 4) 3 106 := And.intro (by decide +kernel) rfl
theorem d_X12_correct_106 : dk me_X12_correct 106 (.iconst 0) 1 107 := And.intro (by decide +kernel) rfl
theorem d_X12_correct_107 : dk me_X12_correct 107 (.istore 7) 2 109 := And.intro (by decide +kernel) rfl
theorem d_X12_correct_109 : dk me_X12_correct 109 (.iload 4) 2 111 := And.intro (by decide +kernel) rfl
theorem d_X12_correct_111 : dk me_X12_correct 111 (.ifCond .eq 45) 3 114 := And.intro (by decide +kernel) rfl
theorem d_X12_correct_114 : dk me_X12_correct 114 (.aload_n 0) 1 115 := And.intro (by decide +kernel) rfl
theorem d_X12_correct_115 : dk me_X12_correct 115 (.getfield 159) 3 118 := And.intro (by decide +kernel) rfl
theorem d_X12_correct_118 : dk me_X12_correct 118 (.iload 7) 2 120 := And.intro (by decide +kernel) rfl
theorem d_X12_correct_120 : dk me_X12_correct 120 (.iaload) 1 121 := And.intro (by decide +kernel) rfl
theorem d_X12_correct_121 : dk me_X12_correct 121 (.iconst 1) 1 122 := And.intro (by decide +kernel) rfl
theorem d_X12_correct_122 : dk me_X12_correct 122 (.if_icmp .eq 14) 3 125 := And.intro (by decide +kernel) rfl
theorem d_X12_correct_125 : dk me_X12_correct 125 (.aload_n 0) 1 126 := And.intro (by decide +kernel) rfl
theorem d_X12_correct_126 : dk me_X12_correct 126 (.getfield 159) 3 129 := And.intro (by decide +kernel) rfl
theorem d_X12_correct_129 : dk me_X12_correct 129 (.iload 7) 2 131 := And.intro (by decide +kernel) rfl
theorem d_X12_correct_131 : dk me_X12_correct 131 (.iaload) 1 132 := And.intro (by decide +kernel) rfl
theorem d_X12_correct_132 : dk me_X12_correct 132 (.iconst 2) 1 133 := And.intro (by decide +kernel) rfl
theorem d_X12_correct_133 : dk me_X12_correct 133 (.if_icmp .ne 23) 3 136 := And.intro (by decide +kernel) rfl
theorem d_X12_correct_136 : dk me_X12_correct 136 (.aload_n 0) 1 137 := And.intro (by decide +kernel) rfl
theorem d_X12_correct_137 : dk me_X12_correct 137 (.getfield 32) 3 140 := And.intro (by decide +kernel) rfl
theorem d_X12_correct_140 : dk me_X12_correct 140 (.aload_n 0) 1 141 := And.intro (by decide +kernel) rfl
theorem d_X12_correct_141 : dk me_X12_correct 141 (.getfield 132) 3 144 := And.intro (by decide +kernel) rfl
theorem d_X12_correct_144 : dk me_X12_correct 144 (.iload 6) 2 146 := And.intro (by decide +kernel) rfl
theorem d_X12_correct_146 : dk me_X12_correct 146 (.iaload) 1 147 := And.intro (by decide +kernel) rfl
theorem d_X12_correct_147 : dk me_X12_correct 147 (.iaload) 1 148 := And.intro (by decide +kernel) rfl
theorem d_X12_correct_148 : dk me_X12_correct 148 (.iconst (-1)) 1 149 := And.intro (by decide +kernel) rfl
theorem d_X12_correct_149 : dk me_X12_correct 149 (.if_icmp .eq 7) 3 152 := And.intro (by decide +kernel) rfl
theorem d_X12_correct_152 : dk me_X12_correct 152 (.iconst 1) 1 153 := And.intro (by decide +kernel) rfl
theorem d_X12_correct_153 : dk me_X12_correct 153 (.goto 4) 3 156 := And.intro (by decide +kernel) rfl
theorem d_X12_correct_156 : dk me_X12_correct 156 (.iconst 0) 1 157 := And.intro (by decide +kernel) rfl
theorem d_X12_correct_157 : dk me_X12_correct 157 (.istore 8) 2 159 := And.intro (by decide +kernel) rfl
theorem d_X12_correct_159 : dk me_X12_correct 159 (.aload_n 0) 1 160 := And.intro (by decide +kernel) rfl
theorem d_X12_correct_160 : dk me_X12_correct 160 (.iload 4) 2 162 := And.intro (by decide +kernel) rfl
theorem d_X12_correct_162 : dk me_X12_correct 162 (.ifCond .ne 7) 3 165 := And.intro (by decide +kernel) rfl
theorem d_X12_correct_165 : dk me_X12_correct 165 (.iconst 1) 1 166 := And.intro (by decide +kernel) rfl
theorem d_X12_correct_166 : dk me_X12_correct 166 (.goto 13) 3 169 := And.intro (by decide +kernel) rfl
theorem d_X12_correct_169 : dk me_X12_correct 169 (.iload 8) 2 171 := And.intro (by decide +kernel) rfl
theorem d_X12_correct_171 : dk me_X12_correct 171 (.ifCond .eq 7) 3 174 := And.intro (by decide +kernel) rfl
theorem d_X12_correct_174 : dk me_X12_correct 174 (.iconst 0) 1 175 := And.intro (by decide +kernel) rfl
theorem d_X12_correct_175 : dk me_X12_correct 175 (.goto 4) 3 178 := And.intro (by decide +kernel) rfl
theorem d_X12_correct_178 : dk me_X12_correct 178 (.iconst 2) 1 179 := And.intro (by decide +kernel) rfl
theorem d_X12_correct_179 : dk me_X12_correct 179 (.invokevirtual 260) 3 182 := And.intro (by decide +kernel) rfl
theorem d_X12_correct_182 : dk me_X12_correct 182 (.ifCond .ne 5) 3 185 := And.intro (by decide +kernel) rfl
theorem d_X12_correct_185 : dk me_X12_correct 185 (.iconst 0) 1 186 := And.intro (by decide +kernel) rfl
theorem d_X12_correct_186 : dk me_X12_correct 186 (.ireturn) 1 187 := And.intro (by decide +kernel) rfl
theorem d_X12_correct_187 : dk me_X12_correct 187 (.aload_n 0) 1 188 := And.intro (by decide +kernel) rfl
theorem d_X12_correct_188 : dk me_X12_correct 188 (.aload_n 0) 1 189 := And.intro (by decide +kernel) rfl
theorem d_X12_correct_189 : dk me_X12_correct 189 (.getfield 132) 3 192 := And.intro (by decide +kernel) rfl
theorem d_X12_correct_192 : dk me_X12_correct 192 (.iload 6) 2 194 := And.intro (by decide +kernel) rfl
theorem d_X12_correct_194 : dk me_X12_correct 194 (.iaload) 1 195 := And.intro (by decide +kernel) rfl
theorem d_X12_correct_195 : dk me_X12_correct 195 (.invokevirtual 319) 3 198 := And.intro (by decide +kernel) rfl
theorem d_X12_correct_198 : dk me_X12_correct 198 (.istore 9) 2 200 := And.intro (by decide +kernel) rfl
theorem d_X12_correct_200 : dk me_X12_correct 200 (.aload_n 0) 1 201 := And.intro (by decide +kernel) rfl
theorem d_X12_correct_201 : dk me_X12_correct 201 (.getfield 135) 3 204 := And.intro (by decide +kernel) rfl
theorem d_X12_correct_204 : dk me_X12_correct 204 (.iload 6) 2 206 := And.intro (by decide +kernel) rfl
theorem d_X12_correct_206 : dk me_X12_correct 206 (.iaload) 1 207 := And.intro (by decide +kernel) rfl
theorem d_X12_correct_207 : dk me_X12_correct 207 (.iconst (-1)) 1 208 := And.intro (by decide +kernel) rfl
theorem d_X12_correct_208 : dk me_X12_correct 208 (.if_icmp .eq 26) 3 211 := And.intro (by decide +kernel) rfl
theorem d_X12_correct_211 : dk me_X12_correct 211 (.aload_n 0) 1 212 := And.intro (by decide +kernel) rfl
theorem d_X12_correct_212 : dk me_X12_correct 212 (.aload_n 0) 1 213 := And.intro (by decide +kernel) rfl
theorem d_X12_correct_213 : dk me_X12_correct 213 (.getfield 20) 3 216 := And.intro (by decide +kernel) rfl
theorem d_X12_correct_216 : dk me_X12_correct 216 (.aload_n 0) 1 217 := And.intro (by decide +kernel) rfl
theorem d_X12_correct_217 : dk me_X12_correct 217 (.getfield 135) 3 220 := And.intro (by decide +kernel) rfl
theorem d_X12_correct_220 : dk me_X12_correct 220 (.iload 6) 2 222 := And.intro (by decide +kernel) rfl
theorem d_X12_correct_222 : dk me_X12_correct 222 (.iaload) 1 223 := And.intro (by decide +kernel) rfl
theorem d_X12_correct_223 : dk me_X12_correct 223 (.iaload) 1 224 := And.intro (by decide +kernel) rfl
theorem d_X12_correct_224 : dk me_X12_correct 224 (.aload_n 0) 1 225 := And.intro (by decide +kernel) rfl
theorem d_X12_correct_225 : dk me_X12_correct 225 (.getfield 135) 3 228 := And.intro (by decide +kernel) rfl
theorem d_X12_correct_228 : dk me_X12_correct 228 (.iload 6) 2 230 := And.intro (by decide +kernel) rfl
theorem d_X12_correct_230 : dk me_X12_correct 230 (.iaload) 1 231 := And.intro (by decide +kernel) rfl
theorem d_X12_correct_231 : dk me_X12_correct 231 (.invokevirtual 294) 3 234 := And.intro (by decide +kernel) rfl
theorem d_X12_correct_234 : dk me_X12_correct 234 (.aload_n 0) 1 235 := And.intro (by decide +kernel) rfl
theorem d_X12_correct_235 : dk me_X12_correct 235 (.getfield 135) 3 238 := And.intro (by decide +kernel) rfl
theorem d_X12_correct_238 : dk me_X12_correct 238 (.iload 6) 2 240 := And.intro (by decide +kernel) rfl
theorem d_X12_correct_240 : dk me_X12_correct 240 (.iload 9) 2 242 := And.intro (by decide +kernel) rfl
theorem d_X12_correct_242 : dk me_X12_correct 242 (.iastore) 1 243 := And.intro (by decide +kernel) rfl
theorem d_X12_correct_243 : dk me_X12_correct 243 (.aload_n 0) 1 244 := And.intro (by decide +kernel) rfl
theorem d_X12_correct_244 : dk me_X12_correct 244 (.getfield 138) 3 247 := And.intro (by decide +kernel) rfl
theorem d_X12_correct_247 : dk me_X12_correct 247 (.iload 6) 2 249 := And.intro (by decide +kernel) rfl
theorem d_X12_correct_249 : dk me_X12_correct 249 (.iconst 0) 1 250 := And.intro (by decide +kernel) rfl
theorem d_X12_correct_250 : dk me_X12_correct 250 (.iastore) 1 251 := And.intro (by decide +kernel) rfl
theorem d_X12_correct_251 : dk me_X12_correct 251 (.aload_n 0) 1 252 := And.intro (by decide +kernel) rfl
theorem d_X12_correct_252 : dk me_X12_correct 252 (.getfield 26) 3 255 := And.intro (by decide +kernel) rfl
theorem d_X12_correct_255 : dk me_X12_correct 255 (.iload 9) 2 257 := And.intro (by decide +kernel) rfl
theorem d_X12_correct_257 : dk me_X12_correct 257 (.bipush 100) 2 259 := And.intro (by decide +kernel) rfl
theorem d_X12_correct_259 : dk me_X12_correct 259 (.bipush 100) 2 261 := And.intro (by decide +kernel) rfl
theorem d_X12_correct_261 : dk me_X12_correct 261 (.iload_n 1) 1 262 := And.intro (by decide +kernel) rfl
theorem d_X12_correct_262 : dk me_X12_correct 262 (.imul) 1 263 := And.intro (by decide +kernel) rfl
theorem d_X12_correct_263 : dk me_X12_correct 263 (.iadd) 1 264 := And.intro (by decide +kernel) rfl
theorem d_X12_correct_264 : dk me_X12_correct 264 (.iload_n 2) 1 265 := And.intro (by decide +kernel) rfl
theorem d_X12_correct_265 : dk me_X12_correct 265 (.iadd) 1 266 := And.intro (by decide +kernel) rfl
theorem d_X12_correct_266 : dk me_X12_correct 266 (.iastore) 1 267 := And.intro (by decide +kernel) rfl
theorem d_X12_correct_267 : dk me_X12_correct 267 (.aload_n 0) 1 268 := And.intro (by decide +kernel) rfl
theorem d_X12_correct_268 : dk me_X12_correct 268 (.getfield 165) 3 271 := And.intro (by decide +kernel) rfl
theorem d_X12_correct_271 : dk me_X12_correct 271 (.iload 7) 2 273 := And.intro (by decide +kernel) rfl
theorem d_X12_correct_273 : dk me_X12_correct 273 (.iaload) 1 274 := And.intro (by decide +kernel) rfl
theorem d_X12_correct_274 : dk me_X12_correct 274 (.aload_n 0) 1 275 := And.intro (by decide +kernel) rfl
theorem d_X12_correct_275 : dk me_X12_correct 275 (.getfield 171) 3 278 := And.intro (by decide +kernel) rfl
theorem d_X12_correct_278 : dk me_X12_correct 278 (.bipush 26) 2 280 := And.intro (by decide +kernel) rfl
theorem d_X12_correct_280 : dk me_X12_correct 280 (.iload 7) 2 282 := And.intro (by decide +kernel) rfl
theorem d_X12_correct_282 : dk me_X12_correct 282 (.imul) 1 283 := And.intro (by decide +kernel) rfl
theorem d_X12_correct_283 : dk me_X12_correct 283 (.aload_n 0) 1 284 := And.intro (by decide +kernel) rfl
theorem d_X12_correct_284 : dk me_X12_correct 284 (.getfield 168) 3 287 := And.intro (by decide +kernel) rfl
theorem d_X12_correct_287 : dk me_X12_correct 287 (.iload 7) 2 289 := And.intro (by decide +kernel) rfl
theorem d_X12_correct_289 : dk me_X12_correct 289 (.iaload) 1 290 := And.intro (by decide +kernel) rfl
theorem d_X12_correct_290 : dk me_X12_correct 290 (.iadd) 1 291 := And.intro (by decide +kernel) rfl
theorem d_X12_correct_291 : dk me_X12_correct 291 (.iconst 1) 1 292 := And.intro (by decide +kernel) rfl
theorem d_X12_correct_292 : dk me_X12_correct 292 (.isub) 1 293 := And.intro (by decide +kernel) rfl
theorem d_X12_correct_293 : dk me_X12_correct 293 (.iaload) 1 294 := And.intro (by decide +kernel) rfl
theorem d_X12_correct_294 : dk me_X12_correct 294 (.if_icmp .le 39) 3 297 := And.intro (by decide +kernel) rfl
theorem d_X12_correct_297 : dk me_X12_correct 297 (.aload_n 0) 1 298 := And.intro (by decide +kernel) rfl
theorem d_X12_correct_298 : dk me_X12_correct 298 (.getfield 171) 3 301 := And.intro (by decide +kernel) rfl
theorem d_X12_correct_301 : dk me_X12_correct 301 (.bipush 26) 2 303 := And.intro (by decide +kernel) rfl
theorem d_X12_correct_303 : dk me_X12_correct 303 (.iload 7) 2 305 := And.intro (by decide +kernel) rfl
theorem d_X12_correct_305 : dk me_X12_correct 305 (.imul) 1 306 := And.intro (by decide +kernel) rfl
theorem d_X12_correct_306 : dk me_X12_correct 306 (.aload_n 0) 1 307 := And.intro (by decide +kernel) rfl
theorem d_X12_correct_307 : dk me_X12_correct 307 (.getfield 168) 3 310 := And.intro (by decide +kernel) rfl
theorem d_X12_correct_310 : dk me_X12_correct 310 (.iload 7) 2 312 := And.intro (by decide +kernel) rfl
theorem d_X12_correct_312 : dk me_X12_correct 312 (.iaload) 1 313 := And.intro (by decide +kernel) rfl
theorem d_X12_correct_313 : dk me_X12_correct 313 (.iadd) 1 314 := And.intro (by decide +kernel) rfl
theorem d_X12_correct_314 : dk me_X12_correct 314 (.aload_n 0) 1 315 := And.intro (by decide +kernel) rfl
theorem d_X12_correct_315 : dk me_X12_correct 315 (.getfield 165) 3 318 := And.intro (by decide +kernel) rfl
theorem d_X12_correct_318 : dk me_X12_correct 318 (.iload 7) 2 320 := And.intro (by decide +kernel) rfl
theorem d_X12_correct_320 : dk me_X12_correct 320 (.iaload) 1 321 := And.intro (by decide +kernel) rfl
theorem d_X12_correct_321 : dk me_X12_correct 321 (.iastore) 1 322 := And.intro (by decide +kernel) rfl
theorem d_X12_correct_322 : dk me_X12_correct 322 (.aload_n 0) 1 323 := And.intro (by decide +kernel) rfl
theorem d_X12_correct_323 : dk me_X12_correct 323 (.getfield 168) 3 326 := And.intro (by decide +kernel) rfl
theorem d_X12_correct_326 : dk me_X12_correct 326 (.iload 7) 2 328 := And.intro (by decide +kernel) rfl
theorem d_X12_correct_328 : dk me_X12_correct 328 (.dup2) 1 329 := And.intro (by decide +kernel) rfl
theorem d_X12_correct_329 : dk me_X12_correct 329 (.iaload) 1 330 := And.intro (by decide +kernel) rfl
theorem d_X12_correct_330 : dk me_X12_correct 330 (.iconst 1) 1 331 := And.intro (by decide +kernel) rfl
theorem d_X12_correct_331 : dk me_X12_correct 331 (.iadd) 1 332 := And.intro (by decide +kernel) rfl
theorem d_X12_correct_332 : dk me_X12_correct 332 (.iastore) 1 333 := And.intro (by decide +kernel) rfl
theorem d_X12_correct_333 : dk me_X12_correct 333 (.aload_n 0) 1 334 := And.intro (by decide +kernel) rfl
theorem d_X12_correct_334 : dk me_X12_correct 334 (.getfield 150) 3 337 := And.intro (by decide +kernel) rfl
theorem d_X12_correct_337 : dk me_X12_correct 337 (.aload_n 0) 1 338 := And.intro (by decide +kernel) rfl
theorem d_X12_correct_338 : dk me_X12_correct 338 (.getfield 397) 3 341 := And.intro (by decide +kernel) rfl
theorem d_X12_correct_341 : dk me_X12_correct 341 (.iload 6) 2 343 := And.intro (by decide +kernel) rfl
theorem d_X12_correct_343 : dk me_X12_correct 343 (.iastore) 1 344 := And.intro (by decide +kernel) rfl
theorem d_X12_correct_344 : dk me_X12_correct 344 (.aload_n 0) 1 345 := And.intro (by decide +kernel) rfl
theorem d_X12_correct_345 : dk me_X12_correct 345 (.getfield 153) 3 348 := And.intro (by decide +kernel) rfl
theorem d_X12_correct_348 : dk me_X12_correct 348 (.aload_n 0) 1 349 := And.intro (by decide +kernel) rfl
theorem d_X12_correct_349 : dk me_X12_correct 349 (.getfield 397) 3 352 := And.intro (by decide +kernel) rfl
theorem d_X12_correct_352 : dk me_X12_correct 352 (.aload_n 0) 1 353 := And.intro (by decide +kernel) rfl
theorem d_X12_correct_353 : dk me_X12_correct 353 (.getfield 168) 3 356 := And.intro (by decide +kernel) rfl
theorem d_X12_correct_356 : dk me_X12_correct 356 (.iload 7) 2 358 := And.intro (by decide +kernel) rfl
theorem d_X12_correct_358 : dk me_X12_correct 358 (.iaload) 1 359 := And.intro (by decide +kernel) rfl
theorem d_X12_correct_359 : dk me_X12_correct 359 (.iconst 1) 1 360 := And.intro (by decide +kernel) rfl
theorem d_X12_correct_360 : dk me_X12_correct 360 (.isub) 1 361 := And.intro (by decide +kernel) rfl
theorem d_X12_correct_361 : dk me_X12_correct 361 (.iastore) 1 362 := And.intro (by decide +kernel) rfl
theorem d_X12_correct_362 : dk me_X12_correct 362 (.aload_n 0) 1 363 := And.intro (by decide +kernel) rfl
theorem d_X12_correct_363 : dk me_X12_correct 363 (.getfield 156) 3 366 := And.intro (by decide +kernel) rfl
theorem d_X12_correct_366 : dk me_X12_correct 366 (.aload_n 0) 1 367 := And.intro (by decide +kernel) rfl
theorem d_X12_correct_367 : dk me_X12_correct 367 (.getfield 397) 3 370 := And.intro (by decide +kernel) rfl
theorem d_X12_correct_370 : dk me_X12_correct 370 (.aload_n 0) 1 371 := And.intro (by decide +kernel) rfl
theorem d_X12_correct_371 : dk me_X12_correct 371 (.iload 9) 2 373 := And.intro (by decide +kernel) rfl
theorem d_X12_correct_373 : dk me_X12_correct 373 (.aload_n 0) 1 374 := And.intro (by decide +kernel) rfl
theorem d_X12_correct_374 : dk me_X12_correct 374 (.getfield 132) 3 377 := And.intro (by decide +kernel) rfl
theorem d_X12_correct_377 : dk me_X12_correct 377 (.iload 6) 2 379 := And.intro (by decide +kernel) rfl
theorem d_X12_correct_379 : dk me_X12_correct 379 (.iaload) 1 380 := And.intro (by decide +kernel) rfl
theorem d_X12_correct_380 : dk me_X12_correct 380 (.iconst 0) 1 381 := And.intro (by decide +kernel) rfl
theorem d_X12_correct_381 : dk me_X12_correct 381 (.invokevirtual 322) 3 384 := And.intro (by decide +kernel) rfl
theorem d_X12_correct_384 : dk me_X12_correct 384 (.iastore) 1 385 := And.intro (by decide +kernel) rfl
theorem d_X12_correct_385 : dk me_X12_correct 385 (.aload_n 0) 1 386 := And.intro (by decide +kernel) rfl
theorem d_X12_correct_386 : dk me_X12_correct 386 (.dup) 1 387 := And.intro (by decide +kernel) rfl
theorem d_X12_correct_387 : dk me_X12_correct 387 (.getfield 397) 3 390 := And.intro (by decide +kernel) rfl
theorem d_X12_correct_390 : dk me_X12_correct 390 (.iconst 1) 1 391 := And.intro (by decide +kernel) rfl
theorem d_X12_correct_391 : dk me_X12_correct 391 (.iadd) 1 392 := And.intro (by decide +kernel) rfl
theorem d_X12_correct_392 : dk me_X12_correct 392 (.putfield 397) 3 395 := And.intro (by decide +kernel) rfl
theorem d_X12_correct_395 : dk me_X12_correct 395 (.aload_n 0) 1 396 := And.intro (by decide +kernel) rfl
theorem d_X12_correct_396 : dk me_X12_correct 396 (.getfield 168) 3 399 := And.intro (by decide +kernel) rfl
theorem d_X12_correct_399 : dk me_X12_correct 399 (.iload 7) 2 401 := And.intro (by decide +kernel) rfl
theorem d_X12_correct_401 : dk me_X12_correct 401 (.iaload) 1 402 := And.intro (by decide +kernel) rfl
theorem d_X12_correct_402 : dk me_X12_correct 402 (.iconst 1) 1 403 := And.intro (by decide +kernel) rfl
theorem d_X12_correct_403 : dk me_X12_correct 403 (.isub) 1 404 := And.intro (by decide +kernel) rfl
theorem d_X12_correct_404 : dk me_X12_correct 404 (.ireturn) 1 405 := And.intro (by decide +kernel) rfl
theorem ms_X12_correct {fx : FX} {m : MM} {l0 : Nat} {l1 : Int} {l2 : Int} {l3 : Int} : MS fx me_X12_correct [aR (some (12, l0)), aI l1, aI l2, aI l3] m (f_X12_correct m l0 l1 l2 l3) := by
  refine ms_of rfl mf_X12_correct (b8 rfl) ?_
  refine s_top ?_
  show Sim fx me_X12_correct 0 [(0, aR (some (12, l0))), (1, aI l1), (2, aI l2), (3, aI l3)] [] m _
  unfold f_X12_correct
  have hj_X12_correct_0_333 : ∀ (m_333 : MM) (l0_333 : Nat) (l6_333 : Int) (l7_333 : Int) (l9_333 : Int), Sim fx me_X12_correct 333 [(0, aR (some (12, l0_333))), (6, aI l6_333), (7, aI l7_333), (9, aI l9_333)] [] m_333 ((j_X12_correct_0_333 m_333 l0_333 l6_333 l7_333 l9_333).bind (fun z => some z)) := by
    intro m_333 l0_333 l6_333 l7_333 l9_333
    unfold j_X12_correct_0_333
    refine s_aload_n d_X12_correct_333 m0_ (s_getR cf d_X12_correct_334 fl_X12_150 (s_nk fun i53 => (s_aload_n d_X12_correct_337 m0_ (s_getN cf d_X12_correct_338 fl_X12_397 (s_iload d_X12_correct_341 m1_ ?_)))))
    refine s_stN d_X12_correct_343 ka_105 rfl fun m54 => (s_aload_n d_X12_correct_344 m0_ (s_getR cf d_X12_correct_345 fl_X12_153 (s_nk fun i55 => (s_aload_n d_X12_correct_348 m0_ (s_getN cf d_X12_correct_349 fl_X12_397 ?_)))))
    refine s_aload_n d_X12_correct_352 m0_ (s_getR cf d_X12_correct_353 fl_X12_168 (s_nk fun i56 => (s_iload d_X12_correct_356 m2_ (s_ldN d_X12_correct_358 ka_111 rfl fun v57 => (s_iconst d_X12_correct_359 n_1 ?_)))))
    refine s_isub d_X12_correct_360 rfl rfl (s_ck (s_stN d_X12_correct_361 ka_106 rfl fun m58 => (s_aload_n d_X12_correct_362 m0_ (s_getR cf d_X12_correct_363 fl_X12_156 (s_nk fun i59 => ?_)))))
    refine s_aload_n d_X12_correct_366 m0_ (s_getN cf d_X12_correct_367 fl_X12_397 (s_aload_n d_X12_correct_370 m0_ (s_iload d_X12_correct_371 m3_ (s_aload_n d_X12_correct_373 m0_ (s_getR cf d_X12_correct_374 fl_X12_132 ?_)))))
    refine s_nk fun i60 => (s_iload d_X12_correct_377 m1_ (s_ldN d_X12_correct_379 ka_99 rfl fun v61 => (s_iconst d_X12_correct_380 n_0 (s_pI (r_V d_X12_correct_381 k_X12_printOf w_1834 rfl rfl) ms_X12_printOf (b8 rfl) rfl rfl rfl fun v62 => (s_stN d_X12_correct_384 ka_107 rfl fun m63 => ?_)))))
    refine s_aload_n d_X12_correct_385 m0_ (s_dup d_X12_correct_386 rfl (s_getN cf d_X12_correct_387 fl_X12_397 (s_iconst d_X12_correct_390 n_1 (s_iadd d_X12_correct_391 rfl rfl (s_ck ?_)))))
    refine s_putN cf d_X12_correct_392 fl_X12_397 (fun h => by cases h) fun m64 => (s_aload_n d_X12_correct_395 m0_ (s_getR cf d_X12_correct_396 fl_X12_168 (s_nk fun i65 => (s_iload d_X12_correct_399 m2_ (s_ldN d_X12_correct_401 ka_111 rfl fun v66 => ?_)))))
    exact s_iconst d_X12_correct_402 n_1 (s_isub d_X12_correct_403 rfl rfl (s_ck (s_iret d_X12_correct_404 rfl rfl)))
  have hj_X12_correct_0_234 : ∀ (m_234 : MM) (l0_234 : Nat) (l1_234 : Int) (l2_234 : Int) (l6_234 : Int) (l7_234 : Int) (l9_234 : Int), Sim fx me_X12_correct 234 [(0, aR (some (12, l0_234))), (1, aI l1_234), (2, aI l2_234), (6, aI l6_234), (7, aI l7_234), (9, aI l9_234)] [] m_234 ((j_X12_correct_0_234 m_234 l0_234 l1_234 l2_234 l6_234 l7_234 l9_234).bind (fun z => some z)) := by
    intro m_234 l0_234 l1_234 l2_234 l6_234 l7_234 l9_234
    unfold j_X12_correct_0_234
    refine s_aload_n d_X12_correct_234 m0_ (s_getR cf d_X12_correct_235 fl_X12_135 (s_nk fun i32 => (s_iload d_X12_correct_238 m3_ (s_iload d_X12_correct_240 m5_ (s_stN d_X12_correct_242 ka_100 rfl fun m33 => ?_)))))
    refine s_aload_n d_X12_correct_243 m0_ (s_getR cf d_X12_correct_244 fl_X12_138 (s_nk fun i34 => (s_iload d_X12_correct_247 m3_ (s_iconst d_X12_correct_249 n_0 (s_stN d_X12_correct_250 ka_101 rfl fun m35 => ?_)))))
    refine s_aload_n d_X12_correct_251 m0_ (s_getR cf d_X12_correct_252 fl_X12_26 (s_nk fun i36 => (s_iload d_X12_correct_255 m5_ (s_bipush d_X12_correct_257 n_100 rfl (s_bipush d_X12_correct_259 n_100 rfl ?_)))))
    refine s_iload_n d_X12_correct_261 m1_ (s_imul d_X12_correct_262 rfl rfl (s_iadd d_X12_correct_263 rfl rfl (s_iload_n d_X12_correct_264 m2_ (s_iadd d_X12_correct_265 rfl rfl (s_ck ?_)))))
    refine s_stN d_X12_correct_266 ka_64 rfl fun m37 => (s_aload_n d_X12_correct_267 m0_ (s_getR cf d_X12_correct_268 fl_X12_165 (s_nk fun i38 => (s_iload d_X12_correct_271 m4_ (s_ldN d_X12_correct_273 ka_110 rfl fun v39 => ?_)))))
    refine s_aload_n d_X12_correct_274 m0_ (s_getR cf d_X12_correct_275 fl_X12_171 (s_nk fun i40 => (s_bipush d_X12_correct_278 n_26 rfl (s_iload d_X12_correct_280 m4_ (s_imul d_X12_correct_282 rfl rfl ?_)))))
    refine s_aload_n d_X12_correct_283 m0_ (s_getR cf d_X12_correct_284 fl_X12_168 (s_nk fun i41 => (s_iload d_X12_correct_287 m4_ (s_ldN d_X12_correct_289 ka_111 rfl fun v42 => (s_iadd d_X12_correct_290 rfl rfl ?_)))))
    refine s_iconst d_X12_correct_291 n_1 (s_isub d_X12_correct_292 rfl rfl (s_ldN d_X12_correct_293 ka_112 rfl fun v43 => (s_icmp_le (tgt := 333) d_X12_correct_294 rfl ?_ ?_)))
    · exact s_sub (subc m0_ (subc m3_ (subc m4_ (subc m5_ sub0)))) (hj_X12_correct_0_333 m37 l0_234 l6_234 l7_234 l9_234)
    refine s_aload_n d_X12_correct_297 m0_ (s_getR cf d_X12_correct_298 fl_X12_171 (s_nk fun i44 => (s_bipush d_X12_correct_301 n_26 rfl (s_iload d_X12_correct_303 m4_ (s_imul d_X12_correct_305 rfl rfl ?_)))))
    refine s_aload_n d_X12_correct_306 m0_ (s_getR cf d_X12_correct_307 fl_X12_168 (s_nk fun i45 => (s_iload d_X12_correct_310 m4_ (s_ldN d_X12_correct_312 ka_111 rfl fun v46 => (s_iadd d_X12_correct_313 rfl rfl ?_)))))
    refine s_aload_n d_X12_correct_314 m0_ (s_getR cf d_X12_correct_315 fl_X12_165 (s_nk fun i47 => (s_iload d_X12_correct_318 m4_ (s_ldN d_X12_correct_320 ka_110 rfl fun v48 => (s_stN d_X12_correct_321 ka_112 rfl fun m49 => ?_)))))
    refine s_aload_n d_X12_correct_322 m0_ (s_getR cf d_X12_correct_323 fl_X12_168 (s_nk fun i50 => (s_iload d_X12_correct_326 m4_ (s_dup2 d_X12_correct_328 rfl rfl (s_ldN d_X12_correct_329 ka_111 rfl fun v51 => ?_)))))
    exact s_iconst d_X12_correct_330 n_1 (s_iadd d_X12_correct_331 rfl rfl (s_ck (s_stN d_X12_correct_332 ka_111 rfl fun m52 => (s_sub (subc m0_ (subc m3_ (subc m4_ (subc m5_ sub0)))) (hj_X12_correct_0_333 m52 l0_234 l6_234 l7_234 l9_234)))))
  have hj_X12_correct_0_179 : ∀ (m_179 : MM) (l0_179 : Nat) (l1_179 : Int) (l2_179 : Int) (l6_179 : Int) (l7_179 : Int) (s0_179 : Nat) (s1_179 : Int), Sim fx me_X12_correct 179 [(0, aR (some (12, l0_179))), (1, aI l1_179), (2, aI l2_179), (6, aI l6_179), (7, aI l7_179)] [aI s1_179, aR (some (12, s0_179))] m_179 ((j_X12_correct_0_179 m_179 l0_179 l1_179 l2_179 l6_179 l7_179 s0_179 s1_179).bind (fun z => some z)) := by
    intro m_179 l0_179 l1_179 l2_179 l6_179 l7_179 s0_179 s1_179
    unfold j_X12_correct_0_179
    refine s_cI (r_V d_X12_correct_179 k_X12_holds w_1668 rfl rfl) ms_X12_holds (b8 rfl) rfl rfl rfl (fun _ _ _ => rfl) (fun _ _ => Or.inl rfl) fun v17 m16 => (s_if_ne (tgt := 187) d_X12_correct_182 rfl ?_ ?_)
    · refine s_aload_n d_X12_correct_187 m0_ (s_aload_n d_X12_correct_188 m0_ (s_getR cf d_X12_correct_189 fl_X12_132 (s_nk fun i18 => (s_iload d_X12_correct_192 m3_ (s_ldN d_X12_correct_194 ka_99 rfl fun v19 => ?_)))))
      refine s_cI (r_V d_X12_correct_195 k_X12_takes w_1827 rfl rfl) ms_X12_takes (b8 rfl) rfl rfl rfl (fun _ _ _ => rfl) (fun _ _ => Or.inl rfl) fun v21 m20 => (s_istore (L' := [(9, aI v21), (0, aR (some (12, l0_179))), (1, aI l1_179), (2, aI l2_179), (6, aI l6_179), (7, aI l7_179)]) d_X12_correct_198 (b8 rfl) rfl (s_aload_n d_X12_correct_200 m1_ (s_getR cf d_X12_correct_201 fl_X12_135 (s_nk fun i22 => (s_iload d_X12_correct_204 m4_ ?_)))))
      refine s_ldN d_X12_correct_206 ka_100 rfl fun v23 => (s_iconst d_X12_correct_207 n_m1 (s_icmp_eq (tgt := 234) d_X12_correct_208 rfl ?_ ?_))
      · exact s_sub (subc m1_ (subc m2_ (subc m3_ (subc m4_ (subc m5_ (subc m0_ sub0)))))) (hj_X12_correct_0_234 m20 l0_179 l1_179 l2_179 l6_179 l7_179 v21)
      refine s_aload_n d_X12_correct_211 m1_ (s_aload_n d_X12_correct_212 m1_ (s_getR cf d_X12_correct_213 fl_X12_20 (s_nk fun i24 => (s_aload_n d_X12_correct_216 m1_ (s_getR cf d_X12_correct_217 fl_X12_135 ?_)))))
      refine s_nk fun i25 => (s_iload d_X12_correct_220 m4_ (s_ldN d_X12_correct_222 ka_100 rfl fun v26 => (s_ldN d_X12_correct_223 ka_62 rfl fun v27 => (s_aload_n d_X12_correct_224 m1_ (s_getR cf d_X12_correct_225 fl_X12_135 ?_)))))
      exact s_nk fun i28 => (s_iload d_X12_correct_228 m4_ (s_ldN d_X12_correct_230 ka_100 rfl fun v29 => (s_cV (r_V d_X12_correct_231 k_X12_puts w_1719 rfl rfl) ms_X12_puts (b8 rfl) rfl rfl rfl (fun _ _ _ => rfl) (fun _ _ => Or.inl rfl) fun m30 => (s_sub (subc m1_ (subc m2_ (subc m3_ (subc m4_ (subc m5_ (subc m0_ sub0)))))) (hj_X12_correct_0_234 m30 l0_179 l1_179 l2_179 l6_179 l7_179 v21)))))
    exact s_iconst d_X12_correct_185 n_0 (s_iret d_X12_correct_186 rfl rfl)
  have hj_X12_correct_0_157 : ∀ (m_157 : MM) (l0_157 : Nat) (l1_157 : Int) (l2_157 : Int) (l4_157 : Int) (l6_157 : Int) (l7_157 : Int) (s0_157 : Int), Sim fx me_X12_correct 157 [(0, aR (some (12, l0_157))), (1, aI l1_157), (2, aI l2_157), (4, aI l4_157), (6, aI l6_157), (7, aI l7_157)] [aI s0_157] m_157 ((j_X12_correct_0_157 m_157 l0_157 l1_157 l2_157 l4_157 l6_157 l7_157 s0_157).bind (fun z => some z)) := by
    intro m_157 l0_157 l1_157 l2_157 l4_157 l6_157 l7_157 s0_157
    unfold j_X12_correct_0_157
    refine s_istore (L' := [(8, aI s0_157), (0, aR (some (12, l0_157))), (1, aI l1_157), (2, aI l2_157), (4, aI l4_157), (6, aI l6_157), (7, aI l7_157)]) d_X12_correct_157 (b8 rfl) rfl (s_aload_n d_X12_correct_159 m1_ (s_iload d_X12_correct_160 m4_ (s_if_ne (tgt := 169) d_X12_correct_162 rfl ?_ ?_)))
    · refine s_iload d_X12_correct_169 m0_ (s_if_eq (tgt := 178) d_X12_correct_171 rfl ?_ ?_)
      · exact s_iconst d_X12_correct_178 n_2 (s_sub (subc m1_ (subc m2_ (subc m3_ (subc m5_ (subc m6_ sub0))))) (hj_X12_correct_0_179 m_157 l0_157 l1_157 l2_157 l6_157 l7_157 l0_157 2))
      exact s_iconst d_X12_correct_174 n_0 (s_goto (tgt := 179) d_X12_correct_175 rfl (s_sub (subc m1_ (subc m2_ (subc m3_ (subc m5_ (subc m6_ sub0))))) (hj_X12_correct_0_179 m_157 l0_157 l1_157 l2_157 l6_157 l7_157 l0_157 0)))
    exact s_iconst d_X12_correct_165 n_1 (s_goto (tgt := 179) d_X12_correct_166 rfl (s_sub (subc m1_ (subc m2_ (subc m3_ (subc m5_ (subc m6_ sub0))))) (hj_X12_correct_0_179 m_157 l0_157 l1_157 l2_157 l6_157 l7_157 l0_157 1)))
  have hj_X12_correct_0_156 : ∀ (m_156 : MM) (l0_156 : Nat) (l1_156 : Int) (l2_156 : Int) (l4_156 : Int) (l6_156 : Int) (l7_156 : Int), Sim fx me_X12_correct 156 [(0, aR (some (12, l0_156))), (1, aI l1_156), (2, aI l2_156), (4, aI l4_156), (6, aI l6_156), (7, aI l7_156)] [] m_156 ((j_X12_correct_0_156 m_156 l0_156 l1_156 l2_156 l4_156 l6_156 l7_156).bind (fun z => some z)) := by
    intro m_156 l0_156 l1_156 l2_156 l4_156 l6_156 l7_156
    unfold j_X12_correct_0_156
    exact s_iconst d_X12_correct_156 n_0 (s_sub (subc m0_ (subc m1_ (subc m2_ (subc m3_ (subc m4_ (subc m5_ sub0)))))) (hj_X12_correct_0_157 m_156 l0_156 l1_156 l2_156 l4_156 l6_156 l7_156 0))
  have hj_X12_correct_0_136 : ∀ (m_136 : MM) (l0_136 : Nat) (l1_136 : Int) (l2_136 : Int) (l4_136 : Int) (l6_136 : Int) (l7_136 : Int), Sim fx me_X12_correct 136 [(0, aR (some (12, l0_136))), (1, aI l1_136), (2, aI l2_136), (4, aI l4_136), (6, aI l6_136), (7, aI l7_136)] [] m_136 ((j_X12_correct_0_136 m_136 l0_136 l1_136 l2_136 l4_136 l6_136 l7_136).bind (fun z => some z)) := by
    intro m_136 l0_136 l1_136 l2_136 l4_136 l6_136 l7_136
    unfold j_X12_correct_0_136
    refine s_aload_n d_X12_correct_136 m0_ (s_getR cf d_X12_correct_137 fl_X12_32 (s_nk fun i12 => (s_aload_n d_X12_correct_140 m0_ (s_getR cf d_X12_correct_141 fl_X12_132 (s_nk fun i13 => ?_)))))
    refine s_iload d_X12_correct_144 m4_ (s_ldN d_X12_correct_146 ka_99 rfl fun v14 => (s_ldN d_X12_correct_147 ka_66 rfl fun v15 => (s_iconst d_X12_correct_148 n_m1 (s_icmp_eq (tgt := 156) d_X12_correct_149 rfl ?_ ?_))))
    · exact s_sub (subc m0_ (subc m1_ (subc m2_ (subc m3_ (subc m4_ (subc m5_ sub0)))))) (hj_X12_correct_0_156 m_136 l0_136 l1_136 l2_136 l4_136 l6_136 l7_136)
    exact s_iconst d_X12_correct_152 n_1 (s_goto (tgt := 157) d_X12_correct_153 rfl (s_sub (subc m0_ (subc m1_ (subc m2_ (subc m3_ (subc m4_ (subc m5_ sub0)))))) (hj_X12_correct_0_157 m_136 l0_136 l1_136 l2_136 l4_136 l6_136 l7_136 1)))
  have hj_X12_correct_0_107 : ∀ (m_107 : MM) (l0_107 : Nat) (l1_107 : Int) (l2_107 : Int) (l4_107 : Int) (l6_107 : Int) (s0_107 : Int), Sim fx me_X12_correct 107 [(0, aR (some (12, l0_107))), (1, aI l1_107), (2, aI l2_107), (4, aI l4_107), (6, aI l6_107)] [aI s0_107] m_107 ((j_X12_correct_0_107 m_107 l0_107 l1_107 l2_107 l4_107 l6_107 s0_107).bind (fun z => some z)) := by
    intro m_107 l0_107 l1_107 l2_107 l4_107 l6_107 s0_107
    unfold j_X12_correct_0_107
    refine s_istore (L' := [(7, aI s0_107), (0, aR (some (12, l0_107))), (1, aI l1_107), (2, aI l2_107), (4, aI l4_107), (6, aI l6_107)]) d_X12_correct_107 (b8 rfl) rfl (s_iload d_X12_correct_109 m4_ (s_if_eq (tgt := 156) d_X12_correct_111 rfl ?_ ?_))
    · exact s_sub (subc m1_ (subc m2_ (subc m3_ (subc m4_ (subc m5_ (subc m0_ sub0)))))) (hj_X12_correct_0_156 m_107 l0_107 l1_107 l2_107 l4_107 l6_107 s0_107)
    refine s_aload_n d_X12_correct_114 m1_ (s_getR cf d_X12_correct_115 fl_X12_159 (s_nk fun i8 => (s_iload d_X12_correct_118 m0_ (s_ldN d_X12_correct_120 ka_108 rfl fun v9 => (s_iconst d_X12_correct_121 n_1 ?_)))))
    refine s_icmp_eq (tgt := 136) d_X12_correct_122 rfl ?_ ?_
    · exact s_sub (subc m1_ (subc m2_ (subc m3_ (subc m4_ (subc m5_ (subc m0_ sub0)))))) (hj_X12_correct_0_136 m_107 l0_107 l1_107 l2_107 l4_107 l6_107 s0_107)
    refine s_aload_n d_X12_correct_125 m1_ (s_getR cf d_X12_correct_126 fl_X12_159 (s_nk fun i10 => (s_iload d_X12_correct_129 m0_ (s_ldN d_X12_correct_131 ka_108 rfl fun v11 => (s_iconst d_X12_correct_132 n_2 ?_)))))
    refine s_icmp_ne (tgt := 156) d_X12_correct_133 rfl ?_ ?_
    · exact s_sub (subc m1_ (subc m2_ (subc m3_ (subc m4_ (subc m5_ (subc m0_ sub0)))))) (hj_X12_correct_0_156 m_107 l0_107 l1_107 l2_107 l4_107 l6_107 s0_107)
    exact s_sub (subc m1_ (subc m2_ (subc m3_ (subc m4_ (subc m5_ (subc m0_ sub0)))))) (hj_X12_correct_0_136 m_107 l0_107 l1_107 l2_107 l4_107 l6_107 s0_107)
  have hj_X12_correct_0_85 : ∀ (m_85 : MM) (l0_85 : Nat) (l1_85 : Int) (l2_85 : Int) (l4_85 : Int) (s0_85 : Int), Sim fx me_X12_correct 85 [(0, aR (some (12, l0_85))), (1, aI l1_85), (2, aI l2_85), (4, aI l4_85)] [aI s0_85] m_85 ((j_X12_correct_0_85 m_85 l0_85 l1_85 l2_85 l4_85 s0_85).bind (fun z => some z)) := by
    intro m_85 l0_85 l1_85 l2_85 l4_85 s0_85
    unfold j_X12_correct_0_85
    refine s_istore (L' := [(6, aI s0_85), (0, aR (some (12, l0_85))), (1, aI l1_85), (2, aI l2_85), (4, aI l4_85)]) d_X12_correct_85 (b8 rfl) rfl (s_iload d_X12_correct_87 m4_ (s_if_eq (tgt := 106) d_X12_correct_89 rfl ?_ ?_))
    · exact s_iconst d_X12_correct_106 n_0 (s_sub (subc m1_ (subc m2_ (subc m3_ (subc m4_ (subc m0_ sub0))))) (hj_X12_correct_0_107 m_85 l0_85 l1_85 l2_85 l4_85 s0_85 0))
    refine s_bipush d_X12_correct_92 n_8 rfl (s_iload_n d_X12_correct_94 m2_ (s_imul d_X12_correct_95 rfl rfl (s_aload_n d_X12_correct_96 m1_ (s_iload_n d_X12_correct_97 m2_ (s_iload_n d_X12_correct_98 m3_ ?_)))))
    exact s_pI (r_V d_X12_correct_99 k_X12_formeOf w_1842 rfl rfl) ms_X12_formeOf (b8 rfl) rfl rfl rfl fun v7 => (s_iadd d_X12_correct_102 rfl rfl (s_goto (tgt := 107) d_X12_correct_103 rfl (s_ck (s_sub (subc m1_ (subc m2_ (subc m3_ (subc m4_ (subc m0_ sub0))))) (hj_X12_correct_0_107 m_85 l0_85 l1_85 l2_85 l4_85 s0_85 ((8 * l1_85) + v7))))))
  have hj_X12_correct_0_66 : ∀ (m_66 : MM) (l0_66 : Nat) (l1_66 : Int) (l2_66 : Int) (l3_66 : Int) (l4_66 : Int) (s0_66 : Int), Sim fx me_X12_correct 66 [(0, aR (some (12, l0_66))), (1, aI l1_66), (2, aI l2_66), (3, aI l3_66), (4, aI l4_66)] [aI s0_66] m_66 ((j_X12_correct_0_66 m_66 l0_66 l1_66 l2_66 l3_66 l4_66 s0_66).bind (fun z => some z)) := by
    intro m_66 l0_66 l1_66 l2_66 l3_66 l4_66 s0_66
    unfold j_X12_correct_0_66
    refine s_istore (L' := [(5, aI s0_66), (0, aR (some (12, l0_66))), (1, aI l1_66), (2, aI l2_66), (3, aI l3_66), (4, aI l4_66)]) d_X12_correct_66 (b8 rfl) rfl (s_iload d_X12_correct_68 m5_ (s_if_eq (tgt := 84) d_X12_correct_70 rfl ?_ ?_))
    · exact s_iconst d_X12_correct_84 n_0 (s_sub (subc m1_ (subc m2_ (subc m3_ (subc m5_ sub0)))) (hj_X12_correct_0_85 m_66 l0_66 l1_66 l2_66 l4_66 0))
    refine s_sipush d_X12_correct_73 n_150 rfl (s_iload d_X12_correct_76 m0_ (s_imul d_X12_correct_78 rfl rfl (s_iload_n d_X12_correct_79 m4_ (s_iadd d_X12_correct_80 rfl rfl (s_goto (tgt := 85) d_X12_correct_81 rfl ?_)))))
    exact s_ck (s_sub (subc m1_ (subc m2_ (subc m3_ (subc m5_ sub0)))) (hj_X12_correct_0_85 m_66 l0_66 l1_66 l2_66 l4_66 ((150 * s0_66) + l3_66)))
  have hj_X12_correct_0_49 : ∀ (m_49 : MM) (l0_49 : Nat) (l1_49 : Int) (l2_49 : Int) (l3_49 : Int) (s0_49 : Int), Sim fx me_X12_correct 49 [(0, aR (some (12, l0_49))), (1, aI l1_49), (2, aI l2_49), (3, aI l3_49)] [aI s0_49] m_49 ((j_X12_correct_0_49 m_49 l0_49 l1_49 l2_49 l3_49 s0_49).bind (fun z => some z)) := by
    intro m_49 l0_49 l1_49 l2_49 l3_49 s0_49
    unfold j_X12_correct_0_49
    refine s_istore (L' := [(4, aI s0_49), (0, aR (some (12, l0_49))), (1, aI l1_49), (2, aI l2_49), (3, aI l3_49)]) d_X12_correct_49 (b8 rfl) rfl (s_iload d_X12_correct_51 m0_ (s_if_eq (tgt := 65) d_X12_correct_53 rfl ?_ ?_))
    · exact s_iconst d_X12_correct_65 n_0 (s_sub (subc m1_ (subc m2_ (subc m3_ (subc m4_ (subc m0_ sub0))))) (hj_X12_correct_0_66 m_49 l0_49 l1_49 l2_49 l3_49 s0_49 0))
    refine s_bipush d_X12_correct_56 n_16 rfl (s_iload_n d_X12_correct_58 m2_ (s_imul d_X12_correct_59 rfl rfl (s_iload_n d_X12_correct_60 m3_ (s_iadd d_X12_correct_61 rfl rfl (s_goto (tgt := 66) d_X12_correct_62 rfl ?_)))))
    exact s_ck (s_sub (subc m1_ (subc m2_ (subc m3_ (subc m4_ (subc m0_ sub0))))) (hj_X12_correct_0_66 m_49 l0_49 l1_49 l2_49 l3_49 s0_49 ((16 * l1_49) + l2_49)))
  have hj_X12_correct_0_48 : ∀ (m_48 : MM) (l0_48 : Nat) (l1_48 : Int) (l2_48 : Int) (l3_48 : Int), Sim fx me_X12_correct 48 [(0, aR (some (12, l0_48))), (1, aI l1_48), (2, aI l2_48), (3, aI l3_48)] [] m_48 ((j_X12_correct_0_48 m_48 l0_48 l1_48 l2_48 l3_48).bind (fun z => some z)) := by
    intro m_48 l0_48 l1_48 l2_48 l3_48
    unfold j_X12_correct_0_48
    exact s_iconst d_X12_correct_48 n_0 (s_sub (subc m0_ (subc m1_ (subc m2_ (subc m3_ sub0)))) (hj_X12_correct_0_49 m_48 l0_48 l1_48 l2_48 l3_48 0))
  refine s_aload_n d_X12_correct_0 m0_ (s_iload_n d_X12_correct_1 m1_ (s_iload_n d_X12_correct_2 m2_ (s_pI (r_V d_X12_correct_3 k_X12_isPage w_1779 rfl rfl) ms_X12_isPage (b8 rfl) rfl rfl rfl fun v1 => (s_if_eq (tgt := 48) d_X12_correct_6 rfl ?_ ?_))))
  · exact s_sub (subc m0_ (subc m1_ (subc m2_ (subc m3_ sub0)))) (hj_X12_correct_0_48 m l0 l1 l2 l3)
  refine s_aload_n d_X12_correct_9 m0_ (s_getR cf d_X12_correct_10 fl_X12_84 (s_nk fun i2 => (s_bipush d_X12_correct_13 n_16 rfl (s_iload_n d_X12_correct_15 m1_ (s_imul d_X12_correct_16 rfl rfl ?_)))))
  refine s_iload_n d_X12_correct_17 m2_ (s_iadd d_X12_correct_18 rfl rfl (s_ldB d_X12_correct_19 ka_83 rfl fun v3 => (s_if_eq (tgt := 48) d_X12_correct_20 rfl ?_ ?_)))
  · exact s_sub (subc m0_ (subc m1_ (subc m2_ (subc m3_ sub0)))) (hj_X12_correct_0_48 m l0 l1 l2 l3)
  refine s_iload_n d_X12_correct_23 m3_ (s_iconst d_X12_correct_24 n_0 (s_aload_n d_X12_correct_25 m0_ (s_getR cf d_X12_correct_26 fl_X12_105 (s_nk fun i4 => (s_bipush d_X12_correct_29 n_16 rfl ?_)))))
  refine s_iload_n d_X12_correct_31 m1_ (s_imul d_X12_correct_32 rfl rfl (s_iload_n d_X12_correct_33 m2_ (s_iadd d_X12_correct_34 rfl rfl (s_ldN d_X12_correct_35 ka_90 rfl fun v5 => (s_iconst d_X12_correct_36 n_1 ?_)))))
  refine s_isub d_X12_correct_37 rfl rfl (s_ck (s_pI (r_S d_X12_correct_38 k_X12_isIn w_1664 rfl rfl) ms_X12_isIn (b8 rfl) rfl rfl rfl fun v6 => (s_if_eq (tgt := 48) d_X12_correct_41 rfl ?_ ?_)))
  · exact s_sub (subc m0_ (subc m1_ (subc m2_ (subc m3_ sub0)))) (hj_X12_correct_0_48 m l0 l1 l2 l3)
  exact s_iconst d_X12_correct_44 n_1 (s_goto (tgt := 49) d_X12_correct_45 rfl (s_sub (subc m0_ (subc m1_ (subc m2_ (subc m3_ sub0)))) (hj_X12_correct_0_49 m l0 l1 l2 l3 1)))
theorem d_X12_exchange_0 : dk me_X12_exchange 0 (.aload_n 0) 1 1 := And.intro (by decide +kernel) rfl
theorem d_X12_exchange_1 : dk me_X12_exchange 1 (.iload_n 1) 1 2 := And.intro (by decide +kernel) rfl
theorem d_X12_exchange_2 : dk me_X12_exchange 2 (.iload_n 2) 1 3 := And.intro (by decide +kernel) rfl
theorem d_X12_exchange_3 : dk me_X12_exchange 3 (.invokevirtual 403) 3 6 := And.intro (by decide +kernel) rfl
theorem d_X12_exchange_6 : dk me_X12_exchange 6 (.ifCond .eq 26) 3 9 := And.intro (by decide +kernel) rfl
theorem d_X12_exchange_9 : dk me_X12_exchange 9 (.aload_n 0) 1 10 := And.intro (by decide +kernel) rfl
theorem d_X12_exchange_10 : dk me_X12_exchange 10 (.iload_n 1) 1 11 := And.intro (by decide +kernel) rfl
theorem d_X12_exchange_11 : dk me_X12_exchange 11 (.iload_n 3) 1 12 := And.intro (by decide +kernel) rfl
theorem d_X12_exchange_12 : dk me_X12_exchange 12 (.invokevirtual 403) 3 15 := And.intro (by decide +kernel) rfl
theorem d_X12_exchange_15 : dk me_X12_exchange 15 (.ifCond .eq 17) 3 18 := And.intro (by decide +kernel) rfl
theorem d_X12_exchange_18 : dk me_X12_exchange 18 (.aload_n 0) 1 19 := And.intro (by decide +kernel) rfl
theorem d_X12_exchange_19 : dk me_X12_exchange 19 (.iload_n 1) 1 20 := And.intro (by decide +kernel) rfl
theorem d_X12_exchange_20 : dk me_X12_exchange 20 (.iload 4) 2 22 := And.intro (by decide +kernel) rfl
theorem d_X12_exchange_22 : dk me_X12_exchange 22 (.invokevirtual 406) 3 25 := And.intro (by decide +kernel) rfl
theorem d_X12_exchange_25 : dk me_X12_exchange 25 (.ifCond .eq 7) 3 28 := And.intro (by decide +kernel) rfl
theorem d_X12_exchange_28 : dk me_X12_exchange 28 (.iconst 1) 1 29 := And.intro (by decide +kernel) rfl
theorem d_X12_exchange_29 : dk me_X12_exchange 29 (.goto 4) 3 32 := And.intro (by decide +kernel) rfl
theorem d_X12_exchange_32 : dk me_X12_exchange 32 (.iconst 0) 1 33 := And.intro (by decide +kernel) rfl
theorem d_X12_exchange_33 : dk me_X12_exchange 33 (.istore 5) 2 35 := And.intro (by decide +kernel) rfl
theorem d_X12_exchange_35 : dk me_X12_exchange 35 (.aload_n 0) 1 36 := And.intro (by decide +kernel) rfl
theorem d_X12_exchange_36 : dk me_X12_exchange 36 (.iload 5) 2 38 := And.intro (by decide +kernel) rfl
theorem d_X12_exchange_38 : dk me_X12_exchange 38 (.ifCond .ne 7) 3 41 := And.intro (by decide +kernel) rfl
theorem d_X12_exchange_41 : dk me_X12_exchange 41 (.iconst 1) 1 42 := And.intro (by decide +kernel) rfl
theorem d_X12_exchange_42 : dk me_X12_exchange 42 (.goto 17) 3 45 := And.intro (by decide +kernel) rfl
theorem d_X12_exchange_45 : dk me_X12_exchange 45 (.aload_n 0) 1 46 := And.intro (by decide +kernel) rfl
theorem d_X12_exchange_46 : dk me_X12_exchange 46 (.getfield 71) 3 49 := And.intro (by decide +kernel) rfl
theorem d_X12_exchange_49 : dk me_X12_exchange 49 (.iload_n 1) 1 50 := And.intro (by decide +kernel) rfl
theorem d_X12_exchange_50 : dk me_X12_exchange 50 (.baload) 1 51 := And.intro (by decide +kernel) rfl
theorem d_X12_exchange_51 : dk me_X12_exchange 51 (.ifCond .eq 7) 3 54 := And.intro (by decide +kernel) rfl
theorem d_X12_exchange_54 : dk me_X12_exchange 54 (.iconst 0) 1 55 := And.intro (by decide +kernel) rfl
theorem d_X12_exchange_55 : dk me_X12_exchange 55 (.goto 4) 3 58 := And.intro (by decide +kernel) rfl
theorem d_X12_exchange_58 : dk me_X12_exchange 58 (.iconst 2) 1 59 := And.intro (by decide +kernel) rfl
theorem d_X12_exchange_59 : dk me_X12_exchange 59 (.invokevirtual 260) 3 62 := And.intro (by decide +kernel) rfl
theorem d_X12_exchange_62 : dk me_X12_exchange 62 (.ifCond .eq 55) 3 65 := And.intro (by decide +kernel) rfl
theorem d_X12_exchange_65 : dk me_X12_exchange 65 (.aload_n 0) 1 66 := And.intro (by decide +kernel) rfl
theorem d_X12_exchange_66 : dk me_X12_exchange 66 (.getfield 213) 3 69 := And.intro (by decide +kernel) rfl
theorem d_X12_exchange_69 : dk me_X12_exchange 69 (.iload_n 1) 1 70 := And.intro (by decide +kernel) rfl
theorem d_X12_exchange_70 : dk me_X12_exchange 70 (.iload_n 2) 1 71 := And.intro (by decide +kernel) rfl
theorem d_X12_exchange_71 : dk me_X12_exchange 71 (.iload 4) 2 73 := And.intro (by decide +kernel) rfl
theorem d_X12_exchange_73 : dk me_X12_exchange 73 (.invokestatic 400) 3 76 := And.intro (by decide +kernel) rfl
theorem d_X12_exchange_76 : dk me_X12_exchange 76 (.iaload) 1 77 := And.intro (by decide +kernel) rfl
theorem d_X12_exchange_77 : dk me_X12_exchange 77 (.istore 6) 2 79 := And.intro (by decide +kernel) rfl
theorem d_X12_exchange_79 : dk me_X12_exchange 79 (.aload_n 0) 1 80 := And.intro (by decide +kernel) rfl
theorem d_X12_exchange_80 : dk me_X12_exchange 80 (.getfield 213) 3 83 := And.intro (by decide +kernel) rfl
theorem d_X12_exchange_83 : dk me_X12_exchange 83 (.iload_n 1) 1 84 := And.intro (by decide +kernel) rfl
theorem d_X12_exchange_84 : dk me_X12_exchange 84 (.iload_n 2) 1 85 := And.intro (by decide +kernel) rfl
theorem d_X12_exchange_85 : dk me_X12_exchange 85 (.iload 4) 2 87 := And.intro (by decide +kernel) rfl
theorem d_X12_exchange_87 : dk me_X12_exchange 87 (.invokestatic 400) 3 90 := And.intro (by decide +kernel) rfl
theorem d_X12_exchange_90 : dk me_X12_exchange 90 (.aload_n 0) 1 91 := And.intro (by decide +kernel) rfl
theorem d_X12_exchange_91 : dk me_X12_exchange 91 (.getfield 213) 3 94 := And.intro (by decide +kernel) rfl
theorem d_X12_exchange_94 : dk me_X12_exchange 94 (.iload_n 1) 1 95 := And.intro (by decide +kernel) rfl
theorem d_X12_exchange_95 : dk me_X12_exchange 95 (.iload_n 3) 1 96 := And.intro (by decide +kernel) rfl
theorem d_X12_exchange_96 : dk me_X12_exchange 96 (.iload 4) 2 98 := And.intro (by decide +kernel) rfl
theorem d_X12_exchange_98 : dk me_X12_exchange 98 (.invokestatic 400) 3 101 := And.intro (by decide +kernel) rfl
theorem d_X12_exchange_101 : dk me_X12_exchange 101 (.iaload) 1 102 := And.intro (by decide +kernel) rfl
theorem d_X12_exchange_102 : dk me_X12_exchange 102 (.iastore) 1 103 := And.intro (by decide +kernel) rfl
theorem d_X12_exchange_103 : dk me_X12_exchange 103 (.aload_n 0) 1 104 := And.intro (by decide +kernel) rfl
theorem d_X12_exchange_104 : dk me_X12_exchange 104 (.getfield 213) 3 107 := And.intro (by decide +kernel) rfl
theorem d_X12_exchange_107 : dk me_X12_exchange 107 (.iload_n 1) 1 108 := And.intro (by decide +kernel) rfl
theorem d_X12_exchange_108 : dk me_X12_exchange 108 (.iload_n 3) 1 109 := And.intro (by decide +kernel) rfl
theorem d_X12_exchange_109 : dk me_X12_exchange 109 (.iload 4) 2 111 := And.intro (by decide +kernel) rfl
theorem d_X12_exchange_111 : dk me_X12_exchange 111 (.invokestatic 400) 3 114 := And.intro (by decide +kernel) rfl
theorem d_X12_exchange_114 : dk me_X12_exchange 114 (.iload 6) 2 116 := And.intro (by decide +kernel) rfl
theorem d_X12_exchange_116 : dk me_X12_exchange 116 (.iastore) 1 117 := And.intro (by decide +kernel) rfl
theorem d_X12_exchange_117 : dk me_X12_exchange 117 (.return_) 1 118 := And.intro (by decide +kernel) rfl
theorem ms_X12_exchange {fx : FX} {m : MM} {l0 : Nat} {l1 : Int} {l2 : Int} {l3 : Int} {l4 : Int} : MS fx me_X12_exchange [aR (some (12, l0)), aI l1, aI l2, aI l3, aI l4] m (f_X12_exchange m l0 l1 l2 l3 l4) := by
  refine ms_of rfl mf_X12_exchange (b8 rfl) ?_
  refine s_top ?_
  show Sim fx me_X12_exchange 0 [(0, aR (some (12, l0))), (1, aI l1), (2, aI l2), (3, aI l3), (4, aI l4)] [] m _
  unfold f_X12_exchange
  have hj_X12_exchange_0_59 : ∀ (m_59 : MM) (l0_59 : Nat) (l1_59 : Int) (l2_59 : Int) (l3_59 : Int) (l4_59 : Int) (s0_59 : Nat) (s1_59 : Int), Sim fx me_X12_exchange 59 [(0, aR (some (12, l0_59))), (1, aI l1_59), (2, aI l2_59), (3, aI l3_59), (4, aI l4_59)] [aI s1_59, aR (some (12, s0_59))] m_59 ((j_X12_exchange_0_59 m_59 l0_59 l1_59 l2_59 l3_59 l4_59 s0_59 s1_59).bind (fun z => some z)) := by
    intro m_59 l0_59 l1_59 l2_59 l3_59 l4_59 s0_59 s1_59
    unfold j_X12_exchange_0_59
    refine s_cI (r_V d_X12_exchange_59 k_X12_holds w_1668 rfl rfl) ms_X12_holds (b8 rfl) rfl rfl rfl (fun _ _ _ => rfl) (fun _ _ => Or.inl rfl) fun v7 m6 => (s_if_eq (tgt := 117) d_X12_exchange_62 rfl ?_ ?_)
    · exact s_vret d_X12_exchange_117 rfl rfl
    refine s_aload_n d_X12_exchange_65 m0_ (s_getR cf d_X12_exchange_66 fl_X12_213 (s_nk fun i8 => (s_iload_n d_X12_exchange_69 m1_ (s_iload_n d_X12_exchange_70 m2_ (s_iload d_X12_exchange_71 m4_ ?_)))))
    refine s_pI (r_S d_X12_exchange_73 k_X12_leafAt w_1933 rfl rfl) ms_X12_leafAt (b8 rfl) rfl rfl rfl fun v9 => (s_ldN d_X12_exchange_76 ka_126 rfl fun v10 => (s_istore (L' := [(6, aI v10), (0, aR (some (12, l0_59))), (1, aI l1_59), (2, aI l2_59), (3, aI l3_59), (4, aI l4_59)]) d_X12_exchange_77 (b8 rfl) rfl (s_aload_n d_X12_exchange_79 m1_ (s_getR cf d_X12_exchange_80 fl_X12_213 (s_nk fun i11 => ?_)))))
    refine s_iload_n d_X12_exchange_83 m2_ (s_iload_n d_X12_exchange_84 m3_ (s_iload d_X12_exchange_85 m5_ (s_pI (r_S d_X12_exchange_87 k_X12_leafAt w_1933 rfl rfl) ms_X12_leafAt (b8 rfl) rfl rfl rfl fun v12 => (s_aload_n d_X12_exchange_90 m1_ (s_getR cf d_X12_exchange_91 fl_X12_213 ?_)))))
    refine s_nk fun i13 => (s_iload_n d_X12_exchange_94 m2_ (s_iload_n d_X12_exchange_95 m4_ (s_iload d_X12_exchange_96 m5_ (s_pI (r_S d_X12_exchange_98 k_X12_leafAt w_1933 rfl rfl) ms_X12_leafAt (b8 rfl) rfl rfl rfl fun v14 => (s_ldN d_X12_exchange_101 ka_126 rfl fun v15 => ?_)))))
    refine s_stN d_X12_exchange_102 ka_126 rfl fun m16 => (s_aload_n d_X12_exchange_103 m1_ (s_getR cf d_X12_exchange_104 fl_X12_213 (s_nk fun i17 => (s_iload_n d_X12_exchange_107 m2_ (s_iload_n d_X12_exchange_108 m4_ ?_)))))
    exact s_iload d_X12_exchange_109 m5_ (s_pI (r_S d_X12_exchange_111 k_X12_leafAt w_1933 rfl rfl) ms_X12_leafAt (b8 rfl) rfl rfl rfl fun v18 => (s_iload d_X12_exchange_114 m0_ (s_stN d_X12_exchange_116 ka_126 rfl fun m19 => (s_vret d_X12_exchange_117 rfl rfl))))
  have hj_X12_exchange_0_33 : ∀ (m_33 : MM) (l0_33 : Nat) (l1_33 : Int) (l2_33 : Int) (l3_33 : Int) (l4_33 : Int) (s0_33 : Int), Sim fx me_X12_exchange 33 [(0, aR (some (12, l0_33))), (1, aI l1_33), (2, aI l2_33), (3, aI l3_33), (4, aI l4_33)] [aI s0_33] m_33 ((j_X12_exchange_0_33 m_33 l0_33 l1_33 l2_33 l3_33 l4_33 s0_33).bind (fun z => some z)) := by
    intro m_33 l0_33 l1_33 l2_33 l3_33 l4_33 s0_33
    unfold j_X12_exchange_0_33
    refine s_istore (L' := [(5, aI s0_33), (0, aR (some (12, l0_33))), (1, aI l1_33), (2, aI l2_33), (3, aI l3_33), (4, aI l4_33)]) d_X12_exchange_33 (b8 rfl) rfl (s_aload_n d_X12_exchange_35 m1_ (s_iload d_X12_exchange_36 m0_ (s_if_ne (tgt := 45) d_X12_exchange_38 rfl ?_ ?_)))
    · refine s_aload_n d_X12_exchange_45 m1_ (s_getR cf d_X12_exchange_46 fl_X12_71 (s_nk fun i4 => (s_iload_n d_X12_exchange_49 m2_ (s_ldB d_X12_exchange_50 ka_79 rfl fun v5 => (s_if_eq (tgt := 58) d_X12_exchange_51 rfl ?_ ?_)))))
      · exact s_iconst d_X12_exchange_58 n_2 (s_sub (subc m1_ (subc m2_ (subc m3_ (subc m4_ (subc m5_ sub0))))) (hj_X12_exchange_0_59 m_33 l0_33 l1_33 l2_33 l3_33 l4_33 l0_33 2))
      exact s_iconst d_X12_exchange_54 n_0 (s_goto (tgt := 59) d_X12_exchange_55 rfl (s_sub (subc m1_ (subc m2_ (subc m3_ (subc m4_ (subc m5_ sub0))))) (hj_X12_exchange_0_59 m_33 l0_33 l1_33 l2_33 l3_33 l4_33 l0_33 0)))
    exact s_iconst d_X12_exchange_41 n_1 (s_goto (tgt := 59) d_X12_exchange_42 rfl (s_sub (subc m1_ (subc m2_ (subc m3_ (subc m4_ (subc m5_ sub0))))) (hj_X12_exchange_0_59 m_33 l0_33 l1_33 l2_33 l3_33 l4_33 l0_33 1)))
  have hj_X12_exchange_0_32 : ∀ (m_32 : MM) (l0_32 : Nat) (l1_32 : Int) (l2_32 : Int) (l3_32 : Int) (l4_32 : Int), Sim fx me_X12_exchange 32 [(0, aR (some (12, l0_32))), (1, aI l1_32), (2, aI l2_32), (3, aI l3_32), (4, aI l4_32)] [] m_32 ((j_X12_exchange_0_32 m_32 l0_32 l1_32 l2_32 l3_32 l4_32).bind (fun z => some z)) := by
    intro m_32 l0_32 l1_32 l2_32 l3_32 l4_32
    unfold j_X12_exchange_0_32
    exact s_iconst d_X12_exchange_32 n_0 (s_sub (subc m0_ (subc m1_ (subc m2_ (subc m3_ (subc m4_ sub0))))) (hj_X12_exchange_0_33 m_32 l0_32 l1_32 l2_32 l3_32 l4_32 0))
  refine s_aload_n d_X12_exchange_0 m0_ (s_iload_n d_X12_exchange_1 m1_ (s_iload_n d_X12_exchange_2 m2_ (s_pI (r_V d_X12_exchange_3 k_X12_isCopy w_1940 rfl rfl) ms_X12_isCopy (b8 rfl) rfl rfl rfl fun v1 => (s_if_eq (tgt := 32) d_X12_exchange_6 rfl ?_ ?_))))
  · exact s_sub (subc m0_ (subc m1_ (subc m2_ (subc m3_ (subc m4_ sub0))))) (hj_X12_exchange_0_32 m l0 l1 l2 l3 l4)
  refine s_aload_n d_X12_exchange_9 m0_ (s_iload_n d_X12_exchange_10 m1_ (s_iload_n d_X12_exchange_11 m3_ (s_pI (r_V d_X12_exchange_12 k_X12_isCopy w_1940 rfl rfl) ms_X12_isCopy (b8 rfl) rfl rfl rfl fun v2 => (s_if_eq (tgt := 32) d_X12_exchange_15 rfl ?_ ?_))))
  · exact s_sub (subc m0_ (subc m1_ (subc m2_ (subc m3_ (subc m4_ sub0))))) (hj_X12_exchange_0_32 m l0 l1 l2 l3 l4)
  refine s_aload_n d_X12_exchange_18 m0_ (s_iload_n d_X12_exchange_19 m1_ (s_iload d_X12_exchange_20 m4_ (s_pI (r_V d_X12_exchange_22 k_X12_isLeaf w_1944 rfl rfl) ms_X12_isLeaf (b8 rfl) rfl rfl rfl fun v3 => (s_if_eq (tgt := 32) d_X12_exchange_25 rfl ?_ ?_))))
  · exact s_sub (subc m0_ (subc m1_ (subc m2_ (subc m3_ (subc m4_ sub0))))) (hj_X12_exchange_0_32 m l0 l1 l2 l3 l4)
  exact s_iconst d_X12_exchange_28 n_1 (s_goto (tgt := 33) d_X12_exchange_29 rfl (s_sub (subc m0_ (subc m1_ (subc m2_ (subc m3_ (subc m4_ sub0))))) (hj_X12_exchange_0_33 m l0 l1 l2 l3 l4 1)))
theorem d_X12_fault_0 : dk me_X12_fault 0 (.aload_n 0) 1 1 := And.intro (by decide +kernel) rfl
theorem d_X12_fault_1 : dk me_X12_fault 1 (.iconst 0) 1 2 := And.intro (by decide +kernel) rfl
theorem d_X12_fault_2 : dk me_X12_fault 2 (.putfield 228) 3 5 := And.intro (by decide +kernel) rfl
theorem d_X12_fault_5 : dk me_X12_fault 5 (.aload_n 0) 1 6 := And.intro (by decide +kernel) rfl
theorem d_X12_fault_6 : dk me_X12_fault 6 (.invokevirtual 263) 3 9 := And.intro (by decide +kernel) rfl
theorem d_X12_fault_9 : dk me_X12_fault 9 (.ireturn) 1 10 := And.intro (by decide +kernel) rfl
theorem ms_X12_fault {fx : FX} {m : MM} {l0 : Nat} : MS fx me_X12_fault [aR (some (12, l0))] m (f_X12_fault m l0) := by
  refine ms_of rfl mf_X12_fault (b8 rfl) ?_
  refine s_top ?_
  show Sim fx me_X12_fault 0 [(0, aR (some (12, l0)))] [] m _
  unfold f_X12_fault
  exact s_aload_n d_X12_fault_0 m0_ (s_iconst d_X12_fault_1 n_0 (s_putN cf d_X12_fault_2 fl_X12_228 (fun h => by cases h) fun m1 => (s_aload_n d_X12_fault_5 m0_ (s_pI (r_V d_X12_fault_6 k_X12_tapeFault w_1680 rfl rfl) ms_X12_tapeFault (b8 rfl) rfl rfl rfl fun v2 => (s_iret d_X12_fault_9 rfl rfl)))))
theorem d_X12_wordsOn_0 : dk me_X12_wordsOn 0 (.iconst 0) 1 1 := And.intro (by decide +kernel) rfl
theorem d_X12_wordsOn_1 : dk me_X12_wordsOn 1 (.istore_n 2) 1 2 := And.intro (by decide +kernel) rfl
theorem d_X12_wordsOn_2 : dk me_X12_wordsOn 2 (.iconst 0) 1 3 := And.intro (by decide +kernel) rfl
theorem d_X12_wordsOn_3 : dk me_X12_wordsOn 3 (.istore_n 3) 1 4 := And.intro (by decide +kernel) rfl
theorem d_X12_wordsOn_4 : dk me_X12_wordsOn 4 (.iload_n 3) 1 5 := And.intro (by decide +kernel) rfl
theorem d_X12_wordsOn_5 : dk me_X12_wordsOn 5 (.aload_n 0) 1 6 := And.intro (by decide +kernel) rfl
theorem d_X12_wordsOn_6 : dk me_X12_wordsOn 6 (.iload_n 1) 1 7 := And.intro (by decide +kernel) rfl
theorem d_X12_wordsOn_7 : dk me_X12_wordsOn 7 (.invokevirtual 243) 3 10 := And.intro (by decide +kernel) rfl
theorem d_X12_wordsOn_10 : dk me_X12_wordsOn 10 (.if_icmp .ge 41) 3 13 := And.intro (by decide +kernel) rfl
theorem d_X12_wordsOn_13 : dk me_X12_wordsOn 13 (.iload_n 2) 1 14 := And.intro (by decide +kernel) rfl
theorem d_X12_wordsOn_14 : dk me_X12_wordsOn 14 (.aload_n 0) 1 15 := And.intro (by decide +kernel) rfl
theorem d_X12_wordsOn_15 : dk me_X12_wordsOn 15 (.getfield 84) 3 18 := And.intro (by decide +kernel) rfl
theorem d_X12_wordsOn_18 : dk me_X12_wordsOn 18 (.bipush 16) 2 20 := And.intro (by decide +kernel) rfl
theorem d_X12_wordsOn_20 : dk me_X12_wordsOn 20 (.iload_n 1) 1 21 := And.intro (by decide +kernel) rfl
theorem d_X12_wordsOn_21 : dk me_X12_wordsOn 21 (.imul) 1 22 := And.intro (by decide +kernel) rfl
theorem d_X12_wordsOn_22 : dk me_X12_wordsOn 22 (.iload_n 3) 1 23 := And.intro (by decide +kernel) rfl
theorem d_X12_wordsOn_23 : dk me_X12_wordsOn 23 (.iadd) 1 24 := And.intro (by decide +kernel) rfl
theorem d_X12_wordsOn_24 : dk me_X12_wordsOn 24 (.baload) 1 25 := And.intro (by decide +kernel) rfl
theorem d_X12_wordsOn_25 : dk me_X12_wordsOn 25 (.ifCond .eq 17) 3 28 := And.intro (by decide +kernel) rfl
theorem d_X12_wordsOn_28 : dk me_X12_wordsOn 28 (.aload_n 0) 1 29 := And.intro (by decide +kernel) rfl
theorem d_X12_wordsOn_29 : dk me_X12_wordsOn 29 (.getfield 102) 3 32 := And.intro (by decide +kernel) rfl
theorem d_X12_wordsOn_32 : dk me_X12_wordsOn 32 (.bipush 16) 2 34 := And.intro (by decide +kernel) rfl
theorem d_X12_wordsOn_34 : dk me_X12_wordsOn 34 (.iload_n 1) 1 35 := And.intro (by decide +kernel) rfl
theorem d_X12_wordsOn_35 : dk me_X12_wordsOn 35 (.imul) 1 36 := And.intro (by decide +kernel) rfl
theorem d_X12_wordsOn_36 : dk me_X12_wordsOn 36 (.iload_n 3) 1 37 := And.intro (by decide +kernel) rfl
theorem d_X12_wordsOn_37 : dk me_X12_wordsOn 37 (.iadd) 1 38 := And.intro (by decide +kernel) rfl
theorem d_X12_wordsOn_38 : dk me_X12_wordsOn 38 (.iaload) 1 39 := And.intro (by decide +kernel) rfl
theorem d_X12_wordsOn_39 : dk me_X12_wordsOn 39 (.goto 4) 3 42 := And.intro (by decide +kernel) rfl
theorem d_X12_wordsOn_42 : dk me_X12_wordsOn 42 (.iconst 0) 1 43 := And.intro (by decide +kernel) rfl
theorem d_X12_wordsOn_43 : dk me_X12_wordsOn 43 (.iadd) 1 44 := And.intro (by decide +kernel) rfl
theorem d_X12_wordsOn_44 : dk me_X12_wordsOn 44 (.istore_n 2) 1 45 := And.intro (by decide +kernel) rfl
theorem d_X12_wordsOn_45 : dk me_X12_wordsOn 45 (.iinc 3 1) 3 48 := And.intro (by decide +kernel) rfl
theorem d_X12_wordsOn_48 : dk me_X12_wordsOn 48 (.goto (-44)) 3 51 := And.intro (by decide +kernel) rfl
theorem d_X12_wordsOn_51 : dk me_X12_wordsOn 51 (.iload_n 2) 1 52 := And.intro (by decide +kernel) rfl
theorem d_X12_wordsOn_52 : dk me_X12_wordsOn 52 (.ireturn) 1 53 := And.intro (by decide +kernel) rfl
theorem ms_X12_wordsOn {fx : FX} {m : MM} {l0 : Nat} {l1 : Int} : MS fx me_X12_wordsOn [aR (some (12, l0)), aI l1] m ((f_X12_wordsOn m l0 l1).bind fun v => some (.inl (some (aI v)), m)) := by
  refine ms_of rfl mf_X12_wordsOn (b8 rfl) ?_
  show Sim fx me_X12_wordsOn 0 [(0, aR (some (12, l0))), (1, aI l1)] [] m _
  unfold f_X12_wordsOn
  have hj_X12_wordsOn_0_51 : ∀ (l2_51 : Int), Sim fx me_X12_wordsOn 51 [(2, aI l2_51)] [] m ((j_X12_wordsOn_0_51 m l2_51).bind (fun v => some (.inl (some (aI v)), m))) := by
    intro l2_51
    unfold j_X12_wordsOn_0_51
    exact s_iload_n d_X12_wordsOn_51 m0_ (s_iret d_X12_wordsOn_52 rfl rfl)
  refine s_iconst d_X12_wordsOn_0 n_0 (s_istore_n (L' := [(2, aI 0), (0, aR (some (12, l0))), (1, aI l1)]) d_X12_wordsOn_1 (b8 rfl) rfl (s_iconst d_X12_wordsOn_2 n_0 (s_istore_n (L' := [(3, aI 0), (2, aI 0), (0, aR (some (12, l0))), (1, aI l1)]) d_X12_wordsOn_3 (b8 rfl) rfl (s_sub (subc m1_ (subc m0_ (subc m2_ (subc m3_ sub0)))) (s_lp2 (fun s => [(2, aI (s.1)), (3, aI (s.2)), (0, aR (some (12, l0))), (1, aI l1)]) (fun s => m) (0, 0) fun k4 hx4 s ih0 => ?_)))))
  obtain ⟨l2_4, l3_4⟩ := s
  have ih4 := ih0
  clear ih0
  try dsimp only
  unfold b_X12_wordsOn_4
  refine s_iload_n d_X12_wordsOn_4 m1_ (s_aload_n d_X12_wordsOn_5 m2_ (s_iload_n d_X12_wordsOn_6 m3_ (s_pI (r_V d_X12_wordsOn_7 k_X12_pagesOf w_1755 rfl rfl) ms_X12_pagesOf (b8 rfl) rfl rfl rfl fun v1 => (s_icmp_ge (tgt := 51) d_X12_wordsOn_10 rfl ?_ ?_))))
  · exact s_exit (hx4 _) (s_sub (subc m0_ sub0) (hj_X12_wordsOn_0_51 l2_4))
  refine s_iload_n d_X12_wordsOn_13 m0_ (s_aload_n d_X12_wordsOn_14 m2_ (s_getR cf d_X12_wordsOn_15 fl_X12_84 (s_nk fun i2 => (s_bipush d_X12_wordsOn_18 n_16 rfl (s_iload_n d_X12_wordsOn_20 m3_ ?_)))))
  refine s_imul d_X12_wordsOn_21 rfl rfl (s_iload_n d_X12_wordsOn_22 m1_ (s_iadd d_X12_wordsOn_23 rfl rfl (s_ldB d_X12_wordsOn_24 ka_83 rfl fun v3 => (s_if_eq (tgt := 42) d_X12_wordsOn_25 rfl ?_ ?_))))
  · refine s_iconst d_X12_wordsOn_42 n_0 (s_iadd d_X12_wordsOn_43 rfl rfl (s_ck (s_istore_n (L' := [(2, aI (l2_4 + 0)), (3, aI l3_4), (0, aR (some (12, l0))), (1, aI l1)]) d_X12_wordsOn_44 (b8 rfl) rfl (s_iinc (L' := [(3, aI (l3_4 + 1)), (2, aI (l2_4 + 0)), (0, aR (some (12, l0))), (1, aI l1)]) d_X12_wordsOn_45 m1_ (b8 rfl) rfl (s_goto (tgt := 4) d_X12_wordsOn_48 rfl ?_)))))
    exact s_sub (subc m1_ (subc m0_ (subc m2_ (subc m3_ sub0)))) (s_back (ih4 ((l2_4 + 0), (l3_4 + 1))))
  refine s_aload_n d_X12_wordsOn_28 m2_ (s_getR cf d_X12_wordsOn_29 fl_X12_102 (s_nk fun i4 => (s_bipush d_X12_wordsOn_32 n_16 rfl (s_iload_n d_X12_wordsOn_34 m3_ (s_imul d_X12_wordsOn_35 rfl rfl ?_)))))
  refine s_iload_n d_X12_wordsOn_36 m1_ (s_iadd d_X12_wordsOn_37 rfl rfl (s_ldN d_X12_wordsOn_38 ka_89 rfl fun v5 => (s_goto (tgt := 43) d_X12_wordsOn_39 rfl (s_iadd d_X12_wordsOn_43 rfl rfl (s_ck ?_)))))
  exact s_istore_n (L' := [(2, aI (l2_4 + v5)), (3, aI l3_4), (0, aR (some (12, l0))), (1, aI l1)]) d_X12_wordsOn_44 (b8 rfl) rfl (s_iinc (L' := [(3, aI (l3_4 + 1)), (2, aI (l2_4 + v5)), (0, aR (some (12, l0))), (1, aI l1)]) d_X12_wordsOn_45 m1_ (b8 rfl) rfl (s_goto (tgt := 4) d_X12_wordsOn_48 rfl (s_sub (subc m1_ (subc m0_ (subc m2_ (subc m3_ sub0)))) (s_back (ih4 ((l2_4 + v5), (l3_4 + 1)))))))
theorem d_X12_follow_0 : dk me_X12_follow 0 (.aload_n 0) 1 1 := And.intro (by decide +kernel) rfl
theorem d_X12_follow_1 : dk me_X12_follow 1 (.iload_n 1) 1 2 := And.intro (by decide +kernel) rfl
theorem d_X12_follow_2 : dk me_X12_follow 2 (.invokevirtual 239) 3 5 := And.intro (by decide +kernel) rfl
theorem d_X12_follow_5 : dk me_X12_follow 5 (.ifCond .eq 15) 3 8 := And.intro (by decide +kernel) rfl
theorem d_X12_follow_8 : dk me_X12_follow 8 (.aload_n 0) 1 9 := And.intro (by decide +kernel) rfl
theorem d_X12_follow_9 : dk me_X12_follow 9 (.iload_n 2) 1 10 := And.intro (by decide +kernel) rfl
theorem d_X12_follow_10 : dk me_X12_follow 10 (.invokevirtual 239) 3 13 := And.intro (by decide +kernel) rfl
theorem d_X12_follow_13 : dk me_X12_follow 13 (.ifCond .eq 7) 3 16 := And.intro (by decide +kernel) rfl
theorem d_X12_follow_16 : dk me_X12_follow 16 (.iconst 1) 1 17 := And.intro (by decide +kernel) rfl
theorem d_X12_follow_17 : dk me_X12_follow 17 (.goto 4) 3 20 := And.intro (by decide +kernel) rfl
theorem d_X12_follow_20 : dk me_X12_follow 20 (.iconst 0) 1 21 := And.intro (by decide +kernel) rfl
theorem d_X12_follow_21 : dk me_X12_follow 21 (.istore_n 3) 1 22 := And.intro (by decide +kernel) rfl
theorem d_X12_follow_22 : dk me_X12_follow 22 (.iload_n 3) 1 23 := And.intro (by decide +kernel) rfl
theorem d_X12_follow_23 : dk me_X12_follow 23 (.ifCond .eq 24) 3 26 := And.intro (by decide +kernel) rfl
theorem d_X12_follow_26 : dk me_X12_follow 26 (.aload_n 0) 1 27 := And.intro (by decide +kernel) rfl
theorem d_X12_follow_27 : dk me_X12_follow 27 (.getfield 75) 3 30 := And.intro (by decide +kernel) rfl
theorem d_X12_follow_30 : dk me_X12_follow 30 (.iload_n 1) 1 31 := And.intro (by decide +kernel) rfl
theorem d_X12_follow_31 : dk me_X12_follow 31 (.iaload) 1 32 := And.intro (by decide +kernel) rfl
theorem d_X12_follow_32 : dk me_X12_follow 32 (.ifCond .ne 15) 3 35 := And.intro (by decide +kernel) rfl
theorem d_X12_follow_35 : dk me_X12_follow 35 (.aload_n 0) 1 36 := And.intro (by decide +kernel) rfl
theorem d_X12_follow_36 : dk me_X12_follow 36 (.iload_n 2) 1 37 := And.intro (by decide +kernel) rfl
theorem d_X12_follow_37 : dk me_X12_follow 37 (.invokevirtual 301) 3 40 := And.intro (by decide +kernel) rfl
theorem d_X12_follow_40 : dk me_X12_follow 40 (.ifCond .le 7) 3 43 := And.intro (by decide +kernel) rfl
theorem d_X12_follow_43 : dk me_X12_follow 43 (.iconst 1) 1 44 := And.intro (by decide +kernel) rfl
theorem d_X12_follow_44 : dk me_X12_follow 44 (.goto 4) 3 47 := And.intro (by decide +kernel) rfl
theorem d_X12_follow_47 : dk me_X12_follow 47 (.iconst 0) 1 48 := And.intro (by decide +kernel) rfl
theorem d_X12_follow_48 : dk me_X12_follow 48 (.istore 4) 2 50 := And.intro (by decide +kernel) rfl
theorem d_X12_follow_50 : dk me_X12_follow 50 (.aload_n 0) 1 51 := And.intro (by decide +kernel) rfl
theorem d_X12_follow_51 : dk me_X12_follow 51 (.iload_n 3) 1 52 := And.intro (by decide +kernel) rfl
theorem d_X12_follow_52 : dk me_X12_follow 52 (.ifCond .ne 7) 3 55 := And.intro (by decide +kernel) rfl
theorem d_X12_follow_55 : dk me_X12_follow 55 (.iconst 1) 1 56 := And.intro (by decide +kernel) rfl
theorem d_X12_follow_56 : dk me_X12_follow 56 (.goto 22) 3 59 := And.intro (by decide +kernel) rfl
theorem d_X12_follow_59 : dk me_X12_follow 59 (.iload_n 1) 1 60 := And.intro (by decide +kernel) rfl
theorem d_X12_follow_60 : dk me_X12_follow 60 (.iload_n 2) 1 61 := And.intro (by decide +kernel) rfl
theorem d_X12_follow_61 : dk me_X12_follow 61 (.if_icmp .ne 7) 3 64 := And.intro (by decide +kernel) rfl
theorem d_X12_follow_64 : dk me_X12_follow 64 (.iconst 2) 1 65 := And.intro (by decide +kernel) rfl
theorem d_X12_follow_65 : dk me_X12_follow 65 (.goto 13) 3 68 := And.intro (by decide +kernel) rfl
theorem d_X12_follow_68 : dk me_X12_follow 68 (.iload 4) 2 70 := And.intro (by decide +kernel) rfl
theorem d_X12_follow_70 : dk me_X12_follow 70 (.ifCond .eq 7) 3 73 := And.intro (by decide +kernel) rfl
theorem d_X12_follow_73 : dk me_X12_follow 73 (.iconst 0) 1 74 := And.intro (by decide +kernel) rfl
theorem d_X12_follow_74 : dk me_X12_follow 74 (.goto 4) 3 77 := And.intro (by decide +kernel) rfl
theorem d_X12_follow_77 : dk me_X12_follow 77 (.iconst 3) 1 78 := And.intro (by decide +kernel) rfl
theorem d_X12_follow_78 : dk me_X12_follow 78 (.invokevirtual 260) 3 81 := And.intro (by decide +kernel) rfl
theorem d_X12_follow_81 : dk me_X12_follow 81 (.ifCond .ne 5) 3 84 := And.intro (by decide +kernel) rfl
theorem d_X12_follow_84 : dk me_X12_follow 84 (.iconst 0) 1 85 := And.intro (by decide +kernel) rfl
theorem d_X12_follow_85 : dk me_X12_follow 85 (.ireturn) 1 86 := And.intro (by decide +kernel) rfl
theorem d_X12_follow_86 : dk me_X12_follow 86 (.iconst 0) 1 87 := And.intro (by decide +kernel) rfl
theorem d_X12_follow_87 : dk me_X12_follow 87 (.istore 5) 2 89 := And.intro (by decide +kernel) rfl
theorem d_X12_follow_89 : dk me_X12_follow 89 (.iload 5) 2 91 := And.intro (by decide +kernel) rfl
theorem d_X12_follow_91 : dk me_X12_follow 91 (.aload_n 0) 1 92 := And.intro (by decide +kernel) rfl
theorem d_X12_follow_92 : dk me_X12_follow 92 (.iload_n 2) 1 93 := And.intro (by decide +kernel) rfl
theorem d_X12_follow_93 : dk me_X12_follow 93 (.invokevirtual 243) 3 96 := And.intro (by decide +kernel) rfl
theorem d_X12_follow_96 : dk me_X12_follow 96 (.if_icmp .ge 175) 3 99 := And.intro (by decide +kernel) rfl
theorem d_X12_follow_99 : dk me_X12_follow 99 (.bipush 16) 2 101 := And.intro (by decide +kernel) rfl
theorem d_X12_follow_101 : dk me_X12_follow 101 (.iload_n 2) 1 102 := And.intro (by decide +kernel) rfl
theorem d_X12_follow_102 : dk me_X12_follow 102 (.imul) 1 103 := And.intro (by decide +kernel) rfl
theorem d_X12_follow_103 : dk me_X12_follow 103 (.iload 5) 2 105 := And.intro (by decide +kernel) rfl
theorem d_X12_follow_105 : dk me_X12_follow 105 (.iadd) 1 106 := And.intro (by decide +kernel) rfl
theorem d_X12_follow_106 : dk me_X12_follow 106 (.istore 6) 2 108 := And.intro (by decide +kernel) rfl
theorem d_X12_follow_108 : dk me_X12_follow 108 (.iconst 0) 1 109 := And.intro (by decide +kernel) rfl
theorem d_X12_follow_109 : dk me_X12_follow 109 (.istore 7) 2 111 := And.intro (by decide +kernel) rfl
theorem d_X12_follow_111 : dk me_X12_follow 111 (.aload_n 0) 1 112 := And.intro (by decide +kernel) rfl
theorem d_X12_follow_112 : dk me_X12_follow 112 (.getfield 84) 3 115 := And.intro (by decide +kernel) rfl
theorem d_X12_follow_115 : dk me_X12_follow 115 (.iload 6) 2 117 := And.intro (by decide +kernel) rfl
theorem d_X12_follow_117 : dk me_X12_follow 117 (.baload) 1 118 := And.intro (by decide +kernel) rfl
theorem d_X12_follow_118 : dk me_X12_follow 118 (.ifCond .eq 147) 3 121 := And.intro (by decide +kernel) rfl
theorem d_X12_follow_121 : dk me_X12_follow 121 (.iload 7) 2 123 := And.intro (by decide +kernel) rfl
theorem d_X12_follow_123 : dk me_X12_follow 123 (.aload_n 0) 1 124 := And.intro (by decide +kernel) rfl
theorem d_X12_follow_124 : dk me_X12_follow 124 (.getfield 99) 3 127 := And.intro (by decide +kernel) rfl
theorem d_X12_follow_127 : dk me_X12_follow 127 (.iload 6) 2 129 := And.intro (by decide +kernel) rfl
theorem d_X12_follow_129 : dk me_X12_follow 129 (.iaload) 1 130 := And.intro (by decide +kernel) rfl
theorem d_X12_follow_130 : dk me_X12_follow 130 (.if_icmp .ge 135) 3 133 := And.intro (by decide +kernel) rfl
theorem d_X12_follow_133 : dk me_X12_follow 133 (.aload_n 0) 1 134 := And.intro (by decide +kernel) rfl
theorem d_X12_follow_134 : dk me_X12_follow 134 (.getfield 108) 3 137 := And.intro (by decide +kernel) rfl
theorem d_X12_follow_137 : dk me_X12_follow 137 (.bipush 6) 2 139 := And.intro (by decide +kernel) rfl
theorem d_X12_follow_139 : dk me_X12_follow 139 (.iload 6) 2 141 := And.intro (by decide +kernel) rfl
theorem d_X12_follow_141 : dk me_X12_follow 141 (.imul) 1 142 := And.intro (by decide +kernel) rfl
theorem d_X12_follow_142 : dk me_X12_follow 142 (.iload 7) 2 144 := And.intro (by decide +kernel) rfl
theorem d_X12_follow_144 : dk me_X12_follow 144 (.iadd) 1 145 := And.intro (by decide +kernel) rfl
theorem d_X12_follow_145 : dk me_X12_follow 145 (.iaload) 1 146 := And.intro (by decide +kernel) rfl
theorem d_X12_follow_146 : dk me_X12_follow 146 (.aload_n 0) 1 147 := And.intro (by decide +kernel) rfl
theorem d_X12_follow_147 : dk me_X12_follow 147 (.getfield 111) 3 150 := And.intro (by decide +kernel) rfl
theorem d_X12_follow_150 : dk me_X12_follow 150 (.bipush 6) 2 152 := And.intro (by decide +kernel) rfl
theorem d_X12_follow_152 : dk me_X12_follow 152 (.iload 6) 2 154 := And.intro (by decide +kernel) rfl
theorem d_X12_follow_154 : dk me_X12_follow 154 (.imul) 1 155 := And.intro (by decide +kernel) rfl
theorem d_X12_follow_155 : dk me_X12_follow 155 (.iload 7) 2 157 := And.intro (by decide +kernel) rfl
theorem d_X12_follow_157 : dk me_X12_follow 157 (.iadd) 1 158 := And.intro (by decide +kernel) rfl
theorem d_X12_follow_158 : dk me_X12_follow 158 (.iaload) 1 159 := And.intro (by decide +kernel) rfl
theorem d_X12_follow_159 : dk me_X12_follow 159 (.iadd) 1 160 := And.intro (by decide +kernel) rfl
theorem d_X12_follow_160 : dk me_X12_follow 160 (.iconst 1) 1 161 := And.intro (by decide +kernel) rfl
theorem d_X12_follow_161 : dk me_X12_follow 161 (.isub) 1 162 := And.intro (by decide +kernel) rfl
theorem d_X12_follow_162 : dk me_X12_follow 162 (.istore 8) 2 164 := And.intro (by decide +kernel) rfl
theorem d_X12_follow_164 : dk me_X12_follow 164 (.aload_n 0) 1 165 := And.intro (by decide +kernel) rfl
theorem d_X12_follow_165 : dk me_X12_follow 165 (.getfield 108) 3 168 := And.intro (by decide +kernel) rfl
theorem d_X12_follow_168 : dk me_X12_follow 168 (.bipush 6) 2 170 := And.intro (by decide +kernel) rfl
theorem d_X12_follow_170 : dk me_X12_follow 170 (.iload 6) 2 172 := And.intro (by decide +kernel) rfl
theorem d_X12_follow_172 : dk me_X12_follow 172 (.imul) 1 173 := And.intro (by decide +kernel) rfl
theorem d_X12_follow_173 : dk me_X12_follow 173 (.iload 7) 2 175 := And.intro (by decide +kernel) rfl
theorem d_X12_follow_175 : dk me_X12_follow 175 (.iadd) 1 176 := And.intro (by decide +kernel) rfl
theorem d_X12_follow_176 : dk me_X12_follow 176 (.iaload) 1 177 := And.intro (by decide +kernel) rfl
theorem d_X12_follow_177 : dk me_X12_follow 177 (.istore 9) 2 179 := And.intro (by decide +kernel) rfl
theorem d_X12_follow_179 : dk me_X12_follow 179 (.iload 9) 2 181 := And.intro (by decide +kernel) rfl
theorem d_X12_follow_181 : dk me_X12_follow 181 (.iload 8) 2 183 := And.intro (by decide +kernel) rfl
theorem d_X12_follow_183 : dk me_X12_follow 183 (.if_icmp .gt 76) 3 186 := And.intro (by decide +kernel) rfl
theorem d_X12_follow_186 : dk me_X12_follow 186 (.aload_n 0) 1 187 := And.intro (by decide +kernel) rfl
theorem d_X12_follow_187 : dk me_X12_follow 187 (.getfield 78) 3 190 := And.intro (by decide +kernel) rfl
theorem d_X12_follow_190 : dk me_X12_follow 190 (.bipush 60) 2 192 := And.intro (by decide +kernel) rfl
theorem d_X12_follow_192 : dk me_X12_follow 192 (.iload_n 1) 1 193 := And.intro (by decide +kernel) rfl
theorem d_X12_follow_193 : dk me_X12_follow 193 (.imul) 1 194 := And.intro (by decide +kernel) rfl
theorem d_X12_follow_194 : dk me_X12_follow 194 (.aload_n 0) 1 195 := And.intro (by decide +kernel) rfl
theorem d_X12_follow_195 : dk me_X12_follow 195 (.getfield 75) 3 198 := And.intro (by decide +kernel) rfl
theorem d_X12_follow_198 : dk me_X12_follow 198 (.iload_n 1) 1 199 := And.intro (by decide +kernel) rfl
theorem d_X12_follow_199 : dk me_X12_follow 199 (.iaload) 1 200 := And.intro (by decide +kernel) rfl
theorem d_X12_follow_200 : dk me_X12_follow 200 (.iadd) 1 201 := And.intro (by decide +kernel) rfl
theorem d_X12_follow_201 : dk me_X12_follow 201 (.aload_n 0) 1 202 := And.intro (by decide +kernel) rfl
theorem d_X12_follow_202 : dk me_X12_follow 202 (.getfield 123) 3 205 := And.intro (by decide +kernel) rfl
theorem d_X12_follow_205 : dk me_X12_follow 205 (.bipush 60) 2 207 := And.intro (by decide +kernel) rfl
theorem d_X12_follow_207 : dk me_X12_follow 207 (.iload 6) 2 209 := And.intro (by decide +kernel) rfl
theorem d_X12_follow_209 : dk me_X12_follow 209 (.imul) 1 210 := And.intro (by decide +kernel) rfl
theorem d_X12_follow_210 : dk me_X12_follow 210 (.iload 9) 2 212 := And.intro (by decide +kernel) rfl
theorem d_X12_follow_212 : dk me_X12_follow 212 (.iadd) 1 213 := And.intro (by decide +kernel) rfl
theorem d_X12_follow_213 : dk me_X12_follow 213 (.laload) 1 214 := And.intro (by decide +kernel) rfl
theorem d_X12_follow_214 : dk me_X12_follow 214 (.lastore) 1 215 := And.intro (by decide +kernel) rfl
theorem d_X12_follow_215 : dk me_X12_follow 215 (.aload_n 0) 1 216 := And.intro (by decide +kernel) rfl
theorem d_X12_follow_216 : dk me_X12_follow 216 (.getfield 81) 3 219 := And.intro (by decide +kernel) rfl
theorem d_X12_follow_219 : dk me_X12_follow 219 (.bipush 60) 2 221 := And.intro (by decide +kernel) rfl
theorem d_X12_follow_221 : dk me_X12_follow 221 (.iload_n 1) 1 222 := And.intro (by decide +kernel) rfl
theorem d_X12_follow_222 : dk me_X12_follow 222 (.imul) 1 223 := And.intro (by decide +kernel) rfl
theorem d_X12_follow_223 : dk me_X12_follow 223 (.aload_n 0) 1 224 := And.intro (by decide +kernel) rfl
theorem d_X12_follow_224 : dk me_X12_follow 224 (.getfield 75) 3 227 := And.intro (by decide +kernel) rfl
theorem d_X12_follow_227 : dk me_X12_follow 227 (.iload_n 1) 1 228 := And.intro (by decide +kernel) rfl
theorem d_X12_follow_228 : dk me_X12_follow 228 (.iaload) 1 229 := And.intro (by decide +kernel) rfl
theorem d_X12_follow_229 : dk me_X12_follow 229 (.iadd) 1 230 := And.intro (by decide +kernel) rfl
theorem d_X12_follow_230 : dk me_X12_follow 230 (.iload 9) 2 232 := And.intro (by decide +kernel) rfl
theorem d_X12_follow_232 : dk me_X12_follow 232 (.iload 8) 2 234 := And.intro (by decide +kernel) rfl
theorem d_X12_follow_234 : dk me_X12_follow 234 (.if_icmp .ne 7) 3 237 := And.intro (by decide +kernel) rfl
theorem d_X12_follow_237 : dk me_X12_follow 237 (.iconst 1) 1 238 := And.intro (by decide +kernel) rfl
theorem d_X12_follow_238 : dk me_X12_follow 238 (.goto 4) 3 241 := And.intro (by decide +kernel) rfl
theorem d_X12_follow_241 : dk me_X12_follow 241 (.iconst 0) 1 242 := And.intro (by decide +kernel) rfl
theorem d_X12_follow_242 : dk me_X12_follow 242 (.bastore) 1 243 := And.intro (by decide +kernel) rfl
theorem d_X12_follow_243 : dk me_X12_follow 243 (.aload_n 0) 1 244 := And.intro (by decide +kernel) rfl
theorem d_X12_follow_244 : dk me_X12_follow 244 (.getfield 75) 3 247 := And.intro (by decide +kernel) rfl
theorem d_X12_follow_247 : dk me_X12_follow 247 (.iload_n 1) 1 248 := And.intro (by decide +kernel) rfl
theorem d_X12_follow_248 : dk me_X12_follow 248 (.dup2) 1 249 := And.intro (by decide +kernel) rfl
theorem d_X12_follow_249 : dk me_X12_follow 249 (.iaload) 1 250 := And.intro (by decide +kernel) rfl
theorem d_X12_follow_250 : dk me_X12_follow 250 (.iconst 1) 1 251 := And.intro (by decide +kernel) rfl
theorem d_X12_follow_251 : dk me_X12_follow 251 (.iadd) 1 252 := And.intro (by decide +kernel) rfl
theorem d_X12_follow_252 : dk me_X12_follow 252 (.iastore) 1 253 := And.intro (by decide +kernel) rfl
theorem d_X12_follow_253 : dk me_X12_follow 253 (.iinc 9 1) 3 256 := And.intro (by decide +kernel) rfl
theorem d_X12_follow_256 : dk me_X12_follow 256 (.goto (-77)) 3 259 := And.intro (by decide +kernel) rfl
theorem d_X12_follow_259 : dk me_X12_follow 259 (.iinc 7 1) 3 262 := And.intro (by decide +kernel) rfl
theorem d_X12_follow_262 : dk me_X12_follow 262 (.goto (-151)) 3 265 := And.intro (by decide +kernel) rfl
theorem d_X12_follow_265 : dk me_X12_follow 265 (.iinc 5 1) 3 268 := And.intro (by decide +kernel) rfl
theorem d_X12_follow_268 : dk me_X12_follow 268 (.goto (-179)) 3 271 := And.intro (by decide +kernel) rfl
theorem d_X12_follow_271 : dk me_X12_follow 271 (.aload_n 0) 1 272 := And.intro (by decide +kernel) rfl
theorem d_X12_follow_272 : dk me_X12_follow 272 (.getfield 75) 3 275 := And.intro (by decide +kernel) rfl
theorem d_X12_follow_275 : dk me_X12_follow 275 (.iload_n 1) 1 276 := And.intro (by decide +kernel) rfl
theorem d_X12_follow_276 : dk me_X12_follow 276 (.iaload) 1 277 := And.intro (by decide +kernel) rfl
theorem d_X12_follow_277 : dk me_X12_follow 277 (.ireturn) 1 278 := And.intro (by decide +kernel) rfl
theorem ms_X12_follow {fx : FX} {m : MM} {l0 : Nat} {l1 : Int} {l2 : Int} : MS fx me_X12_follow [aR (some (12, l0)), aI l1, aI l2] m (f_X12_follow m l0 l1 l2) := by
  refine ms_of rfl mf_X12_follow (b8 rfl) ?_
  refine s_top ?_
  show Sim fx me_X12_follow 0 [(0, aR (some (12, l0))), (1, aI l1), (2, aI l2)] [] m _
  unfold f_X12_follow
  have hj_X12_follow_0_271 : ∀ (m_271 : MM) (l0_271 : Nat) (l1_271 : Int), Sim fx me_X12_follow 271 [(0, aR (some (12, l0_271))), (1, aI l1_271)] [] m_271 ((j_X12_follow_0_271 m_271 l0_271 l1_271).bind (fun z => some z)) := by
    intro m_271 l0_271 l1_271
    unfold j_X12_follow_0_271
    exact s_aload_n d_X12_follow_271 m0_ (s_getR cf d_X12_follow_272 fl_X12_75 (s_nk fun i32 => (s_iload_n d_X12_follow_275 m1_ (s_ldN d_X12_follow_276 ka_80 rfl fun v33 => (s_iret d_X12_follow_277 rfl rfl)))))
  have hj_X12_follow_0_78 : ∀ (m_78 : MM) (l0_78 : Nat) (l1_78 : Int) (l2_78 : Int) (s0_78 : Nat) (s1_78 : Int), Sim fx me_X12_follow 78 [(0, aR (some (12, l0_78))), (1, aI l1_78), (2, aI l2_78)] [aI s1_78, aR (some (12, s0_78))] m_78 ((j_X12_follow_0_78 m_78 l0_78 l1_78 l2_78 s0_78 s1_78).bind (fun z => some z)) := by
    intro m_78 l0_78 l1_78 l2_78 s0_78 s1_78
    unfold j_X12_follow_0_78
    refine s_cI (r_V d_X12_follow_78 k_X12_holds w_1668 rfl rfl) ms_X12_holds (b8 rfl) rfl rfl rfl (fun _ _ _ => rfl) (fun _ _ => Or.inl rfl) fun v7 m6 => (s_if_ne (tgt := 86) d_X12_follow_81 rfl ?_ ?_)
    · refine s_iconst d_X12_follow_86 n_0 (s_istore (L' := [(5, aI 0), (0, aR (some (12, l0_78))), (1, aI l1_78), (2, aI l2_78)]) d_X12_follow_87 (b8 rfl) rfl (s_sub (subc m0_ (subc m1_ (subc m2_ (subc m3_ sub0)))) (s_lp2 (fun s => [(5, aI (s.1)), (0, aR (some (12, l0_78))), (1, aI l1_78), (2, aI l2_78)]) (fun s => s.2) (0, m6) fun k89 hx89 s ih0 => ?_)))
      obtain ⟨l5_89, mm_89⟩ := s
      have ih89 := ih0
      clear ih0
      try dsimp only
      unfold b_X12_follow_89
      have hj_X12_follow_89_265 : ∀ (m_265 : MM) (l5_265 : Int), Sim fx me_X12_follow 265 [(0, aR (some (12, l0_78))), (1, aI l1_78), (2, aI l2_78), (5, aI l5_265)] [] m_265 ((j_X12_follow_89_265 m_265 l0_78 l1_78 l2_78 l5_265).bind k89) := by
        intro m_265 l5_265
        unfold j_X12_follow_89_265
        exact s_iinc (L' := [(5, aI (l5_265 + 1)), (0, aR (some (12, l0_78))), (1, aI l1_78), (2, aI l2_78)]) d_X12_follow_265 m3_ (b8 rfl) rfl (s_goto (tgt := 89) d_X12_follow_268 rfl (s_sub (subc m0_ (subc m1_ (subc m2_ (subc m3_ sub0)))) (s_back (ih89 ((l5_265 + 1), m_265)))))
      refine s_iload d_X12_follow_89 m0_ (s_aload_n d_X12_follow_91 m1_ (s_iload_n d_X12_follow_92 m3_ (s_pI (r_V d_X12_follow_93 k_X12_pagesOf w_1755 rfl rfl) ms_X12_pagesOf (b8 rfl) rfl rfl rfl fun v8 => (s_icmp_ge (tgt := 271) d_X12_follow_96 rfl ?_ ?_))))
      · exact s_exit (hx89 _) (s_sub (subc m1_ (subc m2_ sub0)) (hj_X12_follow_0_271 mm_89 l0_78 l1_78))
      refine s_bipush d_X12_follow_99 n_16 rfl (s_iload_n d_X12_follow_101 m3_ (s_imul d_X12_follow_102 rfl rfl (s_iload d_X12_follow_103 m0_ (s_iadd d_X12_follow_105 rfl rfl (s_ck ?_)))))
      refine s_istore (L' := [(6, aI ((16 * l2_78) + l5_89)), (5, aI l5_89), (0, aR (some (12, l0_78))), (1, aI l1_78), (2, aI l2_78)]) d_X12_follow_106 (b8 rfl) rfl (s_iconst d_X12_follow_108 n_0 (s_istore (L' := [(7, aI 0), (6, aI ((16 * l2_78) + l5_89)), (5, aI l5_89), (0, aR (some (12, l0_78))), (1, aI l1_78), (2, aI l2_78)]) d_X12_follow_109 (b8 rfl) rfl (s_sub (subc m0_ (subc m3_ (subc m4_ (subc m5_ (subc m2_ (subc m1_ sub0)))))) (s_lp2 (fun s => [(7, aI (s.1)), (0, aR (some (12, l0_78))), (1, aI l1_78), (2, aI l2_78), (5, aI l5_89), (6, aI ((16 * l2_78) + l5_89))]) (fun s => s.2) (0, mm_89) fun k111 hx111 s ih0 => ?_))))
      obtain ⟨l7_111, mm_111⟩ := s
      have ih111 := ih0
      clear ih0
      try dsimp only
      unfold b_X12_follow_111
      have hj_X12_follow_111_259 : ∀ (m_259 : MM) (l7_259 : Int), Sim fx me_X12_follow 259 [(0, aR (some (12, l0_78))), (1, aI l1_78), (2, aI l2_78), (5, aI l5_89), (6, aI ((16 * l2_78) + l5_89)), (7, aI l7_259)] [] m_259 ((j_X12_follow_111_259 m_259 l0_78 l1_78 l2_78 l5_89 ((16 * l2_78) + l5_89) l7_259).bind k111) := by
        intro m_259 l7_259
        unfold j_X12_follow_111_259
        exact s_iinc (L' := [(7, aI (l7_259 + 1)), (0, aR (some (12, l0_78))), (1, aI l1_78), (2, aI l2_78), (5, aI l5_89), (6, aI ((16 * l2_78) + l5_89))]) d_X12_follow_259 m5_ (b8 rfl) rfl (s_goto (tgt := 111) d_X12_follow_262 rfl (s_sub (subc m0_ (subc m1_ (subc m2_ (subc m3_ (subc m4_ (subc m5_ sub0)))))) (s_back (ih111 ((l7_259 + 1), m_259)))))
      refine s_aload_n d_X12_follow_111 m1_ (s_getR cf d_X12_follow_112 fl_X12_84 (s_nk fun i9 => (s_iload d_X12_follow_115 m5_ (s_ldB d_X12_follow_117 ka_83 rfl fun v10 => (s_if_eq (tgt := 265) d_X12_follow_118 rfl ?_ ?_)))))
      · exact s_exit (hx111 _) (s_sub (subc m1_ (subc m2_ (subc m3_ (subc m4_ sub0)))) (hj_X12_follow_89_265 mm_111 l5_89))
      refine s_iload d_X12_follow_121 m0_ (s_aload_n d_X12_follow_123 m1_ (s_getR cf d_X12_follow_124 fl_X12_99 (s_nk fun i11 => (s_iload d_X12_follow_127 m5_ (s_ldN d_X12_follow_129 ka_88 rfl fun v12 => ?_)))))
      refine s_icmp_ge (tgt := 265) d_X12_follow_130 rfl ?_ ?_
      · exact s_exit (hx111 _) (s_sub (subc m1_ (subc m2_ (subc m3_ (subc m4_ sub0)))) (hj_X12_follow_89_265 mm_111 l5_89))
      refine s_aload_n d_X12_follow_133 m1_ (s_getR cf d_X12_follow_134 fl_X12_108 (s_nk fun i13 => (s_bipush d_X12_follow_137 n_6 rfl (s_iload d_X12_follow_139 m5_ (s_imul d_X12_follow_141 rfl rfl ?_)))))
      refine s_iload d_X12_follow_142 m0_ (s_iadd d_X12_follow_144 rfl rfl (s_ldN d_X12_follow_145 ka_91 rfl fun v14 => (s_aload_n d_X12_follow_146 m1_ (s_getR cf d_X12_follow_147 fl_X12_111 (s_nk fun i15 => ?_)))))
      refine s_bipush d_X12_follow_150 n_6 rfl (s_iload d_X12_follow_152 m5_ (s_imul d_X12_follow_154 rfl rfl (s_iload d_X12_follow_155 m0_ (s_iadd d_X12_follow_157 rfl rfl (s_ldN d_X12_follow_158 ka_92 rfl fun v16 => ?_)))))
      refine s_iadd d_X12_follow_159 rfl rfl (s_iconst d_X12_follow_160 n_1 (s_isub d_X12_follow_161 rfl rfl (s_ck (s_istore (L' := [(8, aI ((v14 + v16) - 1)), (7, aI l7_111), (0, aR (some (12, l0_78))), (1, aI l1_78), (2, aI l2_78), (5, aI l5_89), (6, aI ((16 * l2_78) + l5_89))]) d_X12_follow_162 (b8 rfl) rfl (s_aload_n d_X12_follow_164 m2_ ?_)))))
      refine s_getR cf d_X12_follow_165 fl_X12_108 (s_nk fun i17 => (s_bipush d_X12_follow_168 n_6 rfl (s_iload d_X12_follow_170 m6_ (s_imul d_X12_follow_172 rfl rfl (s_iload d_X12_follow_173 m1_ ?_)))))
      refine s_iadd d_X12_follow_175 rfl rfl (s_ldN d_X12_follow_176 ka_91 rfl fun v18 => (s_istore (L' := [(9, aI v18), (8, aI ((v14 + v16) - 1)), (7, aI l7_111), (0, aR (some (12, l0_78))), (1, aI l1_78), (2, aI l2_78), (5, aI l5_89), (6, aI ((16 * l2_78) + l5_89))]) d_X12_follow_177 (b8 rfl) rfl (s_sub (subc m0_ (subc m3_ (subc m4_ (subc m5_ (subc m6_ (subc m7_ (subc m2_ (subc m1_ sub0)))))))) (s_lp2 (fun s => [(9, aI (s.1)), (0, aR (some (12, l0_78))), (1, aI l1_78), (2, aI l2_78), (5, aI l5_89), (6, aI ((16 * l2_78) + l5_89)), (7, aI l7_111), (8, aI ((v14 + v16) - 1))]) (fun s => s.2) (v18, mm_111) fun k179 hx179 s ih0 => ?_))))
      obtain ⟨l9_179, mm_179⟩ := s
      have ih179 := ih0
      clear ih0
      try dsimp only
      unfold b_X12_follow_179
      have hj_X12_follow_179_242 : ∀ (m_242 : MM) (l9_242 : Int) (s0_242 : Nat) (s1_242 : Int) (s2_242 : Int), Sim fx me_X12_follow 242 [(0, aR (some (12, l0_78))), (1, aI l1_78), (2, aI l2_78), (5, aI l5_89), (6, aI ((16 * l2_78) + l5_89)), (7, aI l7_111), (8, aI ((v14 + v16) - 1)), (9, aI l9_242)] [aI s2_242, aI s1_242, aR (some (82, s0_242))] m_242 ((j_X12_follow_179_242 m_242 l0_78 l1_78 l2_78 l5_89 ((16 * l2_78) + l5_89) l7_111 ((v14 + v16) - 1) l9_242 s0_242 s1_242 s2_242).bind k179) := by
        intro m_242 l9_242 s0_242 s1_242 s2_242
        unfold j_X12_follow_179_242
        refine s_stB d_X12_follow_242 ka_82 rfl fun m28 => (s_aload_n d_X12_follow_243 m0_ (s_getR cf d_X12_follow_244 fl_X12_75 (s_nk fun i29 => (s_iload_n d_X12_follow_247 m1_ (s_dup2 d_X12_follow_248 rfl rfl ?_)))))
        refine s_ldN d_X12_follow_249 ka_80 rfl fun v30 => (s_iconst d_X12_follow_250 n_1 (s_iadd d_X12_follow_251 rfl rfl (s_ck (s_stN d_X12_follow_252 ka_80 rfl fun m31 => (s_iinc (L' := [(9, aI (l9_242 + 1)), (0, aR (some (12, l0_78))), (1, aI l1_78), (2, aI l2_78), (5, aI l5_89), (6, aI ((16 * l2_78) + l5_89)), (7, aI l7_111), (8, aI ((v14 + v16) - 1))]) d_X12_follow_253 m7_ (b8 rfl) rfl ?_)))))
        exact s_goto (tgt := 179) d_X12_follow_256 rfl (s_sub (subc m0_ (subc m1_ (subc m2_ (subc m3_ (subc m4_ (subc m5_ (subc m6_ (subc m7_ sub0)))))))) (s_back (ih179 ((l9_242 + 1), m31))))
      refine s_iload d_X12_follow_179 m0_ (s_iload d_X12_follow_181 m7_ (s_icmp_gt (tgt := 259) d_X12_follow_183 rfl ?_ ?_))
      · exact s_exit (hx179 _) (s_sub (subc m1_ (subc m2_ (subc m3_ (subc m4_ (subc m5_ (subc m6_ sub0)))))) (hj_X12_follow_111_259 mm_179 l7_111))
      refine s_aload_n d_X12_follow_186 m1_ (s_getR cf d_X12_follow_187 fl_X12_78 (s_nk fun i19 => (s_bipush d_X12_follow_190 n_60 rfl (s_iload_n d_X12_follow_192 m2_ (s_imul d_X12_follow_193 rfl rfl ?_)))))
      refine s_aload_n d_X12_follow_194 m1_ (s_getR cf d_X12_follow_195 fl_X12_75 (s_nk fun i20 => (s_iload_n d_X12_follow_198 m2_ (s_ldN d_X12_follow_199 ka_80 rfl fun v21 => (s_iadd d_X12_follow_200 rfl rfl ?_)))))
      refine s_aload_n d_X12_follow_201 m1_ (s_getR cf d_X12_follow_202 fl_X12_123 (s_nk fun i22 => (s_bipush d_X12_follow_205 n_60 rfl (s_iload d_X12_follow_207 m5_ (s_imul d_X12_follow_209 rfl rfl ?_)))))
      refine s_iload d_X12_follow_210 m0_ (s_iadd d_X12_follow_212 rfl rfl (s_ldL d_X12_follow_213 ka_96 rfl fun v23 => (s_stL d_X12_follow_214 ka_81 rfl fun m24 => (s_aload_n d_X12_follow_215 m1_ (s_getR cf d_X12_follow_216 fl_X12_81 ?_)))))
      refine s_nk fun i25 => (s_bipush d_X12_follow_219 n_60 rfl (s_iload_n d_X12_follow_221 m2_ (s_imul d_X12_follow_222 rfl rfl (s_aload_n d_X12_follow_223 m1_ (s_getR cf d_X12_follow_224 fl_X12_75 ?_)))))
      refine s_nk fun i26 => (s_iload_n d_X12_follow_227 m2_ (s_ldN d_X12_follow_228 ka_80 rfl fun v27 => (s_iadd d_X12_follow_229 rfl rfl (s_iload d_X12_follow_230 m0_ (s_iload d_X12_follow_232 m7_ ?_)))))
      refine s_icmp_ne (tgt := 241) d_X12_follow_234 rfl ?_ ?_
      · exact s_iconst d_X12_follow_241 n_0 (s_ck1 (s_sub (subc m1_ (subc m2_ (subc m3_ (subc m4_ (subc m5_ (subc m6_ (subc m7_ (subc m0_ sub0)))))))) (hj_X12_follow_179_242 m24 l9_179 i25 ((60 * l1_78) + v27) 0)))
      exact s_iconst d_X12_follow_237 n_1 (s_goto (tgt := 242) d_X12_follow_238 rfl (s_ck1 (s_sub (subc m1_ (subc m2_ (subc m3_ (subc m4_ (subc m5_ (subc m6_ (subc m7_ (subc m0_ sub0)))))))) (hj_X12_follow_179_242 m24 l9_179 i25 ((60 * l1_78) + v27) 1))))
    exact s_iconst d_X12_follow_84 n_0 (s_iret d_X12_follow_85 rfl rfl)
  have hj_X12_follow_0_48 : ∀ (m_48 : MM) (l0_48 : Nat) (l1_48 : Int) (l2_48 : Int) (l3_48 : Int) (s0_48 : Int), Sim fx me_X12_follow 48 [(0, aR (some (12, l0_48))), (1, aI l1_48), (2, aI l2_48), (3, aI l3_48)] [aI s0_48] m_48 ((j_X12_follow_0_48 m_48 l0_48 l1_48 l2_48 l3_48 s0_48).bind (fun z => some z)) := by
    intro m_48 l0_48 l1_48 l2_48 l3_48 s0_48
    unfold j_X12_follow_0_48
    refine s_istore (L' := [(4, aI s0_48), (0, aR (some (12, l0_48))), (1, aI l1_48), (2, aI l2_48), (3, aI l3_48)]) d_X12_follow_48 (b8 rfl) rfl (s_aload_n d_X12_follow_50 m1_ (s_iload_n d_X12_follow_51 m4_ (s_if_ne (tgt := 59) d_X12_follow_52 rfl ?_ ?_)))
    · refine s_iload_n d_X12_follow_59 m2_ (s_iload_n d_X12_follow_60 m3_ (s_icmp_ne (tgt := 68) d_X12_follow_61 rfl ?_ ?_))
      · refine s_iload d_X12_follow_68 m0_ (s_if_eq (tgt := 77) d_X12_follow_70 rfl ?_ ?_)
        · exact s_iconst d_X12_follow_77 n_3 (s_sub (subc m1_ (subc m2_ (subc m3_ sub0))) (hj_X12_follow_0_78 m_48 l0_48 l1_48 l2_48 l0_48 3))
        exact s_iconst d_X12_follow_73 n_0 (s_goto (tgt := 78) d_X12_follow_74 rfl (s_sub (subc m1_ (subc m2_ (subc m3_ sub0))) (hj_X12_follow_0_78 m_48 l0_48 l1_48 l2_48 l0_48 0)))
      exact s_iconst d_X12_follow_64 n_2 (s_goto (tgt := 78) d_X12_follow_65 rfl (s_sub (subc m1_ (subc m2_ (subc m3_ sub0))) (hj_X12_follow_0_78 m_48 l0_48 l1_48 l2_48 l0_48 2)))
    exact s_iconst d_X12_follow_55 n_1 (s_goto (tgt := 78) d_X12_follow_56 rfl (s_sub (subc m1_ (subc m2_ (subc m3_ sub0))) (hj_X12_follow_0_78 m_48 l0_48 l1_48 l2_48 l0_48 1)))
  have hj_X12_follow_0_47 : ∀ (m_47 : MM) (l0_47 : Nat) (l1_47 : Int) (l2_47 : Int) (l3_47 : Int), Sim fx me_X12_follow 47 [(0, aR (some (12, l0_47))), (1, aI l1_47), (2, aI l2_47), (3, aI l3_47)] [] m_47 ((j_X12_follow_0_47 m_47 l0_47 l1_47 l2_47 l3_47).bind (fun z => some z)) := by
    intro m_47 l0_47 l1_47 l2_47 l3_47
    unfold j_X12_follow_0_47
    exact s_iconst d_X12_follow_47 n_0 (s_sub (subc m0_ (subc m1_ (subc m2_ (subc m3_ sub0)))) (hj_X12_follow_0_48 m_47 l0_47 l1_47 l2_47 l3_47 0))
  have hj_X12_follow_0_21 : ∀ (m_21 : MM) (l0_21 : Nat) (l1_21 : Int) (l2_21 : Int) (s0_21 : Int), Sim fx me_X12_follow 21 [(0, aR (some (12, l0_21))), (1, aI l1_21), (2, aI l2_21)] [aI s0_21] m_21 ((j_X12_follow_0_21 m_21 l0_21 l1_21 l2_21 s0_21).bind (fun z => some z)) := by
    intro m_21 l0_21 l1_21 l2_21 s0_21
    unfold j_X12_follow_0_21
    refine s_istore_n (L' := [(3, aI s0_21), (0, aR (some (12, l0_21))), (1, aI l1_21), (2, aI l2_21)]) d_X12_follow_21 (b8 rfl) rfl (s_iload_n d_X12_follow_22 m0_ (s_if_eq (tgt := 47) d_X12_follow_23 rfl ?_ ?_))
    · exact s_sub (subc m1_ (subc m2_ (subc m3_ (subc m0_ sub0)))) (hj_X12_follow_0_47 m_21 l0_21 l1_21 l2_21 s0_21)
    refine s_aload_n d_X12_follow_26 m1_ (s_getR cf d_X12_follow_27 fl_X12_75 (s_nk fun i3 => (s_iload_n d_X12_follow_30 m2_ (s_ldN d_X12_follow_31 ka_80 rfl fun v4 => (s_if_ne (tgt := 47) d_X12_follow_32 rfl ?_ ?_)))))
    · exact s_sub (subc m1_ (subc m2_ (subc m3_ (subc m0_ sub0)))) (hj_X12_follow_0_47 m_21 l0_21 l1_21 l2_21 s0_21)
    refine s_aload_n d_X12_follow_35 m1_ (s_iload_n d_X12_follow_36 m3_ (s_pI (r_V d_X12_follow_37 k_X12_wordsOn w_1763 rfl rfl) ms_X12_wordsOn (b8 rfl) rfl rfl rfl fun v5 => (s_if_le (tgt := 47) d_X12_follow_40 rfl ?_ ?_)))
    · exact s_sub (subc m1_ (subc m2_ (subc m3_ (subc m0_ sub0)))) (hj_X12_follow_0_47 m_21 l0_21 l1_21 l2_21 s0_21)
    exact s_iconst d_X12_follow_43 n_1 (s_goto (tgt := 48) d_X12_follow_44 rfl (s_sub (subc m1_ (subc m2_ (subc m3_ (subc m0_ sub0)))) (hj_X12_follow_0_48 m_21 l0_21 l1_21 l2_21 s0_21 1)))
  have hj_X12_follow_0_20 : ∀ (m_20 : MM) (l0_20 : Nat) (l1_20 : Int) (l2_20 : Int), Sim fx me_X12_follow 20 [(0, aR (some (12, l0_20))), (1, aI l1_20), (2, aI l2_20)] [] m_20 ((j_X12_follow_0_20 m_20 l0_20 l1_20 l2_20).bind (fun z => some z)) := by
    intro m_20 l0_20 l1_20 l2_20
    unfold j_X12_follow_0_20
    exact s_iconst d_X12_follow_20 n_0 (s_sub (subc m0_ (subc m1_ (subc m2_ sub0))) (hj_X12_follow_0_21 m_20 l0_20 l1_20 l2_20 0))
  refine s_aload_n d_X12_follow_0 m0_ (s_iload_n d_X12_follow_1 m1_ (s_pI (r_V d_X12_follow_2 k_X12_isBook w_1747 rfl rfl) ms_X12_isBook (b8 rfl) rfl rfl rfl fun v1 => (s_if_eq (tgt := 20) d_X12_follow_5 rfl ?_ ?_)))
  · exact s_sub (subc m0_ (subc m1_ (subc m2_ sub0))) (hj_X12_follow_0_20 m l0 l1 l2)
  refine s_aload_n d_X12_follow_8 m0_ (s_iload_n d_X12_follow_9 m2_ (s_pI (r_V d_X12_follow_10 k_X12_isBook w_1747 rfl rfl) ms_X12_isBook (b8 rfl) rfl rfl rfl fun v2 => (s_if_eq (tgt := 20) d_X12_follow_13 rfl ?_ ?_)))
  · exact s_sub (subc m0_ (subc m1_ (subc m2_ sub0))) (hj_X12_follow_0_20 m l0 l1 l2)
  exact s_iconst d_X12_follow_16 n_1 (s_goto (tgt := 21) d_X12_follow_17 rfl (s_sub (subc m0_ (subc m1_ (subc m2_ sub0))) (hj_X12_follow_0_21 m l0 l1 l2 1)))
theorem d_X12_lastWord_0 : dk me_X12_lastWord 0 (.iload_n 2) 1 1 := And.intro (by decide +kernel) rfl
theorem d_X12_lastWord_1 : dk me_X12_lastWord 1 (.istore_n 3) 1 2 := And.intro (by decide +kernel) rfl
theorem d_X12_lastWord_2 : dk me_X12_lastWord 2 (.iconst 0) 1 3 := And.intro (by decide +kernel) rfl
theorem d_X12_lastWord_3 : dk me_X12_lastWord 3 (.istore 4) 2 5 := And.intro (by decide +kernel) rfl
theorem d_X12_lastWord_5 : dk me_X12_lastWord 5 (.iload 4) 2 7 := And.intro (by decide +kernel) rfl
theorem d_X12_lastWord_7 : dk me_X12_lastWord 7 (.aload_n 0) 1 8 := And.intro (by decide +kernel) rfl
theorem d_X12_lastWord_8 : dk me_X12_lastWord 8 (.iload_n 1) 1 9 := And.intro (by decide +kernel) rfl
theorem d_X12_lastWord_9 : dk me_X12_lastWord 9 (.invokevirtual 243) 3 12 := And.intro (by decide +kernel) rfl
theorem d_X12_lastWord_12 : dk me_X12_lastWord 12 (.if_icmp .ge 91) 3 15 := And.intro (by decide +kernel) rfl
theorem d_X12_lastWord_15 : dk me_X12_lastWord 15 (.bipush 16) 2 17 := And.intro (by decide +kernel) rfl
theorem d_X12_lastWord_17 : dk me_X12_lastWord 17 (.iload_n 1) 1 18 := And.intro (by decide +kernel) rfl
theorem d_X12_lastWord_18 : dk me_X12_lastWord 18 (.imul) 1 19 := And.intro (by decide +kernel) rfl
theorem d_X12_lastWord_19 : dk me_X12_lastWord 19 (.iload 4) 2 21 := And.intro (by decide +kernel) rfl
theorem d_X12_lastWord_21 : dk me_X12_lastWord 21 (.iadd) 1 22 := And.intro (by decide +kernel) rfl
theorem d_X12_lastWord_22 : dk me_X12_lastWord 22 (.istore 5) 2 24 := And.intro (by decide +kernel) rfl
theorem d_X12_lastWord_24 : dk me_X12_lastWord 24 (.aload_n 0) 1 25 := And.intro (by decide +kernel) rfl
theorem d_X12_lastWord_25 : dk me_X12_lastWord 25 (.getfield 84) 3 28 := And.intro (by decide +kernel) rfl
theorem d_X12_lastWord_28 : dk me_X12_lastWord 28 (.iload 5) 2 30 := And.intro (by decide +kernel) rfl
theorem d_X12_lastWord_30 : dk me_X12_lastWord 30 (.baload) 1 31 := And.intro (by decide +kernel) rfl
theorem d_X12_lastWord_31 : dk me_X12_lastWord 31 (.ifCond .eq 13) 3 34 := And.intro (by decide +kernel) rfl
theorem d_X12_lastWord_34 : dk me_X12_lastWord 34 (.aload_n 0) 1 35 := And.intro (by decide +kernel) rfl
theorem d_X12_lastWord_35 : dk me_X12_lastWord 35 (.getfield 99) 3 38 := And.intro (by decide +kernel) rfl
theorem d_X12_lastWord_38 : dk me_X12_lastWord 38 (.iload 5) 2 40 := And.intro (by decide +kernel) rfl
theorem d_X12_lastWord_40 : dk me_X12_lastWord 40 (.iaload) 1 41 := And.intro (by decide +kernel) rfl
theorem d_X12_lastWord_41 : dk me_X12_lastWord 41 (.goto 4) 3 44 := And.intro (by decide +kernel) rfl
theorem d_X12_lastWord_44 : dk me_X12_lastWord 44 (.iconst 0) 1 45 := And.intro (by decide +kernel) rfl
theorem d_X12_lastWord_45 : dk me_X12_lastWord 45 (.istore 6) 2 47 := And.intro (by decide +kernel) rfl
theorem d_X12_lastWord_47 : dk me_X12_lastWord 47 (.iload_n 3) 1 48 := And.intro (by decide +kernel) rfl
theorem d_X12_lastWord_48 : dk me_X12_lastWord 48 (.iload 6) 2 50 := And.intro (by decide +kernel) rfl
theorem d_X12_lastWord_50 : dk me_X12_lastWord 50 (.if_icmp .ge 42) 3 53 := And.intro (by decide +kernel) rfl
theorem d_X12_lastWord_53 : dk me_X12_lastWord 53 (.aload_n 0) 1 54 := And.intro (by decide +kernel) rfl
theorem d_X12_lastWord_54 : dk me_X12_lastWord 54 (.getfield 120) 3 57 := And.intro (by decide +kernel) rfl
theorem d_X12_lastWord_57 : dk me_X12_lastWord 57 (.bipush 60) 2 59 := And.intro (by decide +kernel) rfl
theorem d_X12_lastWord_59 : dk me_X12_lastWord 59 (.iload 5) 2 61 := And.intro (by decide +kernel) rfl
theorem d_X12_lastWord_61 : dk me_X12_lastWord 61 (.imul) 1 62 := And.intro (by decide +kernel) rfl
theorem d_X12_lastWord_62 : dk me_X12_lastWord 62 (.aload_n 0) 1 63 := And.intro (by decide +kernel) rfl
theorem d_X12_lastWord_63 : dk me_X12_lastWord 63 (.getfield 108) 3 66 := And.intro (by decide +kernel) rfl
theorem d_X12_lastWord_66 : dk me_X12_lastWord 66 (.bipush 6) 2 68 := And.intro (by decide +kernel) rfl
theorem d_X12_lastWord_68 : dk me_X12_lastWord 68 (.iload 5) 2 70 := And.intro (by decide +kernel) rfl
theorem d_X12_lastWord_70 : dk me_X12_lastWord 70 (.imul) 1 71 := And.intro (by decide +kernel) rfl
theorem d_X12_lastWord_71 : dk me_X12_lastWord 71 (.iload_n 3) 1 72 := And.intro (by decide +kernel) rfl
theorem d_X12_lastWord_72 : dk me_X12_lastWord 72 (.iadd) 1 73 := And.intro (by decide +kernel) rfl
theorem d_X12_lastWord_73 : dk me_X12_lastWord 73 (.iaload) 1 74 := And.intro (by decide +kernel) rfl
theorem d_X12_lastWord_74 : dk me_X12_lastWord 74 (.iadd) 1 75 := And.intro (by decide +kernel) rfl
theorem d_X12_lastWord_75 : dk me_X12_lastWord 75 (.aload_n 0) 1 76 := And.intro (by decide +kernel) rfl
theorem d_X12_lastWord_76 : dk me_X12_lastWord 76 (.getfield 111) 3 79 := And.intro (by decide +kernel) rfl
theorem d_X12_lastWord_79 : dk me_X12_lastWord 79 (.bipush 6) 2 81 := And.intro (by decide +kernel) rfl
theorem d_X12_lastWord_81 : dk me_X12_lastWord 81 (.iload 5) 2 83 := And.intro (by decide +kernel) rfl
theorem d_X12_lastWord_83 : dk me_X12_lastWord 83 (.imul) 1 84 := And.intro (by decide +kernel) rfl
theorem d_X12_lastWord_84 : dk me_X12_lastWord 84 (.iload_n 3) 1 85 := And.intro (by decide +kernel) rfl
theorem d_X12_lastWord_85 : dk me_X12_lastWord 85 (.iadd) 1 86 := And.intro (by decide +kernel) rfl
theorem d_X12_lastWord_86 : dk me_X12_lastWord 86 (.iaload) 1 87 := And.intro (by decide +kernel) rfl
theorem d_X12_lastWord_87 : dk me_X12_lastWord 87 (.iadd) 1 88 := And.intro (by decide +kernel) rfl
theorem d_X12_lastWord_88 : dk me_X12_lastWord 88 (.iconst 1) 1 89 := And.intro (by decide +kernel) rfl
theorem d_X12_lastWord_89 : dk me_X12_lastWord 89 (.isub) 1 90 := And.intro (by decide +kernel) rfl
theorem d_X12_lastWord_90 : dk me_X12_lastWord 90 (.iaload) 1 91 := And.intro (by decide +kernel) rfl
theorem d_X12_lastWord_91 : dk me_X12_lastWord 91 (.ireturn) 1 92 := And.intro (by decide +kernel) rfl
theorem d_X12_lastWord_92 : dk me_X12_lastWord 92 (.iload_n 3) 1 93 := And.intro (by decide +kernel) rfl
theorem d_X12_lastWord_93 : dk me_X12_lastWord 93 (.iload 6) 2 95 := And.intro (by decide +kernel) rfl
theorem d_X12_lastWord_95 : dk me_X12_lastWord 95 (.isub) 1 96 := And.intro (by decide +kernel) rfl
theorem d_X12_lastWord_96 : dk me_X12_lastWord 96 (.istore_n 3) 1 97 := And.intro (by decide +kernel) rfl
theorem d_X12_lastWord_97 : dk me_X12_lastWord 97 (.iinc 4 1) 3 100 := And.intro (by decide +kernel) rfl
theorem d_X12_lastWord_100 : dk me_X12_lastWord 100 (.goto (-95)) 3 103 := And.intro (by decide +kernel) rfl
theorem d_X12_lastWord_103 : dk me_X12_lastWord 103 (.iconst (-1)) 1 104 := And.intro (by decide +kernel) rfl
theorem d_X12_lastWord_104 : dk me_X12_lastWord 104 (.ireturn) 1 105 := And.intro (by decide +kernel) rfl
theorem ms_X12_lastWord {fx : FX} {m : MM} {l0 : Nat} {l1 : Int} {l2 : Int} : MS fx me_X12_lastWord [aR (some (12, l0)), aI l1, aI l2] m ((f_X12_lastWord m l0 l1 l2).bind fun v => some (.inl (some (aI v)), m)) := by
  refine ms_of rfl mf_X12_lastWord (b8 rfl) ?_
  show Sim fx me_X12_lastWord 0 [(0, aR (some (12, l0))), (1, aI l1), (2, aI l2)] [] m _
  unfold f_X12_lastWord
  have hj_X12_lastWord_0_103 : Sim fx me_X12_lastWord 103 [] [] m ((j_X12_lastWord_0_103 m).bind (fun v => some (.inl (some (aI v)), m))) := by
    unfold j_X12_lastWord_0_103
    exact s_iconst d_X12_lastWord_103 n_m1 (s_iret d_X12_lastWord_104 rfl rfl)
  refine s_iload_n d_X12_lastWord_0 m2_ (s_istore_n (L' := [(3, aI l2), (0, aR (some (12, l0))), (1, aI l1), (2, aI l2)]) d_X12_lastWord_1 (b8 rfl) rfl (s_iconst d_X12_lastWord_2 n_0 (s_istore (L' := [(4, aI 0), (3, aI l2), (0, aR (some (12, l0))), (1, aI l1), (2, aI l2)]) d_X12_lastWord_3 (b8 rfl) rfl (s_sub (subc m1_ (subc m0_ (subc m2_ (subc m3_ sub0)))) (s_lp2 (fun s => [(3, aI (s.1)), (4, aI (s.2)), (0, aR (some (12, l0))), (1, aI l1)]) (fun s => m) (l2, 0) fun k5 hx5 s ih0 => ?_)))))
  obtain ⟨l3_5, l4_5⟩ := s
  have ih5 := ih0
  clear ih0
  try dsimp only
  unfold b_X12_lastWord_5
  have hj_X12_lastWord_5_45 : ∀ (l3_45 : Int) (l4_45 : Int) (l5_45 : Int) (s0_45 : Int), Sim fx me_X12_lastWord 45 [(0, aR (some (12, l0))), (1, aI l1), (3, aI l3_45), (4, aI l4_45), (5, aI l5_45)] [aI s0_45] m ((j_X12_lastWord_5_45 m l0 l1 l3_45 l4_45 l5_45 s0_45).bind k5) := by
    intro l3_45 l4_45 l5_45 s0_45
    unfold j_X12_lastWord_5_45
    refine s_istore (L' := [(6, aI s0_45), (0, aR (some (12, l0))), (1, aI l1), (3, aI l3_45), (4, aI l4_45), (5, aI l5_45)]) d_X12_lastWord_45 (b8 rfl) rfl (s_iload_n d_X12_lastWord_47 m3_ (s_iload d_X12_lastWord_48 m0_ (s_icmp_ge (tgt := 92) d_X12_lastWord_50 rfl ?_ ?_)))
    · refine s_iload_n d_X12_lastWord_92 m3_ (s_iload d_X12_lastWord_93 m0_ (s_isub d_X12_lastWord_95 rfl rfl (s_ck (s_istore_n (L' := [(3, aI (l3_45 - s0_45)), (6, aI s0_45), (0, aR (some (12, l0))), (1, aI l1), (4, aI l4_45), (5, aI l5_45)]) d_X12_lastWord_96 (b8 rfl) rfl (s_iinc (L' := [(4, aI (l4_45 + 1)), (3, aI (l3_45 - s0_45)), (6, aI s0_45), (0, aR (some (12, l0))), (1, aI l1), (5, aI l5_45)]) d_X12_lastWord_97 m4_ (b8 rfl) rfl ?_)))))
      exact s_goto (tgt := 5) d_X12_lastWord_100 rfl (s_sub (subc m1_ (subc m0_ (subc m3_ (subc m4_ sub0)))) (s_back (ih5 ((l3_45 - s0_45), (l4_45 + 1)))))
    refine s_aload_n d_X12_lastWord_53 m1_ (s_getR cf d_X12_lastWord_54 fl_X12_120 (s_nk fun i6 => (s_bipush d_X12_lastWord_57 n_60 rfl (s_iload d_X12_lastWord_59 m5_ (s_imul d_X12_lastWord_61 rfl rfl ?_)))))
    refine s_aload_n d_X12_lastWord_62 m1_ (s_getR cf d_X12_lastWord_63 fl_X12_108 (s_nk fun i7 => (s_bipush d_X12_lastWord_66 n_6 rfl (s_iload d_X12_lastWord_68 m5_ (s_imul d_X12_lastWord_70 rfl rfl ?_)))))
    refine s_iload_n d_X12_lastWord_71 m3_ (s_iadd d_X12_lastWord_72 rfl rfl (s_ldN d_X12_lastWord_73 ka_91 rfl fun v8 => (s_iadd d_X12_lastWord_74 rfl rfl (s_aload_n d_X12_lastWord_75 m1_ (s_getR cf d_X12_lastWord_76 fl_X12_111 ?_)))))
    refine s_nk fun i9 => (s_bipush d_X12_lastWord_79 n_6 rfl (s_iload d_X12_lastWord_81 m5_ (s_imul d_X12_lastWord_83 rfl rfl (s_iload_n d_X12_lastWord_84 m3_ (s_iadd d_X12_lastWord_85 rfl rfl ?_)))))
    exact s_ldN d_X12_lastWord_86 ka_92 rfl fun v10 => (s_iadd d_X12_lastWord_87 rfl rfl (s_iconst d_X12_lastWord_88 n_1 (s_isub d_X12_lastWord_89 rfl rfl (s_ldN d_X12_lastWord_90 ka_95 rfl fun v11 => (s_iret d_X12_lastWord_91 rfl ((hx5 _).trans rfl))))))
  refine s_iload d_X12_lastWord_5 m1_ (s_aload_n d_X12_lastWord_7 m2_ (s_iload_n d_X12_lastWord_8 m3_ (s_pI (r_V d_X12_lastWord_9 k_X12_pagesOf w_1755 rfl rfl) ms_X12_pagesOf (b8 rfl) rfl rfl rfl fun v1 => (s_icmp_ge (tgt := 103) d_X12_lastWord_12 rfl ?_ ?_))))
  · exact s_exit (hx5 _) (s_sub (sub0) (hj_X12_lastWord_0_103 ))
  refine s_bipush d_X12_lastWord_15 n_16 rfl (s_iload_n d_X12_lastWord_17 m3_ (s_imul d_X12_lastWord_18 rfl rfl (s_iload d_X12_lastWord_19 m1_ (s_iadd d_X12_lastWord_21 rfl rfl (s_ck ?_)))))
  refine s_istore (L' := [(5, aI ((16 * l1) + l4_5)), (3, aI l3_5), (4, aI l4_5), (0, aR (some (12, l0))), (1, aI l1)]) d_X12_lastWord_22 (b8 rfl) rfl (s_aload_n d_X12_lastWord_24 m3_ (s_getR cf d_X12_lastWord_25 fl_X12_84 (s_nk fun i2 => (s_iload d_X12_lastWord_28 m0_ (s_ldB d_X12_lastWord_30 ka_83 rfl fun v3 => ?_)))))
  refine s_if_eq (tgt := 44) d_X12_lastWord_31 rfl ?_ ?_
  · exact s_iconst d_X12_lastWord_44 n_0 (s_sub (subc m3_ (subc m4_ (subc m1_ (subc m2_ (subc m0_ sub0))))) (hj_X12_lastWord_5_45 l3_5 l4_5 ((16 * l1) + l4_5) 0))
  refine s_aload_n d_X12_lastWord_34 m3_ (s_getR cf d_X12_lastWord_35 fl_X12_99 (s_nk fun i4 => (s_iload d_X12_lastWord_38 m0_ (s_ldN d_X12_lastWord_40 ka_88 rfl fun v5 => (s_goto (tgt := 45) d_X12_lastWord_41 rfl ?_)))))
  exact s_sub (subc m3_ (subc m4_ (subc m1_ (subc m2_ (subc m0_ sub0))))) (hj_X12_lastWord_5_45 l3_5 l4_5 ((16 * l1) + l4_5) v5)
theorem d_X12_spellingOf_0 : dk me_X12_spellingOf 0 (.iconst 0) 1 1 := And.intro (by decide +kernel) rfl
theorem d_X12_spellingOf_1 : dk me_X12_spellingOf 1 (.istore_n 3) 1 2 := And.intro (by decide +kernel) rfl
theorem d_X12_spellingOf_2 : dk me_X12_spellingOf 2 (.iload_n 3) 1 3 := And.intro (by decide +kernel) rfl
theorem d_X12_spellingOf_3 : dk me_X12_spellingOf 3 (.aload_n 0) 1 4 := And.intro (by decide +kernel) rfl
theorem d_X12_spellingOf_4 : dk me_X12_spellingOf 4 (.getfield 252) 3 7 := And.intro (by decide +kernel) rfl
theorem d_X12_spellingOf_7 : dk me_X12_spellingOf 7 (.if_icmp .ge 33) 3 10 := And.intro (by decide +kernel) rfl
theorem d_X12_spellingOf_10 : dk me_X12_spellingOf 10 (.aload_n 0) 1 11 := And.intro (by decide +kernel) rfl
theorem d_X12_spellingOf_11 : dk me_X12_spellingOf 11 (.getfield 13) 3 14 := And.intro (by decide +kernel) rfl
theorem d_X12_spellingOf_14 : dk me_X12_spellingOf 14 (.iload_n 3) 1 15 := And.intro (by decide +kernel) rfl
theorem d_X12_spellingOf_15 : dk me_X12_spellingOf 15 (.laload) 1 16 := And.intro (by decide +kernel) rfl
theorem d_X12_spellingOf_16 : dk me_X12_spellingOf 16 (.lload_n 1) 1 17 := And.intro (by decide +kernel) rfl
theorem d_X12_spellingOf_17 : dk me_X12_spellingOf 17 (.lcmp) 1 18 := And.intro (by decide +kernel) rfl
theorem d_X12_spellingOf_18 : dk me_X12_spellingOf 18 (.ifCond .eq 14) 3 21 := And.intro (by decide +kernel) rfl
theorem d_X12_spellingOf_21 : dk me_X12_spellingOf 21 (.aload_n 0) 1 22 := And.intro (by decide +kernel) rfl
theorem d_X12_spellingOf_22 : dk me_X12_spellingOf 22 (.getfield 17) 3 25 := And.intro (by decide +kernel) rfl
theorem d_X12_spellingOf_25 : dk me_X12_spellingOf 25 (.iload_n 3) 1 26 := And.intro (by decide +kernel) rfl
theorem d_X12_spellingOf_26 : dk me_X12_spellingOf 26 (.laload) 1 27 := And.intro (by decide +kernel) rfl
theorem d_X12_spellingOf_27 : dk me_X12_spellingOf 27 (.lload_n 1) 1 28 := And.intro (by decide +kernel) rfl
theorem d_X12_spellingOf_28 : dk me_X12_spellingOf 28 (.lcmp) 1 29 := And.intro (by decide +kernel) rfl
theorem d_X12_spellingOf_29 : dk me_X12_spellingOf 29 (.ifCond .ne 5) 3 32 := And.intro (by decide +kernel) rfl
theorem d_X12_spellingOf_32 : dk me_X12_spellingOf 32 (.iload_n 3) 1 33 := And.intro (by decide +kernel) rfl
theorem d_X12_spellingOf_33 : dk me_X12_spellingOf 33 (.ireturn) 1 34 := And.intro (by decide +kernel) rfl
theorem d_X12_spellingOf_34 : dk me_X12_spellingOf 34 (.iinc 3 1) 3 37 := And.intro (by decide +kernel) rfl
theorem d_X12_spellingOf_37 : dk me_X12_spellingOf 37 (.goto (-35)) 3 40 := And.intro (by decide +kernel) rfl
theorem d_X12_spellingOf_40 : dk me_X12_spellingOf 40 (.iconst (-1)) 1 41 := And.intro (by decide +kernel) rfl
theorem d_X12_spellingOf_41 : dk me_X12_spellingOf 41 (.ireturn) 1 42 := And.intro (by decide +kernel) rfl
theorem ms_X12_spellingOf {fx : FX} {m : MM} {l0 : Nat} {l1 : Int64} : MS fx me_X12_spellingOf [aR (some (12, l0)), aL l1] m ((f_X12_spellingOf m l0 l1).bind fun v => some (.inl (some (aI v)), m)) := by
  refine ms_of rfl mf_X12_spellingOf (b8 rfl) ?_
  show Sim fx me_X12_spellingOf 0 [(0, aR (some (12, l0))), (1, aL l1)] [] m _
  unfold f_X12_spellingOf
  have hj_X12_spellingOf_0_40 : Sim fx me_X12_spellingOf 40 [] [] m ((j_X12_spellingOf_0_40 m).bind (fun v => some (.inl (some (aI v)), m))) := by
    unfold j_X12_spellingOf_0_40
    exact s_iconst d_X12_spellingOf_40 n_m1 (s_iret d_X12_spellingOf_41 rfl rfl)
  refine s_iconst d_X12_spellingOf_0 n_0 (s_istore_n (L' := [(3, aI 0), (0, aR (some (12, l0))), (1, aL l1)]) d_X12_spellingOf_1 (b8 rfl) rfl (s_sub (subc m0_ (subc m1_ (subc m2_ sub0))) (s_lp2 (fun s => [(3, aI s), (0, aR (some (12, l0))), (1, aL l1)]) (fun s => m) 0 fun k2 hx2 s ih0 => ?_)))
  obtain ⟨l3_2, rfl⟩ : ∃ q, q = s := ⟨s, rfl⟩
  have ih2 := ih0
  clear ih0
  try dsimp only
  unfold b_X12_spellingOf_2
  refine s_iload_n d_X12_spellingOf_2 m0_ (s_aload_n d_X12_spellingOf_3 m1_ (s_getN cf d_X12_spellingOf_4 fl_X12_252 (s_icmp_ge (tgt := 40) d_X12_spellingOf_7 rfl ?_ ?_)))
  · exact s_exit (hx2 _) (s_sub (sub0) (hj_X12_spellingOf_0_40 ))
  refine s_aload_n d_X12_spellingOf_10 m1_ (s_getR cf d_X12_spellingOf_11 fl_X12_13 (s_nk fun i1 => (s_iload_n d_X12_spellingOf_14 m0_ (s_ldL d_X12_spellingOf_15 ka_60 rfl fun v2 => (s_lload_n d_X12_spellingOf_16 m2_ ?_)))))
  refine s_lcmp d_X12_spellingOf_17 (s_if_eq (tgt := 32) d_X12_spellingOf_18 rfl ?_ ?_)
  · exact s_iload_n d_X12_spellingOf_32 m0_ (s_iret d_X12_spellingOf_33 rfl ((hx2 _).trans rfl))
  refine s_aload_n d_X12_spellingOf_21 m1_ (s_getR cf d_X12_spellingOf_22 fl_X12_17 (s_nk fun i3 => (s_iload_n d_X12_spellingOf_25 m0_ (s_ldL d_X12_spellingOf_26 ka_61 rfl fun v4 => (s_lload_n d_X12_spellingOf_27 m2_ ?_)))))
  refine s_lcmp d_X12_spellingOf_28 (s_if_ne (tgt := 34) d_X12_spellingOf_29 rfl ?_ ?_)
  · exact s_iinc (L' := [(3, aI (l3_2 + 1)), (0, aR (some (12, l0))), (1, aL l1)]) d_X12_spellingOf_34 m0_ (b8 rfl) rfl (s_goto (tgt := 2) d_X12_spellingOf_37 rfl (s_sub (subc m0_ (subc m1_ (subc m2_ sub0))) (s_back (ih2 (l3_2 + 1)))))
  exact s_iload_n d_X12_spellingOf_32 m0_ (s_iret d_X12_spellingOf_33 rfl ((hx2 _).trans rfl))
theorem d_X12_follows_0 : dk me_X12_follows 0 (.aload_n 0) 1 1 := And.intro (by decide +kernel) rfl
theorem d_X12_follows_1 : dk me_X12_follows 1 (.aload_n 0) 1 2 := And.intro (by decide +kernel) rfl
theorem d_X12_follows_2 : dk me_X12_follows 2 (.iload_n 1) 1 3 := And.intro (by decide +kernel) rfl
theorem d_X12_follows_3 : dk me_X12_follows 3 (.invokevirtual 239) 3 6 := And.intro (by decide +kernel) rfl
theorem d_X12_follows_6 : dk me_X12_follows 6 (.ifCond .eq 15) 3 9 := And.intro (by decide +kernel) rfl
theorem d_X12_follows_9 : dk me_X12_follows 9 (.aload_n 0) 1 10 := And.intro (by decide +kernel) rfl
theorem d_X12_follows_10 : dk me_X12_follows 10 (.iload_n 2) 1 11 := And.intro (by decide +kernel) rfl
theorem d_X12_follows_11 : dk me_X12_follows 11 (.invokevirtual 239) 3 14 := And.intro (by decide +kernel) rfl
theorem d_X12_follows_14 : dk me_X12_follows 14 (.ifCond .eq 7) 3 17 := And.intro (by decide +kernel) rfl
theorem d_X12_follows_17 : dk me_X12_follows 17 (.iconst 0) 1 18 := And.intro (by decide +kernel) rfl
theorem d_X12_follows_18 : dk me_X12_follows 18 (.goto 4) 3 21 := And.intro (by decide +kernel) rfl
theorem d_X12_follows_21 : dk me_X12_follows 21 (.iconst 1) 1 22 := And.intro (by decide +kernel) rfl
theorem d_X12_follows_22 : dk me_X12_follows 22 (.invokevirtual 260) 3 25 := And.intro (by decide +kernel) rfl
theorem d_X12_follows_25 : dk me_X12_follows 25 (.ifCond .ne 5) 3 28 := And.intro (by decide +kernel) rfl
theorem d_X12_follows_28 : dk me_X12_follows 28 (.iconst 0) 1 29 := And.intro (by decide +kernel) rfl
theorem d_X12_follows_29 : dk me_X12_follows 29 (.ireturn) 1 30 := And.intro (by decide +kernel) rfl
theorem d_X12_follows_30 : dk me_X12_follows 30 (.iconst 0) 1 31 := And.intro (by decide +kernel) rfl
theorem d_X12_follows_31 : dk me_X12_follows 31 (.istore_n 3) 1 32 := And.intro (by decide +kernel) rfl
theorem d_X12_follows_32 : dk me_X12_follows 32 (.iconst 0) 1 33 := And.intro (by decide +kernel) rfl
theorem d_X12_follows_33 : dk me_X12_follows 33 (.istore 4) 2 35 := And.intro (by decide +kernel) rfl
theorem d_X12_follows_35 : dk me_X12_follows 35 (.aload_n 0) 1 36 := And.intro (by decide +kernel) rfl
theorem d_X12_follows_36 : dk me_X12_follows 36 (.iload_n 1) 1 37 := And.intro (by decide +kernel) rfl
theorem d_X12_follows_37 : dk me_X12_follows 37 (.iload 4) 2 39 := And.intro (by decide +kernel) rfl
theorem d_X12_follows_39 : dk me_X12_follows 39 (.invokevirtual 444) 3 42 := And.intro (by decide +kernel) rfl
theorem d_X12_follows_42 : dk me_X12_follows 42 (.iconst (-1)) 1 43 := And.intro (by decide +kernel) rfl
theorem d_X12_follows_43 : dk me_X12_follows 43 (.if_icmp .eq 99) 3 46 := And.intro (by decide +kernel) rfl
theorem d_X12_follows_46 : dk me_X12_follows 46 (.aload_n 0) 1 47 := And.intro (by decide +kernel) rfl
theorem d_X12_follows_47 : dk me_X12_follows 47 (.iload_n 2) 1 48 := And.intro (by decide +kernel) rfl
theorem d_X12_follows_48 : dk me_X12_follows 48 (.iload 4) 2 50 := And.intro (by decide +kernel) rfl
theorem d_X12_follows_50 : dk me_X12_follows 50 (.invokevirtual 444) 3 53 := And.intro (by decide +kernel) rfl
theorem d_X12_follows_53 : dk me_X12_follows 53 (.iconst (-1)) 1 54 := And.intro (by decide +kernel) rfl
theorem d_X12_follows_54 : dk me_X12_follows 54 (.if_icmp .eq 88) 3 57 := And.intro (by decide +kernel) rfl
theorem d_X12_follows_57 : dk me_X12_follows 57 (.aload_n 0) 1 58 := And.intro (by decide +kernel) rfl
theorem d_X12_follows_58 : dk me_X12_follows 58 (.getfield 78) 3 61 := And.intro (by decide +kernel) rfl
theorem d_X12_follows_61 : dk me_X12_follows 61 (.bipush 60) 2 63 := And.intro (by decide +kernel) rfl
theorem d_X12_follows_63 : dk me_X12_follows 63 (.iload_n 1) 1 64 := And.intro (by decide +kernel) rfl
theorem d_X12_follows_64 : dk me_X12_follows 64 (.imul) 1 65 := And.intro (by decide +kernel) rfl
theorem d_X12_follows_65 : dk me_X12_follows 65 (.aload_n 0) 1 66 := And.intro (by decide +kernel) rfl
theorem d_X12_follows_66 : dk me_X12_follows 66 (.iload_n 1) 1 67 := And.intro (by decide +kernel) rfl
theorem d_X12_follows_67 : dk me_X12_follows 67 (.iload 4) 2 69 := And.intro (by decide +kernel) rfl
theorem d_X12_follows_69 : dk me_X12_follows 69 (.invokevirtual 444) 3 72 := And.intro (by decide +kernel) rfl
theorem d_X12_follows_72 : dk me_X12_follows 72 (.iadd) 1 73 := And.intro (by decide +kernel) rfl
theorem d_X12_follows_73 : dk me_X12_follows 73 (.laload) 1 74 := And.intro (by decide +kernel) rfl
theorem d_X12_follows_74 : dk me_X12_follows 74 (.lstore 5) 2 76 := And.intro (by decide +kernel) rfl
theorem d_X12_follows_76 : dk me_X12_follows 76 (.aload_n 0) 1 77 := And.intro (by decide +kernel) rfl
theorem d_X12_follows_77 : dk me_X12_follows 77 (.getfield 78) 3 80 := And.intro (by decide +kernel) rfl
theorem d_X12_follows_80 : dk me_X12_follows 80 (.bipush 60) 2 82 := And.intro (by decide +kernel) rfl
theorem d_X12_follows_82 : dk me_X12_follows 82 (.iload_n 2) 1 83 := And.intro (by decide +kernel) rfl
theorem d_X12_follows_83 : dk me_X12_follows 83 (.imul) 1 84 := And.intro (by decide +kernel) rfl
theorem d_X12_follows_84 : dk me_X12_follows 84 (.aload_n 0) 1 85 := And.intro (by decide +kernel) rfl
theorem d_X12_follows_85 : dk me_X12_follows 85 (.iload_n 2) 1 86 := And.intro (by decide +kernel) rfl
theorem d_X12_follows_86 : dk me_X12_follows 86 (.iload 4) 2 88 := And.intro (by decide +kernel) rfl
theorem d_X12_follows_88 : dk me_X12_follows 88 (.invokevirtual 444) 3 91 := And.intro (by decide +kernel) rfl
theorem d_X12_follows_91 : dk me_X12_follows 91 (.iadd) 1 92 := And.intro (by decide +kernel) rfl
theorem d_X12_follows_92 : dk me_X12_follows 92 (.laload) 1 93 := And.intro (by decide +kernel) rfl
theorem d_X12_follows_93 : dk me_X12_follows 93 (.lstore 7) 2 95 := And.intro (by decide +kernel) rfl
theorem d_X12_follows_95 : dk me_X12_follows 95 (.iload_n 3) 1 96 := And.intro (by decide +kernel) rfl
theorem d_X12_follows_96 : dk me_X12_follows 96 (.lload 5) 2 98 := And.intro (by decide +kernel) rfl
theorem d_X12_follows_98 : dk me_X12_follows 98 (.lload 7) 2 100 := And.intro (by decide +kernel) rfl
theorem d_X12_follows_100 : dk me_X12_follows 100 (.lcmp) 1 101 := And.intro (by decide +kernel) rfl
theorem d_X12_follows_101 : dk me_X12_follows 101 (.ifCond .eq 28) 3 104 := And.intro (by decide +kernel) rfl
theorem d_X12_follows_104 : dk me_X12_follows 104 (.aload_n 0) 1 105 := And.intro (by decide +kernel) rfl
theorem d_X12_follows_105 : dk me_X12_follows 105 (.lload 5) 2 107 := And.intro (by decide +kernel) rfl
theorem d_X12_follows_107 : dk me_X12_follows 107 (.invokevirtual 284) 3 110 := And.intro (by decide +kernel) rfl
theorem d_X12_follows_110 : dk me_X12_follows 110 (.iconst (-1)) 1 111 := And.intro (by decide +kernel) rfl
theorem d_X12_follows_111 : dk me_X12_follows 111 (.if_icmp .eq 22) 3 114 := And.intro (by decide +kernel) rfl
theorem d_X12_follows_114 : dk me_X12_follows 114 (.aload_n 0) 1 115 := And.intro (by decide +kernel) rfl
theorem d_X12_follows_115 : dk me_X12_follows 115 (.lload 5) 2 117 := And.intro (by decide +kernel) rfl
theorem d_X12_follows_117 : dk me_X12_follows 117 (.invokevirtual 284) 3 120 := And.intro (by decide +kernel) rfl
theorem d_X12_follows_120 : dk me_X12_follows 120 (.aload_n 0) 1 121 := And.intro (by decide +kernel) rfl
theorem d_X12_follows_121 : dk me_X12_follows 121 (.lload 7) 2 123 := And.intro (by decide +kernel) rfl
theorem d_X12_follows_123 : dk me_X12_follows 123 (.invokevirtual 284) 3 126 := And.intro (by decide +kernel) rfl
theorem d_X12_follows_126 : dk me_X12_follows 126 (.if_icmp .ne 7) 3 129 := And.intro (by decide +kernel) rfl
theorem d_X12_follows_129 : dk me_X12_follows 129 (.iconst 1) 1 130 := And.intro (by decide +kernel) rfl
theorem d_X12_follows_130 : dk me_X12_follows 130 (.goto 4) 3 133 := And.intro (by decide +kernel) rfl
theorem d_X12_follows_133 : dk me_X12_follows 133 (.iconst 0) 1 134 := And.intro (by decide +kernel) rfl
theorem d_X12_follows_134 : dk me_X12_follows 134 (.iadd) 1 135 := And.intro (by decide +kernel) rfl
theorem d_X12_follows_135 : dk me_X12_follows 135 (.istore_n 3) 1 136 := And.intro (by decide +kernel) rfl
theorem d_X12_follows_136 : dk me_X12_follows 136 (.iinc 4 1) 3 139 := And.intro (by decide +kernel) rfl
theorem d_X12_follows_139 : dk me_X12_follows 139 (.goto (-104)) 3 142 := And.intro (by decide +kernel) rfl
theorem d_X12_follows_142 : dk me_X12_follows 142 (.iload_n 3) 1 143 := And.intro (by decide +kernel) rfl
theorem d_X12_follows_143 : dk me_X12_follows 143 (.ireturn) 1 144 := And.intro (by decide +kernel) rfl
theorem ms_X12_follows {fx : FX} {m : MM} {l0 : Nat} {l1 : Int} {l2 : Int} : MS fx me_X12_follows [aR (some (12, l0)), aI l1, aI l2] m (f_X12_follows m l0 l1 l2) := by
  refine ms_of rfl mf_X12_follows (b8 rfl) ?_
  refine s_top ?_
  show Sim fx me_X12_follows 0 [(0, aR (some (12, l0))), (1, aI l1), (2, aI l2)] [] m _
  unfold f_X12_follows
  have hj_X12_follows_0_142 : ∀ (m_142 : MM) (l3_142 : Int), Sim fx me_X12_follows 142 [(3, aI l3_142)] [] m_142 ((j_X12_follows_0_142 m_142 l3_142).bind (fun z => some z)) := by
    intro m_142 l3_142
    unfold j_X12_follows_0_142
    exact s_iload_n d_X12_follows_142 m0_ (s_iret d_X12_follows_143 rfl rfl)
  have hj_X12_follows_0_22 : ∀ (m_22 : MM) (l0_22 : Nat) (l1_22 : Int) (l2_22 : Int) (s0_22 : Nat) (s1_22 : Int), Sim fx me_X12_follows 22 [(0, aR (some (12, l0_22))), (1, aI l1_22), (2, aI l2_22)] [aI s1_22, aR (some (12, s0_22))] m_22 ((j_X12_follows_0_22 m_22 l0_22 l1_22 l2_22 s0_22 s1_22).bind (fun z => some z)) := by
    intro m_22 l0_22 l1_22 l2_22 s0_22 s1_22
    unfold j_X12_follows_0_22
    refine s_cI (r_V d_X12_follows_22 k_X12_holds w_1668 rfl rfl) ms_X12_holds (b8 rfl) rfl rfl rfl (fun _ _ _ => rfl) (fun _ _ => Or.inl rfl) fun v4 m3 => (s_if_ne (tgt := 30) d_X12_follows_25 rfl ?_ ?_)
    · refine s_iconst d_X12_follows_30 n_0 (s_istore_n (L' := [(3, aI 0), (0, aR (some (12, l0_22))), (1, aI l1_22), (2, aI l2_22)]) d_X12_follows_31 (b8 rfl) rfl (s_iconst d_X12_follows_32 n_0 (s_istore (L' := [(4, aI 0), (3, aI 0), (0, aR (some (12, l0_22))), (1, aI l1_22), (2, aI l2_22)]) d_X12_follows_33 (b8 rfl) rfl (s_sub (subc m1_ (subc m0_ (subc m2_ (subc m3_ (subc m4_ sub0))))) (s_lp2 (fun s => [(3, aI (s.1)), (4, aI (s.2)), (0, aR (some (12, l0_22))), (1, aI l1_22), (2, aI l2_22)]) (fun s => m3) (0, 0) fun k35 hx35 s ih0 => ?_)))))
      obtain ⟨l3_35, l4_35⟩ := s
      have ih35 := ih0
      clear ih0
      try dsimp only
      unfold b_X12_follows_35
      refine s_aload_n d_X12_follows_35 m2_ (s_iload_n d_X12_follows_36 m3_ (s_iload d_X12_follows_37 m1_ (s_pI (r_V d_X12_follows_39 k_X12_lastWord w_2037 rfl rfl) ms_X12_lastWord (b8 rfl) rfl rfl rfl fun v5 => (s_iconst d_X12_follows_42 n_m1 (s_icmp_eq (tgt := 142) d_X12_follows_43 rfl ?_ ?_)))))
      · exact s_exit (hx35 _) (s_sub (subc m0_ sub0) (hj_X12_follows_0_142 m3 l3_35))
      refine s_aload_n d_X12_follows_46 m2_ (s_iload_n d_X12_follows_47 m4_ (s_iload d_X12_follows_48 m1_ (s_pI (r_V d_X12_follows_50 k_X12_lastWord w_2037 rfl rfl) ms_X12_lastWord (b8 rfl) rfl rfl rfl fun v6 => (s_iconst d_X12_follows_53 n_m1 (s_icmp_eq (tgt := 142) d_X12_follows_54 rfl ?_ ?_)))))
      · exact s_exit (hx35 _) (s_sub (subc m0_ sub0) (hj_X12_follows_0_142 m3 l3_35))
      refine s_aload_n d_X12_follows_57 m2_ (s_getR cf d_X12_follows_58 fl_X12_78 (s_nk fun i7 => (s_bipush d_X12_follows_61 n_60 rfl (s_iload_n d_X12_follows_63 m3_ (s_imul d_X12_follows_64 rfl rfl ?_)))))
      refine s_aload_n d_X12_follows_65 m2_ (s_iload_n d_X12_follows_66 m3_ (s_iload d_X12_follows_67 m1_ (s_pI (r_V d_X12_follows_69 k_X12_lastWord w_2037 rfl rfl) ms_X12_lastWord (b8 rfl) rfl rfl rfl fun v8 => (s_iadd d_X12_follows_72 rfl rfl (s_ldL d_X12_follows_73 ka_81 rfl fun v9 => ?_)))))
      refine s_lstore (L' := [(5, aL v9), (3, aI l3_35), (4, aI l4_35), (0, aR (some (12, l0_22))), (1, aI l1_22), (2, aI l2_22)]) d_X12_follows_74 (b8 rfl) rfl (s_aload_n d_X12_follows_76 m3_ (s_getR cf d_X12_follows_77 fl_X12_78 (s_nk fun i10 => (s_bipush d_X12_follows_80 n_60 rfl (s_iload_n d_X12_follows_82 m5_ ?_)))))
      refine s_imul d_X12_follows_83 rfl rfl (s_aload_n d_X12_follows_84 m3_ (s_iload_n d_X12_follows_85 m5_ (s_iload d_X12_follows_86 m2_ (s_pI (r_V d_X12_follows_88 k_X12_lastWord w_2037 rfl rfl) ms_X12_lastWord (b8 rfl) rfl rfl rfl fun v11 => (s_iadd d_X12_follows_91 rfl rfl ?_)))))
      refine s_ldL d_X12_follows_92 ka_81 rfl fun v12 => (s_lstore (L' := [(7, aL v12), (5, aL v9), (3, aI l3_35), (4, aI l4_35), (0, aR (some (12, l0_22))), (1, aI l1_22), (2, aI l2_22)]) d_X12_follows_93 (b8 rfl) rfl (s_iload_n d_X12_follows_95 m2_ (s_lload d_X12_follows_96 m1_ (s_lload d_X12_follows_98 m0_ (s_lcmp d_X12_follows_100 ?_)))))
      refine s_if_eq (tgt := 129) d_X12_follows_101 rfl ?_ ?_
      · refine s_iconst d_X12_follows_129 n_1 (s_goto (tgt := 134) d_X12_follows_130 rfl (s_iadd d_X12_follows_134 rfl rfl (s_ck (s_istore_n (L' := [(3, aI (l3_35 + 1)), (7, aL v12), (5, aL v9), (4, aI l4_35), (0, aR (some (12, l0_22))), (1, aI l1_22), (2, aI l2_22)]) d_X12_follows_135 (b8 rfl) rfl (s_iinc (L' := [(4, aI (l4_35 + 1)), (3, aI (l3_35 + 1)), (7, aL v12), (5, aL v9), (0, aR (some (12, l0_22))), (1, aI l1_22), (2, aI l2_22)]) d_X12_follows_136 m3_ (b8 rfl) rfl ?_)))))
        exact s_goto (tgt := 35) d_X12_follows_139 rfl (s_sub (subc m1_ (subc m0_ (subc m4_ (subc m5_ (subc m6_ sub0))))) (s_back (ih35 ((l3_35 + 1), (l4_35 + 1)))))
      refine s_aload_n d_X12_follows_104 m4_ (s_lload d_X12_follows_105 m1_ (s_pI (r_V d_X12_follows_107 k_X12_spellingOf w_1711 rfl rfl) ms_X12_spellingOf (b8 rfl) rfl rfl rfl fun v13 => (s_iconst d_X12_follows_110 n_m1 (s_icmp_eq (tgt := 133) d_X12_follows_111 rfl ?_ ?_))))
      · refine s_iconst d_X12_follows_133 n_0 (s_iadd d_X12_follows_134 rfl rfl (s_ck (s_istore_n (L' := [(3, aI (l3_35 + 0)), (7, aL v12), (5, aL v9), (4, aI l4_35), (0, aR (some (12, l0_22))), (1, aI l1_22), (2, aI l2_22)]) d_X12_follows_135 (b8 rfl) rfl (s_iinc (L' := [(4, aI (l4_35 + 1)), (3, aI (l3_35 + 0)), (7, aL v12), (5, aL v9), (0, aR (some (12, l0_22))), (1, aI l1_22), (2, aI l2_22)]) d_X12_follows_136 m3_ (b8 rfl) rfl (s_goto (tgt := 35) d_X12_follows_139 rfl ?_)))))
        exact s_sub (subc m1_ (subc m0_ (subc m4_ (subc m5_ (subc m6_ sub0))))) (s_back (ih35 ((l3_35 + 0), (l4_35 + 1))))
      refine s_aload_n d_X12_follows_114 m4_ (s_lload d_X12_follows_115 m1_ (s_pI (r_V d_X12_follows_117 k_X12_spellingOf w_1711 rfl rfl) ms_X12_spellingOf (b8 rfl) rfl rfl rfl fun v14 => (s_aload_n d_X12_follows_120 m4_ (s_lload d_X12_follows_121 m0_ (s_pI (r_V d_X12_follows_123 k_X12_spellingOf w_1711 rfl rfl) ms_X12_spellingOf (b8 rfl) rfl rfl rfl fun v15 => ?_)))))
      refine s_icmp_ne (tgt := 133) d_X12_follows_126 rfl ?_ ?_
      · refine s_iconst d_X12_follows_133 n_0 (s_iadd d_X12_follows_134 rfl rfl (s_ck (s_istore_n (L' := [(3, aI (l3_35 + 0)), (7, aL v12), (5, aL v9), (4, aI l4_35), (0, aR (some (12, l0_22))), (1, aI l1_22), (2, aI l2_22)]) d_X12_follows_135 (b8 rfl) rfl (s_iinc (L' := [(4, aI (l4_35 + 1)), (3, aI (l3_35 + 0)), (7, aL v12), (5, aL v9), (0, aR (some (12, l0_22))), (1, aI l1_22), (2, aI l2_22)]) d_X12_follows_136 m3_ (b8 rfl) rfl (s_goto (tgt := 35) d_X12_follows_139 rfl ?_)))))
        exact s_sub (subc m1_ (subc m0_ (subc m4_ (subc m5_ (subc m6_ sub0))))) (s_back (ih35 ((l3_35 + 0), (l4_35 + 1))))
      refine s_iconst d_X12_follows_129 n_1 (s_goto (tgt := 134) d_X12_follows_130 rfl (s_iadd d_X12_follows_134 rfl rfl (s_ck (s_istore_n (L' := [(3, aI (l3_35 + 1)), (7, aL v12), (5, aL v9), (4, aI l4_35), (0, aR (some (12, l0_22))), (1, aI l1_22), (2, aI l2_22)]) d_X12_follows_135 (b8 rfl) rfl (s_iinc (L' := [(4, aI (l4_35 + 1)), (3, aI (l3_35 + 1)), (7, aL v12), (5, aL v9), (0, aR (some (12, l0_22))), (1, aI l1_22), (2, aI l2_22)]) d_X12_follows_136 m3_ (b8 rfl) rfl ?_)))))
      exact s_goto (tgt := 35) d_X12_follows_139 rfl (s_sub (subc m1_ (subc m0_ (subc m4_ (subc m5_ (subc m6_ sub0))))) (s_back (ih35 ((l3_35 + 1), (l4_35 + 1)))))
    exact s_iconst d_X12_follows_28 n_0 (s_iret d_X12_follows_29 rfl rfl)
  have hj_X12_follows_0_21 : ∀ (m_21 : MM) (l0_21 : Nat) (l1_21 : Int) (l2_21 : Int) (s0_21 : Nat), Sim fx me_X12_follows 21 [(0, aR (some (12, l0_21))), (1, aI l1_21), (2, aI l2_21)] [aR (some (12, s0_21))] m_21 ((j_X12_follows_0_21 m_21 l0_21 l1_21 l2_21 s0_21).bind (fun z => some z)) := by
    intro m_21 l0_21 l1_21 l2_21 s0_21
    unfold j_X12_follows_0_21
    exact s_iconst d_X12_follows_21 n_1 (s_sub (subc m0_ (subc m1_ (subc m2_ sub0))) (hj_X12_follows_0_22 m_21 l0_21 l1_21 l2_21 s0_21 1))
  refine s_aload_n d_X12_follows_0 m0_ (s_aload_n d_X12_follows_1 m0_ (s_iload_n d_X12_follows_2 m1_ (s_pI (r_V d_X12_follows_3 k_X12_isBook w_1747 rfl rfl) ms_X12_isBook (b8 rfl) rfl rfl rfl fun v1 => (s_if_eq (tgt := 21) d_X12_follows_6 rfl ?_ ?_))))
  · exact s_sub (subc m0_ (subc m1_ (subc m2_ sub0))) (hj_X12_follows_0_21 m l0 l1 l2 l0)
  refine s_aload_n d_X12_follows_9 m0_ (s_iload_n d_X12_follows_10 m2_ (s_pI (r_V d_X12_follows_11 k_X12_isBook w_1747 rfl rfl) ms_X12_isBook (b8 rfl) rfl rfl rfl fun v2 => (s_if_eq (tgt := 21) d_X12_follows_14 rfl ?_ ?_)))
  · exact s_sub (subc m0_ (subc m1_ (subc m2_ sub0))) (hj_X12_follows_0_21 m l0 l1 l2 l0)
  exact s_iconst d_X12_follows_17 n_0 (s_goto (tgt := 22) d_X12_follows_18 rfl (s_sub (subc m0_ (subc m1_ (subc m2_ sub0))) (hj_X12_follows_0_22 m l0 l1 l2 l0 0)))
theorem d_X12_stateMany_0 : dk me_X12_stateMany 0 (.aload_n 0) 1 1 := And.intro (by decide +kernel) rfl
theorem d_X12_stateMany_1 : dk me_X12_stateMany 1 (.getfield 159) 3 4 := And.intro (by decide +kernel) rfl
theorem d_X12_stateMany_4 : dk me_X12_stateMany 4 (.iload_n 1) 1 5 := And.intro (by decide +kernel) rfl
theorem d_X12_stateMany_5 : dk me_X12_stateMany 5 (.iaload) 1 6 := And.intro (by decide +kernel) rfl
theorem d_X12_stateMany_6 : dk me_X12_stateMany 6 (.ifCond .ne 7) 3 9 := And.intro (by decide +kernel) rfl
theorem d_X12_stateMany_9 : dk me_X12_stateMany 9 (.iconst 1) 1 10 := And.intro (by decide +kernel) rfl
theorem d_X12_stateMany_10 : dk me_X12_stateMany 10 (.goto 9) 3 13 := And.intro (by decide +kernel) rfl
theorem d_X12_stateMany_13 : dk me_X12_stateMany 13 (.aload_n 0) 1 14 := And.intro (by decide +kernel) rfl
theorem d_X12_stateMany_14 : dk me_X12_stateMany 14 (.getfield 168) 3 17 := And.intro (by decide +kernel) rfl
theorem d_X12_stateMany_17 : dk me_X12_stateMany 17 (.iload_n 1) 1 18 := And.intro (by decide +kernel) rfl
theorem d_X12_stateMany_18 : dk me_X12_stateMany 18 (.iaload) 1 19 := And.intro (by decide +kernel) rfl
theorem d_X12_stateMany_19 : dk me_X12_stateMany 19 (.ireturn) 1 20 := And.intro (by decide +kernel) rfl
theorem ms_X12_stateMany {fx : FX} {m : MM} {l0 : Nat} {l1 : Int} : MS fx me_X12_stateMany [aR (some (12, l0)), aI l1] m ((f_X12_stateMany m l0 l1).bind fun v => some (.inl (some (aI v)), m)) := by
  refine ms_of rfl mf_X12_stateMany (b8 rfl) ?_
  show Sim fx me_X12_stateMany 0 [(0, aR (some (12, l0))), (1, aI l1)] [] m _
  unfold f_X12_stateMany
  refine s_aload_n d_X12_stateMany_0 m0_ (s_getR cf d_X12_stateMany_1 fl_X12_159 (s_nk fun i1 => (s_iload_n d_X12_stateMany_4 m1_ (s_ldN d_X12_stateMany_5 ka_108 rfl fun v2 => (s_if_ne (tgt := 13) d_X12_stateMany_6 rfl ?_ ?_)))))
  · exact s_aload_n d_X12_stateMany_13 m0_ (s_getR cf d_X12_stateMany_14 fl_X12_168 (s_nk fun i3 => (s_iload_n d_X12_stateMany_17 m1_ (s_ldN d_X12_stateMany_18 ka_111 rfl fun v4 => (s_iret d_X12_stateMany_19 rfl rfl)))))
  exact s_iconst d_X12_stateMany_9 n_1 (s_goto (tgt := 19) d_X12_stateMany_10 rfl (s_iret d_X12_stateMany_19 rfl rfl))
theorem d_X12_forme_0 : dk me_X12_forme 0 (.aload_n 0) 1 1 := And.intro (by decide +kernel) rfl
theorem d_X12_forme_1 : dk me_X12_forme 1 (.aload_n 0) 1 2 := And.intro (by decide +kernel) rfl
theorem d_X12_forme_2 : dk me_X12_forme 2 (.iload_n 1) 1 3 := And.intro (by decide +kernel) rfl
theorem d_X12_forme_3 : dk me_X12_forme 3 (.iload_n 2) 1 4 := And.intro (by decide +kernel) rfl
theorem d_X12_forme_4 : dk me_X12_forme 4 (.invokevirtual 370) 3 7 := And.intro (by decide +kernel) rfl
theorem d_X12_forme_7 : dk me_X12_forme 7 (.ifCond .ne 7) 3 10 := And.intro (by decide +kernel) rfl
theorem d_X12_forme_10 : dk me_X12_forme 10 (.iconst 1) 1 11 := And.intro (by decide +kernel) rfl
theorem d_X12_forme_11 : dk me_X12_forme 11 (.goto 17) 3 14 := And.intro (by decide +kernel) rfl
theorem d_X12_forme_14 : dk me_X12_forme 14 (.iload_n 3) 1 15 := And.intro (by decide +kernel) rfl
theorem d_X12_forme_15 : dk me_X12_forme 15 (.iconst 0) 1 16 := And.intro (by decide +kernel) rfl
theorem d_X12_forme_16 : dk me_X12_forme 16 (.iconst 4) 1 17 := And.intro (by decide +kernel) rfl
theorem d_X12_forme_17 : dk me_X12_forme 17 (.invokestatic 235) 3 20 := And.intro (by decide +kernel) rfl
theorem d_X12_forme_20 : dk me_X12_forme 20 (.ifCond .eq 7) 3 23 := And.intro (by decide +kernel) rfl
theorem d_X12_forme_23 : dk me_X12_forme 23 (.iconst 0) 1 24 := And.intro (by decide +kernel) rfl
theorem d_X12_forme_24 : dk me_X12_forme 24 (.goto 4) 3 27 := And.intro (by decide +kernel) rfl
theorem d_X12_forme_27 : dk me_X12_forme 27 (.iconst 2) 1 28 := And.intro (by decide +kernel) rfl
theorem d_X12_forme_28 : dk me_X12_forme 28 (.invokevirtual 260) 3 31 := And.intro (by decide +kernel) rfl
theorem d_X12_forme_31 : dk me_X12_forme 31 (.ifCond .ne 5) 3 34 := And.intro (by decide +kernel) rfl
theorem d_X12_forme_34 : dk me_X12_forme 34 (.iconst 0) 1 35 := And.intro (by decide +kernel) rfl
theorem d_X12_forme_35 : dk me_X12_forme 35 (.ireturn) 1 36 := And.intro (by decide +kernel) rfl
theorem d_X12_forme_36 : dk me_X12_forme 36 (.bipush 8) 2 38 := And.intro (by decide +kernel) rfl
theorem d_X12_forme_38 : dk me_X12_forme 38 (.iload_n 1) 1 39 := And.intro (by decide +kernel) rfl
theorem d_X12_forme_39 : dk me_X12_forme 39 (.imul) 1 40 := And.intro (by decide +kernel) rfl
theorem d_X12_forme_40 : dk me_X12_forme 40 (.iload_n 2) 1 41 := And.intro (by decide +kernel) rfl
theorem d_X12_forme_41 : dk me_X12_forme 41 (.iadd) 1 42 := And.intro (by decide +kernel) rfl
theorem d_X12_forme_42 : dk me_X12_forme 42 (.istore 4) 2 44 := And.intro (by decide +kernel) rfl
theorem d_X12_forme_44 : dk me_X12_forme 44 (.iload_n 3) 1 45 := And.intro (by decide +kernel) rfl
theorem d_X12_forme_45 : dk me_X12_forme 45 (.ifCond .ne 13) 3 48 := And.intro (by decide +kernel) rfl
theorem d_X12_forme_48 : dk me_X12_forme 48 (.aload_n 0) 1 49 := And.intro (by decide +kernel) rfl
theorem d_X12_forme_49 : dk me_X12_forme 49 (.getfield 159) 3 52 := And.intro (by decide +kernel) rfl
theorem d_X12_forme_52 : dk me_X12_forme 52 (.iload 4) 2 54 := And.intro (by decide +kernel) rfl
theorem d_X12_forme_54 : dk me_X12_forme 54 (.iaload) 1 55 := And.intro (by decide +kernel) rfl
theorem d_X12_forme_55 : dk me_X12_forme 55 (.goto 83) 3 58 := And.intro (by decide +kernel) rfl
theorem d_X12_forme_58 : dk me_X12_forme 58 (.iload_n 3) 1 59 := And.intro (by decide +kernel) rfl
theorem d_X12_forme_59 : dk me_X12_forme 59 (.iconst 1) 1 60 := And.intro (by decide +kernel) rfl
theorem d_X12_forme_60 : dk me_X12_forme 60 (.if_icmp .ne 27) 3 63 := And.intro (by decide +kernel) rfl
theorem d_X12_forme_63 : dk me_X12_forme 63 (.aload_n 0) 1 64 := And.intro (by decide +kernel) rfl
theorem d_X12_forme_64 : dk me_X12_forme 64 (.getfield 159) 3 67 := And.intro (by decide +kernel) rfl
theorem d_X12_forme_67 : dk me_X12_forme 67 (.iload 4) 2 69 := And.intro (by decide +kernel) rfl
theorem d_X12_forme_69 : dk me_X12_forme 69 (.iaload) 1 70 := And.intro (by decide +kernel) rfl
theorem d_X12_forme_70 : dk me_X12_forme 70 (.ifCond .ne 7) 3 73 := And.intro (by decide +kernel) rfl
theorem d_X12_forme_73 : dk me_X12_forme 73 (.iconst (-1)) 1 74 := And.intro (by decide +kernel) rfl
theorem d_X12_forme_74 : dk me_X12_forme 74 (.goto 64) 3 77 := And.intro (by decide +kernel) rfl
theorem d_X12_forme_77 : dk me_X12_forme 77 (.aload_n 0) 1 78 := And.intro (by decide +kernel) rfl
theorem d_X12_forme_78 : dk me_X12_forme 78 (.getfield 162) 3 81 := And.intro (by decide +kernel) rfl
theorem d_X12_forme_81 : dk me_X12_forme 81 (.iload 4) 2 83 := And.intro (by decide +kernel) rfl
theorem d_X12_forme_83 : dk me_X12_forme 83 (.iaload) 1 84 := And.intro (by decide +kernel) rfl
theorem d_X12_forme_84 : dk me_X12_forme 84 (.goto 54) 3 87 := And.intro (by decide +kernel) rfl
theorem d_X12_forme_87 : dk me_X12_forme 87 (.iload_n 3) 1 88 := And.intro (by decide +kernel) rfl
theorem d_X12_forme_88 : dk me_X12_forme 88 (.iconst 2) 1 89 := And.intro (by decide +kernel) rfl
theorem d_X12_forme_89 : dk me_X12_forme 89 (.if_icmp .ne 13) 3 92 := And.intro (by decide +kernel) rfl
theorem d_X12_forme_92 : dk me_X12_forme 92 (.aload_n 0) 1 93 := And.intro (by decide +kernel) rfl
theorem d_X12_forme_93 : dk me_X12_forme 93 (.getfield 165) 3 96 := And.intro (by decide +kernel) rfl
theorem d_X12_forme_96 : dk me_X12_forme 96 (.iload 4) 2 98 := And.intro (by decide +kernel) rfl
theorem d_X12_forme_98 : dk me_X12_forme 98 (.iaload) 1 99 := And.intro (by decide +kernel) rfl
theorem d_X12_forme_99 : dk me_X12_forme 99 (.goto 39) 3 102 := And.intro (by decide +kernel) rfl
theorem d_X12_forme_102 : dk me_X12_forme 102 (.iload_n 3) 1 103 := And.intro (by decide +kernel) rfl
theorem d_X12_forme_103 : dk me_X12_forme 103 (.iconst 3) 1 104 := And.intro (by decide +kernel) rfl
theorem d_X12_forme_104 : dk me_X12_forme 104 (.if_icmp .ne 12) 3 107 := And.intro (by decide +kernel) rfl
theorem d_X12_forme_107 : dk me_X12_forme 107 (.aload_n 0) 1 108 := And.intro (by decide +kernel) rfl
theorem d_X12_forme_108 : dk me_X12_forme 108 (.iload 4) 2 110 := And.intro (by decide +kernel) rfl
theorem d_X12_forme_110 : dk me_X12_forme 110 (.invokevirtual 394) 3 113 := And.intro (by decide +kernel) rfl
theorem d_X12_forme_113 : dk me_X12_forme 113 (.goto 25) 3 116 := And.intro (by decide +kernel) rfl
theorem d_X12_forme_116 : dk me_X12_forme 116 (.aload_n 0) 1 117 := And.intro (by decide +kernel) rfl
theorem d_X12_forme_117 : dk me_X12_forme 117 (.getfield 159) 3 120 := And.intro (by decide +kernel) rfl
theorem d_X12_forme_120 : dk me_X12_forme 120 (.iload 4) 2 122 := And.intro (by decide +kernel) rfl
theorem d_X12_forme_122 : dk me_X12_forme 122 (.iaload) 1 123 := And.intro (by decide +kernel) rfl
theorem d_X12_forme_123 : dk me_X12_forme 123 (.iconst 3) 1 124 := And.intro (by decide +kernel) rfl
theorem d_X12_forme_124 : dk me_X12_forme 124 (.if_icmp .lt 13) 3 127 := And.intro (by decide +kernel) rfl
theorem d_X12_forme_127 : dk me_X12_forme 127 (.aload_n 0) 1 128 := And.intro (by decide +kernel) rfl
theorem d_X12_forme_128 : dk me_X12_forme 128 (.getfield 177) 3 131 := And.intro (by decide +kernel) rfl
theorem d_X12_forme_131 : dk me_X12_forme 131 (.iload 4) 2 133 := And.intro (by decide +kernel) rfl
theorem d_X12_forme_133 : dk me_X12_forme 133 (.iaload) 1 134 := And.intro (by decide +kernel) rfl
theorem d_X12_forme_134 : dk me_X12_forme 134 (.goto 4) 3 137 := And.intro (by decide +kernel) rfl
theorem d_X12_forme_137 : dk me_X12_forme 137 (.iconst (-1)) 1 138 := And.intro (by decide +kernel) rfl
theorem d_X12_forme_138 : dk me_X12_forme 138 (.ireturn) 1 139 := And.intro (by decide +kernel) rfl
theorem ms_X12_forme {fx : FX} {m : MM} {l0 : Nat} {l1 : Int} {l2 : Int} {l3 : Int} : MS fx me_X12_forme [aR (some (12, l0)), aI l1, aI l2, aI l3] m (f_X12_forme m l0 l1 l2 l3) := by
  refine ms_of rfl mf_X12_forme (b8 rfl) ?_
  refine s_top ?_
  show Sim fx me_X12_forme 0 [(0, aR (some (12, l0))), (1, aI l1), (2, aI l2), (3, aI l3)] [] m _
  unfold f_X12_forme
  have hj_X12_forme_0_28 : ∀ (m_28 : MM) (l0_28 : Nat) (l1_28 : Int) (l2_28 : Int) (l3_28 : Int) (s0_28 : Nat) (s1_28 : Int), Sim fx me_X12_forme 28 [(0, aR (some (12, l0_28))), (1, aI l1_28), (2, aI l2_28), (3, aI l3_28)] [aI s1_28, aR (some (12, s0_28))] m_28 ((j_X12_forme_0_28 m_28 l0_28 l1_28 l2_28 l3_28 s0_28 s1_28).bind (fun z => some z)) := by
    intro m_28 l0_28 l1_28 l2_28 l3_28 s0_28 s1_28
    unfold j_X12_forme_0_28
    refine s_cI (r_V d_X12_forme_28 k_X12_holds w_1668 rfl rfl) ms_X12_holds (b8 rfl) rfl rfl rfl (fun _ _ _ => rfl) (fun _ _ => Or.inl rfl) fun v4 m3 => (s_if_ne (tgt := 36) d_X12_forme_31 rfl ?_ ?_)
    · refine s_bipush d_X12_forme_36 n_8 rfl (s_iload_n d_X12_forme_38 m1_ (s_imul d_X12_forme_39 rfl rfl (s_iload_n d_X12_forme_40 m2_ (s_iadd d_X12_forme_41 rfl rfl (s_ck ?_)))))
      refine s_istore (L' := [(4, aI ((8 * l1_28) + l2_28)), (0, aR (some (12, l0_28))), (1, aI l1_28), (2, aI l2_28), (3, aI l3_28)]) d_X12_forme_42 (b8 rfl) rfl (s_iload_n d_X12_forme_44 m4_ (s_if_ne (tgt := 58) d_X12_forme_45 rfl ?_ ?_))
      · refine s_iload_n d_X12_forme_58 m4_ (s_iconst d_X12_forme_59 n_1 (s_icmp_ne (tgt := 87) d_X12_forme_60 rfl ?_ ?_))
        · refine s_iload_n d_X12_forme_87 m4_ (s_iconst d_X12_forme_88 n_2 (s_icmp_ne (tgt := 102) d_X12_forme_89 rfl ?_ ?_))
          · refine s_iload_n d_X12_forme_102 m4_ (s_iconst d_X12_forme_103 n_3 (s_icmp_ne (tgt := 116) d_X12_forme_104 rfl ?_ ?_))
            · refine s_aload_n d_X12_forme_116 m1_ (s_getR cf d_X12_forme_117 fl_X12_159 (s_nk fun i5 => (s_iload d_X12_forme_120 m0_ (s_ldN d_X12_forme_122 ka_108 rfl fun v6 => (s_iconst d_X12_forme_123 n_3 ?_)))))
              refine s_icmp_lt (tgt := 137) d_X12_forme_124 rfl ?_ ?_
              · exact s_iconst d_X12_forme_137 n_m1 (s_iret d_X12_forme_138 rfl rfl)
              refine s_aload_n d_X12_forme_127 m1_ (s_getR cf d_X12_forme_128 fl_X12_177 (s_nk fun i7 => (s_iload d_X12_forme_131 m0_ (s_ldN d_X12_forme_133 ka_114 rfl fun v8 => (s_goto (tgt := 138) d_X12_forme_134 rfl ?_)))))
              exact s_iret d_X12_forme_138 rfl rfl
            exact s_aload_n d_X12_forme_107 m1_ (s_iload d_X12_forme_108 m0_ (s_pI (r_V d_X12_forme_110 k_X12_stateMany w_1909 rfl rfl) ms_X12_stateMany (b8 rfl) rfl rfl rfl fun v9 => (s_goto (tgt := 138) d_X12_forme_113 rfl (s_iret d_X12_forme_138 rfl rfl))))
          refine s_aload_n d_X12_forme_92 m1_ (s_getR cf d_X12_forme_93 fl_X12_165 (s_nk fun i10 => (s_iload d_X12_forme_96 m0_ (s_ldN d_X12_forme_98 ka_110 rfl fun v11 => (s_goto (tgt := 138) d_X12_forme_99 rfl ?_)))))
          exact s_iret d_X12_forme_138 rfl rfl
        refine s_aload_n d_X12_forme_63 m1_ (s_getR cf d_X12_forme_64 fl_X12_159 (s_nk fun i12 => (s_iload d_X12_forme_67 m0_ (s_ldN d_X12_forme_69 ka_108 rfl fun v13 => (s_if_ne (tgt := 77) d_X12_forme_70 rfl ?_ ?_)))))
        · refine s_aload_n d_X12_forme_77 m1_ (s_getR cf d_X12_forme_78 fl_X12_162 (s_nk fun i14 => (s_iload d_X12_forme_81 m0_ (s_ldN d_X12_forme_83 ka_109 rfl fun v15 => (s_goto (tgt := 138) d_X12_forme_84 rfl ?_)))))
          exact s_iret d_X12_forme_138 rfl rfl
        exact s_iconst d_X12_forme_73 n_m1 (s_goto (tgt := 138) d_X12_forme_74 rfl (s_iret d_X12_forme_138 rfl rfl))
      refine s_aload_n d_X12_forme_48 m1_ (s_getR cf d_X12_forme_49 fl_X12_159 (s_nk fun i16 => (s_iload d_X12_forme_52 m0_ (s_ldN d_X12_forme_54 ka_108 rfl fun v17 => (s_goto (tgt := 138) d_X12_forme_55 rfl ?_)))))
      exact s_iret d_X12_forme_138 rfl rfl
    exact s_iconst d_X12_forme_34 n_0 (s_iret d_X12_forme_35 rfl rfl)
  refine s_aload_n d_X12_forme_0 m0_ (s_aload_n d_X12_forme_1 m0_ (s_iload_n d_X12_forme_2 m1_ (s_iload_n d_X12_forme_3 m2_ (s_pI (r_V d_X12_forme_4 k_X12_isForme w_1866 rfl rfl) ms_X12_isForme (b8 rfl) rfl rfl rfl fun v1 => (s_if_ne (tgt := 14) d_X12_forme_7 rfl ?_ ?_)))))
  · refine s_iload_n d_X12_forme_14 m3_ (s_iconst d_X12_forme_15 n_0 (s_iconst d_X12_forme_16 n_4 (s_pI (r_S d_X12_forme_17 k_X12_isIn w_1664 rfl rfl) ms_X12_isIn (b8 rfl) rfl rfl rfl fun v2 => (s_if_eq (tgt := 27) d_X12_forme_20 rfl ?_ ?_))))
    · exact s_iconst d_X12_forme_27 n_2 (s_sub (subc m0_ (subc m1_ (subc m2_ (subc m3_ sub0)))) (hj_X12_forme_0_28 m l0 l1 l2 l3 l0 2))
    exact s_iconst d_X12_forme_23 n_0 (s_goto (tgt := 28) d_X12_forme_24 rfl (s_sub (subc m0_ (subc m1_ (subc m2_ (subc m3_ sub0)))) (hj_X12_forme_0_28 m l0 l1 l2 l3 l0 0)))
  exact s_iconst d_X12_forme_10 n_1 (s_goto (tgt := 28) d_X12_forme_11 rfl (s_sub (subc m0_ (subc m1_ (subc m2_ (subc m3_ sub0)))) (hj_X12_forme_0_28 m l0 l1 l2 l3 l0 1)))
theorem d_X12_hand_0 : dk me_X12_hand 0 (.iload_n 1) 1 1 := And.intro (by decide +kernel) rfl
theorem d_X12_hand_1 : dk me_X12_hand 1 (.iconst 0) 1 2 := And.intro (by decide +kernel) rfl
theorem d_X12_hand_2 : dk me_X12_hand 2 (.bipush 63) 2 4 := And.intro (by decide +kernel) rfl
theorem d_X12_hand_4 : dk me_X12_hand 4 (.invokestatic 235) 3 7 := And.intro (by decide +kernel) rfl
theorem d_X12_hand_7 : dk me_X12_hand 7 (.ifCond .eq 27) 3 10 := And.intro (by decide +kernel) rfl
theorem d_X12_hand_10 : dk me_X12_hand 10 (.iload_n 2) 1 11 := And.intro (by decide +kernel) rfl
theorem d_X12_hand_11 : dk me_X12_hand 11 (.iconst 0) 1 12 := And.intro (by decide +kernel) rfl
theorem d_X12_hand_12 : dk me_X12_hand 12 (.bipush 9) 2 14 := And.intro (by decide +kernel) rfl
theorem d_X12_hand_14 : dk me_X12_hand 14 (.invokestatic 235) 3 17 := And.intro (by decide +kernel) rfl
theorem d_X12_hand_17 : dk me_X12_hand 17 (.ifCond .eq 17) 3 20 := And.intro (by decide +kernel) rfl
theorem d_X12_hand_20 : dk me_X12_hand 20 (.iload_n 3) 1 21 := And.intro (by decide +kernel) rfl
theorem d_X12_hand_21 : dk me_X12_hand 21 (.iconst 0) 1 22 := And.intro (by decide +kernel) rfl
theorem d_X12_hand_22 : dk me_X12_hand 22 (.bipush 9) 2 24 := And.intro (by decide +kernel) rfl
theorem d_X12_hand_24 : dk me_X12_hand 24 (.invokestatic 235) 3 27 := And.intro (by decide +kernel) rfl
theorem d_X12_hand_27 : dk me_X12_hand 27 (.ifCond .eq 7) 3 30 := And.intro (by decide +kernel) rfl
theorem d_X12_hand_30 : dk me_X12_hand 30 (.iconst 1) 1 31 := And.intro (by decide +kernel) rfl
theorem d_X12_hand_31 : dk me_X12_hand 31 (.goto 4) 3 34 := And.intro (by decide +kernel) rfl
theorem d_X12_hand_34 : dk me_X12_hand 34 (.iconst 0) 1 35 := And.intro (by decide +kernel) rfl
theorem d_X12_hand_35 : dk me_X12_hand 35 (.istore 4) 2 37 := And.intro (by decide +kernel) rfl
theorem d_X12_hand_37 : dk me_X12_hand 37 (.aload_n 0) 1 38 := And.intro (by decide +kernel) rfl
theorem d_X12_hand_38 : dk me_X12_hand 38 (.iload 4) 2 40 := And.intro (by decide +kernel) rfl
theorem d_X12_hand_40 : dk me_X12_hand 40 (.ifCond .ne 7) 3 43 := And.intro (by decide +kernel) rfl
theorem d_X12_hand_43 : dk me_X12_hand 43 (.iconst 1) 1 44 := And.intro (by decide +kernel) rfl
theorem d_X12_hand_44 : dk me_X12_hand 44 (.goto 16) 3 47 := And.intro (by decide +kernel) rfl
theorem d_X12_hand_47 : dk me_X12_hand 47 (.aload_n 0) 1 48 := And.intro (by decide +kernel) rfl
theorem d_X12_hand_48 : dk me_X12_hand 48 (.getfield 247) 3 51 := And.intro (by decide +kernel) rfl
theorem d_X12_hand_51 : dk me_X12_hand 51 (.iconst 4) 1 52 := And.intro (by decide +kernel) rfl
theorem d_X12_hand_52 : dk me_X12_hand 52 (.if_icmp .ne 7) 3 55 := And.intro (by decide +kernel) rfl
theorem d_X12_hand_55 : dk me_X12_hand 55 (.iconst 2) 1 56 := And.intro (by decide +kernel) rfl
theorem d_X12_hand_56 : dk me_X12_hand 56 (.goto 4) 3 59 := And.intro (by decide +kernel) rfl
theorem d_X12_hand_59 : dk me_X12_hand 59 (.iconst 0) 1 60 := And.intro (by decide +kernel) rfl
theorem d_X12_hand_60 : dk me_X12_hand 60 (.invokevirtual 260) 3 63 := And.intro (by decide +kernel) rfl
theorem d_X12_hand_63 : dk me_X12_hand 63 (.ifCond .ne 5) 3 66 := And.intro (by decide +kernel) rfl
theorem d_X12_hand_66 : dk me_X12_hand 66 (.iconst 0) 1 67 := And.intro (by decide +kernel) rfl
theorem d_X12_hand_67 : dk me_X12_hand 67 (.ireturn) 1 68 := And.intro (by decide +kernel) rfl
theorem d_X12_hand_68 : dk me_X12_hand 68 (.aload_n 0) 1 69 := And.intro (by decide +kernel) rfl
theorem d_X12_hand_69 : dk me_X12_hand 69 (.getfield 35) 3 72 := And.intro (by decide +kernel) rfl
theorem d_X12_hand_72 : dk me_X12_hand 72 (.aload_n 0) 1 73 := And.intro (by decide +kernel) rfl
theorem d_X12_hand_73 : dk me_X12_hand 73 (.getfield 247) 3 76 := And.intro (by decide +kernel) rfl
theorem d_X12_hand_76 : dk me_X12_hand 76 (.iload_n 1) 1 77 := And.intro (by decide +kernel) rfl
theorem d_X12_hand_77 : dk me_X12_hand 77 (.iastore) 1 78 := And.intro (by decide +kernel) rfl
theorem d_X12_hand_78 : dk me_X12_hand 78 (.aload_n 0) 1 79 := And.intro (by decide +kernel) rfl
theorem d_X12_hand_79 : dk me_X12_hand 79 (.getfield 38) 3 82 := And.intro (by decide +kernel) rfl
theorem d_X12_hand_82 : dk me_X12_hand 82 (.aload_n 0) 1 83 := And.intro (by decide +kernel) rfl
theorem d_X12_hand_83 : dk me_X12_hand 83 (.getfield 247) 3 86 := And.intro (by decide +kernel) rfl
theorem d_X12_hand_86 : dk me_X12_hand 86 (.iload_n 2) 1 87 := And.intro (by decide +kernel) rfl
theorem d_X12_hand_87 : dk me_X12_hand 87 (.iastore) 1 88 := And.intro (by decide +kernel) rfl
theorem d_X12_hand_88 : dk me_X12_hand 88 (.aload_n 0) 1 89 := And.intro (by decide +kernel) rfl
theorem d_X12_hand_89 : dk me_X12_hand 89 (.getfield 41) 3 92 := And.intro (by decide +kernel) rfl
theorem d_X12_hand_92 : dk me_X12_hand 92 (.aload_n 0) 1 93 := And.intro (by decide +kernel) rfl
theorem d_X12_hand_93 : dk me_X12_hand 93 (.getfield 247) 3 96 := And.intro (by decide +kernel) rfl
theorem d_X12_hand_96 : dk me_X12_hand 96 (.iload_n 3) 1 97 := And.intro (by decide +kernel) rfl
theorem d_X12_hand_97 : dk me_X12_hand 97 (.iastore) 1 98 := And.intro (by decide +kernel) rfl
theorem d_X12_hand_98 : dk me_X12_hand 98 (.aload_n 0) 1 99 := And.intro (by decide +kernel) rfl
theorem d_X12_hand_99 : dk me_X12_hand 99 (.dup) 1 100 := And.intro (by decide +kernel) rfl
theorem d_X12_hand_100 : dk me_X12_hand 100 (.getfield 247) 3 103 := And.intro (by decide +kernel) rfl
theorem d_X12_hand_103 : dk me_X12_hand 103 (.iconst 1) 1 104 := And.intro (by decide +kernel) rfl
theorem d_X12_hand_104 : dk me_X12_hand 104 (.iadd) 1 105 := And.intro (by decide +kernel) rfl
theorem d_X12_hand_105 : dk me_X12_hand 105 (.putfield 247) 3 108 := And.intro (by decide +kernel) rfl
theorem d_X12_hand_108 : dk me_X12_hand 108 (.aload_n 0) 1 109 := And.intro (by decide +kernel) rfl
theorem d_X12_hand_109 : dk me_X12_hand 109 (.getfield 247) 3 112 := And.intro (by decide +kernel) rfl
theorem d_X12_hand_112 : dk me_X12_hand 112 (.iconst 1) 1 113 := And.intro (by decide +kernel) rfl
theorem d_X12_hand_113 : dk me_X12_hand 113 (.isub) 1 114 := And.intro (by decide +kernel) rfl
theorem d_X12_hand_114 : dk me_X12_hand 114 (.ireturn) 1 115 := And.intro (by decide +kernel) rfl
theorem ms_X12_hand {fx : FX} {m : MM} {l0 : Nat} {l1 : Int} {l2 : Int} {l3 : Int} : MS fx me_X12_hand [aR (some (12, l0)), aI l1, aI l2, aI l3] m (f_X12_hand m l0 l1 l2 l3) := by
  refine ms_of rfl mf_X12_hand (b8 rfl) ?_
  refine s_top ?_
  show Sim fx me_X12_hand 0 [(0, aR (some (12, l0))), (1, aI l1), (2, aI l2), (3, aI l3)] [] m _
  unfold f_X12_hand
  have hj_X12_hand_0_60 : ∀ (m_60 : MM) (l0_60 : Nat) (l1_60 : Int) (l2_60 : Int) (l3_60 : Int) (s0_60 : Nat) (s1_60 : Int), Sim fx me_X12_hand 60 [(0, aR (some (12, l0_60))), (1, aI l1_60), (2, aI l2_60), (3, aI l3_60)] [aI s1_60, aR (some (12, s0_60))] m_60 ((j_X12_hand_0_60 m_60 l0_60 l1_60 l2_60 l3_60 s0_60 s1_60).bind (fun z => some z)) := by
    intro m_60 l0_60 l1_60 l2_60 l3_60 s0_60 s1_60
    unfold j_X12_hand_0_60
    refine s_cI (r_V d_X12_hand_60 k_X12_holds w_1668 rfl rfl) ms_X12_holds (b8 rfl) rfl rfl rfl (fun _ _ _ => rfl) (fun _ _ => Or.inl rfl) fun v5 m4 => (s_if_ne (tgt := 68) d_X12_hand_63 rfl ?_ ?_)
    · refine s_aload_n d_X12_hand_68 m0_ (s_getR cf d_X12_hand_69 fl_X12_35 (s_nk fun i6 => (s_aload_n d_X12_hand_72 m0_ (s_getN cf d_X12_hand_73 fl_X12_247 (s_iload_n d_X12_hand_76 m1_ ?_)))))
      refine s_stN d_X12_hand_77 ka_67 rfl fun m7 => (s_aload_n d_X12_hand_78 m0_ (s_getR cf d_X12_hand_79 fl_X12_38 (s_nk fun i8 => (s_aload_n d_X12_hand_82 m0_ (s_getN cf d_X12_hand_83 fl_X12_247 ?_)))))
      refine s_iload_n d_X12_hand_86 m2_ (s_stN d_X12_hand_87 ka_68 rfl fun m9 => (s_aload_n d_X12_hand_88 m0_ (s_getR cf d_X12_hand_89 fl_X12_41 (s_nk fun i10 => (s_aload_n d_X12_hand_92 m0_ ?_)))))
      refine s_getN cf d_X12_hand_93 fl_X12_247 (s_iload_n d_X12_hand_96 m3_ (s_stN d_X12_hand_97 ka_69 rfl fun m11 => (s_aload_n d_X12_hand_98 m0_ (s_dup d_X12_hand_99 rfl (s_getN cf d_X12_hand_100 fl_X12_247 ?_)))))
      refine s_iconst d_X12_hand_103 n_1 (s_iadd d_X12_hand_104 rfl rfl (s_ck (s_putN cf d_X12_hand_105 fl_X12_247 (fun h => by cases h) fun m12 => (s_aload_n d_X12_hand_108 m0_ (s_getN cf d_X12_hand_109 fl_X12_247 ?_)))))
      exact s_iconst d_X12_hand_112 n_1 (s_isub d_X12_hand_113 rfl rfl (s_ck (s_iret d_X12_hand_114 rfl rfl)))
    exact s_iconst d_X12_hand_66 n_0 (s_iret d_X12_hand_67 rfl rfl)
  have hj_X12_hand_0_35 : ∀ (m_35 : MM) (l0_35 : Nat) (l1_35 : Int) (l2_35 : Int) (l3_35 : Int) (s0_35 : Int), Sim fx me_X12_hand 35 [(0, aR (some (12, l0_35))), (1, aI l1_35), (2, aI l2_35), (3, aI l3_35)] [aI s0_35] m_35 ((j_X12_hand_0_35 m_35 l0_35 l1_35 l2_35 l3_35 s0_35).bind (fun z => some z)) := by
    intro m_35 l0_35 l1_35 l2_35 l3_35 s0_35
    unfold j_X12_hand_0_35
    refine s_istore (L' := [(4, aI s0_35), (0, aR (some (12, l0_35))), (1, aI l1_35), (2, aI l2_35), (3, aI l3_35)]) d_X12_hand_35 (b8 rfl) rfl (s_aload_n d_X12_hand_37 m1_ (s_iload d_X12_hand_38 m0_ (s_if_ne (tgt := 47) d_X12_hand_40 rfl ?_ ?_)))
    · refine s_aload_n d_X12_hand_47 m1_ (s_getN cf d_X12_hand_48 fl_X12_247 (s_iconst d_X12_hand_51 n_4 (s_icmp_ne (tgt := 59) d_X12_hand_52 rfl ?_ ?_)))
      · exact s_iconst d_X12_hand_59 n_0 (s_sub (subc m1_ (subc m2_ (subc m3_ (subc m4_ sub0)))) (hj_X12_hand_0_60 m_35 l0_35 l1_35 l2_35 l3_35 l0_35 0))
      exact s_iconst d_X12_hand_55 n_2 (s_goto (tgt := 60) d_X12_hand_56 rfl (s_sub (subc m1_ (subc m2_ (subc m3_ (subc m4_ sub0)))) (hj_X12_hand_0_60 m_35 l0_35 l1_35 l2_35 l3_35 l0_35 2)))
    exact s_iconst d_X12_hand_43 n_1 (s_goto (tgt := 60) d_X12_hand_44 rfl (s_sub (subc m1_ (subc m2_ (subc m3_ (subc m4_ sub0)))) (hj_X12_hand_0_60 m_35 l0_35 l1_35 l2_35 l3_35 l0_35 1)))
  have hj_X12_hand_0_34 : ∀ (m_34 : MM) (l0_34 : Nat) (l1_34 : Int) (l2_34 : Int) (l3_34 : Int), Sim fx me_X12_hand 34 [(0, aR (some (12, l0_34))), (1, aI l1_34), (2, aI l2_34), (3, aI l3_34)] [] m_34 ((j_X12_hand_0_34 m_34 l0_34 l1_34 l2_34 l3_34).bind (fun z => some z)) := by
    intro m_34 l0_34 l1_34 l2_34 l3_34
    unfold j_X12_hand_0_34
    exact s_iconst d_X12_hand_34 n_0 (s_sub (subc m0_ (subc m1_ (subc m2_ (subc m3_ sub0)))) (hj_X12_hand_0_35 m_34 l0_34 l1_34 l2_34 l3_34 0))
  refine s_iload_n d_X12_hand_0 m1_ (s_iconst d_X12_hand_1 n_0 (s_bipush d_X12_hand_2 n_63 rfl (s_pI (r_S d_X12_hand_4 k_X12_isIn w_1664 rfl rfl) ms_X12_isIn (b8 rfl) rfl rfl rfl fun v1 => (s_if_eq (tgt := 34) d_X12_hand_7 rfl ?_ ?_))))
  · exact s_sub (subc m0_ (subc m1_ (subc m2_ (subc m3_ sub0)))) (hj_X12_hand_0_34 m l0 l1 l2 l3)
  refine s_iload_n d_X12_hand_10 m2_ (s_iconst d_X12_hand_11 n_0 (s_bipush d_X12_hand_12 n_9 rfl (s_pI (r_S d_X12_hand_14 k_X12_isIn w_1664 rfl rfl) ms_X12_isIn (b8 rfl) rfl rfl rfl fun v2 => (s_if_eq (tgt := 34) d_X12_hand_17 rfl ?_ ?_))))
  · exact s_sub (subc m0_ (subc m1_ (subc m2_ (subc m3_ sub0)))) (hj_X12_hand_0_34 m l0 l1 l2 l3)
  refine s_iload_n d_X12_hand_20 m3_ (s_iconst d_X12_hand_21 n_0 (s_bipush d_X12_hand_22 n_9 rfl (s_pI (r_S d_X12_hand_24 k_X12_isIn w_1664 rfl rfl) ms_X12_isIn (b8 rfl) rfl rfl rfl fun v3 => (s_if_eq (tgt := 34) d_X12_hand_27 rfl ?_ ?_))))
  · exact s_sub (subc m0_ (subc m1_ (subc m2_ (subc m3_ sub0)))) (hj_X12_hand_0_34 m l0 l1 l2 l3)
  exact s_iconst d_X12_hand_30 n_1 (s_goto (tgt := 35) d_X12_hand_31 rfl (s_sub (subc m0_ (subc m1_ (subc m2_ (subc m3_ sub0)))) (hj_X12_hand_0_35 m l0 l1 l2 l3 1)))
theorem d_X12_canPart_0 : dk me_X12_canPart 0 (.iconst 0) 1 1 := And.intro (by decide +kernel) rfl
theorem d_X12_canPart_1 : dk me_X12_canPart 1 (.istore_n 2) 1 2 := And.intro (by decide +kernel) rfl
theorem d_X12_canPart_2 : dk me_X12_canPart 2 (.iconst 0) 1 3 := And.intro (by decide +kernel) rfl
theorem d_X12_canPart_3 : dk me_X12_canPart 3 (.istore_n 3) 1 4 := And.intro (by decide +kernel) rfl
theorem d_X12_canPart_4 : dk me_X12_canPart 4 (.iload_n 3) 1 5 := And.intro (by decide +kernel) rfl
theorem d_X12_canPart_5 : dk me_X12_canPart 5 (.aload_n 0) 1 6 := And.intro (by decide +kernel) rfl
theorem d_X12_canPart_6 : dk me_X12_canPart 6 (.getfield 432) 3 9 := And.intro (by decide +kernel) rfl
theorem d_X12_canPart_9 : dk me_X12_canPart 9 (.if_icmp .ge 16) 3 12 := And.intro (by decide +kernel) rfl
theorem d_X12_canPart_12 : dk me_X12_canPart 12 (.aload_n 0) 1 13 := And.intro (by decide +kernel) rfl
theorem d_X12_canPart_13 : dk me_X12_canPart 13 (.getfield 225) 3 16 := And.intro (by decide +kernel) rfl
theorem d_X12_canPart_16 : dk me_X12_canPart 16 (.iload_n 3) 1 17 := And.intro (by decide +kernel) rfl
theorem d_X12_canPart_17 : dk me_X12_canPart 17 (.iconst (-1)) 1 18 := And.intro (by decide +kernel) rfl
theorem d_X12_canPart_18 : dk me_X12_canPart 18 (.iastore) 1 19 := And.intro (by decide +kernel) rfl
theorem d_X12_canPart_19 : dk me_X12_canPart 19 (.iinc 3 1) 3 22 := And.intro (by decide +kernel) rfl
theorem d_X12_canPart_22 : dk me_X12_canPart 22 (.goto (-18)) 3 25 := And.intro (by decide +kernel) rfl
theorem d_X12_canPart_25 : dk me_X12_canPart 25 (.iload_n 2) 1 26 := And.intro (by decide +kernel) rfl
theorem d_X12_canPart_26 : dk me_X12_canPart 26 (.ifCond .lt 180) 3 29 := And.intro (by decide +kernel) rfl
theorem d_X12_canPart_29 : dk me_X12_canPart 29 (.iload_n 2) 1 30 := And.intro (by decide +kernel) rfl
theorem d_X12_canPart_30 : dk me_X12_canPart 30 (.aload_n 0) 1 31 := And.intro (by decide +kernel) rfl
theorem d_X12_canPart_31 : dk me_X12_canPart 31 (.getfield 432) 3 34 := And.intro (by decide +kernel) rfl
theorem d_X12_canPart_34 : dk me_X12_canPart 34 (.if_icmp .ge 172) 3 37 := And.intro (by decide +kernel) rfl
theorem d_X12_canPart_37 : dk me_X12_canPart 37 (.iconst (-1)) 1 38 := And.intro (by decide +kernel) rfl
theorem d_X12_canPart_38 : dk me_X12_canPart 38 (.istore_n 3) 1 39 := And.intro (by decide +kernel) rfl
theorem d_X12_canPart_39 : dk me_X12_canPart 39 (.iconst 0) 1 40 := And.intro (by decide +kernel) rfl
theorem d_X12_canPart_40 : dk me_X12_canPart 40 (.istore 4) 2 42 := And.intro (by decide +kernel) rfl
theorem d_X12_canPart_42 : dk me_X12_canPart 42 (.iload 4) 2 44 := And.intro (by decide +kernel) rfl
theorem d_X12_canPart_44 : dk me_X12_canPart 44 (.iload_n 2) 1 45 := And.intro (by decide +kernel) rfl
theorem d_X12_canPart_45 : dk me_X12_canPart 45 (.if_icmp .ge 32) 3 48 := And.intro (by decide +kernel) rfl
theorem d_X12_canPart_48 : dk me_X12_canPart 48 (.aload_n 0) 1 49 := And.intro (by decide +kernel) rfl
theorem d_X12_canPart_49 : dk me_X12_canPart 49 (.getfield 225) 3 52 := And.intro (by decide +kernel) rfl
theorem d_X12_canPart_52 : dk me_X12_canPart 52 (.iload 4) 2 54 := And.intro (by decide +kernel) rfl
theorem d_X12_canPart_54 : dk me_X12_canPart 54 (.iaload) 1 55 := And.intro (by decide +kernel) rfl
theorem d_X12_canPart_55 : dk me_X12_canPart 55 (.iload_n 3) 1 56 := And.intro (by decide +kernel) rfl
theorem d_X12_canPart_56 : dk me_X12_canPart 56 (.if_icmp .le 13) 3 59 := And.intro (by decide +kernel) rfl
theorem d_X12_canPart_59 : dk me_X12_canPart 59 (.aload_n 0) 1 60 := And.intro (by decide +kernel) rfl
theorem d_X12_canPart_60 : dk me_X12_canPart 60 (.getfield 225) 3 63 := And.intro (by decide +kernel) rfl
theorem d_X12_canPart_63 : dk me_X12_canPart 63 (.iload 4) 2 65 := And.intro (by decide +kernel) rfl
theorem d_X12_canPart_65 : dk me_X12_canPart 65 (.iaload) 1 66 := And.intro (by decide +kernel) rfl
theorem d_X12_canPart_66 : dk me_X12_canPart 66 (.goto 4) 3 69 := And.intro (by decide +kernel) rfl
theorem d_X12_canPart_69 : dk me_X12_canPart 69 (.iload_n 3) 1 70 := And.intro (by decide +kernel) rfl
theorem d_X12_canPart_70 : dk me_X12_canPart 70 (.istore_n 3) 1 71 := And.intro (by decide +kernel) rfl
theorem d_X12_canPart_71 : dk me_X12_canPart 71 (.iinc 4 1) 3 74 := And.intro (by decide +kernel) rfl
theorem d_X12_canPart_74 : dk me_X12_canPart 74 (.goto (-32)) 3 77 := And.intro (by decide +kernel) rfl
theorem d_X12_canPart_77 : dk me_X12_canPart 77 (.aload_n 0) 1 78 := And.intro (by decide +kernel) rfl
theorem d_X12_canPart_78 : dk me_X12_canPart 78 (.getfield 225) 3 81 := And.intro (by decide +kernel) rfl
theorem d_X12_canPart_81 : dk me_X12_canPart 81 (.iload_n 2) 1 82 := And.intro (by decide +kernel) rfl
theorem d_X12_canPart_82 : dk me_X12_canPart 82 (.dup2) 1 83 := And.intro (by decide +kernel) rfl
theorem d_X12_canPart_83 : dk me_X12_canPart 83 (.iaload) 1 84 := And.intro (by decide +kernel) rfl
theorem d_X12_canPart_84 : dk me_X12_canPart 84 (.iconst 1) 1 85 := And.intro (by decide +kernel) rfl
theorem d_X12_canPart_85 : dk me_X12_canPart 85 (.iadd) 1 86 := And.intro (by decide +kernel) rfl
theorem d_X12_canPart_86 : dk me_X12_canPart 86 (.iastore) 1 87 := And.intro (by decide +kernel) rfl
theorem d_X12_canPart_87 : dk me_X12_canPart 87 (.aload_n 0) 1 88 := And.intro (by decide +kernel) rfl
theorem d_X12_canPart_88 : dk me_X12_canPart 88 (.getfield 225) 3 91 := And.intro (by decide +kernel) rfl
theorem d_X12_canPart_91 : dk me_X12_canPart 91 (.iload_n 2) 1 92 := And.intro (by decide +kernel) rfl
theorem d_X12_canPart_92 : dk me_X12_canPart 92 (.iaload) 1 93 := And.intro (by decide +kernel) rfl
theorem d_X12_canPart_93 : dk me_X12_canPart 93 (.iload_n 1) 1 94 := And.intro (by decide +kernel) rfl
theorem d_X12_canPart_94 : dk me_X12_canPart 94 (.if_icmp .ge 19) 3 97 := And.intro (by decide +kernel) rfl
theorem d_X12_canPart_97 : dk me_X12_canPart 97 (.aload_n 0) 1 98 := And.intro (by decide +kernel) rfl
theorem d_X12_canPart_98 : dk me_X12_canPart 98 (.getfield 225) 3 101 := And.intro (by decide +kernel) rfl
theorem d_X12_canPart_101 : dk me_X12_canPart 101 (.iload_n 2) 1 102 := And.intro (by decide +kernel) rfl
theorem d_X12_canPart_102 : dk me_X12_canPart 102 (.iaload) 1 103 := And.intro (by decide +kernel) rfl
theorem d_X12_canPart_103 : dk me_X12_canPart 103 (.iload_n 3) 1 104 := And.intro (by decide +kernel) rfl
theorem d_X12_canPart_104 : dk me_X12_canPart 104 (.iconst 1) 1 105 := And.intro (by decide +kernel) rfl
theorem d_X12_canPart_105 : dk me_X12_canPart 105 (.iadd) 1 106 := And.intro (by decide +kernel) rfl
theorem d_X12_canPart_106 : dk me_X12_canPart 106 (.if_icmp .gt 7) 3 109 := And.intro (by decide +kernel) rfl
theorem d_X12_canPart_109 : dk me_X12_canPart 109 (.iconst 1) 1 110 := And.intro (by decide +kernel) rfl
theorem d_X12_canPart_110 : dk me_X12_canPart 110 (.goto 4) 3 113 := And.intro (by decide +kernel) rfl
theorem d_X12_canPart_113 : dk me_X12_canPart 113 (.iconst 0) 1 114 := And.intro (by decide +kernel) rfl
theorem d_X12_canPart_114 : dk me_X12_canPart 114 (.istore 4) 2 116 := And.intro (by decide +kernel) rfl
theorem d_X12_canPart_116 : dk me_X12_canPart 116 (.iload 4) 2 118 := And.intro (by decide +kernel) rfl
theorem d_X12_canPart_118 : dk me_X12_canPart 118 (.istore 5) 2 120 := And.intro (by decide +kernel) rfl
theorem d_X12_canPart_120 : dk me_X12_canPart 120 (.iconst 0) 1 121 := And.intro (by decide +kernel) rfl
theorem d_X12_canPart_121 : dk me_X12_canPart 121 (.istore 6) 2 123 := And.intro (by decide +kernel) rfl
theorem d_X12_canPart_123 : dk me_X12_canPart 123 (.iload 6) 2 125 := And.intro (by decide +kernel) rfl
theorem d_X12_canPart_125 : dk me_X12_canPart 125 (.iload_n 2) 1 126 := And.intro (by decide +kernel) rfl
theorem d_X12_canPart_126 : dk me_X12_canPart 126 (.if_icmp .ge 51) 3 129 := And.intro (by decide +kernel) rfl
theorem d_X12_canPart_129 : dk me_X12_canPart 129 (.iload 5) 2 131 := And.intro (by decide +kernel) rfl
theorem d_X12_canPart_131 : dk me_X12_canPart 131 (.ifCond .eq 37) 3 134 := And.intro (by decide +kernel) rfl
theorem d_X12_canPart_134 : dk me_X12_canPart 134 (.aload_n 0) 1 135 := And.intro (by decide +kernel) rfl
theorem d_X12_canPart_135 : dk me_X12_canPart 135 (.getfield 222) 3 138 := And.intro (by decide +kernel) rfl
theorem d_X12_canPart_138 : dk me_X12_canPart 138 (.iload_n 2) 1 139 := And.intro (by decide +kernel) rfl
theorem d_X12_canPart_139 : dk me_X12_canPart 139 (.iaload) 1 140 := And.intro (by decide +kernel) rfl
theorem d_X12_canPart_140 : dk me_X12_canPart 140 (.iload 6) 2 142 := And.intro (by decide +kernel) rfl
theorem d_X12_canPart_142 : dk me_X12_canPart 142 (.ishr) 1 143 := And.intro (by decide +kernel) rfl
theorem d_X12_canPart_143 : dk me_X12_canPart 143 (.iconst 1) 1 144 := And.intro (by decide +kernel) rfl
theorem d_X12_canPart_144 : dk me_X12_canPart 144 (.iand) 1 145 := And.intro (by decide +kernel) rfl
theorem d_X12_canPart_145 : dk me_X12_canPart 145 (.ifCond .eq 19) 3 148 := And.intro (by decide +kernel) rfl
theorem d_X12_canPart_148 : dk me_X12_canPart 148 (.aload_n 0) 1 149 := And.intro (by decide +kernel) rfl
theorem d_X12_canPart_149 : dk me_X12_canPart 149 (.getfield 225) 3 152 := And.intro (by decide +kernel) rfl
theorem d_X12_canPart_152 : dk me_X12_canPart 152 (.iload 6) 2 154 := And.intro (by decide +kernel) rfl
theorem d_X12_canPart_154 : dk me_X12_canPart 154 (.iaload) 1 155 := And.intro (by decide +kernel) rfl
theorem d_X12_canPart_155 : dk me_X12_canPart 155 (.aload_n 0) 1 156 := And.intro (by decide +kernel) rfl
theorem d_X12_canPart_156 : dk me_X12_canPart 156 (.getfield 225) 3 159 := And.intro (by decide +kernel) rfl
theorem d_X12_canPart_159 : dk me_X12_canPart 159 (.iload_n 2) 1 160 := And.intro (by decide +kernel) rfl
theorem d_X12_canPart_160 : dk me_X12_canPart 160 (.iaload) 1 161 := And.intro (by decide +kernel) rfl
theorem d_X12_canPart_161 : dk me_X12_canPart 161 (.if_icmp .eq 7) 3 164 := And.intro (by decide +kernel) rfl
theorem d_X12_canPart_164 : dk me_X12_canPart 164 (.iconst 1) 1 165 := And.intro (by decide +kernel) rfl
theorem d_X12_canPart_165 : dk me_X12_canPart 165 (.goto 4) 3 168 := And.intro (by decide +kernel) rfl
theorem d_X12_canPart_168 : dk me_X12_canPart 168 (.iconst 0) 1 169 := And.intro (by decide +kernel) rfl
theorem d_X12_canPart_169 : dk me_X12_canPart 169 (.istore 5) 2 171 := And.intro (by decide +kernel) rfl
theorem d_X12_canPart_171 : dk me_X12_canPart 171 (.iinc 6 1) 3 174 := And.intro (by decide +kernel) rfl
theorem d_X12_canPart_174 : dk me_X12_canPart 174 (.goto (-51)) 3 177 := And.intro (by decide +kernel) rfl
theorem d_X12_canPart_177 : dk me_X12_canPart 177 (.iload 4) 2 179 := And.intro (by decide +kernel) rfl
theorem d_X12_canPart_179 : dk me_X12_canPart 179 (.ifCond .ne 16) 3 182 := And.intro (by decide +kernel) rfl
theorem d_X12_canPart_182 : dk me_X12_canPart 182 (.aload_n 0) 1 183 := And.intro (by decide +kernel) rfl
theorem d_X12_canPart_183 : dk me_X12_canPart 183 (.getfield 225) 3 186 := And.intro (by decide +kernel) rfl
theorem d_X12_canPart_186 : dk me_X12_canPart 186 (.iload_n 2) 1 187 := And.intro (by decide +kernel) rfl
theorem d_X12_canPart_187 : dk me_X12_canPart 187 (.iconst (-1)) 1 188 := And.intro (by decide +kernel) rfl
theorem d_X12_canPart_188 : dk me_X12_canPart 188 (.iastore) 1 189 := And.intro (by decide +kernel) rfl
theorem d_X12_canPart_189 : dk me_X12_canPart 189 (.iinc 2 (-1)) 3 192 := And.intro (by decide +kernel) rfl
theorem d_X12_canPart_192 : dk me_X12_canPart 192 (.goto 11) 3 195 := And.intro (by decide +kernel) rfl
theorem d_X12_canPart_195 : dk me_X12_canPart 195 (.iload 5) 2 197 := And.intro (by decide +kernel) rfl
theorem d_X12_canPart_197 : dk me_X12_canPart 197 (.ifCond .eq 6) 3 200 := And.intro (by decide +kernel) rfl
theorem d_X12_canPart_200 : dk me_X12_canPart 200 (.iinc 2 1) 3 203 := And.intro (by decide +kernel) rfl
theorem d_X12_canPart_203 : dk me_X12_canPart 203 (.goto (-178)) 3 206 := And.intro (by decide +kernel) rfl
theorem d_X12_canPart_206 : dk me_X12_canPart 206 (.iload_n 2) 1 207 := And.intro (by decide +kernel) rfl
theorem d_X12_canPart_207 : dk me_X12_canPart 207 (.aload_n 0) 1 208 := And.intro (by decide +kernel) rfl
theorem d_X12_canPart_208 : dk me_X12_canPart 208 (.getfield 432) 3 211 := And.intro (by decide +kernel) rfl
theorem d_X12_canPart_211 : dk me_X12_canPart 211 (.if_icmp .ne 7) 3 214 := And.intro (by decide +kernel) rfl
theorem d_X12_canPart_214 : dk me_X12_canPart 214 (.iconst 1) 1 215 := And.intro (by decide +kernel) rfl
theorem d_X12_canPart_215 : dk me_X12_canPart 215 (.goto 4) 3 218 := And.intro (by decide +kernel) rfl
theorem d_X12_canPart_218 : dk me_X12_canPart 218 (.iconst 0) 1 219 := And.intro (by decide +kernel) rfl
theorem d_X12_canPart_219 : dk me_X12_canPart 219 (.ireturn) 1 220 := And.intro (by decide +kernel) rfl
theorem ms_X12_canPart {fx : FX} {m : MM} {l0 : Nat} {l1 : Int} : MS fx me_X12_canPart [aR (some (12, l0)), aI l1] m (f_X12_canPart m l0 l1) := by
  refine ms_of rfl mf_X12_canPart (b8 rfl) ?_
  refine s_top ?_
  show Sim fx me_X12_canPart 0 [(0, aR (some (12, l0))), (1, aI l1)] [] m _
  unfold f_X12_canPart
  have hj_X12_canPart_0_206 : ∀ (m_206 : MM) (l0_206 : Nat) (l2_206 : Int), Sim fx me_X12_canPart 206 [(0, aR (some (12, l0_206))), (2, aI l2_206)] [] m_206 ((j_X12_canPart_0_206 m_206 l0_206 l2_206).bind (fun z => some z)) := by
    intro m_206 l0_206 l2_206
    unfold j_X12_canPart_0_206
    refine s_iload_n d_X12_canPart_206 m1_ (s_aload_n d_X12_canPart_207 m0_ (s_getN cf d_X12_canPart_208 fl_X12_432 (s_icmp_ne (tgt := 218) d_X12_canPart_211 rfl ?_ ?_)))
    · exact s_iconst d_X12_canPart_218 n_0 (s_zretl d_X12_canPart_219 rfl (by decide) rfl)
    exact s_iconst d_X12_canPart_214 n_1 (s_goto (tgt := 219) d_X12_canPart_215 rfl (s_zretl d_X12_canPart_219 rfl (by decide) rfl))
  have hj_X12_canPart_0_25 : ∀ (m_25 : MM) (l0_25 : Nat) (l1_25 : Int) (l2_25 : Int), Sim fx me_X12_canPart 25 [(0, aR (some (12, l0_25))), (1, aI l1_25), (2, aI l2_25)] [] m_25 ((j_X12_canPart_0_25 m_25 l0_25 l1_25 l2_25).bind (fun z => some z)) := by
    intro m_25 l0_25 l1_25 l2_25
    unfold j_X12_canPart_0_25
    refine s_sub (subc m2_ (subc m0_ (subc m1_ sub0))) (s_lp2 (fun s => [(2, aI (s.1)), (0, aR (some (12, l0_25))), (1, aI l1_25)]) (fun s => s.2) (l2_25, m_25) fun k25 hx25 s ih0 => ?_)
    obtain ⟨l2_25, mm_25⟩ := s
    have ih25 := ih0
    clear ih0
    try dsimp only
    unfold b_X12_canPart_25
    have hj_X12_canPart_25_177 : ∀ (m_177 : MM) (l2_177 : Int) (l4_177 : Int) (l5_177 : Int), Sim fx me_X12_canPart 177 [(0, aR (some (12, l0_25))), (1, aI l1_25), (2, aI l2_177), (4, aI l4_177), (5, aI l5_177)] [] m_177 ((j_X12_canPart_25_177 m_177 l0_25 l1_25 l2_177 l4_177 l5_177).bind k25) := by
      intro m_177 l2_177 l4_177 l5_177
      unfold j_X12_canPart_25_177
      refine s_iload d_X12_canPart_177 m3_ (s_if_ne (tgt := 195) d_X12_canPart_179 rfl ?_ ?_)
      · refine s_iload d_X12_canPart_195 m4_ (s_if_eq (tgt := 203) d_X12_canPart_197 rfl ?_ ?_)
        · exact s_goto (tgt := 25) d_X12_canPart_203 rfl (s_sub (subc m2_ (subc m0_ (subc m1_ sub0))) (s_back (ih25 (l2_177, m_177))))
        exact s_iinc (L' := [(2, aI (l2_177 + 1)), (0, aR (some (12, l0_25))), (1, aI l1_25), (4, aI l4_177), (5, aI l5_177)]) d_X12_canPart_200 m2_ (b8 rfl) rfl (s_goto (tgt := 25) d_X12_canPart_203 rfl (s_sub (subc m0_ (subc m1_ (subc m2_ sub0))) (s_back (ih25 ((l2_177 + 1), m_177)))))
      refine s_aload_n d_X12_canPart_182 m0_ (s_getR cf d_X12_canPart_183 fl_X12_225 (s_nk fun i20 => (s_iload_n d_X12_canPart_186 m2_ (s_iconst d_X12_canPart_187 n_m1 (s_stN d_X12_canPart_188 ka_130 rfl fun m21 => ?_)))))
      exact s_iinc (L' := [(2, aI (l2_177 + (-1))), (0, aR (some (12, l0_25))), (1, aI l1_25), (4, aI l4_177), (5, aI l5_177)]) d_X12_canPart_189 m2_ (b8 rfl) rfl (s_goto (tgt := 203) d_X12_canPart_192 rfl (s_goto (tgt := 25) d_X12_canPart_203 rfl (s_sub (subc m0_ (subc m1_ (subc m2_ sub0))) (s_back (ih25 ((l2_177 + (-1)), m21))))))
    have hj_X12_canPart_25_114 : ∀ (m_114 : MM) (l2_114 : Int) (s0_114 : Int), Sim fx me_X12_canPart 114 [(0, aR (some (12, l0_25))), (1, aI l1_25), (2, aI l2_114)] [aI s0_114] m_114 ((j_X12_canPart_25_114 m_114 l0_25 l1_25 l2_114 s0_114).bind k25) := by
      intro m_114 l2_114 s0_114
      unfold j_X12_canPart_25_114
      refine s_istore (L' := [(4, aI s0_114), (0, aR (some (12, l0_25))), (1, aI l1_25), (2, aI l2_114)]) d_X12_canPart_114 (b8 rfl) rfl (s_iload d_X12_canPart_116 m0_ (s_istore (L' := [(5, aI s0_114), (4, aI s0_114), (0, aR (some (12, l0_25))), (1, aI l1_25), (2, aI l2_114)]) d_X12_canPart_118 (b8 rfl) rfl (s_iconst d_X12_canPart_120 n_0 (s_istore (L' := [(6, aI 0), (5, aI s0_114), (4, aI s0_114), (0, aR (some (12, l0_25))), (1, aI l1_25), (2, aI l2_114)]) d_X12_canPart_121 (b8 rfl) rfl (s_sub (subc m1_ (subc m0_ (subc m3_ (subc m4_ (subc m5_ (subc m2_ sub0)))))) (s_lp2 (fun s => [(5, aI (s.1)), (6, aI (s.2)), (0, aR (some (12, l0_25))), (1, aI l1_25), (2, aI l2_114), (4, aI s0_114)]) (fun s => m_114) (s0_114, 0) fun k123 hx123 s ih0 => ?_))))))
      obtain ⟨l5_123, l6_123⟩ := s
      have ih123 := ih0
      clear ih0
      try dsimp only
      unfold b_X12_canPart_123
      refine s_iload d_X12_canPart_123 m1_ (s_iload_n d_X12_canPart_125 m4_ (s_icmp_ge (tgt := 177) d_X12_canPart_126 rfl ?_ ?_))
      · exact s_exit (hx123 _) (s_sub (subc m2_ (subc m3_ (subc m4_ (subc m5_ (subc m0_ sub0))))) (hj_X12_canPart_25_177 m_114 l2_114 s0_114 l5_123))
      refine s_iload d_X12_canPart_129 m0_ (s_if_eq (tgt := 168) d_X12_canPart_131 rfl ?_ ?_)
      · exact s_iconst d_X12_canPart_168 n_0 (s_istore (L' := [(5, aI 0), (6, aI l6_123), (0, aR (some (12, l0_25))), (1, aI l1_25), (2, aI l2_114), (4, aI s0_114)]) d_X12_canPart_169 (b8 rfl) rfl (s_iinc (L' := [(6, aI (l6_123 + 1)), (5, aI 0), (0, aR (some (12, l0_25))), (1, aI l1_25), (2, aI l2_114), (4, aI s0_114)]) d_X12_canPart_171 m1_ (b8 rfl) rfl (s_goto (tgt := 123) d_X12_canPart_174 rfl (s_sub (subc m1_ (subc m0_ (subc m2_ (subc m3_ (subc m4_ (subc m5_ sub0)))))) (s_back (ih123 (0, (l6_123 + 1))))))))
      refine s_aload_n d_X12_canPart_134 m2_ (s_getR cf d_X12_canPart_135 fl_X12_222 (s_nk fun i14 => (s_iload_n d_X12_canPart_138 m4_ (s_ldN d_X12_canPart_139 ka_129 rfl fun v15 => (s_iload d_X12_canPart_140 m1_ ?_)))))
      refine s_ishr d_X12_canPart_142 (s_iconst d_X12_canPart_143 n_1 (s_iand d_X12_canPart_144 (s_if_eq (tgt := 164) d_X12_canPart_145 rfl ?_ ?_)))
      · exact s_iconst d_X12_canPart_164 n_1 (s_goto (tgt := 169) d_X12_canPart_165 rfl (s_istore (L' := [(5, aI 1), (6, aI l6_123), (0, aR (some (12, l0_25))), (1, aI l1_25), (2, aI l2_114), (4, aI s0_114)]) d_X12_canPart_169 (b8 rfl) rfl (s_iinc (L' := [(6, aI (l6_123 + 1)), (5, aI 1), (0, aR (some (12, l0_25))), (1, aI l1_25), (2, aI l2_114), (4, aI s0_114)]) d_X12_canPart_171 m1_ (b8 rfl) rfl (s_goto (tgt := 123) d_X12_canPart_174 rfl (s_sub (subc m1_ (subc m0_ (subc m2_ (subc m3_ (subc m4_ (subc m5_ sub0)))))) (s_back (ih123 (1, (l6_123 + 1)))))))))
      refine s_aload_n d_X12_canPart_148 m2_ (s_getR cf d_X12_canPart_149 fl_X12_225 (s_nk fun i16 => (s_iload d_X12_canPart_152 m1_ (s_ldN d_X12_canPart_154 ka_130 rfl fun v17 => (s_aload_n d_X12_canPart_155 m2_ ?_)))))
      refine s_getR cf d_X12_canPart_156 fl_X12_225 (s_nk fun i18 => (s_iload_n d_X12_canPart_159 m4_ (s_ldN d_X12_canPart_160 ka_130 rfl fun v19 => (s_icmp_eq (tgt := 168) d_X12_canPart_161 rfl ?_ ?_))))
      · exact s_iconst d_X12_canPart_168 n_0 (s_istore (L' := [(5, aI 0), (6, aI l6_123), (0, aR (some (12, l0_25))), (1, aI l1_25), (2, aI l2_114), (4, aI s0_114)]) d_X12_canPart_169 (b8 rfl) rfl (s_iinc (L' := [(6, aI (l6_123 + 1)), (5, aI 0), (0, aR (some (12, l0_25))), (1, aI l1_25), (2, aI l2_114), (4, aI s0_114)]) d_X12_canPart_171 m1_ (b8 rfl) rfl (s_goto (tgt := 123) d_X12_canPart_174 rfl (s_sub (subc m1_ (subc m0_ (subc m2_ (subc m3_ (subc m4_ (subc m5_ sub0)))))) (s_back (ih123 (0, (l6_123 + 1))))))))
      exact s_iconst d_X12_canPart_164 n_1 (s_goto (tgt := 169) d_X12_canPart_165 rfl (s_istore (L' := [(5, aI 1), (6, aI l6_123), (0, aR (some (12, l0_25))), (1, aI l1_25), (2, aI l2_114), (4, aI s0_114)]) d_X12_canPart_169 (b8 rfl) rfl (s_iinc (L' := [(6, aI (l6_123 + 1)), (5, aI 1), (0, aR (some (12, l0_25))), (1, aI l1_25), (2, aI l2_114), (4, aI s0_114)]) d_X12_canPart_171 m1_ (b8 rfl) rfl (s_goto (tgt := 123) d_X12_canPart_174 rfl (s_sub (subc m1_ (subc m0_ (subc m2_ (subc m3_ (subc m4_ (subc m5_ sub0)))))) (s_back (ih123 (1, (l6_123 + 1)))))))))
    have hj_X12_canPart_25_113 : ∀ (m_113 : MM) (l2_113 : Int), Sim fx me_X12_canPart 113 [(0, aR (some (12, l0_25))), (1, aI l1_25), (2, aI l2_113)] [] m_113 ((j_X12_canPart_25_113 m_113 l0_25 l1_25 l2_113).bind k25) := by
      intro m_113 l2_113
      unfold j_X12_canPart_25_113
      exact s_iconst d_X12_canPart_113 n_0 (s_sub (subc m0_ (subc m1_ (subc m2_ sub0))) (hj_X12_canPart_25_114 m_113 l2_113 0))
    have hj_X12_canPart_25_77 : ∀ (m_77 : MM) (l2_77 : Int) (l3_77 : Int), Sim fx me_X12_canPart 77 [(0, aR (some (12, l0_25))), (1, aI l1_25), (2, aI l2_77), (3, aI l3_77)] [] m_77 ((j_X12_canPart_25_77 m_77 l0_25 l1_25 l2_77 l3_77).bind k25) := by
      intro m_77 l2_77 l3_77
      unfold j_X12_canPart_25_77
      refine s_aload_n d_X12_canPart_77 m0_ (s_getR cf d_X12_canPart_78 fl_X12_225 (s_nk fun i7 => (s_iload_n d_X12_canPart_81 m2_ (s_dup2 d_X12_canPart_82 rfl rfl (s_ldN d_X12_canPart_83 ka_130 rfl fun v8 => ?_)))))
      refine s_iconst d_X12_canPart_84 n_1 (s_iadd d_X12_canPart_85 rfl rfl (s_ck (s_stN d_X12_canPart_86 ka_130 rfl fun m9 => (s_aload_n d_X12_canPart_87 m0_ (s_getR cf d_X12_canPart_88 fl_X12_225 ?_)))))
      refine s_nk fun i10 => (s_iload_n d_X12_canPart_91 m2_ (s_ldN d_X12_canPart_92 ka_130 rfl fun v11 => (s_iload_n d_X12_canPart_93 m1_ (s_icmp_ge (tgt := 113) d_X12_canPart_94 rfl ?_ ?_))))
      · exact s_sub (subc m0_ (subc m1_ (subc m2_ sub0))) (hj_X12_canPart_25_113 m9 l2_77)
      refine s_aload_n d_X12_canPart_97 m0_ (s_getR cf d_X12_canPart_98 fl_X12_225 (s_nk fun i12 => (s_iload_n d_X12_canPart_101 m2_ (s_ldN d_X12_canPart_102 ka_130 rfl fun v13 => (s_iload_n d_X12_canPart_103 m3_ ?_)))))
      refine s_iconst d_X12_canPart_104 n_1 (s_iadd d_X12_canPart_105 rfl rfl (s_ck (s_icmp_gt (tgt := 113) d_X12_canPart_106 rfl ?_ ?_)))
      · exact s_sub (subc m0_ (subc m1_ (subc m2_ sub0))) (hj_X12_canPart_25_113 m9 l2_77)
      exact s_iconst d_X12_canPart_109 n_1 (s_goto (tgt := 114) d_X12_canPart_110 rfl (s_sub (subc m0_ (subc m1_ (subc m2_ sub0))) (hj_X12_canPart_25_114 m9 l2_77 1)))
    refine s_iload_n d_X12_canPart_25 m0_ (s_if_lt (tgt := 206) d_X12_canPart_26 rfl ?_ ?_)
    · exact s_exit (hx25 _) (s_sub (subc m1_ (subc m0_ sub0)) (hj_X12_canPart_0_206 mm_25 l0_25 l2_25))
    refine s_iload_n d_X12_canPart_29 m0_ (s_aload_n d_X12_canPart_30 m1_ (s_getN cf d_X12_canPart_31 fl_X12_432 (s_icmp_ge (tgt := 206) d_X12_canPart_34 rfl ?_ ?_)))
    · exact s_exit (hx25 _) (s_sub (subc m1_ (subc m0_ sub0)) (hj_X12_canPart_0_206 mm_25 l0_25 l2_25))
    refine s_iconst d_X12_canPart_37 n_m1 (s_istore_n (L' := [(3, aI (-1)), (2, aI l2_25), (0, aR (some (12, l0_25))), (1, aI l1_25)]) d_X12_canPart_38 (b8 rfl) rfl (s_iconst d_X12_canPart_39 n_0 (s_istore (L' := [(4, aI 0), (3, aI (-1)), (2, aI l2_25), (0, aR (some (12, l0_25))), (1, aI l1_25)]) d_X12_canPart_40 (b8 rfl) rfl (s_sub (subc m1_ (subc m0_ (subc m3_ (subc m4_ (subc m2_ sub0))))) (s_lp2 (fun s => [(3, aI (s.1)), (4, aI (s.2)), (0, aR (some (12, l0_25))), (1, aI l1_25), (2, aI l2_25)]) (fun s => mm_25) ((-1), 0) fun k42 hx42 s ih0 => ?_)))))
    obtain ⟨l3_42, l4_42⟩ := s
    have ih42 := ih0
    clear ih0
    try dsimp only
    unfold b_X12_canPart_42
    refine s_iload d_X12_canPart_42 m1_ (s_iload_n d_X12_canPart_44 m4_ (s_icmp_ge (tgt := 77) d_X12_canPart_45 rfl ?_ ?_))
    · exact s_exit (hx42 _) (s_sub (subc m2_ (subc m3_ (subc m4_ (subc m0_ sub0)))) (hj_X12_canPart_25_77 mm_25 l2_25 l3_42))
    refine s_aload_n d_X12_canPart_48 m2_ (s_getR cf d_X12_canPart_49 fl_X12_225 (s_nk fun i3 => (s_iload d_X12_canPart_52 m1_ (s_ldN d_X12_canPart_54 ka_130 rfl fun v4 => (s_iload_n d_X12_canPart_55 m0_ ?_)))))
    refine s_icmp_le (tgt := 69) d_X12_canPart_56 rfl ?_ ?_
    · exact s_iload_n d_X12_canPart_69 m0_ (s_istore_n (L' := [(3, aI l3_42), (4, aI l4_42), (0, aR (some (12, l0_25))), (1, aI l1_25), (2, aI l2_25)]) d_X12_canPart_70 (b8 rfl) rfl (s_iinc (L' := [(4, aI (l4_42 + 1)), (3, aI l3_42), (0, aR (some (12, l0_25))), (1, aI l1_25), (2, aI l2_25)]) d_X12_canPart_71 m1_ (b8 rfl) rfl (s_goto (tgt := 42) d_X12_canPart_74 rfl (s_sub (subc m1_ (subc m0_ (subc m2_ (subc m3_ (subc m4_ sub0))))) (s_back (ih42 (l3_42, (l4_42 + 1))))))))
    refine s_aload_n d_X12_canPart_59 m2_ (s_getR cf d_X12_canPart_60 fl_X12_225 (s_nk fun i5 => (s_iload d_X12_canPart_63 m1_ (s_ldN d_X12_canPart_65 ka_130 rfl fun v6 => (s_goto (tgt := 70) d_X12_canPart_66 rfl ?_)))))
    exact s_istore_n (L' := [(3, aI v6), (4, aI l4_42), (0, aR (some (12, l0_25))), (1, aI l1_25), (2, aI l2_25)]) d_X12_canPart_70 (b8 rfl) rfl (s_iinc (L' := [(4, aI (l4_42 + 1)), (3, aI v6), (0, aR (some (12, l0_25))), (1, aI l1_25), (2, aI l2_25)]) d_X12_canPart_71 m1_ (b8 rfl) rfl (s_goto (tgt := 42) d_X12_canPart_74 rfl (s_sub (subc m1_ (subc m0_ (subc m2_ (subc m3_ (subc m4_ sub0))))) (s_back (ih42 (v6, (l4_42 + 1)))))))
  refine s_iconst d_X12_canPart_0 n_0 (s_istore_n (L' := [(2, aI 0), (0, aR (some (12, l0))), (1, aI l1)]) d_X12_canPart_1 (b8 rfl) rfl (s_iconst d_X12_canPart_2 n_0 (s_istore_n (L' := [(3, aI 0), (2, aI 0), (0, aR (some (12, l0))), (1, aI l1)]) d_X12_canPart_3 (b8 rfl) rfl (s_sub (subc m0_ (subc m2_ (subc m3_ (subc m1_ sub0)))) (s_lp2 (fun s => [(3, aI (s.1)), (0, aR (some (12, l0))), (1, aI l1), (2, aI 0)]) (fun s => s.2) (0, m) fun k4 hx4 s ih0 => ?_)))))
  obtain ⟨l3_4, mm_4⟩ := s
  have ih4 := ih0
  clear ih0
  try dsimp only
  unfold b_X12_canPart_4
  refine s_iload_n d_X12_canPart_4 m0_ (s_aload_n d_X12_canPart_5 m1_ (s_getN cf d_X12_canPart_6 fl_X12_432 (s_icmp_ge (tgt := 25) d_X12_canPart_9 rfl ?_ ?_)))
  · exact s_exit (hx4 _) (s_sub (subc m1_ (subc m2_ (subc m3_ sub0))) (hj_X12_canPart_0_25 mm_4 l0 l1 0))
  refine s_aload_n d_X12_canPart_12 m1_ (s_getR cf d_X12_canPart_13 fl_X12_225 (s_nk fun i1 => (s_iload_n d_X12_canPart_16 m0_ (s_iconst d_X12_canPart_17 n_m1 (s_stN d_X12_canPart_18 ka_130 rfl fun m2 => ?_)))))
  exact s_iinc (L' := [(3, aI (l3_4 + 1)), (0, aR (some (12, l0))), (1, aI l1), (2, aI 0)]) d_X12_canPart_19 m0_ (b8 rfl) rfl (s_goto (tgt := 4) d_X12_canPart_22 rfl (s_sub (subc m0_ (subc m1_ (subc m2_ (subc m3_ sub0)))) (s_back (ih4 ((l3_4 + 1), m2)))))
theorem d_X12_formsIn_0 : dk me_X12_formsIn 0 (.bipush 6) 2 2 := And.intro (by decide +kernel) rfl
theorem d_X12_formsIn_2 : dk me_X12_formsIn 2 (.iload_n 1) 1 3 := And.intro (by decide +kernel) rfl
theorem d_X12_formsIn_3 : dk me_X12_formsIn 3 (.imul) 1 4 := And.intro (by decide +kernel) rfl
theorem d_X12_formsIn_4 : dk me_X12_formsIn 4 (.iload_n 2) 1 5 := And.intro (by decide +kernel) rfl
theorem d_X12_formsIn_5 : dk me_X12_formsIn 5 (.iadd) 1 6 := And.intro (by decide +kernel) rfl
theorem d_X12_formsIn_6 : dk me_X12_formsIn 6 (.istore 4) 2 8 := And.intro (by decide +kernel) rfl
theorem d_X12_formsIn_8 : dk me_X12_formsIn 8 (.iconst 0) 1 9 := And.intro (by decide +kernel) rfl
theorem d_X12_formsIn_9 : dk me_X12_formsIn 9 (.istore 5) 2 11 := And.intro (by decide +kernel) rfl
theorem d_X12_formsIn_11 : dk me_X12_formsIn 11 (.bipush 60) 2 13 := And.intro (by decide +kernel) rfl
theorem d_X12_formsIn_13 : dk me_X12_formsIn 13 (.iload_n 1) 1 14 := And.intro (by decide +kernel) rfl
theorem d_X12_formsIn_14 : dk me_X12_formsIn 14 (.imul) 1 15 := And.intro (by decide +kernel) rfl
theorem d_X12_formsIn_15 : dk me_X12_formsIn 15 (.aload_n 0) 1 16 := And.intro (by decide +kernel) rfl
theorem d_X12_formsIn_16 : dk me_X12_formsIn 16 (.getfield 108) 3 19 := And.intro (by decide +kernel) rfl
theorem d_X12_formsIn_19 : dk me_X12_formsIn 19 (.iload 4) 2 21 := And.intro (by decide +kernel) rfl
theorem d_X12_formsIn_21 : dk me_X12_formsIn 21 (.iaload) 1 22 := And.intro (by decide +kernel) rfl
theorem d_X12_formsIn_22 : dk me_X12_formsIn 22 (.iadd) 1 23 := And.intro (by decide +kernel) rfl
theorem d_X12_formsIn_23 : dk me_X12_formsIn 23 (.istore 6) 2 25 := And.intro (by decide +kernel) rfl
theorem d_X12_formsIn_25 : dk me_X12_formsIn 25 (.iload 6) 2 27 := And.intro (by decide +kernel) rfl
theorem d_X12_formsIn_27 : dk me_X12_formsIn 27 (.bipush 60) 2 29 := And.intro (by decide +kernel) rfl
theorem d_X12_formsIn_29 : dk me_X12_formsIn 29 (.iload_n 1) 1 30 := And.intro (by decide +kernel) rfl
theorem d_X12_formsIn_30 : dk me_X12_formsIn 30 (.imul) 1 31 := And.intro (by decide +kernel) rfl
theorem d_X12_formsIn_31 : dk me_X12_formsIn 31 (.aload_n 0) 1 32 := And.intro (by decide +kernel) rfl
theorem d_X12_formsIn_32 : dk me_X12_formsIn 32 (.getfield 108) 3 35 := And.intro (by decide +kernel) rfl
theorem d_X12_formsIn_35 : dk me_X12_formsIn 35 (.iload 4) 2 37 := And.intro (by decide +kernel) rfl
theorem d_X12_formsIn_37 : dk me_X12_formsIn 37 (.iaload) 1 38 := And.intro (by decide +kernel) rfl
theorem d_X12_formsIn_38 : dk me_X12_formsIn 38 (.iadd) 1 39 := And.intro (by decide +kernel) rfl
theorem d_X12_formsIn_39 : dk me_X12_formsIn 39 (.aload_n 0) 1 40 := And.intro (by decide +kernel) rfl
theorem d_X12_formsIn_40 : dk me_X12_formsIn 40 (.getfield 111) 3 43 := And.intro (by decide +kernel) rfl
theorem d_X12_formsIn_43 : dk me_X12_formsIn 43 (.iload 4) 2 45 := And.intro (by decide +kernel) rfl
theorem d_X12_formsIn_45 : dk me_X12_formsIn 45 (.iaload) 1 46 := And.intro (by decide +kernel) rfl
theorem d_X12_formsIn_46 : dk me_X12_formsIn 46 (.iadd) 1 47 := And.intro (by decide +kernel) rfl
theorem d_X12_formsIn_47 : dk me_X12_formsIn 47 (.if_icmp .ge 68) 3 50 := And.intro (by decide +kernel) rfl
theorem d_X12_formsIn_50 : dk me_X12_formsIn 50 (.aload_n 0) 1 51 := And.intro (by decide +kernel) rfl
theorem d_X12_formsIn_51 : dk me_X12_formsIn 51 (.aload_n 0) 1 52 := And.intro (by decide +kernel) rfl
theorem d_X12_formsIn_52 : dk me_X12_formsIn 52 (.getfield 123) 3 55 := And.intro (by decide +kernel) rfl
theorem d_X12_formsIn_55 : dk me_X12_formsIn 55 (.iload 6) 2 57 := And.intro (by decide +kernel) rfl
theorem d_X12_formsIn_57 : dk me_X12_formsIn 57 (.laload) 1 58 := And.intro (by decide +kernel) rfl
theorem d_X12_formsIn_58 : dk me_X12_formsIn 58 (.invokevirtual 284) 3 61 := And.intro (by decide +kernel) rfl
theorem d_X12_formsIn_61 : dk me_X12_formsIn 61 (.istore 7) 2 63 := And.intro (by decide +kernel) rfl
theorem d_X12_formsIn_63 : dk me_X12_formsIn 63 (.iload 5) 2 65 := And.intro (by decide +kernel) rfl
theorem d_X12_formsIn_65 : dk me_X12_formsIn 65 (.iload 7) 2 67 := And.intro (by decide +kernel) rfl
theorem d_X12_formsIn_67 : dk me_X12_formsIn 67 (.iconst (-1)) 1 68 := And.intro (by decide +kernel) rfl
theorem d_X12_formsIn_68 : dk me_X12_formsIn 68 (.if_icmp .eq 37) 3 71 := And.intro (by decide +kernel) rfl
theorem d_X12_formsIn_71 : dk me_X12_formsIn 71 (.aload_n 0) 1 72 := And.intro (by decide +kernel) rfl
theorem d_X12_formsIn_72 : dk me_X12_formsIn 72 (.getfield 123) 3 75 := And.intro (by decide +kernel) rfl
theorem d_X12_formsIn_75 : dk me_X12_formsIn 75 (.iload 6) 2 77 := And.intro (by decide +kernel) rfl
theorem d_X12_formsIn_77 : dk me_X12_formsIn 77 (.laload) 1 78 := And.intro (by decide +kernel) rfl
theorem d_X12_formsIn_78 : dk me_X12_formsIn 78 (.aload_n 0) 1 79 := And.intro (by decide +kernel) rfl
theorem d_X12_formsIn_79 : dk me_X12_formsIn 79 (.getfield 17) 3 82 := And.intro (by decide +kernel) rfl
theorem d_X12_formsIn_82 : dk me_X12_formsIn 82 (.iload 7) 2 84 := And.intro (by decide +kernel) rfl
theorem d_X12_formsIn_84 : dk me_X12_formsIn 84 (.laload) 1 85 := And.intro (by decide +kernel) rfl
theorem d_X12_formsIn_85 : dk me_X12_formsIn 85 (.lcmp) 1 86 := And.intro (by decide +kernel) rfl
theorem d_X12_formsIn_86 : dk me_X12_formsIn 86 (.ifCond .ne 7) 3 89 := And.intro (by decide +kernel) rfl
theorem d_X12_formsIn_89 : dk me_X12_formsIn 89 (.iconst 1) 1 90 := And.intro (by decide +kernel) rfl
theorem d_X12_formsIn_90 : dk me_X12_formsIn 90 (.goto 4) 3 93 := And.intro (by decide +kernel) rfl
theorem d_X12_formsIn_93 : dk me_X12_formsIn 93 (.iconst 0) 1 94 := And.intro (by decide +kernel) rfl
theorem d_X12_formsIn_94 : dk me_X12_formsIn 94 (.iload_n 3) 1 95 := And.intro (by decide +kernel) rfl
theorem d_X12_formsIn_95 : dk me_X12_formsIn 95 (.if_icmp .ne 10) 3 98 := And.intro (by decide +kernel) rfl
theorem d_X12_formsIn_98 : dk me_X12_formsIn 98 (.iconst 1) 1 99 := And.intro (by decide +kernel) rfl
theorem d_X12_formsIn_99 : dk me_X12_formsIn 99 (.iload 7) 2 101 := And.intro (by decide +kernel) rfl
theorem d_X12_formsIn_101 : dk me_X12_formsIn 101 (.ishl) 1 102 := And.intro (by decide +kernel) rfl
theorem d_X12_formsIn_102 : dk me_X12_formsIn 102 (.goto 4) 3 105 := And.intro (by decide +kernel) rfl
theorem d_X12_formsIn_105 : dk me_X12_formsIn 105 (.iconst 0) 1 106 := And.intro (by decide +kernel) rfl
theorem d_X12_formsIn_106 : dk me_X12_formsIn 106 (.ior) 1 107 := And.intro (by decide +kernel) rfl
theorem d_X12_formsIn_107 : dk me_X12_formsIn 107 (.istore 5) 2 109 := And.intro (by decide +kernel) rfl
theorem d_X12_formsIn_109 : dk me_X12_formsIn 109 (.iinc 6 1) 3 112 := And.intro (by decide +kernel) rfl
theorem d_X12_formsIn_112 : dk me_X12_formsIn 112 (.goto (-87)) 3 115 := And.intro (by decide +kernel) rfl
theorem d_X12_formsIn_115 : dk me_X12_formsIn 115 (.iload 5) 2 117 := And.intro (by decide +kernel) rfl
theorem d_X12_formsIn_117 : dk me_X12_formsIn 117 (.ireturn) 1 118 := And.intro (by decide +kernel) rfl
theorem ms_X12_formsIn {fx : FX} {m : MM} {l0 : Nat} {l1 : Int} {l2 : Int} {l3 : Int} : MS fx me_X12_formsIn [aR (some (12, l0)), aI l1, aI l2, aI l3] m ((f_X12_formsIn m l0 l1 l2 l3).bind fun v => some (.inl (some (aI v)), m)) := by
  refine ms_of rfl mf_X12_formsIn (b8 rfl) ?_
  show Sim fx me_X12_formsIn 0 [(0, aR (some (12, l0))), (1, aI l1), (2, aI l2), (3, aI l3)] [] m _
  unfold f_X12_formsIn
  have hj_X12_formsIn_0_115 : ∀ (l5_115 : Int), Sim fx me_X12_formsIn 115 [(5, aI l5_115)] [] m ((j_X12_formsIn_0_115 m l5_115).bind (fun v => some (.inl (some (aI v)), m))) := by
    intro l5_115
    unfold j_X12_formsIn_0_115
    exact s_iload d_X12_formsIn_115 m0_ (s_iret d_X12_formsIn_117 rfl rfl)
  refine s_bipush d_X12_formsIn_0 n_6 rfl (s_iload_n d_X12_formsIn_2 m1_ (s_imul d_X12_formsIn_3 rfl rfl (s_iload_n d_X12_formsIn_4 m2_ (s_iadd d_X12_formsIn_5 rfl rfl (s_ck ?_)))))
  refine s_istore (L' := [(4, aI ((6 * l1) + l2)), (0, aR (some (12, l0))), (1, aI l1), (2, aI l2), (3, aI l3)]) d_X12_formsIn_6 (b8 rfl) rfl (s_iconst d_X12_formsIn_8 n_0 (s_istore (L' := [(5, aI 0), (4, aI ((6 * l1) + l2)), (0, aR (some (12, l0))), (1, aI l1), (2, aI l2), (3, aI l3)]) d_X12_formsIn_9 (b8 rfl) rfl (s_bipush d_X12_formsIn_11 n_60 rfl (s_iload_n d_X12_formsIn_13 m3_ (s_imul d_X12_formsIn_14 rfl rfl ?_)))))
  refine s_aload_n d_X12_formsIn_15 m2_ (s_getR cf d_X12_formsIn_16 fl_X12_108 (s_nk fun i1 => (s_iload d_X12_formsIn_19 m1_ (s_ldN d_X12_formsIn_21 ka_91 rfl fun v2 => (s_iadd d_X12_formsIn_22 rfl rfl ?_)))))
  refine s_ck (s_istore (L' := [(6, aI ((60 * l1) + v2)), (5, aI 0), (4, aI ((6 * l1) + l2)), (0, aR (some (12, l0))), (1, aI l1), (2, aI l2), (3, aI l3)]) d_X12_formsIn_23 (b8 rfl) rfl (s_sub (subc m1_ (subc m0_ (subc m3_ (subc m4_ (subc m6_ (subc m2_ sub0)))))) (s_lp2 (fun s => [(5, aI (s.1)), (6, aI (s.2)), (0, aR (some (12, l0))), (1, aI l1), (3, aI l3), (4, aI ((6 * l1) + l2))]) (fun s => m) (0, ((60 * l1) + v2)) fun k25 hx25 s ih0 => ?_)))
  obtain ⟨l5_25, l6_25⟩ := s
  have ih25 := ih0
  clear ih0
  try dsimp only
  unfold b_X12_formsIn_25
  have hj_X12_formsIn_25_94 : ∀ (l6_94 : Int) (l7_94 : Int) (s0_94 : Int) (s1_94 : Int), Sim fx me_X12_formsIn 94 [(0, aR (some (12, l0))), (1, aI l1), (3, aI l3), (4, aI ((6 * l1) + l2)), (6, aI l6_94), (7, aI l7_94)] [aI s1_94, aI s0_94] m ((j_X12_formsIn_25_94 m l0 l1 l3 ((6 * l1) + l2) l6_94 l7_94 s0_94 s1_94).bind k25) := by
    intro l6_94 l7_94 s0_94 s1_94
    unfold j_X12_formsIn_25_94
    refine s_iload_n d_X12_formsIn_94 m2_ (s_icmp_ne (tgt := 105) d_X12_formsIn_95 rfl ?_ ?_)
    · exact s_iconst d_X12_formsIn_105 n_0 (s_ior d_X12_formsIn_106 (s_istore (L' := [(5, aI (ior' s0_94 0)), (0, aR (some (12, l0))), (1, aI l1), (3, aI l3), (4, aI ((6 * l1) + l2)), (6, aI l6_94), (7, aI l7_94)]) d_X12_formsIn_107 (b8 rfl) rfl (s_iinc (L' := [(6, aI (l6_94 + 1)), (5, aI (ior' s0_94 0)), (0, aR (some (12, l0))), (1, aI l1), (3, aI l3), (4, aI ((6 * l1) + l2)), (7, aI l7_94)]) d_X12_formsIn_109 m5_ (b8 rfl) rfl (s_goto (tgt := 25) d_X12_formsIn_112 rfl (s_sub (subc m1_ (subc m0_ (subc m2_ (subc m3_ (subc m4_ (subc m5_ sub0)))))) (s_back (ih25 ((ior' s0_94 0), (l6_94 + 1)))))))))
    refine s_iconst d_X12_formsIn_98 n_1 (s_iload d_X12_formsIn_99 m5_ (s_ishl d_X12_formsIn_101 (s_goto (tgt := 106) d_X12_formsIn_102 rfl (s_ior d_X12_formsIn_106 (s_istore (L' := [(5, aI (ior' s0_94 (ishl 1 l7_94))), (0, aR (some (12, l0))), (1, aI l1), (3, aI l3), (4, aI ((6 * l1) + l2)), (6, aI l6_94), (7, aI l7_94)]) d_X12_formsIn_107 (b8 rfl) rfl ?_)))))
    exact s_iinc (L' := [(6, aI (l6_94 + 1)), (5, aI (ior' s0_94 (ishl 1 l7_94))), (0, aR (some (12, l0))), (1, aI l1), (3, aI l3), (4, aI ((6 * l1) + l2)), (7, aI l7_94)]) d_X12_formsIn_109 m5_ (b8 rfl) rfl (s_goto (tgt := 25) d_X12_formsIn_112 rfl (s_sub (subc m1_ (subc m0_ (subc m2_ (subc m3_ (subc m4_ (subc m5_ sub0)))))) (s_back (ih25 ((ior' s0_94 (ishl 1 l7_94)), (l6_94 + 1))))))
  refine s_iload d_X12_formsIn_25 m1_ (s_bipush d_X12_formsIn_27 n_60 rfl (s_iload_n d_X12_formsIn_29 m3_ (s_imul d_X12_formsIn_30 rfl rfl (s_aload_n d_X12_formsIn_31 m2_ (s_getR cf d_X12_formsIn_32 fl_X12_108 ?_)))))
  refine s_nk fun i3 => (s_iload d_X12_formsIn_35 m5_ (s_ldN d_X12_formsIn_37 ka_91 rfl fun v4 => (s_iadd d_X12_formsIn_38 rfl rfl (s_aload_n d_X12_formsIn_39 m2_ (s_getR cf d_X12_formsIn_40 fl_X12_111 ?_)))))
  refine s_nk fun i5 => (s_iload d_X12_formsIn_43 m5_ (s_ldN d_X12_formsIn_45 ka_92 rfl fun v6 => (s_iadd d_X12_formsIn_46 rfl rfl (s_ck (s_icmp_ge (tgt := 115) d_X12_formsIn_47 rfl ?_ ?_)))))
  · exact s_exit (hx25 _) (s_sub (subc m0_ sub0) (hj_X12_formsIn_0_115 l5_25))
  refine s_aload_n d_X12_formsIn_50 m2_ (s_aload_n d_X12_formsIn_51 m2_ (s_getR cf d_X12_formsIn_52 fl_X12_123 (s_nk fun i7 => (s_iload d_X12_formsIn_55 m1_ (s_ldL d_X12_formsIn_57 ka_96 rfl fun v8 => ?_)))))
  refine s_pI (r_V d_X12_formsIn_58 k_X12_spellingOf w_1711 rfl rfl) ms_X12_spellingOf (b8 rfl) rfl rfl rfl fun v9 => (s_istore (L' := [(7, aI v9), (5, aI l5_25), (6, aI l6_25), (0, aR (some (12, l0))), (1, aI l1), (3, aI l3), (4, aI ((6 * l1) + l2))]) d_X12_formsIn_61 (b8 rfl) rfl (s_iload d_X12_formsIn_63 m1_ (s_iload d_X12_formsIn_65 m0_ (s_iconst d_X12_formsIn_67 n_m1 (s_icmp_eq (tgt := 105) d_X12_formsIn_68 rfl ?_ ?_)))))
  · exact s_iconst d_X12_formsIn_105 n_0 (s_ior d_X12_formsIn_106 (s_istore (L' := [(5, aI (ior' l5_25 0)), (7, aI v9), (6, aI l6_25), (0, aR (some (12, l0))), (1, aI l1), (3, aI l3), (4, aI ((6 * l1) + l2))]) d_X12_formsIn_107 (b8 rfl) rfl (s_iinc (L' := [(6, aI (l6_25 + 1)), (5, aI (ior' l5_25 0)), (7, aI v9), (0, aR (some (12, l0))), (1, aI l1), (3, aI l3), (4, aI ((6 * l1) + l2))]) d_X12_formsIn_109 m2_ (b8 rfl) rfl (s_goto (tgt := 25) d_X12_formsIn_112 rfl (s_sub (subc m1_ (subc m0_ (subc m3_ (subc m4_ (subc m5_ (subc m6_ sub0)))))) (s_back (ih25 ((ior' l5_25 0), (l6_25 + 1)))))))))
  refine s_aload_n d_X12_formsIn_71 m3_ (s_getR cf d_X12_formsIn_72 fl_X12_123 (s_nk fun i10 => (s_iload d_X12_formsIn_75 m2_ (s_ldL d_X12_formsIn_77 ka_96 rfl fun v11 => (s_aload_n d_X12_formsIn_78 m3_ ?_)))))
  refine s_getR cf d_X12_formsIn_79 fl_X12_17 (s_nk fun i12 => (s_iload d_X12_formsIn_82 m0_ (s_ldL d_X12_formsIn_84 ka_61 rfl fun v13 => (s_lcmp d_X12_formsIn_85 (s_if_ne (tgt := 93) d_X12_formsIn_86 rfl ?_ ?_)))))
  · exact s_iconst d_X12_formsIn_93 n_0 (s_sub (subc m3_ (subc m4_ (subc m5_ (subc m6_ (subc m2_ (subc m0_ sub0)))))) (hj_X12_formsIn_25_94 l6_25 v9 l5_25 0))
  exact s_iconst d_X12_formsIn_89 n_1 (s_goto (tgt := 94) d_X12_formsIn_90 rfl (s_sub (subc m3_ (subc m4_ (subc m5_ (subc m6_ (subc m2_ (subc m0_ sub0)))))) (hj_X12_formsIn_25_94 l6_25 v9 l5_25 1)))
theorem d_X12_looseIn_0 : dk me_X12_looseIn 0 (.iconst 0) 1 1 := And.intro (by decide +kernel) rfl
theorem d_X12_looseIn_1 : dk me_X12_looseIn 1 (.istore_n 3) 1 2 := And.intro (by decide +kernel) rfl
theorem d_X12_looseIn_2 : dk me_X12_looseIn 2 (.iconst 0) 1 3 := And.intro (by decide +kernel) rfl
theorem d_X12_looseIn_3 : dk me_X12_looseIn 3 (.istore 4) 2 5 := And.intro (by decide +kernel) rfl
theorem d_X12_looseIn_5 : dk me_X12_looseIn 5 (.iload 4) 2 7 := And.intro (by decide +kernel) rfl
theorem d_X12_looseIn_7 : dk me_X12_looseIn 7 (.aload_n 0) 1 8 := And.intro (by decide +kernel) rfl
theorem d_X12_looseIn_8 : dk me_X12_looseIn 8 (.getfield 99) 3 11 := And.intro (by decide +kernel) rfl
theorem d_X12_looseIn_11 : dk me_X12_looseIn 11 (.iload_n 1) 1 12 := And.intro (by decide +kernel) rfl
theorem d_X12_looseIn_12 : dk me_X12_looseIn 12 (.iaload) 1 13 := And.intro (by decide +kernel) rfl
theorem d_X12_looseIn_13 : dk me_X12_looseIn 13 (.if_icmp .ge 76) 3 16 := And.intro (by decide +kernel) rfl
theorem d_X12_looseIn_16 : dk me_X12_looseIn 16 (.aload_n 0) 1 17 := And.intro (by decide +kernel) rfl
theorem d_X12_looseIn_17 : dk me_X12_looseIn 17 (.getfield 93) 3 20 := And.intro (by decide +kernel) rfl
theorem d_X12_looseIn_20 : dk me_X12_looseIn 20 (.iload_n 1) 1 21 := And.intro (by decide +kernel) rfl
theorem d_X12_looseIn_21 : dk me_X12_looseIn 21 (.iaload) 1 22 := And.intro (by decide +kernel) rfl
theorem d_X12_looseIn_22 : dk me_X12_looseIn 22 (.ifCond .ne 67) 3 25 := And.intro (by decide +kernel) rfl
theorem d_X12_looseIn_25 : dk me_X12_looseIn 25 (.aload_n 0) 1 26 := And.intro (by decide +kernel) rfl
theorem d_X12_looseIn_26 : dk me_X12_looseIn 26 (.getfield 117) 3 29 := And.intro (by decide +kernel) rfl
theorem d_X12_looseIn_29 : dk me_X12_looseIn 29 (.bipush 6) 2 31 := And.intro (by decide +kernel) rfl
theorem d_X12_looseIn_31 : dk me_X12_looseIn 31 (.iload_n 1) 1 32 := And.intro (by decide +kernel) rfl
theorem d_X12_looseIn_32 : dk me_X12_looseIn 32 (.imul) 1 33 := And.intro (by decide +kernel) rfl
theorem d_X12_looseIn_33 : dk me_X12_looseIn 33 (.iload 4) 2 35 := And.intro (by decide +kernel) rfl
theorem d_X12_looseIn_35 : dk me_X12_looseIn 35 (.iadd) 1 36 := And.intro (by decide +kernel) rfl
theorem d_X12_looseIn_36 : dk me_X12_looseIn 36 (.iaload) 1 37 := And.intro (by decide +kernel) rfl
theorem d_X12_looseIn_37 : dk me_X12_looseIn 37 (.ifCond .ne 23) 3 40 := And.intro (by decide +kernel) rfl
theorem d_X12_looseIn_40 : dk me_X12_looseIn 40 (.aload_n 0) 1 41 := And.intro (by decide +kernel) rfl
theorem d_X12_looseIn_41 : dk me_X12_looseIn 41 (.getfield 114) 3 44 := And.intro (by decide +kernel) rfl
theorem d_X12_looseIn_44 : dk me_X12_looseIn 44 (.bipush 6) 2 46 := And.intro (by decide +kernel) rfl
theorem d_X12_looseIn_46 : dk me_X12_looseIn 46 (.iload_n 1) 1 47 := And.intro (by decide +kernel) rfl
theorem d_X12_looseIn_47 : dk me_X12_looseIn 47 (.imul) 1 48 := And.intro (by decide +kernel) rfl
theorem d_X12_looseIn_48 : dk me_X12_looseIn 48 (.iload 4) 2 50 := And.intro (by decide +kernel) rfl
theorem d_X12_looseIn_50 : dk me_X12_looseIn 50 (.iadd) 1 51 := And.intro (by decide +kernel) rfl
theorem d_X12_looseIn_51 : dk me_X12_looseIn 51 (.iaload) 1 52 := And.intro (by decide +kernel) rfl
theorem d_X12_looseIn_52 : dk me_X12_looseIn 52 (.iconst 2) 1 53 := And.intro (by decide +kernel) rfl
theorem d_X12_looseIn_53 : dk me_X12_looseIn 53 (.if_icmp .le 7) 3 56 := And.intro (by decide +kernel) rfl
theorem d_X12_looseIn_56 : dk me_X12_looseIn 56 (.iconst 1) 1 57 := And.intro (by decide +kernel) rfl
theorem d_X12_looseIn_57 : dk me_X12_looseIn 57 (.goto 4) 3 60 := And.intro (by decide +kernel) rfl
theorem d_X12_looseIn_60 : dk me_X12_looseIn 60 (.iconst 0) 1 61 := And.intro (by decide +kernel) rfl
theorem d_X12_looseIn_61 : dk me_X12_looseIn 61 (.istore 5) 2 63 := And.intro (by decide +kernel) rfl
theorem d_X12_looseIn_63 : dk me_X12_looseIn 63 (.iload_n 3) 1 64 := And.intro (by decide +kernel) rfl
theorem d_X12_looseIn_64 : dk me_X12_looseIn 64 (.iload 5) 2 66 := And.intro (by decide +kernel) rfl
theorem d_X12_looseIn_66 : dk me_X12_looseIn 66 (.ifCond .eq 14) 3 69 := And.intro (by decide +kernel) rfl
theorem d_X12_looseIn_69 : dk me_X12_looseIn 69 (.aload_n 0) 1 70 := And.intro (by decide +kernel) rfl
theorem d_X12_looseIn_70 : dk me_X12_looseIn 70 (.iload_n 1) 1 71 := And.intro (by decide +kernel) rfl
theorem d_X12_looseIn_71 : dk me_X12_looseIn 71 (.iload 4) 2 73 := And.intro (by decide +kernel) rfl
theorem d_X12_looseIn_73 : dk me_X12_looseIn 73 (.iload_n 2) 1 74 := And.intro (by decide +kernel) rfl
theorem d_X12_looseIn_74 : dk me_X12_looseIn 74 (.invokevirtual 366) 3 77 := And.intro (by decide +kernel) rfl
theorem d_X12_looseIn_77 : dk me_X12_looseIn 77 (.goto 4) 3 80 := And.intro (by decide +kernel) rfl
theorem d_X12_looseIn_80 : dk me_X12_looseIn 80 (.iconst 0) 1 81 := And.intro (by decide +kernel) rfl
theorem d_X12_looseIn_81 : dk me_X12_looseIn 81 (.ior) 1 82 := And.intro (by decide +kernel) rfl
theorem d_X12_looseIn_82 : dk me_X12_looseIn 82 (.istore_n 3) 1 83 := And.intro (by decide +kernel) rfl
theorem d_X12_looseIn_83 : dk me_X12_looseIn 83 (.iinc 4 1) 3 86 := And.intro (by decide +kernel) rfl
theorem d_X12_looseIn_86 : dk me_X12_looseIn 86 (.goto (-81)) 3 89 := And.intro (by decide +kernel) rfl
theorem d_X12_looseIn_89 : dk me_X12_looseIn 89 (.iload_n 3) 1 90 := And.intro (by decide +kernel) rfl
theorem d_X12_looseIn_90 : dk me_X12_looseIn 90 (.ireturn) 1 91 := And.intro (by decide +kernel) rfl
theorem ms_X12_looseIn {fx : FX} {m : MM} {l0 : Nat} {l1 : Int} {l2 : Int} : MS fx me_X12_looseIn [aR (some (12, l0)), aI l1, aI l2] m ((f_X12_looseIn m l0 l1 l2).bind fun v => some (.inl (some (aI v)), m)) := by
  refine ms_of rfl mf_X12_looseIn (b8 rfl) ?_
  show Sim fx me_X12_looseIn 0 [(0, aR (some (12, l0))), (1, aI l1), (2, aI l2)] [] m _
  unfold f_X12_looseIn
  have hj_X12_looseIn_0_89 : ∀ (l3_89 : Int), Sim fx me_X12_looseIn 89 [(3, aI l3_89)] [] m ((j_X12_looseIn_0_89 m l3_89).bind (fun v => some (.inl (some (aI v)), m))) := by
    intro l3_89
    unfold j_X12_looseIn_0_89
    exact s_iload_n d_X12_looseIn_89 m0_ (s_iret d_X12_looseIn_90 rfl rfl)
  refine s_iconst d_X12_looseIn_0 n_0 (s_istore_n (L' := [(3, aI 0), (0, aR (some (12, l0))), (1, aI l1), (2, aI l2)]) d_X12_looseIn_1 (b8 rfl) rfl (s_iconst d_X12_looseIn_2 n_0 (s_istore (L' := [(4, aI 0), (3, aI 0), (0, aR (some (12, l0))), (1, aI l1), (2, aI l2)]) d_X12_looseIn_3 (b8 rfl) rfl (s_sub (subc m1_ (subc m0_ (subc m2_ (subc m3_ (subc m4_ sub0))))) (s_lp2 (fun s => [(3, aI (s.1)), (4, aI (s.2)), (0, aR (some (12, l0))), (1, aI l1), (2, aI l2)]) (fun s => m) (0, 0) fun k5 hx5 s ih0 => ?_)))))
  obtain ⟨l3_5, l4_5⟩ := s
  have ih5 := ih0
  clear ih0
  try dsimp only
  unfold b_X12_looseIn_5
  have hj_X12_looseIn_5_61 : ∀ (l3_61 : Int) (l4_61 : Int) (s0_61 : Int), Sim fx me_X12_looseIn 61 [(0, aR (some (12, l0))), (1, aI l1), (2, aI l2), (3, aI l3_61), (4, aI l4_61)] [aI s0_61] m ((j_X12_looseIn_5_61 m l0 l1 l2 l3_61 l4_61 s0_61).bind k5) := by
    intro l3_61 l4_61 s0_61
    unfold j_X12_looseIn_5_61
    refine s_istore (L' := [(5, aI s0_61), (0, aR (some (12, l0))), (1, aI l1), (2, aI l2), (3, aI l3_61), (4, aI l4_61)]) d_X12_looseIn_61 (b8 rfl) rfl (s_iload_n d_X12_looseIn_63 m4_ (s_iload d_X12_looseIn_64 m0_ (s_if_eq (tgt := 80) d_X12_looseIn_66 rfl ?_ ?_)))
    · exact s_iconst d_X12_looseIn_80 n_0 (s_ior d_X12_looseIn_81 (s_istore_n (L' := [(3, aI (ior' l3_61 0)), (5, aI s0_61), (0, aR (some (12, l0))), (1, aI l1), (2, aI l2), (4, aI l4_61)]) d_X12_looseIn_82 (b8 rfl) rfl (s_iinc (L' := [(4, aI (l4_61 + 1)), (3, aI (ior' l3_61 0)), (5, aI s0_61), (0, aR (some (12, l0))), (1, aI l1), (2, aI l2)]) d_X12_looseIn_83 m5_ (b8 rfl) rfl (s_goto (tgt := 5) d_X12_looseIn_86 rfl (s_sub (subc m1_ (subc m0_ (subc m3_ (subc m4_ (subc m5_ sub0))))) (s_back (ih5 ((ior' l3_61 0), (l4_61 + 1)))))))))
    refine s_aload_n d_X12_looseIn_69 m1_ (s_iload_n d_X12_looseIn_70 m2_ (s_iload d_X12_looseIn_71 m5_ (s_iload_n d_X12_looseIn_73 m3_ (s_pI (r_V d_X12_looseIn_74 k_X12_formsIn w_1854 rfl rfl) ms_X12_formsIn (b8 rfl) rfl rfl rfl fun v9 => (s_goto (tgt := 81) d_X12_looseIn_77 rfl ?_)))))
    exact s_ior d_X12_looseIn_81 (s_istore_n (L' := [(3, aI (ior' l3_61 v9)), (5, aI s0_61), (0, aR (some (12, l0))), (1, aI l1), (2, aI l2), (4, aI l4_61)]) d_X12_looseIn_82 (b8 rfl) rfl (s_iinc (L' := [(4, aI (l4_61 + 1)), (3, aI (ior' l3_61 v9)), (5, aI s0_61), (0, aR (some (12, l0))), (1, aI l1), (2, aI l2)]) d_X12_looseIn_83 m5_ (b8 rfl) rfl (s_goto (tgt := 5) d_X12_looseIn_86 rfl (s_sub (subc m1_ (subc m0_ (subc m3_ (subc m4_ (subc m5_ sub0))))) (s_back (ih5 ((ior' l3_61 v9), (l4_61 + 1))))))))
  have hj_X12_looseIn_5_60 : ∀ (l3_60 : Int) (l4_60 : Int), Sim fx me_X12_looseIn 60 [(0, aR (some (12, l0))), (1, aI l1), (2, aI l2), (3, aI l3_60), (4, aI l4_60)] [] m ((j_X12_looseIn_5_60 m l0 l1 l2 l3_60 l4_60).bind k5) := by
    intro l3_60 l4_60
    unfold j_X12_looseIn_5_60
    exact s_iconst d_X12_looseIn_60 n_0 (s_sub (subc m0_ (subc m1_ (subc m2_ (subc m3_ (subc m4_ sub0))))) (hj_X12_looseIn_5_61 l3_60 l4_60 0))
  refine s_iload d_X12_looseIn_5 m1_ (s_aload_n d_X12_looseIn_7 m2_ (s_getR cf d_X12_looseIn_8 fl_X12_99 (s_nk fun i1 => (s_iload_n d_X12_looseIn_11 m3_ (s_ldN d_X12_looseIn_12 ka_88 rfl fun v2 => ?_)))))
  refine s_icmp_ge (tgt := 89) d_X12_looseIn_13 rfl ?_ ?_
  · exact s_exit (hx5 _) (s_sub (subc m0_ sub0) (hj_X12_looseIn_0_89 l3_5))
  refine s_aload_n d_X12_looseIn_16 m2_ (s_getR cf d_X12_looseIn_17 fl_X12_93 (s_nk fun i3 => (s_iload_n d_X12_looseIn_20 m3_ (s_ldN d_X12_looseIn_21 ka_86 rfl fun v4 => (s_if_ne (tgt := 89) d_X12_looseIn_22 rfl ?_ ?_)))))
  · exact s_exit (hx5 _) (s_sub (subc m0_ sub0) (hj_X12_looseIn_0_89 l3_5))
  refine s_aload_n d_X12_looseIn_25 m2_ (s_getR cf d_X12_looseIn_26 fl_X12_117 (s_nk fun i5 => (s_bipush d_X12_looseIn_29 n_6 rfl (s_iload_n d_X12_looseIn_31 m3_ (s_imul d_X12_looseIn_32 rfl rfl ?_)))))
  refine s_iload d_X12_looseIn_33 m1_ (s_iadd d_X12_looseIn_35 rfl rfl (s_ldN d_X12_looseIn_36 ka_94 rfl fun v6 => (s_if_ne (tgt := 60) d_X12_looseIn_37 rfl ?_ ?_)))
  · exact s_sub (subc m2_ (subc m3_ (subc m4_ (subc m0_ (subc m1_ sub0))))) (hj_X12_looseIn_5_60 l3_5 l4_5)
  refine s_aload_n d_X12_looseIn_40 m2_ (s_getR cf d_X12_looseIn_41 fl_X12_114 (s_nk fun i7 => (s_bipush d_X12_looseIn_44 n_6 rfl (s_iload_n d_X12_looseIn_46 m3_ (s_imul d_X12_looseIn_47 rfl rfl ?_)))))
  refine s_iload d_X12_looseIn_48 m1_ (s_iadd d_X12_looseIn_50 rfl rfl (s_ldN d_X12_looseIn_51 ka_93 rfl fun v8 => (s_iconst d_X12_looseIn_52 n_2 (s_icmp_le (tgt := 60) d_X12_looseIn_53 rfl ?_ ?_))))
  · exact s_sub (subc m2_ (subc m3_ (subc m4_ (subc m0_ (subc m1_ sub0))))) (hj_X12_looseIn_5_60 l3_5 l4_5)
  exact s_iconst d_X12_looseIn_56 n_1 (s_goto (tgt := 61) d_X12_looseIn_57 rfl (s_sub (subc m2_ (subc m3_ (subc m4_ (subc m0_ (subc m1_ sub0))))) (hj_X12_looseIn_5_61 l3_5 l4_5 1)))
theorem d_X12_isUnlike_0 : dk me_X12_isUnlike 0 (.aload_n 0) 1 1 := And.intro (by decide +kernel) rfl
theorem d_X12_isUnlike_1 : dk me_X12_isUnlike 1 (.iload_n 1) 1 2 := And.intro (by decide +kernel) rfl
theorem d_X12_isUnlike_2 : dk me_X12_isUnlike 2 (.iconst 0) 1 3 := And.intro (by decide +kernel) rfl
theorem d_X12_isUnlike_3 : dk me_X12_isUnlike 3 (.invokevirtual 428) 3 6 := And.intro (by decide +kernel) rfl
theorem d_X12_isUnlike_6 : dk me_X12_isUnlike 6 (.aload_n 0) 1 7 := And.intro (by decide +kernel) rfl
theorem d_X12_isUnlike_7 : dk me_X12_isUnlike 7 (.iload_n 2) 1 8 := And.intro (by decide +kernel) rfl
theorem d_X12_isUnlike_8 : dk me_X12_isUnlike 8 (.iconst 1) 1 9 := And.intro (by decide +kernel) rfl
theorem d_X12_isUnlike_9 : dk me_X12_isUnlike 9 (.invokevirtual 428) 3 12 := And.intro (by decide +kernel) rfl
theorem d_X12_isUnlike_12 : dk me_X12_isUnlike 12 (.iand) 1 13 := And.intro (by decide +kernel) rfl
theorem d_X12_isUnlike_13 : dk me_X12_isUnlike 13 (.aload_n 0) 1 14 := And.intro (by decide +kernel) rfl
theorem d_X12_isUnlike_14 : dk me_X12_isUnlike 14 (.iload_n 1) 1 15 := And.intro (by decide +kernel) rfl
theorem d_X12_isUnlike_15 : dk me_X12_isUnlike 15 (.iconst 1) 1 16 := And.intro (by decide +kernel) rfl
theorem d_X12_isUnlike_16 : dk me_X12_isUnlike 16 (.invokevirtual 428) 3 19 := And.intro (by decide +kernel) rfl
theorem d_X12_isUnlike_19 : dk me_X12_isUnlike 19 (.aload_n 0) 1 20 := And.intro (by decide +kernel) rfl
theorem d_X12_isUnlike_20 : dk me_X12_isUnlike 20 (.iload_n 2) 1 21 := And.intro (by decide +kernel) rfl
theorem d_X12_isUnlike_21 : dk me_X12_isUnlike 21 (.iconst 0) 1 22 := And.intro (by decide +kernel) rfl
theorem d_X12_isUnlike_22 : dk me_X12_isUnlike 22 (.invokevirtual 428) 3 25 := And.intro (by decide +kernel) rfl
theorem d_X12_isUnlike_25 : dk me_X12_isUnlike 25 (.iand) 1 26 := And.intro (by decide +kernel) rfl
theorem d_X12_isUnlike_26 : dk me_X12_isUnlike 26 (.ior) 1 27 := And.intro (by decide +kernel) rfl
theorem d_X12_isUnlike_27 : dk me_X12_isUnlike 27 (.ifCond .eq 7) 3 30 := And.intro (by decide +kernel) rfl
theorem d_X12_isUnlike_30 : dk me_X12_isUnlike 30 (.iconst 1) 1 31 := And.intro (by decide +kernel) rfl
theorem d_X12_isUnlike_31 : dk me_X12_isUnlike 31 (.goto 4) 3 34 := And.intro (by decide +kernel) rfl
theorem d_X12_isUnlike_34 : dk me_X12_isUnlike 34 (.iconst 0) 1 35 := And.intro (by decide +kernel) rfl
theorem d_X12_isUnlike_35 : dk me_X12_isUnlike 35 (.ireturn) 1 36 := And.intro (by decide +kernel) rfl
theorem ms_X12_isUnlike {fx : FX} {m : MM} {l0 : Nat} {l1 : Int} {l2 : Int} : MS fx me_X12_isUnlike [aR (some (12, l0)), aI l1, aI l2] m ((f_X12_isUnlike m l0 l1 l2).bind fun v => some (.inl (some (aI v)), m)) := by
  refine ms_of rfl mf_X12_isUnlike (b8 rfl) ?_
  show Sim fx me_X12_isUnlike 0 [(0, aR (some (12, l0))), (1, aI l1), (2, aI l2)] [] m _
  unfold f_X12_isUnlike
  refine s_aload_n d_X12_isUnlike_0 m0_ (s_iload_n d_X12_isUnlike_1 m1_ (s_iconst d_X12_isUnlike_2 n_0 (s_pI (r_V d_X12_isUnlike_3 k_X12_looseIn w_2021 rfl rfl) ms_X12_looseIn (b8 rfl) rfl rfl rfl fun v1 => (s_aload_n d_X12_isUnlike_6 m0_ (s_iload_n d_X12_isUnlike_7 m2_ ?_)))))
  refine s_iconst d_X12_isUnlike_8 n_1 (s_pI (r_V d_X12_isUnlike_9 k_X12_looseIn w_2021 rfl rfl) ms_X12_looseIn (b8 rfl) rfl rfl rfl fun v2 => (s_iand d_X12_isUnlike_12 (s_aload_n d_X12_isUnlike_13 m0_ (s_iload_n d_X12_isUnlike_14 m1_ (s_iconst d_X12_isUnlike_15 n_1 ?_)))))
  refine s_pI (r_V d_X12_isUnlike_16 k_X12_looseIn w_2021 rfl rfl) ms_X12_looseIn (b8 rfl) rfl rfl rfl fun v3 => (s_aload_n d_X12_isUnlike_19 m0_ (s_iload_n d_X12_isUnlike_20 m2_ (s_iconst d_X12_isUnlike_21 n_0 (s_pI (r_V d_X12_isUnlike_22 k_X12_looseIn w_2021 rfl rfl) ms_X12_looseIn (b8 rfl) rfl rfl rfl fun v4 => (s_iand d_X12_isUnlike_25 ?_)))))
  refine s_ior d_X12_isUnlike_26 (s_if_eq (tgt := 34) d_X12_isUnlike_27 rfl ?_ ?_)
  · exact s_iconst d_X12_isUnlike_34 n_0 (s_zretl d_X12_isUnlike_35 rfl (by decide) rfl)
  exact s_iconst d_X12_isUnlike_30 n_1 (s_goto (tgt := 35) d_X12_isUnlike_31 rfl (s_zretl d_X12_isUnlike_35 rfl (by decide) rfl))
theorem d_X12_findUnlike_0 : dk me_X12_findUnlike 0 (.aload_n 0) 1 1 := And.intro (by decide +kernel) rfl
theorem d_X12_findUnlike_1 : dk me_X12_findUnlike 1 (.iconst 0) 1 2 := And.intro (by decide +kernel) rfl
theorem d_X12_findUnlike_2 : dk me_X12_findUnlike 2 (.putfield 432) 3 5 := And.intro (by decide +kernel) rfl
theorem d_X12_findUnlike_5 : dk me_X12_findUnlike 5 (.iconst 0) 1 6 := And.intro (by decide +kernel) rfl
theorem d_X12_findUnlike_6 : dk me_X12_findUnlike 6 (.istore_n 2) 1 7 := And.intro (by decide +kernel) rfl
theorem d_X12_findUnlike_7 : dk me_X12_findUnlike 7 (.iload_n 2) 1 8 := And.intro (by decide +kernel) rfl
theorem d_X12_findUnlike_8 : dk me_X12_findUnlike 8 (.aload_n 0) 1 9 := And.intro (by decide +kernel) rfl
theorem d_X12_findUnlike_9 : dk me_X12_findUnlike 9 (.iload_n 1) 1 10 := And.intro (by decide +kernel) rfl
theorem d_X12_findUnlike_10 : dk me_X12_findUnlike 10 (.invokevirtual 243) 3 13 := And.intro (by decide +kernel) rfl
theorem d_X12_findUnlike_13 : dk me_X12_findUnlike 13 (.if_icmp .ge 48) 3 16 := And.intro (by decide +kernel) rfl
theorem d_X12_findUnlike_16 : dk me_X12_findUnlike 16 (.aload_n 0) 1 17 := And.intro (by decide +kernel) rfl
theorem d_X12_findUnlike_17 : dk me_X12_findUnlike 17 (.getfield 84) 3 20 := And.intro (by decide +kernel) rfl
theorem d_X12_findUnlike_20 : dk me_X12_findUnlike 20 (.bipush 16) 2 22 := And.intro (by decide +kernel) rfl
theorem d_X12_findUnlike_22 : dk me_X12_findUnlike 22 (.iload_n 1) 1 23 := And.intro (by decide +kernel) rfl
theorem d_X12_findUnlike_23 : dk me_X12_findUnlike 23 (.imul) 1 24 := And.intro (by decide +kernel) rfl
theorem d_X12_findUnlike_24 : dk me_X12_findUnlike 24 (.iload_n 2) 1 25 := And.intro (by decide +kernel) rfl
theorem d_X12_findUnlike_25 : dk me_X12_findUnlike 25 (.iadd) 1 26 := And.intro (by decide +kernel) rfl
theorem d_X12_findUnlike_26 : dk me_X12_findUnlike 26 (.baload) 1 27 := And.intro (by decide +kernel) rfl
theorem d_X12_findUnlike_27 : dk me_X12_findUnlike 27 (.ifCond .eq 28) 3 30 := And.intro (by decide +kernel) rfl
theorem d_X12_findUnlike_30 : dk me_X12_findUnlike 30 (.aload_n 0) 1 31 := And.intro (by decide +kernel) rfl
theorem d_X12_findUnlike_31 : dk me_X12_findUnlike 31 (.getfield 225) 3 34 := And.intro (by decide +kernel) rfl
theorem d_X12_findUnlike_34 : dk me_X12_findUnlike 34 (.aload_n 0) 1 35 := And.intro (by decide +kernel) rfl
theorem d_X12_findUnlike_35 : dk me_X12_findUnlike 35 (.getfield 432) 3 38 := And.intro (by decide +kernel) rfl
theorem d_X12_findUnlike_38 : dk me_X12_findUnlike 38 (.bipush 16) 2 40 := And.intro (by decide +kernel) rfl
theorem d_X12_findUnlike_40 : dk me_X12_findUnlike 40 (.iload_n 1) 1 41 := And.intro (by decide +kernel) rfl
theorem d_X12_findUnlike_41 : dk me_X12_findUnlike 41 (.imul) 1 42 := And.intro (by decide +kernel) rfl
theorem d_X12_findUnlike_42 : dk me_X12_findUnlike 42 (.iload_n 2) 1 43 := And.intro (by decide +kernel) rfl
theorem d_X12_findUnlike_43 : dk me_X12_findUnlike 43 (.iadd) 1 44 := And.intro (by decide +kernel) rfl
theorem d_X12_findUnlike_44 : dk me_X12_findUnlike 44 (.iastore) 1 45 := And.intro (by decide +kernel) rfl
theorem d_X12_findUnlike_45 : dk me_X12_findUnlike 45 (.aload_n 0) 1 46 := And.intro (by decide +kernel) rfl
theorem d_X12_findUnlike_46 : dk me_X12_findUnlike 46 (.dup) 1 47 := And.intro (by decide +kernel) rfl
theorem d_X12_findUnlike_47 : dk me_X12_findUnlike 47 (.getfield 432) 3 50 := And.intro (by decide +kernel) rfl
theorem d_X12_findUnlike_50 : dk me_X12_findUnlike 50 (.iconst 1) 1 51 := And.intro (by decide +kernel) rfl
theorem d_X12_findUnlike_51 : dk me_X12_findUnlike 51 (.iadd) 1 52 := And.intro (by decide +kernel) rfl
theorem d_X12_findUnlike_52 : dk me_X12_findUnlike 52 (.putfield 432) 3 55 := And.intro (by decide +kernel) rfl
theorem d_X12_findUnlike_55 : dk me_X12_findUnlike 55 (.iinc 2 1) 3 58 := And.intro (by decide +kernel) rfl
theorem d_X12_findUnlike_58 : dk me_X12_findUnlike 58 (.goto (-51)) 3 61 := And.intro (by decide +kernel) rfl
theorem d_X12_findUnlike_61 : dk me_X12_findUnlike 61 (.iconst 0) 1 62 := And.intro (by decide +kernel) rfl
theorem d_X12_findUnlike_62 : dk me_X12_findUnlike 62 (.istore_n 2) 1 63 := And.intro (by decide +kernel) rfl
theorem d_X12_findUnlike_63 : dk me_X12_findUnlike 63 (.iload_n 2) 1 64 := And.intro (by decide +kernel) rfl
theorem d_X12_findUnlike_64 : dk me_X12_findUnlike 64 (.aload_n 0) 1 65 := And.intro (by decide +kernel) rfl
theorem d_X12_findUnlike_65 : dk me_X12_findUnlike 65 (.getfield 432) 3 68 := And.intro (by decide +kernel) rfl
theorem d_X12_findUnlike_68 : dk me_X12_findUnlike 68 (.if_icmp .ge 72) 3 71 := And.intro (by decide +kernel) rfl
theorem d_X12_findUnlike_71 : dk me_X12_findUnlike 71 (.aload_n 0) 1 72 := And.intro (by decide +kernel) rfl
theorem d_X12_findUnlike_72 : dk me_X12_findUnlike 72 (.getfield 222) 3 75 := And.intro (by decide +kernel) rfl
theorem d_X12_findUnlike_75 : dk me_X12_findUnlike 75 (.iload_n 2) 1 76 := And.intro (by decide +kernel) rfl
theorem d_X12_findUnlike_76 : dk me_X12_findUnlike 76 (.iconst 0) 1 77 := And.intro (by decide +kernel) rfl
theorem d_X12_findUnlike_77 : dk me_X12_findUnlike 77 (.iastore) 1 78 := And.intro (by decide +kernel) rfl
theorem d_X12_findUnlike_78 : dk me_X12_findUnlike 78 (.iconst 0) 1 79 := And.intro (by decide +kernel) rfl
theorem d_X12_findUnlike_79 : dk me_X12_findUnlike 79 (.istore_n 3) 1 80 := And.intro (by decide +kernel) rfl
theorem d_X12_findUnlike_80 : dk me_X12_findUnlike 80 (.iload_n 3) 1 81 := And.intro (by decide +kernel) rfl
theorem d_X12_findUnlike_81 : dk me_X12_findUnlike 81 (.aload_n 0) 1 82 := And.intro (by decide +kernel) rfl
theorem d_X12_findUnlike_82 : dk me_X12_findUnlike 82 (.getfield 432) 3 85 := And.intro (by decide +kernel) rfl
theorem d_X12_findUnlike_85 : dk me_X12_findUnlike 85 (.if_icmp .ge 49) 3 88 := And.intro (by decide +kernel) rfl
theorem d_X12_findUnlike_88 : dk me_X12_findUnlike 88 (.aload_n 0) 1 89 := And.intro (by decide +kernel) rfl
theorem d_X12_findUnlike_89 : dk me_X12_findUnlike 89 (.getfield 222) 3 92 := And.intro (by decide +kernel) rfl
theorem d_X12_findUnlike_92 : dk me_X12_findUnlike 92 (.iload_n 2) 1 93 := And.intro (by decide +kernel) rfl
theorem d_X12_findUnlike_93 : dk me_X12_findUnlike 93 (.dup2) 1 94 := And.intro (by decide +kernel) rfl
theorem d_X12_findUnlike_94 : dk me_X12_findUnlike 94 (.iaload) 1 95 := And.intro (by decide +kernel) rfl
theorem d_X12_findUnlike_95 : dk me_X12_findUnlike 95 (.iload_n 3) 1 96 := And.intro (by decide +kernel) rfl
theorem d_X12_findUnlike_96 : dk me_X12_findUnlike 96 (.iload_n 2) 1 97 := And.intro (by decide +kernel) rfl
theorem d_X12_findUnlike_97 : dk me_X12_findUnlike 97 (.if_icmp .eq 28) 3 100 := And.intro (by decide +kernel) rfl
theorem d_X12_findUnlike_100 : dk me_X12_findUnlike 100 (.aload_n 0) 1 101 := And.intro (by decide +kernel) rfl
theorem d_X12_findUnlike_101 : dk me_X12_findUnlike 101 (.aload_n 0) 1 102 := And.intro (by decide +kernel) rfl
theorem d_X12_findUnlike_102 : dk me_X12_findUnlike 102 (.getfield 225) 3 105 := And.intro (by decide +kernel) rfl
theorem d_X12_findUnlike_105 : dk me_X12_findUnlike 105 (.iload_n 2) 1 106 := And.intro (by decide +kernel) rfl
theorem d_X12_findUnlike_106 : dk me_X12_findUnlike 106 (.iaload) 1 107 := And.intro (by decide +kernel) rfl
theorem d_X12_findUnlike_107 : dk me_X12_findUnlike 107 (.aload_n 0) 1 108 := And.intro (by decide +kernel) rfl
theorem d_X12_findUnlike_108 : dk me_X12_findUnlike 108 (.getfield 225) 3 111 := And.intro (by decide +kernel) rfl
theorem d_X12_findUnlike_111 : dk me_X12_findUnlike 111 (.iload_n 3) 1 112 := And.intro (by decide +kernel) rfl
theorem d_X12_findUnlike_112 : dk me_X12_findUnlike 112 (.iaload) 1 113 := And.intro (by decide +kernel) rfl
theorem d_X12_findUnlike_113 : dk me_X12_findUnlike 113 (.invokevirtual 435) 3 116 := And.intro (by decide +kernel) rfl
theorem d_X12_findUnlike_116 : dk me_X12_findUnlike 116 (.ifCond .eq 9) 3 119 := And.intro (by decide +kernel) rfl
theorem d_X12_findUnlike_119 : dk me_X12_findUnlike 119 (.iconst 1) 1 120 := And.intro (by decide +kernel) rfl
theorem d_X12_findUnlike_120 : dk me_X12_findUnlike 120 (.iload_n 3) 1 121 := And.intro (by decide +kernel) rfl
theorem d_X12_findUnlike_121 : dk me_X12_findUnlike 121 (.ishl) 1 122 := And.intro (by decide +kernel) rfl
theorem d_X12_findUnlike_122 : dk me_X12_findUnlike 122 (.goto 4) 3 125 := And.intro (by decide +kernel) rfl
theorem d_X12_findUnlike_125 : dk me_X12_findUnlike 125 (.iconst 0) 1 126 := And.intro (by decide +kernel) rfl
theorem d_X12_findUnlike_126 : dk me_X12_findUnlike 126 (.ior) 1 127 := And.intro (by decide +kernel) rfl
theorem d_X12_findUnlike_127 : dk me_X12_findUnlike 127 (.iastore) 1 128 := And.intro (by decide +kernel) rfl
theorem d_X12_findUnlike_128 : dk me_X12_findUnlike 128 (.iinc 3 1) 3 131 := And.intro (by decide +kernel) rfl
theorem d_X12_findUnlike_131 : dk me_X12_findUnlike 131 (.goto (-51)) 3 134 := And.intro (by decide +kernel) rfl
theorem d_X12_findUnlike_134 : dk me_X12_findUnlike 134 (.iinc 2 1) 3 137 := And.intro (by decide +kernel) rfl
theorem d_X12_findUnlike_137 : dk me_X12_findUnlike 137 (.goto (-74)) 3 140 := And.intro (by decide +kernel) rfl
theorem d_X12_findUnlike_140 : dk me_X12_findUnlike 140 (.return_) 1 141 := And.intro (by decide +kernel) rfl
theorem ms_X12_findUnlike {fx : FX} {m : MM} {l0 : Nat} {l1 : Int} : MS fx me_X12_findUnlike [aR (some (12, l0)), aI l1] m (f_X12_findUnlike m l0 l1) := by
  refine ms_of rfl mf_X12_findUnlike (b8 rfl) ?_
  refine s_top ?_
  show Sim fx me_X12_findUnlike 0 [(0, aR (some (12, l0))), (1, aI l1)] [] m _
  unfold f_X12_findUnlike
  have hj_X12_findUnlike_0_140 : ∀ (m_140 : MM), Sim fx me_X12_findUnlike 140 [] [] m_140 ((j_X12_findUnlike_0_140 m_140).bind (fun z => some z)) := by
    intro m_140
    unfold j_X12_findUnlike_0_140
    exact s_vret d_X12_findUnlike_140 rfl rfl
  have hj_X12_findUnlike_0_61 : ∀ (m_61 : MM) (l0_61 : Nat), Sim fx me_X12_findUnlike 61 [(0, aR (some (12, l0_61)))] [] m_61 ((j_X12_findUnlike_0_61 m_61 l0_61).bind (fun z => some z)) := by
    intro m_61 l0_61
    unfold j_X12_findUnlike_0_61
    refine s_iconst d_X12_findUnlike_61 n_0 (s_istore_n (L' := [(2, aI 0), (0, aR (some (12, l0_61)))]) d_X12_findUnlike_62 (b8 rfl) rfl (s_sub (subc m0_ (subc m1_ sub0)) (s_lp2 (fun s => [(2, aI (s.1)), (0, aR (some (12, l0_61)))]) (fun s => s.2) (0, m_61) fun k63 hx63 s ih0 => ?_)))
    obtain ⟨l2_63, mm_63⟩ := s
    have ih63 := ih0
    clear ih0
    try dsimp only
    unfold b_X12_findUnlike_63
    have hj_X12_findUnlike_63_134 : ∀ (m_134 : MM) (l2_134 : Int), Sim fx me_X12_findUnlike 134 [(0, aR (some (12, l0_61))), (2, aI l2_134)] [] m_134 ((j_X12_findUnlike_63_134 m_134 l0_61 l2_134).bind k63) := by
      intro m_134 l2_134
      unfold j_X12_findUnlike_63_134
      exact s_iinc (L' := [(2, aI (l2_134 + 1)), (0, aR (some (12, l0_61)))]) d_X12_findUnlike_134 m1_ (b8 rfl) rfl (s_goto (tgt := 63) d_X12_findUnlike_137 rfl (s_sub (subc m0_ (subc m1_ sub0)) (s_back (ih63 ((l2_134 + 1), m_134)))))
    refine s_iload_n d_X12_findUnlike_63 m0_ (s_aload_n d_X12_findUnlike_64 m1_ (s_getN cf d_X12_findUnlike_65 fl_X12_432 (s_icmp_ge (tgt := 140) d_X12_findUnlike_68 rfl ?_ ?_)))
    · exact s_exit (hx63 _) (s_sub (sub0) (hj_X12_findUnlike_0_140 mm_63))
    refine s_aload_n d_X12_findUnlike_71 m1_ (s_getR cf d_X12_findUnlike_72 fl_X12_222 (s_nk fun i8 => (s_iload_n d_X12_findUnlike_75 m0_ (s_iconst d_X12_findUnlike_76 n_0 (s_stN d_X12_findUnlike_77 ka_129 rfl fun m9 => ?_)))))
    refine s_iconst d_X12_findUnlike_78 n_0 (s_istore_n (L' := [(3, aI 0), (2, aI l2_63), (0, aR (some (12, l0_61)))]) d_X12_findUnlike_79 (b8 rfl) rfl (s_sub (subc m0_ (subc m2_ (subc m1_ sub0))) (s_lp2 (fun s => [(3, aI (s.1)), (0, aR (some (12, l0_61))), (2, aI l2_63)]) (fun s => s.2) (0, m9) fun k80 hx80 s ih0 => ?_)))
    obtain ⟨l3_80, mm_80⟩ := s
    have ih80 := ih0
    clear ih0
    try dsimp only
    unfold b_X12_findUnlike_80
    have hj_X12_findUnlike_80_126 : ∀ (m_126 : MM) (l3_126 : Int) (s0_126 : Nat) (s1_126 : Int) (s2_126 : Int) (s3_126 : Int), Sim fx me_X12_findUnlike 126 [(0, aR (some (12, l0_61))), (2, aI l2_63), (3, aI l3_126)] [aI s3_126, aI s2_126, aI s1_126, aR (some (129, s0_126))] m_126 ((j_X12_findUnlike_80_126 m_126 l0_61 l2_63 l3_126 s0_126 s1_126 s2_126 s3_126).bind k80) := by
      intro m_126 l3_126 s0_126 s1_126 s2_126 s3_126
      unfold j_X12_findUnlike_80_126
      exact s_ior d_X12_findUnlike_126 (s_stN d_X12_findUnlike_127 ka_129 rfl fun m17 => (s_iinc (L' := [(3, aI (l3_126 + 1)), (0, aR (some (12, l0_61))), (2, aI l2_63)]) d_X12_findUnlike_128 m2_ (b8 rfl) rfl (s_goto (tgt := 80) d_X12_findUnlike_131 rfl (s_sub (subc m0_ (subc m1_ (subc m2_ sub0))) (s_back (ih80 ((l3_126 + 1), m17)))))))
    have hj_X12_findUnlike_80_125 : ∀ (m_125 : MM) (l3_125 : Int) (s0_125 : Nat) (s1_125 : Int) (s2_125 : Int), Sim fx me_X12_findUnlike 125 [(0, aR (some (12, l0_61))), (2, aI l2_63), (3, aI l3_125)] [aI s2_125, aI s1_125, aR (some (129, s0_125))] m_125 ((j_X12_findUnlike_80_125 m_125 l0_61 l2_63 l3_125 s0_125 s1_125 s2_125).bind k80) := by
      intro m_125 l3_125 s0_125 s1_125 s2_125
      unfold j_X12_findUnlike_80_125
      exact s_iconst d_X12_findUnlike_125 n_0 (s_sub (subc m0_ (subc m1_ (subc m2_ sub0))) (hj_X12_findUnlike_80_126 m_125 l3_125 s0_125 s1_125 s2_125 0))
    refine s_iload_n d_X12_findUnlike_80 m0_ (s_aload_n d_X12_findUnlike_81 m1_ (s_getN cf d_X12_findUnlike_82 fl_X12_432 (s_icmp_ge (tgt := 134) d_X12_findUnlike_85 rfl ?_ ?_)))
    · exact s_exit (hx80 _) (s_sub (subc m1_ (subc m2_ sub0)) (hj_X12_findUnlike_63_134 mm_80 l2_63))
    refine s_aload_n d_X12_findUnlike_88 m1_ (s_getR cf d_X12_findUnlike_89 fl_X12_222 (s_nk fun i10 => (s_iload_n d_X12_findUnlike_92 m2_ (s_dup2 d_X12_findUnlike_93 rfl rfl (s_ldN d_X12_findUnlike_94 ka_129 rfl fun v11 => ?_)))))
    refine s_iload_n d_X12_findUnlike_95 m0_ (s_iload_n d_X12_findUnlike_96 m2_ (s_icmp_eq (tgt := 125) d_X12_findUnlike_97 rfl ?_ ?_))
    · exact s_sub (subc m1_ (subc m2_ (subc m0_ sub0))) (hj_X12_findUnlike_80_125 mm_80 l3_80 i10 l2_63 v11)
    refine s_aload_n d_X12_findUnlike_100 m1_ (s_aload_n d_X12_findUnlike_101 m1_ (s_getR cf d_X12_findUnlike_102 fl_X12_225 (s_nk fun i12 => (s_iload_n d_X12_findUnlike_105 m2_ (s_ldN d_X12_findUnlike_106 ka_130 rfl fun v13 => ?_)))))
    refine s_aload_n d_X12_findUnlike_107 m1_ (s_getR cf d_X12_findUnlike_108 fl_X12_225 (s_nk fun i14 => (s_iload_n d_X12_findUnlike_111 m0_ (s_ldN d_X12_findUnlike_112 ka_130 rfl fun v15 => (s_pI (r_V d_X12_findUnlike_113 k_X12_isUnlike w_2017 rfl rfl) ms_X12_isUnlike (b8 rfl) rfl rfl rfl fun v16 => ?_)))))
    refine s_if_eq (tgt := 125) d_X12_findUnlike_116 rfl ?_ ?_
    · exact s_sub (subc m1_ (subc m2_ (subc m0_ sub0))) (hj_X12_findUnlike_80_125 mm_80 l3_80 i10 l2_63 v11)
    exact s_iconst d_X12_findUnlike_119 n_1 (s_iload_n d_X12_findUnlike_120 m0_ (s_ishl d_X12_findUnlike_121 (s_goto (tgt := 126) d_X12_findUnlike_122 rfl (s_sub (subc m1_ (subc m2_ (subc m0_ sub0))) (hj_X12_findUnlike_80_126 mm_80 l3_80 i10 l2_63 v11 (ishl 1 l3_80))))))
  refine s_aload_n d_X12_findUnlike_0 m0_ (s_iconst d_X12_findUnlike_1 n_0 (s_putN cf d_X12_findUnlike_2 fl_X12_432 (fun h => by cases h) fun m1 => (s_iconst d_X12_findUnlike_5 n_0 (s_istore_n (L' := [(2, aI 0), (0, aR (some (12, l0))), (1, aI l1)]) d_X12_findUnlike_6 (b8 rfl) rfl (s_sub (subc m0_ (subc m1_ (subc m2_ sub0))) (s_lp2 (fun s => [(2, aI (s.1)), (0, aR (some (12, l0))), (1, aI l1)]) (fun s => s.2) (0, m1) fun k7 hx7 s ih0 => ?_))))))
  obtain ⟨l2_7, mm_7⟩ := s
  have ih7 := ih0
  clear ih0
  try dsimp only
  unfold b_X12_findUnlike_7
  refine s_iload_n d_X12_findUnlike_7 m0_ (s_aload_n d_X12_findUnlike_8 m1_ (s_iload_n d_X12_findUnlike_9 m2_ (s_pI (r_V d_X12_findUnlike_10 k_X12_pagesOf w_1755 rfl rfl) ms_X12_pagesOf (b8 rfl) rfl rfl rfl fun v2 => (s_icmp_ge (tgt := 61) d_X12_findUnlike_13 rfl ?_ ?_))))
  · exact s_exit (hx7 _) (s_sub (subc m1_ sub0) (hj_X12_findUnlike_0_61 mm_7 l0))
  refine s_aload_n d_X12_findUnlike_16 m1_ (s_getR cf d_X12_findUnlike_17 fl_X12_84 (s_nk fun i3 => (s_bipush d_X12_findUnlike_20 n_16 rfl (s_iload_n d_X12_findUnlike_22 m2_ (s_imul d_X12_findUnlike_23 rfl rfl ?_)))))
  refine s_iload_n d_X12_findUnlike_24 m0_ (s_iadd d_X12_findUnlike_25 rfl rfl (s_ldB d_X12_findUnlike_26 ka_83 rfl fun v4 => (s_if_eq (tgt := 55) d_X12_findUnlike_27 rfl ?_ ?_)))
  · exact s_iinc (L' := [(2, aI (l2_7 + 1)), (0, aR (some (12, l0))), (1, aI l1)]) d_X12_findUnlike_55 m0_ (b8 rfl) rfl (s_goto (tgt := 7) d_X12_findUnlike_58 rfl (s_sub (subc m0_ (subc m1_ (subc m2_ sub0))) (s_back (ih7 ((l2_7 + 1), mm_7)))))
  refine s_aload_n d_X12_findUnlike_30 m1_ (s_getR cf d_X12_findUnlike_31 fl_X12_225 (s_nk fun i5 => (s_aload_n d_X12_findUnlike_34 m1_ (s_getN cf d_X12_findUnlike_35 fl_X12_432 (s_bipush d_X12_findUnlike_38 n_16 rfl ?_)))))
  refine s_iload_n d_X12_findUnlike_40 m2_ (s_imul d_X12_findUnlike_41 rfl rfl (s_iload_n d_X12_findUnlike_42 m0_ (s_iadd d_X12_findUnlike_43 rfl rfl (s_ck (s_stN d_X12_findUnlike_44 ka_130 rfl fun m6 => ?_)))))
  refine s_aload_n d_X12_findUnlike_45 m1_ (s_dup d_X12_findUnlike_46 rfl (s_getN cf d_X12_findUnlike_47 fl_X12_432 (s_iconst d_X12_findUnlike_50 n_1 (s_iadd d_X12_findUnlike_51 rfl rfl (s_ck ?_)))))
  exact s_putN cf d_X12_findUnlike_52 fl_X12_432 (fun h => by cases h) fun m7 => (s_iinc (L' := [(2, aI (l2_7 + 1)), (0, aR (some (12, l0))), (1, aI l1)]) d_X12_findUnlike_55 m0_ (b8 rfl) rfl (s_goto (tgt := 7) d_X12_findUnlike_58 rfl (s_sub (subc m0_ (subc m1_ (subc m2_ sub0))) (s_back (ih7 ((l2_7 + 1), m7))))))
theorem d_X12_hands_0 : dk me_X12_hands 0 (.aload_n 0) 1 1 := And.intro (by decide +kernel) rfl
theorem d_X12_hands_1 : dk me_X12_hands 1 (.aload_n 0) 1 2 := And.intro (by decide +kernel) rfl
theorem d_X12_hands_2 : dk me_X12_hands 2 (.iload_n 1) 1 3 := And.intro (by decide +kernel) rfl
theorem d_X12_hands_3 : dk me_X12_hands 3 (.invokevirtual 239) 3 6 := And.intro (by decide +kernel) rfl
theorem d_X12_hands_6 : dk me_X12_hands 6 (.ifCond .eq 7) 3 9 := And.intro (by decide +kernel) rfl
theorem d_X12_hands_9 : dk me_X12_hands 9 (.iconst 0) 1 10 := And.intro (by decide +kernel) rfl
theorem d_X12_hands_10 : dk me_X12_hands 10 (.goto 4) 3 13 := And.intro (by decide +kernel) rfl
theorem d_X12_hands_13 : dk me_X12_hands 13 (.iconst 1) 1 14 := And.intro (by decide +kernel) rfl
theorem d_X12_hands_14 : dk me_X12_hands 14 (.invokevirtual 260) 3 17 := And.intro (by decide +kernel) rfl
theorem d_X12_hands_17 : dk me_X12_hands 17 (.ifCond .ne 5) 3 20 := And.intro (by decide +kernel) rfl
theorem d_X12_hands_20 : dk me_X12_hands 20 (.iconst 0) 1 21 := And.intro (by decide +kernel) rfl
theorem d_X12_hands_21 : dk me_X12_hands 21 (.ireturn) 1 22 := And.intro (by decide +kernel) rfl
theorem d_X12_hands_22 : dk me_X12_hands 22 (.aload_n 0) 1 23 := And.intro (by decide +kernel) rfl
theorem d_X12_hands_23 : dk me_X12_hands 23 (.iload_n 1) 1 24 := And.intro (by decide +kernel) rfl
theorem d_X12_hands_24 : dk me_X12_hands 24 (.invokevirtual 438) 3 27 := And.intro (by decide +kernel) rfl
theorem d_X12_hands_27 : dk me_X12_hands 27 (.aload_n 0) 1 28 := And.intro (by decide +kernel) rfl
theorem d_X12_hands_28 : dk me_X12_hands 28 (.getfield 432) 3 31 := And.intro (by decide +kernel) rfl
theorem d_X12_hands_31 : dk me_X12_hands 31 (.ifCond .ne 7) 3 34 := And.intro (by decide +kernel) rfl
theorem d_X12_hands_34 : dk me_X12_hands 34 (.iconst 0) 1 35 := And.intro (by decide +kernel) rfl
theorem d_X12_hands_35 : dk me_X12_hands 35 (.goto 4) 3 38 := And.intro (by decide +kernel) rfl
theorem d_X12_hands_38 : dk me_X12_hands 38 (.iconst 1) 1 39 := And.intro (by decide +kernel) rfl
theorem d_X12_hands_39 : dk me_X12_hands 39 (.istore_n 2) 1 40 := And.intro (by decide +kernel) rfl
theorem d_X12_hands_40 : dk me_X12_hands 40 (.aload_n 0) 1 41 := And.intro (by decide +kernel) rfl
theorem d_X12_hands_41 : dk me_X12_hands 41 (.getfield 432) 3 44 := And.intro (by decide +kernel) rfl
theorem d_X12_hands_44 : dk me_X12_hands 44 (.ifCond .le 17) 3 47 := And.intro (by decide +kernel) rfl
theorem d_X12_hands_47 : dk me_X12_hands 47 (.aload_n 0) 1 48 := And.intro (by decide +kernel) rfl
theorem d_X12_hands_48 : dk me_X12_hands 48 (.iload_n 2) 1 49 := And.intro (by decide +kernel) rfl
theorem d_X12_hands_49 : dk me_X12_hands 49 (.invokevirtual 441) 3 52 := And.intro (by decide +kernel) rfl
theorem d_X12_hands_52 : dk me_X12_hands 52 (.ifCond .ne 9) 3 55 := And.intro (by decide +kernel) rfl
theorem d_X12_hands_55 : dk me_X12_hands 55 (.iinc 2 1) 3 58 := And.intro (by decide +kernel) rfl
theorem d_X12_hands_58 : dk me_X12_hands 58 (.goto (-18)) 3 61 := And.intro (by decide +kernel) rfl
theorem d_X12_hands_61 : dk me_X12_hands 61 (.iload_n 2) 1 62 := And.intro (by decide +kernel) rfl
theorem d_X12_hands_62 : dk me_X12_hands 62 (.ireturn) 1 63 := And.intro (by decide +kernel) rfl
theorem ms_X12_hands {fx : FX} {m : MM} {l0 : Nat} {l1 : Int} : MS fx me_X12_hands [aR (some (12, l0)), aI l1] m (f_X12_hands m l0 l1) := by
  refine ms_of rfl mf_X12_hands (b8 rfl) ?_
  refine s_top ?_
  show Sim fx me_X12_hands 0 [(0, aR (some (12, l0))), (1, aI l1)] [] m _
  unfold f_X12_hands
  have hj_X12_hands_0_61 : ∀ (m_61 : MM) (l2_61 : Int), Sim fx me_X12_hands 61 [(2, aI l2_61)] [] m_61 ((j_X12_hands_0_61 m_61 l2_61).bind (fun z => some z)) := by
    intro m_61 l2_61
    unfold j_X12_hands_0_61
    exact s_iload_n d_X12_hands_61 m0_ (s_iret d_X12_hands_62 rfl rfl)
  have hj_X12_hands_0_39 : ∀ (m_39 : MM) (l0_39 : Nat) (s0_39 : Int), Sim fx me_X12_hands 39 [(0, aR (some (12, l0_39)))] [aI s0_39] m_39 ((j_X12_hands_0_39 m_39 l0_39 s0_39).bind (fun z => some z)) := by
    intro m_39 l0_39 s0_39
    unfold j_X12_hands_0_39
    refine s_istore_n (L' := [(2, aI s0_39), (0, aR (some (12, l0_39)))]) d_X12_hands_39 (b8 rfl) rfl (s_sub (subc m0_ (subc m1_ sub0)) (s_lp2 (fun s => [(2, aI (s.1)), (0, aR (some (12, l0_39)))]) (fun s => s.2) (s0_39, m_39) fun k40 hx40 s ih0 => ?_))
    obtain ⟨l2_40, mm_40⟩ := s
    have ih40 := ih0
    clear ih0
    try dsimp only
    unfold b_X12_hands_40
    refine s_aload_n d_X12_hands_40 m1_ (s_getN cf d_X12_hands_41 fl_X12_432 (s_if_le (tgt := 61) d_X12_hands_44 rfl ?_ ?_))
    · exact s_exit (hx40 _) (s_sub (subc m0_ sub0) (hj_X12_hands_0_61 mm_40 l2_40))
    refine s_aload_n d_X12_hands_47 m1_ (s_iload_n d_X12_hands_48 m0_ (s_cI (r_V d_X12_hands_49 k_X12_canPart w_2025 rfl rfl) ms_X12_canPart (b8 rfl) rfl rfl rfl (fun _ _ _ => rfl) (fun _ _ => Or.inl rfl) fun v7 m6 => (s_if_ne (tgt := 61) d_X12_hands_52 rfl ?_ ?_)))
    · exact s_exit (hx40 _) (s_sub (subc m0_ sub0) (hj_X12_hands_0_61 m6 l2_40))
    exact s_iinc (L' := [(2, aI (l2_40 + 1)), (0, aR (some (12, l0_39)))]) d_X12_hands_55 m0_ (b8 rfl) rfl (s_goto (tgt := 40) d_X12_hands_58 rfl (s_sub (subc m0_ (subc m1_ sub0)) (s_back (ih40 ((l2_40 + 1), m6)))))
  have hj_X12_hands_0_14 : ∀ (m_14 : MM) (l0_14 : Nat) (l1_14 : Int) (s0_14 : Nat) (s1_14 : Int), Sim fx me_X12_hands 14 [(0, aR (some (12, l0_14))), (1, aI l1_14)] [aI s1_14, aR (some (12, s0_14))] m_14 ((j_X12_hands_0_14 m_14 l0_14 l1_14 s0_14 s1_14).bind (fun z => some z)) := by
    intro m_14 l0_14 l1_14 s0_14 s1_14
    unfold j_X12_hands_0_14
    refine s_cI (r_V d_X12_hands_14 k_X12_holds w_1668 rfl rfl) ms_X12_holds (b8 rfl) rfl rfl rfl (fun _ _ _ => rfl) (fun _ _ => Or.inl rfl) fun v3 m2 => (s_if_ne (tgt := 22) d_X12_hands_17 rfl ?_ ?_)
    · refine s_aload_n d_X12_hands_22 m0_ (s_iload_n d_X12_hands_23 m1_ (s_cV (r_V d_X12_hands_24 k_X12_findUnlike w_2013 rfl rfl) ms_X12_findUnlike (b8 rfl) rfl rfl rfl (fun _ _ _ => rfl) (fun _ _ => Or.inl rfl) fun m4 => (s_aload_n d_X12_hands_27 m0_ (s_getN cf d_X12_hands_28 fl_X12_432 (s_if_ne (tgt := 38) d_X12_hands_31 rfl ?_ ?_)))))
      · exact s_iconst d_X12_hands_38 n_1 (s_sub (subc m0_ sub0) (hj_X12_hands_0_39 m4 l0_14 1))
      exact s_iconst d_X12_hands_34 n_0 (s_goto (tgt := 39) d_X12_hands_35 rfl (s_sub (subc m0_ sub0) (hj_X12_hands_0_39 m4 l0_14 0)))
    exact s_iconst d_X12_hands_20 n_0 (s_iret d_X12_hands_21 rfl rfl)
  refine s_aload_n d_X12_hands_0 m0_ (s_aload_n d_X12_hands_1 m0_ (s_iload_n d_X12_hands_2 m1_ (s_pI (r_V d_X12_hands_3 k_X12_isBook w_1747 rfl rfl) ms_X12_isBook (b8 rfl) rfl rfl rfl fun v1 => (s_if_eq (tgt := 13) d_X12_hands_6 rfl ?_ ?_))))
  · exact s_iconst d_X12_hands_13 n_1 (s_sub (subc m0_ (subc m1_ sub0)) (hj_X12_hands_0_14 m l0 l1 l0 1))
  exact s_iconst d_X12_hands_9 n_0 (s_goto (tgt := 14) d_X12_hands_10 rfl (s_sub (subc m0_ (subc m1_ sub0)) (hj_X12_hands_0_14 m l0 l1 l0 0)))
theorem d_X12_hour_0 : dk me_X12_hour 0 (.aload_n 0) 1 1 := And.intro (by decide +kernel) rfl
theorem d_X12_hour_1 : dk me_X12_hour 1 (.iconst 0) 1 2 := And.intro (by decide +kernel) rfl
theorem d_X12_hour_2 : dk me_X12_hour 2 (.putfield 228) 3 5 := And.intro (by decide +kernel) rfl
theorem d_X12_hour_5 : dk me_X12_hour 5 (.aload_n 0) 1 6 := And.intro (by decide +kernel) rfl
theorem d_X12_hour_6 : dk me_X12_hour 6 (.getfield 379) 3 9 := And.intro (by decide +kernel) rfl
theorem d_X12_hour_9 : dk me_X12_hour 9 (.ireturn) 1 10 := And.intro (by decide +kernel) rfl
theorem ms_X12_hour {fx : FX} {m : MM} {l0 : Nat} : MS fx me_X12_hour [aR (some (12, l0))] m (f_X12_hour m l0) := by
  refine ms_of rfl mf_X12_hour (b8 rfl) ?_
  refine s_top ?_
  show Sim fx me_X12_hour 0 [(0, aR (some (12, l0)))] [] m _
  unfold f_X12_hour
  exact s_aload_n d_X12_hour_0 m0_ (s_iconst d_X12_hour_1 n_0 (s_putN cf d_X12_hour_2 fl_X12_228 (fun h => by cases h) fun m1 => (s_aload_n d_X12_hour_5 m0_ (s_getN cf d_X12_hour_6 fl_X12_379 (s_iret d_X12_hour_9 rfl rfl)))))
theorem d_X12_init_0 : dk me_X12_init 0 (.aload_n 0) 1 1 := And.intro (by decide +kernel) rfl
theorem d_X12_init_1 : dk me_X12_init 1 (.invokespecial 1) 3 4 := And.intro (by decide +kernel) rfl
theorem d_X12_init_4 : dk me_X12_init 4 (.aload_n 0) 1 5 := And.intro (by decide +kernel) rfl
theorem d_X12_init_5 : dk me_X12_init 5 (.bipush 40) 2 7 := And.intro (by decide +kernel) rfl
theorem d_X12_init_7 : dk me_X12_init 7 (.newarray .int) 2 9 := And.intro (by decide +kernel) rfl
theorem d_X12_init_9 : dk me_X12_init 9 (.putfield 7) 3 12 := And.intro (by decide +kernel) rfl
theorem d_X12_init_12 : dk me_X12_init 12 (.aload_n 0) 1 13 := And.intro (by decide +kernel) rfl
theorem d_X12_init_13 : dk me_X12_init 13 (.bipush 6) 2 15 := And.intro (by decide +kernel) rfl
theorem d_X12_init_15 : dk me_X12_init 15 (.newarray .long) 2 17 := And.intro (by decide +kernel) rfl
theorem d_X12_init_17 : dk me_X12_init 17 (.putfield 13) 3 20 := And.intro (by decide +kernel) rfl
theorem d_X12_init_20 : dk me_X12_init 20 (.aload_n 0) 1 21 := And.intro (by decide +kernel) rfl
theorem d_X12_init_21 : dk me_X12_init 21 (.bipush 6) 2 23 := And.intro (by decide +kernel) rfl
theorem d_X12_init_23 : dk me_X12_init 23 (.newarray .long) 2 25 := And.intro (by decide +kernel) rfl
theorem d_X12_init_25 : dk me_X12_init 25 (.putfield 17) 3 28 := And.intro (by decide +kernel) rfl
theorem d_X12_init_28 : dk me_X12_init 28 (.aload_n 0) 1 29 := And.intro (by decide +kernel) rfl
theorem d_X12_init_29 : dk me_X12_init 29 (.sipush 400) 3 32 := And.intro (by decide +kernel) rfl
theorem d_X12_init_32 : dk me_X12_init 32 (.newarray .int) 2 34 := And.intro (by decide +kernel) rfl
theorem d_X12_init_34 : dk me_X12_init 34 (.putfield 20) 3 37 := And.intro (by decide +kernel) rfl
theorem d_X12_init_37 : dk me_X12_init 37 (.aload_n 0) 1 38 := And.intro (by decide +kernel) rfl
theorem d_X12_init_38 : dk me_X12_init 38 (.sipush 400) 3 41 := And.intro (by decide +kernel) rfl
theorem d_X12_init_41 : dk me_X12_init 41 (.newarray .int) 2 43 := And.intro (by decide +kernel) rfl
theorem d_X12_init_43 : dk me_X12_init 43 (.putfield 23) 3 46 := And.intro (by decide +kernel) rfl
theorem d_X12_init_46 : dk me_X12_init 46 (.aload_n 0) 1 47 := And.intro (by decide +kernel) rfl
theorem d_X12_init_47 : dk me_X12_init 47 (.sipush 400) 3 50 := And.intro (by decide +kernel) rfl
theorem d_X12_init_50 : dk me_X12_init 50 (.newarray .int) 2 52 := And.intro (by decide +kernel) rfl
theorem d_X12_init_52 : dk me_X12_init 52 (.putfield 26) 3 55 := And.intro (by decide +kernel) rfl
theorem d_X12_init_55 : dk me_X12_init 55 (.aload_n 0) 1 56 := And.intro (by decide +kernel) rfl
theorem d_X12_init_56 : dk me_X12_init 56 (.sipush 400) 3 59 := And.intro (by decide +kernel) rfl
theorem d_X12_init_59 : dk me_X12_init 59 (.newarray .int) 2 61 := And.intro (by decide +kernel) rfl
theorem d_X12_init_61 : dk me_X12_init 61 (.putfield 29) 3 64 := And.intro (by decide +kernel) rfl
theorem d_X12_init_64 : dk me_X12_init 64 (.aload_n 0) 1 65 := And.intro (by decide +kernel) rfl
theorem d_X12_init_65 : dk me_X12_init 65 (.bipush 28) 2 67 := And.intro (by decide +kernel) rfl
theorem d_X12_init_67 : dk me_X12_init 67 (.newarray .int) 2 69 := And.intro (by decide +kernel) rfl
theorem d_X12_init_69 : dk me_X12_init 69 (.putfield 32) 3 72 := And.intro (by decide +kernel) rfl
theorem d_X12_init_72 : dk me_X12_init 72 (.aload_n 0) 1 73 := And.intro (by decide +kernel) rfl
theorem d_X12_init_73 : dk me_X12_init 73 (.iconst 4) 1 74 := And.intro (by decide +kernel) rfl
theorem d_X12_init_74 : dk me_X12_init 74 (.newarray .int) 2 76 := And.intro (by decide +kernel) rfl
theorem d_X12_init_76 : dk me_X12_init 76 (.putfield 35) 3 79 := And.intro (by decide +kernel) rfl
theorem d_X12_init_79 : dk me_X12_init 79 (.aload_n 0) 1 80 := And.intro (by decide +kernel) rfl
theorem d_X12_init_80 : dk me_X12_init 80 (.iconst 4) 1 81 := And.intro (by decide +kernel) rfl
theorem d_X12_init_81 : dk me_X12_init 81 (.newarray .int) 2 83 := And.intro (by decide +kernel) rfl
theorem d_X12_init_83 : dk me_X12_init 83 (.putfield 38) 3 86 := And.intro (by decide +kernel) rfl
theorem d_X12_init_86 : dk me_X12_init 86 (.aload_n 0) 1 87 := And.intro (by decide +kernel) rfl
theorem d_X12_init_87 : dk me_X12_init 87 (.iconst 4) 1 88 := And.intro (by decide +kernel) rfl
theorem d_X12_init_88 : dk me_X12_init 88 (.newarray .int) 2 90 := And.intro (by decide +kernel) rfl
theorem d_X12_init_90 : dk me_X12_init 90 (.putfield 41) 3 93 := And.intro (by decide +kernel) rfl
theorem d_X12_init_93 : dk me_X12_init 93 (.aload_n 0) 1 94 := And.intro (by decide +kernel) rfl
theorem d_X12_init_94 : dk me_X12_init 94 (.iconst 4) 1 95 := And.intro (by decide +kernel) rfl
theorem d_X12_init_95 : dk me_X12_init 95 (.newarray .int) 2 97 := And.intro (by decide +kernel) rfl
theorem d_X12_init_97 : dk me_X12_init 97 (.putfield 44) 3 100 := And.intro (by decide +kernel) rfl
theorem d_X12_init_100 : dk me_X12_init 100 (.aload_n 0) 1 101 := And.intro (by decide +kernel) rfl
theorem d_X12_init_101 : dk me_X12_init 101 (.iconst 4) 1 102 := And.intro (by decide +kernel) rfl
theorem d_X12_init_102 : dk me_X12_init 102 (.newarray .int) 2 104 := And.intro (by decide +kernel) rfl
theorem d_X12_init_104 : dk me_X12_init 104 (.putfield 47) 3 107 := And.intro (by decide +kernel) rfl
theorem d_X12_init_107 : dk me_X12_init 107 (.aload_n 0) 1 108 := And.intro (by decide +kernel) rfl
theorem d_X12_init_108 : dk me_X12_init 108 (.iconst 4) 1 109 := And.intro (by decide +kernel) rfl
theorem d_X12_init_109 : dk me_X12_init 109 (.newarray .int) 2 111 := And.intro (by decide +kernel) rfl
theorem d_X12_init_111 : dk me_X12_init 111 (.putfield 50) 3 114 := And.intro (by decide +kernel) rfl
theorem d_X12_init_114 : dk me_X12_init 114 (.aload_n 0) 1 115 := And.intro (by decide +kernel) rfl
theorem d_X12_init_115 : dk me_X12_init 115 (.iconst 3) 1 116 := And.intro (by decide +kernel) rfl
theorem d_X12_init_116 : dk me_X12_init 116 (.newarray .int) 2 118 := And.intro (by decide +kernel) rfl
theorem d_X12_init_118 : dk me_X12_init 118 (.putfield 53) 3 121 := And.intro (by decide +kernel) rfl
theorem d_X12_init_121 : dk me_X12_init 121 (.aload_n 0) 1 122 := And.intro (by decide +kernel) rfl
theorem d_X12_init_122 : dk me_X12_init 122 (.iconst 3) 1 123 := And.intro (by decide +kernel) rfl
theorem d_X12_init_123 : dk me_X12_init 123 (.newarray .int) 2 125 := And.intro (by decide +kernel) rfl
theorem d_X12_init_125 : dk me_X12_init 125 (.putfield 56) 3 128 := And.intro (by decide +kernel) rfl
theorem d_X12_init_128 : dk me_X12_init 128 (.aload_n 0) 1 129 := And.intro (by decide +kernel) rfl
theorem d_X12_init_129 : dk me_X12_init 129 (.iconst 3) 1 130 := And.intro (by decide +kernel) rfl
theorem d_X12_init_130 : dk me_X12_init 130 (.newarray .int) 2 132 := And.intro (by decide +kernel) rfl
theorem d_X12_init_132 : dk me_X12_init 132 (.putfield 59) 3 135 := And.intro (by decide +kernel) rfl
theorem d_X12_init_135 : dk me_X12_init 135 (.aload_n 0) 1 136 := And.intro (by decide +kernel) rfl
theorem d_X12_init_136 : dk me_X12_init 136 (.iconst 3) 1 137 := And.intro (by decide +kernel) rfl
theorem d_X12_init_137 : dk me_X12_init 137 (.newarray .int) 2 139 := And.intro (by decide +kernel) rfl
theorem d_X12_init_139 : dk me_X12_init 139 (.putfield 62) 3 142 := And.intro (by decide +kernel) rfl
theorem d_X12_init_142 : dk me_X12_init 142 (.aload_n 0) 1 143 := And.intro (by decide +kernel) rfl
theorem d_X12_init_143 : dk me_X12_init 143 (.iconst 3) 1 144 := And.intro (by decide +kernel) rfl
theorem d_X12_init_144 : dk me_X12_init 144 (.newarray .int) 2 146 := And.intro (by decide +kernel) rfl
theorem d_X12_init_146 : dk me_X12_init 146 (.putfield 65) 3 149 := And.intro (by decide +kernel) rfl
theorem d_X12_init_149 : dk me_X12_init 149 (.aload_n 0) 1 150 := And.intro (by decide +kernel) rfl
theorem d_X12_init_150 : dk me_X12_init 150 (.iconst 3) 1 151 := And.intro (by decide +kernel) rfl
theorem d_X12_init_151 : dk me_X12_init 151 (.newarray .int) 2 153 := And.intro (by decide +kernel) rfl
theorem d_X12_init_153 : dk me_X12_init 153 (.putfield 68) 3 156 := And.intro (by decide +kernel) rfl
theorem d_X12_init_156 : dk me_X12_init 156 (.aload_n 0) 1 157 := And.intro (by decide +kernel) rfl
theorem d_X12_init_157 : dk me_X12_init 157 (.iconst 3) 1 158 := And.intro (by decide +kernel) rfl
theorem d_X12_init_158 : dk me_X12_init 158 (.newarray .boolean) 2 160 := And.intro (by decide +kernel) rfl
theorem d_X12_init_160 : dk me_X12_init 160 (.putfield 71) 3 163 := And.intro (by decide +kernel) rfl
theorem d_X12_init_163 : dk me_X12_init 163 (.aload_n 0) 1 164 := And.intro (by decide +kernel) rfl
theorem d_X12_init_164 : dk me_X12_init 164 (.iconst 3) 1 165 := And.intro (by decide +kernel) rfl
theorem d_X12_init_165 : dk me_X12_init 165 (.newarray .int) 2 167 := And.intro (by decide +kernel) rfl
theorem d_X12_init_167 : dk me_X12_init 167 (.putfield 75) 3 170 := And.intro (by decide +kernel) rfl
theorem d_X12_init_170 : dk me_X12_init 170 (.aload_n 0) 1 171 := And.intro (by decide +kernel) rfl
theorem d_X12_init_171 : dk me_X12_init 171 (.sipush 180) 3 174 := And.intro (by decide +kernel) rfl
theorem d_X12_init_174 : dk me_X12_init 174 (.newarray .long) 2 176 := And.intro (by decide +kernel) rfl
theorem d_X12_init_176 : dk me_X12_init 176 (.putfield 78) 3 179 := And.intro (by decide +kernel) rfl
theorem d_X12_init_179 : dk me_X12_init 179 (.aload_n 0) 1 180 := And.intro (by decide +kernel) rfl
theorem d_X12_init_180 : dk me_X12_init 180 (.sipush 180) 3 183 := And.intro (by decide +kernel) rfl
theorem d_X12_init_183 : dk me_X12_init 183 (.newarray .boolean) 2 185 := And.intro (by decide +kernel) rfl
theorem d_X12_init_185 : dk me_X12_init 185 (.putfield 81) 3 188 := And.intro (by decide +kernel) rfl
theorem d_X12_init_188 : dk me_X12_init 188 (.aload_n 0) 1 189 := And.intro (by decide +kernel) rfl
theorem d_X12_init_189 : dk me_X12_init 189 (.bipush 48) 2 191 := And.intro (by decide +kernel) rfl
theorem d_X12_init_191 : dk me_X12_init 191 (.newarray .boolean) 2 193 := And.intro (by decide +kernel) rfl
theorem d_X12_init_193 : dk me_X12_init 193 (.putfield 84) 3 196 := And.intro (by decide +kernel) rfl
theorem d_X12_init_196 : dk me_X12_init 196 (.aload_n 0) 1 197 := And.intro (by decide +kernel) rfl
theorem d_X12_init_197 : dk me_X12_init 197 (.bipush 48) 2 199 := And.intro (by decide +kernel) rfl
theorem d_X12_init_199 : dk me_X12_init 199 (.newarray .int) 2 201 := And.intro (by decide +kernel) rfl
theorem d_X12_init_201 : dk me_X12_init 201 (.putfield 87) 3 204 := And.intro (by decide +kernel) rfl
theorem d_X12_init_204 : dk me_X12_init 204 (.aload_n 0) 1 205 := And.intro (by decide +kernel) rfl
theorem d_X12_init_205 : dk me_X12_init 205 (.bipush 48) 2 207 := And.intro (by decide +kernel) rfl
theorem d_X12_init_207 : dk me_X12_init 207 (.newarray .int) 2 209 := And.intro (by decide +kernel) rfl
theorem d_X12_init_209 : dk me_X12_init 209 (.putfield 90) 3 212 := And.intro (by decide +kernel) rfl
theorem d_X12_init_212 : dk me_X12_init 212 (.aload_n 0) 1 213 := And.intro (by decide +kernel) rfl
theorem d_X12_init_213 : dk me_X12_init 213 (.bipush 48) 2 215 := And.intro (by decide +kernel) rfl
theorem d_X12_init_215 : dk me_X12_init 215 (.newarray .int) 2 217 := And.intro (by decide +kernel) rfl
theorem d_X12_init_217 : dk me_X12_init 217 (.putfield 93) 3 220 := And.intro (by decide +kernel) rfl
theorem d_X12_init_220 : dk me_X12_init 220 (.aload_n 0) 1 221 := And.intro (by decide +kernel) rfl
theorem d_X12_init_221 : dk me_X12_init 221 (.bipush 48) 2 223 := And.intro (by decide +kernel) rfl
theorem d_X12_init_223 : dk me_X12_init 223 (.newarray .int) 2 225 := And.intro (by decide +kernel) rfl
theorem d_X12_init_225 : dk me_X12_init 225 (.putfield 96) 3 228 := And.intro (by decide +kernel) rfl
theorem d_X12_init_228 : dk me_X12_init 228 (.aload_n 0) 1 229 := And.intro (by decide +kernel) rfl
theorem d_X12_init_229 : dk me_X12_init 229 (.bipush 48) 2 231 := And.intro (by decide +kernel) rfl
theorem d_X12_init_231 : dk me_X12_init 231 (.newarray .int) 2 233 := And.intro (by decide +kernel) rfl
theorem d_X12_init_233 : dk me_X12_init 233 (.putfield 99) 3 236 := And.intro (by decide +kernel) rfl
theorem d_X12_init_236 : dk me_X12_init 236 (.aload_n 0) 1 237 := And.intro (by decide +kernel) rfl
theorem d_X12_init_237 : dk me_X12_init 237 (.bipush 48) 2 239 := And.intro (by decide +kernel) rfl
theorem d_X12_init_239 : dk me_X12_init 239 (.newarray .int) 2 241 := And.intro (by decide +kernel) rfl
theorem d_X12_init_241 : dk me_X12_init 241 (.putfield 102) 3 244 := And.intro (by decide +kernel) rfl
theorem d_X12_init_244 : dk me_X12_init 244 (.aload_n 0) 1 245 := And.intro (by decide +kernel) rfl
theorem d_X12_init_245 : dk me_X12_init 245 (.bipush 48) 2 247 := And.intro (by decide +kernel) rfl
theorem d_X12_init_247 : dk me_X12_init 247 (.newarray .int) 2 249 := And.intro (by decide +kernel) rfl
theorem d_X12_init_249 : dk me_X12_init 249 (.putfield 105) 3 252 := And.intro (by decide +kernel) rfl
theorem d_X12_init_252 : dk me_X12_init 252 (.aload_n 0) 1 253 := And.intro (by decide +kernel) rfl
theorem d_X12_init_253 : dk me_X12_init 253 (.sipush 288) 3 256 := And.intro (by decide +kernel) rfl
theorem d_X12_init_256 : dk me_X12_init 256 (.newarray .int) 2 258 := And.intro (by decide +kernel) rfl
theorem d_X12_init_258 : dk me_X12_init 258 (.putfield 108) 3 261 := And.intro (by decide +kernel) rfl
theorem d_X12_init_261 : dk me_X12_init 261 (.aload_n 0) 1 262 := And.intro (by decide +kernel) rfl
theorem d_X12_init_262 : dk me_X12_init 262 (.sipush 288) 3 265 := And.intro (by decide +kernel) rfl
theorem d_X12_init_265 : dk me_X12_init 265 (.newarray .int) 2 267 := And.intro (by decide +kernel) rfl
theorem d_X12_init_267 : dk me_X12_init 267 (.putfield 111) 3 270 := And.intro (by decide +kernel) rfl
theorem d_X12_init_270 : dk me_X12_init 270 (.aload_n 0) 1 271 := And.intro (by decide +kernel) rfl
theorem d_X12_init_271 : dk me_X12_init 271 (.sipush 288) 3 274 := And.intro (by decide +kernel) rfl
theorem d_X12_init_274 : dk me_X12_init 274 (.newarray .int) 2 276 := And.intro (by decide +kernel) rfl
theorem d_X12_init_276 : dk me_X12_init 276 (.putfield 114) 3 279 := And.intro (by decide +kernel) rfl
theorem d_X12_init_279 : dk me_X12_init 279 (.aload_n 0) 1 280 := And.intro (by decide +kernel) rfl
theorem d_X12_init_280 : dk me_X12_init 280 (.sipush 288) 3 283 := And.intro (by decide +kernel) rfl
theorem d_X12_init_283 : dk me_X12_init 283 (.newarray .int) 2 285 := And.intro (by decide +kernel) rfl
theorem d_X12_init_285 : dk me_X12_init 285 (.putfield 117) 3 288 := And.intro (by decide +kernel) rfl
theorem d_X12_init_288 : dk me_X12_init 288 (.aload_n 0) 1 289 := And.intro (by decide +kernel) rfl
theorem d_X12_init_289 : dk me_X12_init 289 (.sipush 2880) 3 292 := And.intro (by decide +kernel) rfl
theorem d_X12_init_292 : dk me_X12_init 292 (.newarray .int) 2 294 := And.intro (by decide +kernel) rfl
theorem d_X12_init_294 : dk me_X12_init 294 (.putfield 120) 3 297 := And.intro (by decide +kernel) rfl
theorem d_X12_init_297 : dk me_X12_init 297 (.aload_n 0) 1 298 := And.intro (by decide +kernel) rfl
theorem d_X12_init_298 : dk me_X12_init 298 (.sipush 2880) 3 301 := And.intro (by decide +kernel) rfl
theorem d_X12_init_301 : dk me_X12_init 301 (.newarray .long) 2 303 := And.intro (by decide +kernel) rfl
theorem d_X12_init_303 : dk me_X12_init 303 (.putfield 123) 3 306 := And.intro (by decide +kernel) rfl
theorem d_X12_init_306 : dk me_X12_init 306 (.aload_n 0) 1 307 := And.intro (by decide +kernel) rfl
theorem d_X12_init_307 : dk me_X12_init 307 (.sipush 2880) 3 310 := And.intro (by decide +kernel) rfl
theorem d_X12_init_310 : dk me_X12_init 310 (.newarray .int) 2 312 := And.intro (by decide +kernel) rfl
theorem d_X12_init_312 : dk me_X12_init 312 (.putfield 126) 3 315 := And.intro (by decide +kernel) rfl
theorem d_X12_init_315 : dk me_X12_init 315 (.aload_n 0) 1 316 := And.intro (by decide +kernel) rfl
theorem d_X12_init_316 : dk me_X12_init 316 (.sipush 2880) 3 319 := And.intro (by decide +kernel) rfl
theorem d_X12_init_319 : dk me_X12_init 319 (.newarray .int) 2 321 := And.intro (by decide +kernel) rfl
theorem d_X12_init_321 : dk me_X12_init 321 (.putfield 129) 3 324 := And.intro (by decide +kernel) rfl
theorem d_X12_init_324 : dk me_X12_init 324 (.aload_n 0) 1 325 := And.intro (by decide +kernel) rfl
theorem d_X12_init_325 : dk me_X12_init 325 (.sipush 7200) 3 328 := And.intro (by decide +kernel) rfl
theorem d_X12_init_328 : dk me_X12_init 328 (.newarray .int) 2 330 := And.intro (by decide +kernel) rfl
theorem d_X12_init_330 : dk me_X12_init 330 (.putfield 132) 3 333 := And.intro (by decide +kernel) rfl
theorem d_X12_init_333 : dk me_X12_init 333 (.aload_n 0) 1 334 := And.intro (by decide +kernel) rfl
theorem d_X12_init_334 : dk me_X12_init 334 (.sipush 7200) 3 337 := And.intro (by decide +kernel) rfl
theorem d_X12_init_337 : dk me_X12_init 337 (.newarray .int) 2 339 := And.intro (by decide +kernel) rfl
theorem d_X12_init_339 : dk me_X12_init 339 (.putfield 135) 3 342 := And.intro (by decide +kernel) rfl
theorem d_X12_init_342 : dk me_X12_init 342 (.aload_n 0) 1 343 := And.intro (by decide +kernel) rfl
theorem d_X12_init_343 : dk me_X12_init 343 (.sipush 7200) 3 346 := And.intro (by decide +kernel) rfl
theorem d_X12_init_346 : dk me_X12_init 346 (.newarray .int) 2 348 := And.intro (by decide +kernel) rfl
theorem d_X12_init_348 : dk me_X12_init 348 (.putfield 138) 3 351 := And.intro (by decide +kernel) rfl
theorem d_X12_init_351 : dk me_X12_init 351 (.aload_n 0) 1 352 := And.intro (by decide +kernel) rfl
theorem d_X12_init_352 : dk me_X12_init 352 (.sipush 7200) 3 355 := And.intro (by decide +kernel) rfl
theorem d_X12_init_355 : dk me_X12_init 355 (.newarray .int) 2 357 := And.intro (by decide +kernel) rfl
theorem d_X12_init_357 : dk me_X12_init 357 (.putfield 141) 3 360 := And.intro (by decide +kernel) rfl
theorem d_X12_init_360 : dk me_X12_init 360 (.aload_n 0) 1 361 := And.intro (by decide +kernel) rfl
theorem d_X12_init_361 : dk me_X12_init 361 (.sipush 7200) 3 364 := And.intro (by decide +kernel) rfl
theorem d_X12_init_364 : dk me_X12_init 364 (.newarray .int) 2 366 := And.intro (by decide +kernel) rfl
theorem d_X12_init_366 : dk me_X12_init 366 (.putfield 144) 3 369 := And.intro (by decide +kernel) rfl
theorem d_X12_init_369 : dk me_X12_init 369 (.aload_n 0) 1 370 := And.intro (by decide +kernel) rfl
theorem d_X12_init_370 : dk me_X12_init 370 (.sipush 7200) 3 373 := And.intro (by decide +kernel) rfl
theorem d_X12_init_373 : dk me_X12_init 373 (.newarray .int) 2 375 := And.intro (by decide +kernel) rfl
theorem d_X12_init_375 : dk me_X12_init 375 (.putfield 147) 3 378 := And.intro (by decide +kernel) rfl
theorem d_X12_init_378 : dk me_X12_init 378 (.aload_n 0) 1 379 := And.intro (by decide +kernel) rfl
theorem d_X12_init_379 : dk me_X12_init 379 (.sipush 2000) 3 382 := And.intro (by decide +kernel) rfl
theorem d_X12_init_382 : dk me_X12_init 382 (.newarray .int) 2 384 := And.intro (by decide +kernel) rfl
theorem d_X12_init_384 : dk me_X12_init 384 (.putfield 150) 3 387 := And.intro (by decide +kernel) rfl
theorem d_X12_init_387 : dk me_X12_init 387 (.aload_n 0) 1 388 := And.intro (by decide +kernel) rfl
theorem d_X12_init_388 : dk me_X12_init 388 (.sipush 2000) 3 391 := And.intro (by decide +kernel) rfl
theorem d_X12_init_391 : dk me_X12_init 391 (.newarray .int) 2 393 := And.intro (by decide +kernel) rfl
theorem d_X12_init_393 : dk me_X12_init 393 (.putfield 153) 3 396 := And.intro (by decide +kernel) rfl
theorem d_X12_init_396 : dk me_X12_init 396 (.aload_n 0) 1 397 := And.intro (by decide +kernel) rfl
theorem d_X12_init_397 : dk me_X12_init 397 (.sipush 2000) 3 400 := And.intro (by decide +kernel) rfl
theorem d_X12_init_400 : dk me_X12_init 400 (.newarray .int) 2 402 := And.intro (by decide +kernel) rfl
theorem d_X12_init_402 : dk me_X12_init 402 (.putfield 156) 3 405 := And.intro (by decide +kernel) rfl
theorem d_X12_init_405 : dk me_X12_init 405 (.aload_n 0) 1 406 := And.intro (by decide +kernel) rfl
theorem d_X12_init_406 : dk me_X12_init 406 (.bipush 24) 2 408 := And.intro (by decide +kernel) rfl
theorem d_X12_init_408 : dk me_X12_init 408 (.newarray .int) 2 410 := And.intro (by decide +kernel) rfl
theorem d_X12_init_410 : dk me_X12_init 410 (.putfield 159) 3 413 := And.intro (by decide +kernel) rfl
theorem d_X12_init_413 : dk me_X12_init 413 (.aload_n 0) 1 414 := And.intro (by decide +kernel) rfl
theorem d_X12_init_414 : dk me_X12_init 414 (.bipush 24) 2 416 := And.intro (by decide +kernel) rfl
theorem d_X12_init_416 : dk me_X12_init 416 (.newarray .int) 2 418 := And.intro (by decide +kernel) rfl
theorem d_X12_init_418 : dk me_X12_init 418 (.putfield 162) 3 421 := And.intro (by decide +kernel) rfl
theorem d_X12_init_421 : dk me_X12_init 421 (.aload_n 0) 1 422 := And.intro (by decide +kernel) rfl
theorem d_X12_init_422 : dk me_X12_init 422 (.bipush 24) 2 424 := And.intro (by decide +kernel) rfl
theorem d_X12_init_424 : dk me_X12_init 424 (.newarray .int) 2 426 := And.intro (by decide +kernel) rfl
theorem d_X12_init_426 : dk me_X12_init 426 (.putfield 165) 3 429 := And.intro (by decide +kernel) rfl
theorem d_X12_init_429 : dk me_X12_init 429 (.aload_n 0) 1 430 := And.intro (by decide +kernel) rfl
theorem d_X12_init_430 : dk me_X12_init 430 (.bipush 24) 2 432 := And.intro (by decide +kernel) rfl
theorem d_X12_init_432 : dk me_X12_init 432 (.newarray .int) 2 434 := And.intro (by decide +kernel) rfl
theorem d_X12_init_434 : dk me_X12_init 434 (.putfield 168) 3 437 := And.intro (by decide +kernel) rfl
theorem d_X12_init_437 : dk me_X12_init 437 (.aload_n 0) 1 438 := And.intro (by decide +kernel) rfl
theorem d_X12_init_438 : dk me_X12_init 438 (.sipush 624) 3 441 := And.intro (by decide +kernel) rfl
theorem d_X12_init_441 : dk me_X12_init 441 (.newarray .int) 2 443 := And.intro (by decide +kernel) rfl
theorem d_X12_init_443 : dk me_X12_init 443 (.putfield 171) 3 446 := And.intro (by decide +kernel) rfl
theorem d_X12_init_446 : dk me_X12_init 446 (.aload_n 0) 1 447 := And.intro (by decide +kernel) rfl
theorem d_X12_init_447 : dk me_X12_init 447 (.bipush 24) 2 449 := And.intro (by decide +kernel) rfl
theorem d_X12_init_449 : dk me_X12_init 449 (.newarray .int) 2 451 := And.intro (by decide +kernel) rfl
theorem d_X12_init_451 : dk me_X12_init 451 (.putfield 174) 3 454 := And.intro (by decide +kernel) rfl
theorem d_X12_init_454 : dk me_X12_init 454 (.aload_n 0) 1 455 := And.intro (by decide +kernel) rfl
theorem d_X12_init_455 : dk me_X12_init 455 (.bipush 24) 2 457 := And.intro (by decide +kernel) rfl
theorem d_X12_init_457 : dk me_X12_init 457 (.newarray .int) 2 459 := And.intro (by decide +kernel) rfl
theorem d_X12_init_459 : dk me_X12_init 459 (.putfield 177) 3 462 := And.intro (by decide +kernel) rfl
theorem d_X12_init_462 : dk me_X12_init 462 (.aload_n 0) 1 463 := And.intro (by decide +kernel) rfl
theorem d_X12_init_463 : dk me_X12_init 463 (.bipush 24) 2 465 := And.intro (by decide +kernel) rfl
theorem d_X12_init_465 : dk me_X12_init 465 (.newarray .boolean) 2 467 := And.intro (by decide +kernel) rfl
theorem d_X12_init_467 : dk me_X12_init 467 (.putfield 180) 3 470 := And.intro (by decide +kernel) rfl
theorem d_X12_init_470 : dk me_X12_init 470 (.aload_n 0) 1 471 := And.intro (by decide +kernel) rfl
theorem d_X12_init_471 : dk me_X12_init 471 (.bipush 24) 2 473 := And.intro (by decide +kernel) rfl
theorem d_X12_init_473 : dk me_X12_init 473 (.newarray .boolean) 2 475 := And.intro (by decide +kernel) rfl
theorem d_X12_init_475 : dk me_X12_init 475 (.putfield 183) 3 478 := And.intro (by decide +kernel) rfl
theorem d_X12_init_478 : dk me_X12_init 478 (.aload_n 0) 1 479 := And.intro (by decide +kernel) rfl
theorem d_X12_init_479 : dk me_X12_init 479 (.bipush 12) 2 481 := And.intro (by decide +kernel) rfl
theorem d_X12_init_481 : dk me_X12_init 481 (.newarray .boolean) 2 483 := And.intro (by decide +kernel) rfl
theorem d_X12_init_483 : dk me_X12_init 483 (.putfield 186) 3 486 := And.intro (by decide +kernel) rfl
theorem d_X12_init_486 : dk me_X12_init 486 (.aload_n 0) 1 487 := And.intro (by decide +kernel) rfl
theorem d_X12_init_487 : dk me_X12_init 487 (.bipush 12) 2 489 := And.intro (by decide +kernel) rfl
theorem d_X12_init_489 : dk me_X12_init 489 (.newarray .int) 2 491 := And.intro (by decide +kernel) rfl
theorem d_X12_init_491 : dk me_X12_init 491 (.putfield 189) 3 494 := And.intro (by decide +kernel) rfl
theorem d_X12_init_494 : dk me_X12_init 494 (.aload_n 0) 1 495 := And.intro (by decide +kernel) rfl
theorem d_X12_init_495 : dk me_X12_init 495 (.bipush 12) 2 497 := And.intro (by decide +kernel) rfl
theorem d_X12_init_497 : dk me_X12_init 497 (.newarray .int) 2 499 := And.intro (by decide +kernel) rfl
theorem d_X12_init_499 : dk me_X12_init 499 (.putfield 192) 3 502 := And.intro (by decide +kernel) rfl
theorem d_X12_init_502 : dk me_X12_init 502 (.aload_n 0) 1 503 := And.intro (by decide +kernel) rfl
theorem d_X12_init_503 : dk me_X12_init 503 (.bipush 12) 2 505 := And.intro (by decide +kernel) rfl
theorem d_X12_init_505 : dk me_X12_init 505 (.newarray .int) 2 507 := And.intro (by decide +kernel) rfl
theorem d_X12_init_507 : dk me_X12_init 507 (.putfield 195) 3 510 := And.intro (by decide +kernel) rfl
theorem d_X12_init_510 : dk me_X12_init 510 (.aload_n 0) 1 511 := And.intro (by decide +kernel) rfl
theorem d_X12_init_511 : dk me_X12_init 511 (.iconst 3) 1 512 := And.intro (by decide +kernel) rfl
theorem d_X12_init_512 : dk me_X12_init 512 (.newarray .int) 2 514 := And.intro (by decide +kernel) rfl
theorem d_X12_init_514 : dk me_X12_init 514 (.dup) 1 515 := And.intro (by decide +kernel) rfl
theorem d_X12_init_515 : dk me_X12_init 515 (.iconst 0) 1 516 := And.intro (by decide +kernel) rfl
theorem d_X12_init_516 : dk me_X12_init 516 (.iconst 1) 1 517 := And.intro (by decide +kernel) rfl
theorem d_X12_init_517 : dk me_X12_init 517 (.iastore) 1 518 := And.intro (by decide +kernel) rfl
theorem d_X12_init_518 : dk me_X12_init 518 (.dup) 1 519 := And.intro (by decide +kernel) rfl
theorem d_X12_init_519 : dk me_X12_init 519 (.iconst 1) 1 520 := And.intro (by decide +kernel) rfl
theorem d_X12_init_520 : dk me_X12_init 520 (.iconst 1) 1 521 := And.intro (by decide +kernel) rfl
theorem d_X12_init_521 : dk me_X12_init 521 (.iastore) 1 522 := And.intro (by decide +kernel) rfl
theorem d_X12_init_522 : dk me_X12_init 522 (.dup) 1 523 := And.intro (by decide +kernel) rfl
theorem d_X12_init_523 : dk me_X12_init 523 (.iconst 2) 1 524 := And.intro (by decide +kernel) rfl
theorem d_X12_init_524 : dk me_X12_init 524 (.iconst 1) 1 525 := And.intro (by decide +kernel) rfl
theorem d_X12_init_525 : dk me_X12_init 525 (.iastore) 1 526 := And.intro (by decide +kernel) rfl
theorem d_X12_init_526 : dk me_X12_init 526 (.putfield 198) 3 529 := And.intro (by decide +kernel) rfl
theorem d_X12_init_529 : dk me_X12_init 529 (.aload_n 0) 1 530 := And.intro (by decide +kernel) rfl
theorem d_X12_init_530 : dk me_X12_init 530 (.iconst 3) 1 531 := And.intro (by decide +kernel) rfl
theorem d_X12_init_531 : dk me_X12_init 531 (.newarray .int) 2 533 := And.intro (by decide +kernel) rfl
theorem d_X12_init_533 : dk me_X12_init 533 (.dup) 1 534 := And.intro (by decide +kernel) rfl
theorem d_X12_init_534 : dk me_X12_init 534 (.iconst 0) 1 535 := And.intro (by decide +kernel) rfl
theorem d_X12_init_535 : dk me_X12_init 535 (.iconst (-1)) 1 536 := And.intro (by decide +kernel) rfl
theorem d_X12_init_536 : dk me_X12_init 536 (.iastore) 1 537 := And.intro (by decide +kernel) rfl
theorem d_X12_init_537 : dk me_X12_init 537 (.dup) 1 538 := And.intro (by decide +kernel) rfl
theorem d_X12_init_538 : dk me_X12_init 538 (.iconst 1) 1 539 := And.intro (by decide +kernel) rfl
theorem d_X12_init_539 : dk me_X12_init 539 (.iconst (-1)) 1 540 := And.intro (by decide +kernel) rfl
theorem d_X12_init_540 : dk me_X12_init 540 (.iastore) 1 541 := And.intro (by decide +kernel) rfl
theorem d_X12_init_541 : dk me_X12_init 541 (.dup) 1 542 := And.intro (by decide +kernel) rfl
theorem d_X12_init_542 : dk me_X12_init 542 (.iconst 2) 1 543 := And.intro (by decide +kernel) rfl
theorem d_X12_init_543 : dk me_X12_init 543 (.iconst (-1)) 1 544 := And.intro (by decide +kernel) rfl
theorem d_X12_init_544 : dk me_X12_init 544 (.iastore) 1 545 := And.intro (by decide +kernel) rfl
theorem d_X12_init_545 : dk me_X12_init 545 (.putfield 201) 3 548 := And.intro (by decide +kernel) rfl
theorem d_X12_init_548 : dk me_X12_init 548 (.aload_n 0) 1 549 := And.intro (by decide +kernel) rfl
theorem d_X12_init_549 : dk me_X12_init 549 (.iconst 3) 1 550 := And.intro (by decide +kernel) rfl
theorem d_X12_init_550 : dk me_X12_init 550 (.newarray .int) 2 552 := And.intro (by decide +kernel) rfl
theorem d_X12_init_552 : dk me_X12_init 552 (.putfield 204) 3 555 := And.intro (by decide +kernel) rfl
theorem d_X12_init_555 : dk me_X12_init 555 (.aload_n 0) 1 556 := And.intro (by decide +kernel) rfl
theorem d_X12_init_556 : dk me_X12_init 556 (.iconst 3) 1 557 := And.intro (by decide +kernel) rfl
theorem d_X12_init_557 : dk me_X12_init 557 (.newarray .int) 2 559 := And.intro (by decide +kernel) rfl
theorem d_X12_init_559 : dk me_X12_init 559 (.putfield 207) 3 562 := And.intro (by decide +kernel) rfl
theorem d_X12_init_562 : dk me_X12_init 562 (.aload_n 0) 1 563 := And.intro (by decide +kernel) rfl
theorem d_X12_init_563 : dk me_X12_init 563 (.iconst 4) 1 564 := And.intro (by decide +kernel) rfl
theorem d_X12_init_564 : dk me_X12_init 564 (.newarray .int) 2 566 := And.intro (by decide +kernel) rfl
theorem d_X12_init_566 : dk me_X12_init 566 (.putfield 210) 3 569 := And.intro (by decide +kernel) rfl
theorem d_X12_init_569 : dk me_X12_init 569 (.aload_n 0) 1 570 := And.intro (by decide +kernel) rfl
theorem d_X12_init_570 : dk me_X12_init 570 (.sipush 576) 3 573 := And.intro (by decide +kernel) rfl
theorem d_X12_init_573 : dk me_X12_init 573 (.newarray .int) 2 575 := And.intro (by decide +kernel) rfl
theorem d_X12_init_575 : dk me_X12_init 575 (.putfield 213) 3 578 := And.intro (by decide +kernel) rfl
theorem d_X12_init_578 : dk me_X12_init 578 (.aload_n 0) 1 579 := And.intro (by decide +kernel) rfl
theorem d_X12_init_579 : dk me_X12_init 579 (.bipush 8) 2 581 := And.intro (by decide +kernel) rfl
theorem d_X12_init_581 : dk me_X12_init 581 (.newarray .int) 2 583 := And.intro (by decide +kernel) rfl
theorem d_X12_init_583 : dk me_X12_init 583 (.putfield 216) 3 586 := And.intro (by decide +kernel) rfl
theorem d_X12_init_586 : dk me_X12_init 586 (.aload_n 0) 1 587 := And.intro (by decide +kernel) rfl
theorem d_X12_init_587 : dk me_X12_init 587 (.sipush 256) 3 590 := And.intro (by decide +kernel) rfl
theorem d_X12_init_590 : dk me_X12_init 590 (.newarray .int) 2 592 := And.intro (by decide +kernel) rfl
theorem d_X12_init_592 : dk me_X12_init 592 (.putfield 219) 3 595 := And.intro (by decide +kernel) rfl
theorem d_X12_init_595 : dk me_X12_init 595 (.aload_n 0) 1 596 := And.intro (by decide +kernel) rfl
theorem d_X12_init_596 : dk me_X12_init 596 (.bipush 16) 2 598 := And.intro (by decide +kernel) rfl
theorem d_X12_init_598 : dk me_X12_init 598 (.newarray .int) 2 600 := And.intro (by decide +kernel) rfl
theorem d_X12_init_600 : dk me_X12_init 600 (.putfield 222) 3 603 := And.intro (by decide +kernel) rfl
theorem d_X12_init_603 : dk me_X12_init 603 (.aload_n 0) 1 604 := And.intro (by decide +kernel) rfl
theorem d_X12_init_604 : dk me_X12_init 604 (.bipush 16) 2 606 := And.intro (by decide +kernel) rfl
theorem d_X12_init_606 : dk me_X12_init 606 (.newarray .int) 2 608 := And.intro (by decide +kernel) rfl
theorem d_X12_init_608 : dk me_X12_init 608 (.putfield 225) 3 611 := And.intro (by decide +kernel) rfl
theorem d_X12_init_611 : dk me_X12_init 611 (.iconst 0) 1 612 := And.intro (by decide +kernel) rfl
theorem d_X12_init_612 : dk me_X12_init 612 (.istore_n 1) 1 613 := And.intro (by decide +kernel) rfl
theorem d_X12_init_613 : dk me_X12_init 613 (.iload_n 1) 1 614 := And.intro (by decide +kernel) rfl
theorem d_X12_init_614 : dk me_X12_init 614 (.bipush 28) 2 616 := And.intro (by decide +kernel) rfl
theorem d_X12_init_616 : dk me_X12_init 616 (.if_icmp .ge 16) 3 619 := And.intro (by decide +kernel) rfl
theorem d_X12_init_619 : dk me_X12_init 619 (.aload_n 0) 1 620 := And.intro (by decide +kernel) rfl
theorem d_X12_init_620 : dk me_X12_init 620 (.getfield 32) 3 623 := And.intro (by decide +kernel) rfl
theorem d_X12_init_623 : dk me_X12_init 623 (.iload_n 1) 1 624 := And.intro (by decide +kernel) rfl
theorem d_X12_init_624 : dk me_X12_init 624 (.iconst (-1)) 1 625 := And.intro (by decide +kernel) rfl
theorem d_X12_init_625 : dk me_X12_init 625 (.iastore) 1 626 := And.intro (by decide +kernel) rfl
theorem d_X12_init_626 : dk me_X12_init 626 (.iinc 1 1) 3 629 := And.intro (by decide +kernel) rfl
theorem d_X12_init_629 : dk me_X12_init 629 (.goto (-16)) 3 632 := And.intro (by decide +kernel) rfl
theorem d_X12_init_632 : dk me_X12_init 632 (.return_) 1 633 := And.intro (by decide +kernel) rfl
theorem ms_X12_init {fx : FX} {m : MM} {l0 : Nat} : MS fx me_X12_init [aR (some (12, l0))] m (f_X12_init m l0) := by
  refine ms_of rfl mf_X12_init (b8 rfl) ?_
  refine s_top ?_
  show Sim fx me_X12_init 0 [(0, aR (some (12, l0)))] [] m _
  unfold f_X12_init
  have hj_X12_init_0_632 : ∀ (m_632 : MM), Sim fx me_X12_init 632 [] [] m_632 ((j_X12_init_0_632 m_632).bind (fun z => some z)) := by
    intro m_632
    unfold j_X12_init_0_632
    exact s_vret d_X12_init_632 rfl rfl
  refine s_aload_n d_X12_init_0 m0_ (s_objInit d_X12_init_1 w_1408 wo_1 wo_2 (b8 rfl) (b8 rfl) (s_aload_n d_X12_init_4 m0_ (s_bipush d_X12_init_5 n_40 rfl (s_newA d_X12_init_7 ka_59 rfl ty_int w_130 rfl fun m1 => (s_putR cf d_X12_init_9 fl_X12_7 (fun _ => ⟨rfl, _, rfl, rfl⟩) fun m2 => ?_)))))
  refine s_aload_n d_X12_init_12 m0_ (s_bipush d_X12_init_13 n_6 rfl (s_newA d_X12_init_15 ka_60 rfl ty_long w_131 rfl fun m3 => (s_putR cf d_X12_init_17 fl_X12_13 (fun _ => ⟨rfl, _, rfl, rfl⟩) fun m4 => (s_aload_n d_X12_init_20 m0_ (s_bipush d_X12_init_21 n_6 rfl ?_)))))
  refine s_newA d_X12_init_23 ka_61 rfl ty_long w_131 rfl fun m5 => (s_putR cf d_X12_init_25 fl_X12_17 (fun _ => ⟨rfl, _, rfl, rfl⟩) fun m6 => (s_aload_n d_X12_init_28 m0_ (s_sipush d_X12_init_29 n_400 rfl (s_newA d_X12_init_32 ka_62 rfl ty_int w_130 rfl fun m7 => (s_putR cf d_X12_init_34 fl_X12_20 (fun _ => ⟨rfl, _, rfl, rfl⟩) fun m8 => ?_)))))
  refine s_aload_n d_X12_init_37 m0_ (s_sipush d_X12_init_38 n_400 rfl (s_newA d_X12_init_41 ka_63 rfl ty_int w_130 rfl fun m9 => (s_putR cf d_X12_init_43 fl_X12_23 (fun _ => ⟨rfl, _, rfl, rfl⟩) fun m10 => (s_aload_n d_X12_init_46 m0_ (s_sipush d_X12_init_47 n_400 rfl ?_)))))
  refine s_newA d_X12_init_50 ka_64 rfl ty_int w_130 rfl fun m11 => (s_putR cf d_X12_init_52 fl_X12_26 (fun _ => ⟨rfl, _, rfl, rfl⟩) fun m12 => (s_aload_n d_X12_init_55 m0_ (s_sipush d_X12_init_56 n_400 rfl (s_newA d_X12_init_59 ka_65 rfl ty_int w_130 rfl fun m13 => (s_putR cf d_X12_init_61 fl_X12_29 (fun _ => ⟨rfl, _, rfl, rfl⟩) fun m14 => ?_)))))
  refine s_aload_n d_X12_init_64 m0_ (s_bipush d_X12_init_65 n_28 rfl (s_newA d_X12_init_67 ka_66 rfl ty_int w_130 rfl fun m15 => (s_putR cf d_X12_init_69 fl_X12_32 (fun _ => ⟨rfl, _, rfl, rfl⟩) fun m16 => (s_aload_n d_X12_init_72 m0_ (s_iconst d_X12_init_73 n_4 ?_)))))
  refine s_newA d_X12_init_74 ka_67 rfl ty_int w_130 rfl fun m17 => (s_putR cf d_X12_init_76 fl_X12_35 (fun _ => ⟨rfl, _, rfl, rfl⟩) fun m18 => (s_aload_n d_X12_init_79 m0_ (s_iconst d_X12_init_80 n_4 (s_newA d_X12_init_81 ka_68 rfl ty_int w_130 rfl fun m19 => (s_putR cf d_X12_init_83 fl_X12_38 (fun _ => ⟨rfl, _, rfl, rfl⟩) fun m20 => ?_)))))
  refine s_aload_n d_X12_init_86 m0_ (s_iconst d_X12_init_87 n_4 (s_newA d_X12_init_88 ka_69 rfl ty_int w_130 rfl fun m21 => (s_putR cf d_X12_init_90 fl_X12_41 (fun _ => ⟨rfl, _, rfl, rfl⟩) fun m22 => (s_aload_n d_X12_init_93 m0_ (s_iconst d_X12_init_94 n_4 ?_)))))
  refine s_newA d_X12_init_95 ka_70 rfl ty_int w_130 rfl fun m23 => (s_putR cf d_X12_init_97 fl_X12_44 (fun _ => ⟨rfl, _, rfl, rfl⟩) fun m24 => (s_aload_n d_X12_init_100 m0_ (s_iconst d_X12_init_101 n_4 (s_newA d_X12_init_102 ka_71 rfl ty_int w_130 rfl fun m25 => (s_putR cf d_X12_init_104 fl_X12_47 (fun _ => ⟨rfl, _, rfl, rfl⟩) fun m26 => ?_)))))
  refine s_aload_n d_X12_init_107 m0_ (s_iconst d_X12_init_108 n_4 (s_newA d_X12_init_109 ka_72 rfl ty_int w_130 rfl fun m27 => (s_putR cf d_X12_init_111 fl_X12_50 (fun _ => ⟨rfl, _, rfl, rfl⟩) fun m28 => (s_aload_n d_X12_init_114 m0_ (s_iconst d_X12_init_115 n_3 ?_)))))
  refine s_newA d_X12_init_116 ka_73 rfl ty_int w_130 rfl fun m29 => (s_putR cf d_X12_init_118 fl_X12_53 (fun _ => ⟨rfl, _, rfl, rfl⟩) fun m30 => (s_aload_n d_X12_init_121 m0_ (s_iconst d_X12_init_122 n_3 (s_newA d_X12_init_123 ka_74 rfl ty_int w_130 rfl fun m31 => (s_putR cf d_X12_init_125 fl_X12_56 (fun _ => ⟨rfl, _, rfl, rfl⟩) fun m32 => ?_)))))
  refine s_aload_n d_X12_init_128 m0_ (s_iconst d_X12_init_129 n_3 (s_newA d_X12_init_130 ka_75 rfl ty_int w_130 rfl fun m33 => (s_putR cf d_X12_init_132 fl_X12_59 (fun _ => ⟨rfl, _, rfl, rfl⟩) fun m34 => (s_aload_n d_X12_init_135 m0_ (s_iconst d_X12_init_136 n_3 ?_)))))
  refine s_newA d_X12_init_137 ka_76 rfl ty_int w_130 rfl fun m35 => (s_putR cf d_X12_init_139 fl_X12_62 (fun _ => ⟨rfl, _, rfl, rfl⟩) fun m36 => (s_aload_n d_X12_init_142 m0_ (s_iconst d_X12_init_143 n_3 (s_newA d_X12_init_144 ka_77 rfl ty_int w_130 rfl fun m37 => (s_putR cf d_X12_init_146 fl_X12_65 (fun _ => ⟨rfl, _, rfl, rfl⟩) fun m38 => ?_)))))
  refine s_aload_n d_X12_init_149 m0_ (s_iconst d_X12_init_150 n_3 (s_newA d_X12_init_151 ka_78 rfl ty_int w_130 rfl fun m39 => (s_putR cf d_X12_init_153 fl_X12_68 (fun _ => ⟨rfl, _, rfl, rfl⟩) fun m40 => (s_aload_n d_X12_init_156 m0_ (s_iconst d_X12_init_157 n_3 ?_)))))
  refine s_newA d_X12_init_158 ka_79 rfl ty_boolean w_132 rfl fun m41 => (s_putR cf d_X12_init_160 fl_X12_71 (fun _ => ⟨rfl, _, rfl, rfl⟩) fun m42 => (s_aload_n d_X12_init_163 m0_ (s_iconst d_X12_init_164 n_3 (s_newA d_X12_init_165 ka_80 rfl ty_int w_130 rfl fun m43 => (s_putR cf d_X12_init_167 fl_X12_75 (fun _ => ⟨rfl, _, rfl, rfl⟩) fun m44 => ?_)))))
  refine s_aload_n d_X12_init_170 m0_ (s_sipush d_X12_init_171 n_180 rfl (s_newA d_X12_init_174 ka_81 rfl ty_long w_131 rfl fun m45 => (s_putR cf d_X12_init_176 fl_X12_78 (fun _ => ⟨rfl, _, rfl, rfl⟩) fun m46 => (s_aload_n d_X12_init_179 m0_ (s_sipush d_X12_init_180 n_180 rfl ?_)))))
  refine s_newA d_X12_init_183 ka_82 rfl ty_boolean w_132 rfl fun m47 => (s_putR cf d_X12_init_185 fl_X12_81 (fun _ => ⟨rfl, _, rfl, rfl⟩) fun m48 => (s_aload_n d_X12_init_188 m0_ (s_bipush d_X12_init_189 n_48 rfl (s_newA d_X12_init_191 ka_83 rfl ty_boolean w_132 rfl fun m49 => (s_putR cf d_X12_init_193 fl_X12_84 (fun _ => ⟨rfl, _, rfl, rfl⟩) fun m50 => ?_)))))
  refine s_aload_n d_X12_init_196 m0_ (s_bipush d_X12_init_197 n_48 rfl (s_newA d_X12_init_199 ka_84 rfl ty_int w_130 rfl fun m51 => (s_putR cf d_X12_init_201 fl_X12_87 (fun _ => ⟨rfl, _, rfl, rfl⟩) fun m52 => (s_aload_n d_X12_init_204 m0_ (s_bipush d_X12_init_205 n_48 rfl ?_)))))
  refine s_newA d_X12_init_207 ka_85 rfl ty_int w_130 rfl fun m53 => (s_putR cf d_X12_init_209 fl_X12_90 (fun _ => ⟨rfl, _, rfl, rfl⟩) fun m54 => (s_aload_n d_X12_init_212 m0_ (s_bipush d_X12_init_213 n_48 rfl (s_newA d_X12_init_215 ka_86 rfl ty_int w_130 rfl fun m55 => (s_putR cf d_X12_init_217 fl_X12_93 (fun _ => ⟨rfl, _, rfl, rfl⟩) fun m56 => ?_)))))
  refine s_aload_n d_X12_init_220 m0_ (s_bipush d_X12_init_221 n_48 rfl (s_newA d_X12_init_223 ka_87 rfl ty_int w_130 rfl fun m57 => (s_putR cf d_X12_init_225 fl_X12_96 (fun _ => ⟨rfl, _, rfl, rfl⟩) fun m58 => (s_aload_n d_X12_init_228 m0_ (s_bipush d_X12_init_229 n_48 rfl ?_)))))
  refine s_newA d_X12_init_231 ka_88 rfl ty_int w_130 rfl fun m59 => (s_putR cf d_X12_init_233 fl_X12_99 (fun _ => ⟨rfl, _, rfl, rfl⟩) fun m60 => (s_aload_n d_X12_init_236 m0_ (s_bipush d_X12_init_237 n_48 rfl (s_newA d_X12_init_239 ka_89 rfl ty_int w_130 rfl fun m61 => (s_putR cf d_X12_init_241 fl_X12_102 (fun _ => ⟨rfl, _, rfl, rfl⟩) fun m62 => ?_)))))
  refine s_aload_n d_X12_init_244 m0_ (s_bipush d_X12_init_245 n_48 rfl (s_newA d_X12_init_247 ka_90 rfl ty_int w_130 rfl fun m63 => (s_putR cf d_X12_init_249 fl_X12_105 (fun _ => ⟨rfl, _, rfl, rfl⟩) fun m64 => (s_aload_n d_X12_init_252 m0_ (s_sipush d_X12_init_253 n_288 rfl ?_)))))
  refine s_newA d_X12_init_256 ka_91 rfl ty_int w_130 rfl fun m65 => (s_putR cf d_X12_init_258 fl_X12_108 (fun _ => ⟨rfl, _, rfl, rfl⟩) fun m66 => (s_aload_n d_X12_init_261 m0_ (s_sipush d_X12_init_262 n_288 rfl (s_newA d_X12_init_265 ka_92 rfl ty_int w_130 rfl fun m67 => (s_putR cf d_X12_init_267 fl_X12_111 (fun _ => ⟨rfl, _, rfl, rfl⟩) fun m68 => ?_)))))
  refine s_aload_n d_X12_init_270 m0_ (s_sipush d_X12_init_271 n_288 rfl (s_newA d_X12_init_274 ka_93 rfl ty_int w_130 rfl fun m69 => (s_putR cf d_X12_init_276 fl_X12_114 (fun _ => ⟨rfl, _, rfl, rfl⟩) fun m70 => (s_aload_n d_X12_init_279 m0_ (s_sipush d_X12_init_280 n_288 rfl ?_)))))
  refine s_newA d_X12_init_283 ka_94 rfl ty_int w_130 rfl fun m71 => (s_putR cf d_X12_init_285 fl_X12_117 (fun _ => ⟨rfl, _, rfl, rfl⟩) fun m72 => (s_aload_n d_X12_init_288 m0_ (s_sipush d_X12_init_289 n_2880 rfl (s_newA d_X12_init_292 ka_95 rfl ty_int w_130 rfl fun m73 => (s_putR cf d_X12_init_294 fl_X12_120 (fun _ => ⟨rfl, _, rfl, rfl⟩) fun m74 => ?_)))))
  refine s_aload_n d_X12_init_297 m0_ (s_sipush d_X12_init_298 n_2880 rfl (s_newA d_X12_init_301 ka_96 rfl ty_long w_131 rfl fun m75 => (s_putR cf d_X12_init_303 fl_X12_123 (fun _ => ⟨rfl, _, rfl, rfl⟩) fun m76 => (s_aload_n d_X12_init_306 m0_ (s_sipush d_X12_init_307 n_2880 rfl ?_)))))
  refine s_newA d_X12_init_310 ka_97 rfl ty_int w_130 rfl fun m77 => (s_putR cf d_X12_init_312 fl_X12_126 (fun _ => ⟨rfl, _, rfl, rfl⟩) fun m78 => (s_aload_n d_X12_init_315 m0_ (s_sipush d_X12_init_316 n_2880 rfl (s_newA d_X12_init_319 ka_98 rfl ty_int w_130 rfl fun m79 => (s_putR cf d_X12_init_321 fl_X12_129 (fun _ => ⟨rfl, _, rfl, rfl⟩) fun m80 => ?_)))))
  refine s_aload_n d_X12_init_324 m0_ (s_sipush d_X12_init_325 n_7200 rfl (s_newA d_X12_init_328 ka_99 rfl ty_int w_130 rfl fun m81 => (s_putR cf d_X12_init_330 fl_X12_132 (fun _ => ⟨rfl, _, rfl, rfl⟩) fun m82 => (s_aload_n d_X12_init_333 m0_ (s_sipush d_X12_init_334 n_7200 rfl ?_)))))
  refine s_newA d_X12_init_337 ka_100 rfl ty_int w_130 rfl fun m83 => (s_putR cf d_X12_init_339 fl_X12_135 (fun _ => ⟨rfl, _, rfl, rfl⟩) fun m84 => (s_aload_n d_X12_init_342 m0_ (s_sipush d_X12_init_343 n_7200 rfl (s_newA d_X12_init_346 ka_101 rfl ty_int w_130 rfl fun m85 => (s_putR cf d_X12_init_348 fl_X12_138 (fun _ => ⟨rfl, _, rfl, rfl⟩) fun m86 => ?_)))))
  refine s_aload_n d_X12_init_351 m0_ (s_sipush d_X12_init_352 n_7200 rfl (s_newA d_X12_init_355 ka_102 rfl ty_int w_130 rfl fun m87 => (s_putR cf d_X12_init_357 fl_X12_141 (fun _ => ⟨rfl, _, rfl, rfl⟩) fun m88 => (s_aload_n d_X12_init_360 m0_ (s_sipush d_X12_init_361 n_7200 rfl ?_)))))
  refine s_newA d_X12_init_364 ka_103 rfl ty_int w_130 rfl fun m89 => (s_putR cf d_X12_init_366 fl_X12_144 (fun _ => ⟨rfl, _, rfl, rfl⟩) fun m90 => (s_aload_n d_X12_init_369 m0_ (s_sipush d_X12_init_370 n_7200 rfl (s_newA d_X12_init_373 ka_104 rfl ty_int w_130 rfl fun m91 => (s_putR cf d_X12_init_375 fl_X12_147 (fun _ => ⟨rfl, _, rfl, rfl⟩) fun m92 => ?_)))))
  refine s_aload_n d_X12_init_378 m0_ (s_sipush d_X12_init_379 n_2000 rfl (s_newA d_X12_init_382 ka_105 rfl ty_int w_130 rfl fun m93 => (s_putR cf d_X12_init_384 fl_X12_150 (fun _ => ⟨rfl, _, rfl, rfl⟩) fun m94 => (s_aload_n d_X12_init_387 m0_ (s_sipush d_X12_init_388 n_2000 rfl ?_)))))
  refine s_newA d_X12_init_391 ka_106 rfl ty_int w_130 rfl fun m95 => (s_putR cf d_X12_init_393 fl_X12_153 (fun _ => ⟨rfl, _, rfl, rfl⟩) fun m96 => (s_aload_n d_X12_init_396 m0_ (s_sipush d_X12_init_397 n_2000 rfl (s_newA d_X12_init_400 ka_107 rfl ty_int w_130 rfl fun m97 => (s_putR cf d_X12_init_402 fl_X12_156 (fun _ => ⟨rfl, _, rfl, rfl⟩) fun m98 => ?_)))))
  refine s_aload_n d_X12_init_405 m0_ (s_bipush d_X12_init_406 n_24 rfl (s_newA d_X12_init_408 ka_108 rfl ty_int w_130 rfl fun m99 => (s_putR cf d_X12_init_410 fl_X12_159 (fun _ => ⟨rfl, _, rfl, rfl⟩) fun m100 => (s_aload_n d_X12_init_413 m0_ (s_bipush d_X12_init_414 n_24 rfl ?_)))))
  refine s_newA d_X12_init_416 ka_109 rfl ty_int w_130 rfl fun m101 => (s_putR cf d_X12_init_418 fl_X12_162 (fun _ => ⟨rfl, _, rfl, rfl⟩) fun m102 => (s_aload_n d_X12_init_421 m0_ (s_bipush d_X12_init_422 n_24 rfl (s_newA d_X12_init_424 ka_110 rfl ty_int w_130 rfl fun m103 => (s_putR cf d_X12_init_426 fl_X12_165 (fun _ => ⟨rfl, _, rfl, rfl⟩) fun m104 => ?_)))))
  refine s_aload_n d_X12_init_429 m0_ (s_bipush d_X12_init_430 n_24 rfl (s_newA d_X12_init_432 ka_111 rfl ty_int w_130 rfl fun m105 => (s_putR cf d_X12_init_434 fl_X12_168 (fun _ => ⟨rfl, _, rfl, rfl⟩) fun m106 => (s_aload_n d_X12_init_437 m0_ (s_sipush d_X12_init_438 n_624 rfl ?_)))))
  refine s_newA d_X12_init_441 ka_112 rfl ty_int w_130 rfl fun m107 => (s_putR cf d_X12_init_443 fl_X12_171 (fun _ => ⟨rfl, _, rfl, rfl⟩) fun m108 => (s_aload_n d_X12_init_446 m0_ (s_bipush d_X12_init_447 n_24 rfl (s_newA d_X12_init_449 ka_113 rfl ty_int w_130 rfl fun m109 => (s_putR cf d_X12_init_451 fl_X12_174 (fun _ => ⟨rfl, _, rfl, rfl⟩) fun m110 => ?_)))))
  refine s_aload_n d_X12_init_454 m0_ (s_bipush d_X12_init_455 n_24 rfl (s_newA d_X12_init_457 ka_114 rfl ty_int w_130 rfl fun m111 => (s_putR cf d_X12_init_459 fl_X12_177 (fun _ => ⟨rfl, _, rfl, rfl⟩) fun m112 => (s_aload_n d_X12_init_462 m0_ (s_bipush d_X12_init_463 n_24 rfl ?_)))))
  refine s_newA d_X12_init_465 ka_115 rfl ty_boolean w_132 rfl fun m113 => (s_putR cf d_X12_init_467 fl_X12_180 (fun _ => ⟨rfl, _, rfl, rfl⟩) fun m114 => (s_aload_n d_X12_init_470 m0_ (s_bipush d_X12_init_471 n_24 rfl (s_newA d_X12_init_473 ka_116 rfl ty_boolean w_132 rfl fun m115 => (s_putR cf d_X12_init_475 fl_X12_183 (fun _ => ⟨rfl, _, rfl, rfl⟩) fun m116 => ?_)))))
  refine s_aload_n d_X12_init_478 m0_ (s_bipush d_X12_init_479 n_12 rfl (s_newA d_X12_init_481 ka_117 rfl ty_boolean w_132 rfl fun m117 => (s_putR cf d_X12_init_483 fl_X12_186 (fun _ => ⟨rfl, _, rfl, rfl⟩) fun m118 => (s_aload_n d_X12_init_486 m0_ (s_bipush d_X12_init_487 n_12 rfl ?_)))))
  refine s_newA d_X12_init_489 ka_118 rfl ty_int w_130 rfl fun m119 => (s_putR cf d_X12_init_491 fl_X12_189 (fun _ => ⟨rfl, _, rfl, rfl⟩) fun m120 => (s_aload_n d_X12_init_494 m0_ (s_bipush d_X12_init_495 n_12 rfl (s_newA d_X12_init_497 ka_119 rfl ty_int w_130 rfl fun m121 => (s_putR cf d_X12_init_499 fl_X12_192 (fun _ => ⟨rfl, _, rfl, rfl⟩) fun m122 => ?_)))))
  refine s_aload_n d_X12_init_502 m0_ (s_bipush d_X12_init_503 n_12 rfl (s_newA d_X12_init_505 ka_120 rfl ty_int w_130 rfl fun m123 => (s_putR cf d_X12_init_507 fl_X12_195 (fun _ => ⟨rfl, _, rfl, rfl⟩) fun m124 => (s_aload_n d_X12_init_510 m0_ (s_iconst d_X12_init_511 n_3 ?_)))))
  refine s_newA d_X12_init_512 ka_121 rfl ty_int w_130 rfl fun m125 => (s_dup d_X12_init_514 rfl (s_iconst d_X12_init_515 n_0 (s_iconst d_X12_init_516 n_1 (s_stN d_X12_init_517 ka_121 rfl fun m126 => (s_dup d_X12_init_518 rfl ?_)))))
  refine s_iconst d_X12_init_519 n_1 (s_iconst d_X12_init_520 n_1 (s_stN d_X12_init_521 ka_121 rfl fun m127 => (s_dup d_X12_init_522 rfl (s_iconst d_X12_init_523 n_2 (s_iconst d_X12_init_524 n_1 ?_)))))
  refine s_stN d_X12_init_525 ka_121 rfl fun m128 => (s_putR cf d_X12_init_526 fl_X12_198 (fun _ => ⟨rfl, _, rfl, rfl⟩) fun m129 => (s_aload_n d_X12_init_529 m0_ (s_iconst d_X12_init_530 n_3 (s_newA d_X12_init_531 ka_122 rfl ty_int w_130 rfl fun m130 => (s_dup d_X12_init_533 rfl ?_)))))
  refine s_iconst d_X12_init_534 n_0 (s_iconst d_X12_init_535 n_m1 (s_stN d_X12_init_536 ka_122 rfl fun m131 => (s_dup d_X12_init_537 rfl (s_iconst d_X12_init_538 n_1 (s_iconst d_X12_init_539 n_m1 ?_)))))
  refine s_stN d_X12_init_540 ka_122 rfl fun m132 => (s_dup d_X12_init_541 rfl (s_iconst d_X12_init_542 n_2 (s_iconst d_X12_init_543 n_m1 (s_stN d_X12_init_544 ka_122 rfl fun m133 => (s_putR cf d_X12_init_545 fl_X12_201 (fun _ => ⟨rfl, _, rfl, rfl⟩) fun m134 => ?_)))))
  refine s_aload_n d_X12_init_548 m0_ (s_iconst d_X12_init_549 n_3 (s_newA d_X12_init_550 ka_123 rfl ty_int w_130 rfl fun m135 => (s_putR cf d_X12_init_552 fl_X12_204 (fun _ => ⟨rfl, _, rfl, rfl⟩) fun m136 => (s_aload_n d_X12_init_555 m0_ (s_iconst d_X12_init_556 n_3 ?_)))))
  refine s_newA d_X12_init_557 ka_124 rfl ty_int w_130 rfl fun m137 => (s_putR cf d_X12_init_559 fl_X12_207 (fun _ => ⟨rfl, _, rfl, rfl⟩) fun m138 => (s_aload_n d_X12_init_562 m0_ (s_iconst d_X12_init_563 n_4 (s_newA d_X12_init_564 ka_125 rfl ty_int w_130 rfl fun m139 => (s_putR cf d_X12_init_566 fl_X12_210 (fun _ => ⟨rfl, _, rfl, rfl⟩) fun m140 => ?_)))))
  refine s_aload_n d_X12_init_569 m0_ (s_sipush d_X12_init_570 n_576 rfl (s_newA d_X12_init_573 ka_126 rfl ty_int w_130 rfl fun m141 => (s_putR cf d_X12_init_575 fl_X12_213 (fun _ => ⟨rfl, _, rfl, rfl⟩) fun m142 => (s_aload_n d_X12_init_578 m0_ (s_bipush d_X12_init_579 n_8 rfl ?_)))))
  refine s_newA d_X12_init_581 ka_127 rfl ty_int w_130 rfl fun m143 => (s_putR cf d_X12_init_583 fl_X12_216 (fun _ => ⟨rfl, _, rfl, rfl⟩) fun m144 => (s_aload_n d_X12_init_586 m0_ (s_sipush d_X12_init_587 n_256 rfl (s_newA d_X12_init_590 ka_128 rfl ty_int w_130 rfl fun m145 => (s_putR cf d_X12_init_592 fl_X12_219 (fun _ => ⟨rfl, _, rfl, rfl⟩) fun m146 => ?_)))))
  refine s_aload_n d_X12_init_595 m0_ (s_bipush d_X12_init_596 n_16 rfl (s_newA d_X12_init_598 ka_129 rfl ty_int w_130 rfl fun m147 => (s_putR cf d_X12_init_600 fl_X12_222 (fun _ => ⟨rfl, _, rfl, rfl⟩) fun m148 => (s_aload_n d_X12_init_603 m0_ (s_bipush d_X12_init_604 n_16 rfl ?_)))))
  refine s_newA d_X12_init_606 ka_130 rfl ty_int w_130 rfl fun m149 => (s_putR cf d_X12_init_608 fl_X12_225 (fun _ => ⟨rfl, _, rfl, rfl⟩) fun m150 => (s_iconst d_X12_init_611 n_0 (s_istore_n (L' := [(1, aI 0), (0, aR (some (12, l0)))]) d_X12_init_612 (b8 rfl) rfl (s_sub (subc m0_ (subc m1_ sub0)) (s_lp2 (fun s => [(1, aI (s.1)), (0, aR (some (12, l0)))]) (fun s => s.2) (0, m150) fun k613 hx613 s ih0 => ?_)))))
  obtain ⟨l1_613, mm_613⟩ := s
  have ih613 := ih0
  clear ih0
  try dsimp only
  unfold b_X12_init_613
  refine s_iload_n d_X12_init_613 m0_ (s_bipush d_X12_init_614 n_28 rfl (s_icmp_ge (tgt := 632) d_X12_init_616 rfl ?_ ?_))
  · exact s_exit (hx613 _) (s_sub (sub0) (hj_X12_init_0_632 mm_613))
  refine s_aload_n d_X12_init_619 m1_ (s_getR cf d_X12_init_620 fl_X12_32 (s_nk fun i151 => (s_iload_n d_X12_init_623 m0_ (s_iconst d_X12_init_624 n_m1 (s_stN d_X12_init_625 ka_66 rfl fun m152 => ?_)))))
  exact s_iinc (L' := [(1, aI (l1_613 + 1)), (0, aR (some (12, l0)))]) d_X12_init_626 m0_ (b8 rfl) rfl (s_goto (tgt := 613) d_X12_init_629 rfl (s_sub (subc m0_ (subc m1_ sub0)) (s_back (ih613 ((l1_613 + 1), m152)))))
