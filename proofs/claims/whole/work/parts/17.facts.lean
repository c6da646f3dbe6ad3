theorem tb_0 : ∀ w ∈ k2_sels lw_privs, w ∈ lw_tbl := fun w h => List.mem_append_left _ h
theorem tb_1 : ∀ w ∈ tables_1_1, w ∈ lw_tbl := fun w h => List.mem_append_right _ (List.mem_append_left _ h)
theorem tb_2 : ∀ w ∈ tables_1_2, w ∈ lw_tbl := fun w h => List.mem_append_right _ (List.mem_append_right _ (List.mem_append_left _ h))
theorem tb_3 : ∀ w ∈ tables_1_3, w ∈ lw_tbl := fun w h => List.mem_append_right _ (List.mem_append_right _ (List.mem_append_right _ (List.mem_append_left _ h)))
theorem tb_4 : ∀ w ∈ tables_1_4, w ∈ lw_tbl := fun w h => List.mem_append_right _ (List.mem_append_right _ (List.mem_append_right _ (List.mem_append_right _ (List.mem_append_left _ h))))
theorem tb_5 : ∀ w ∈ tables_1_5, w ∈ lw_tbl := fun w h => List.mem_append_right _ (List.mem_append_right _ (List.mem_append_right _ (List.mem_append_right _ (List.mem_append_right _ (List.mem_append_left _ h)))))
theorem tb_6 : ∀ w ∈ tables_1_6, w ∈ lw_tbl := fun w h => List.mem_append_right _ (List.mem_append_right _ (List.mem_append_right _ (List.mem_append_right _ (List.mem_append_right _ (List.mem_append_right _ (List.mem_append_left _ h))))))
theorem tb_7 : ∀ w ∈ tables_1_7, w ∈ lw_tbl := fun w h => List.mem_append_right _ (List.mem_append_right _ (List.mem_append_right _ (List.mem_append_right _ (List.mem_append_right _ (List.mem_append_right _ (List.mem_append_right _ (List.mem_append_left _ h)))))))
theorem tb_8 : ∀ w ∈ tables_1_8, w ∈ lw_tbl := fun w h => List.mem_append_right _ (List.mem_append_right _ (List.mem_append_right _ (List.mem_append_right _ (List.mem_append_right _ (List.mem_append_right _ (List.mem_append_right _ (List.mem_append_right _ (List.mem_append_left _ h))))))))
theorem tb_9 : ∀ w ∈ tables_1_9, w ∈ lw_tbl := fun w h => List.mem_append_right _ (List.mem_append_right _ (List.mem_append_right _ (List.mem_append_right _ (List.mem_append_right _ (List.mem_append_right _ (List.mem_append_right _ (List.mem_append_right _ (List.mem_append_right _ (h)))))))))
theorem gwt {l : List Cond} {w : Cond} (h : ∀ w ∈ l, w ∈ lw_tbl) (i : Nat) (e : l[i]? = some w) (g : goodWord w = true) : w ∈ GW := List.mem_filter.mpr ⟨h w (List.mem_of_getElem? e), g⟩
def me_X11_handAt : ME := (yX11_handAt, prog_1_method_49_code, 3, (some (.object "Leadchapel$Hand")), 7, 118, false, [])
def me_X11_pressAt : ME := (yX11_pressAt, prog_1_method_50_code, 2, (some (.object "Leadchapel$Press")), 7, 118, false, [])
def me_X11_requireArgument : ME := (yX11_requireArgument, prog_1_method_46_code, 1, none, 7, 118, false, [])
def me_X11_requireIndex : ME := (yX11_requireIndex, prog_1_method_45_code, 1, none, 7, 118, false, [])
def me_X11_account : ME := (yX11_account, prog_1_method_44_code, 4, (some .int), 8, 140, false, [])
def me_L_account : ME := (yL_account, method_42_code, 5, (some .int), 9, 163, false, [(0, 10, 13, 13), (0, 10, 17, 29)])
def me_X0_hasForme : ME := (yX0_hasForme, prog_2_method_6_code, 2, (some .boolean), 0, 0, false, [])
def me_X11_bookAt : ME := (yX11_bookAt, prog_1_method_48_code, 3, (some (.object "Leadchapel$Book")), 7, 118, false, [])
def me_X7_allAheadOf : ME := (yX7_allAheadOf, prog_9_method_6_code, 6, (some .int), 0, 0, false, [])
def me_X7_readPiece : ME := (yX7_readPiece, prog_9_method_3_code, 7, none, 0, 0, false, [])
def me_X7_readFormes : ME := (yX7_readFormes, prog_9_method_2_code, 4, none, 1, 26, false, [])
def me_X11_ahead : ME := (yX11_ahead, prog_1_method_40_code, 5, (some .int), 8, 140, false, [])
def me_L_ahead : ME := (yL_ahead, method_38_code, 6, (some .int), 9, 164, false, [(0, 12, 15, 29), (0, 12, 19, 13)])
def me_X0_hasCopy : ME := (yX0_hasCopy, prog_2_method_7_code, 2, (some .boolean), 0, 0, false, [])
def me_X0_formeOfPage : ME := (yX0_formeOfPage, prog_2_method_3_code, 3, (some .int), 0, 0, false, [])
def me_X0_formeNumber : ME := (yX0_formeNumber, prog_2_method_9_code, 2, (some .int), 1, 22, false, [])
def me_X2_stateOf : ME := (yX2_stateOf, prog_4_method_5_code, 4, (some .int), 0, 0, false, [])
def me_X8_stateOn : ME := (yX8_stateOn, prog_10_method_6_code, 3, (some .int), 1, 23, false, [])
def me_X0_stateIn : ME := (yX0_stateIn, prog_2_method_21_code, 4, (some .int), 2, 45, false, [])
def me_X0_hasSameStates : ME := (yX0_hasSameStates, prog_2_method_22_code, 4, (some .boolean), 3, 68, false, [])
def me_X11_requireState : ME := (yX11_requireState, prog_1_method_47_code, 1, none, 7, 118, false, [])
def me_X11_alike : ME := (yX11_alike, prog_1_method_35_code, 6, (some .int), 8, 140, false, [])
def me_L_alike : ME := (yL_alike, method_33_code, 5, (some .int), 9, 165, false, [(0, 10, 13, 29), (0, 10, 17, 15)])
def me_X0_gather : ME := (yX0_gather, prog_2_method_20_code, 3, none, 0, 0, false, [])
def me_X2_wasDone : ME := (yX2_wasDone, prog_4_method_2_code, 1, (some .boolean), 0, 0, false, [])
def me_X0_isPrinted : ME := (yX0_isPrinted, prog_2_method_19_code, 5, (some .boolean), 1, 20, false, [])
def me_X11_bind : ME := (yX11_bind, prog_1_method_29_code, 3, (some .int), 8, 140, false, [])
def me_L_bind : ME := (yL_bind, method_27_code, 4, (some .int), 9, 162, false, [(0, 9, 12, 29), (0, 9, 15, 15)])
def me_X0_placeInForme : ME := (yX0_placeInForme, prog_2_method_4_code, 2, (some .int), 0, 0, false, [])
def me_X0_pagesOf : ME := (yX0_pagesOf, prog_2_method_2_code, 5, (some (.array (.object "Leadchapel$Page"))), 1, 22, false, [])
def me_X2_init : ME := (yX2_init, prog_4_method_1_code, 3, none, 1, 20, true, [])
def me_X5_init : ME := (yX5_init, prog_7_method_1_code, 3, none, 1, 20, true, [])
def me_X4_init : ME := (yX4_init, prog_6_method_1_code, 4, none, 2, 42, true, [])
def me_X8_init : ME := (yX8_init, prog_10_method_1_code, 3, none, 1, 20, true, [])
def me_X9_init : ME := (yX9_init, prog_11_method_1_code, 1, none, 1, 20, true, [])
def me_X0_init : ME := (yX0_init, prog_2_method_1_code, 7, none, 3, 65, true, [])
def me_X11_book : ME := (yX11_book, prog_1_method_11_code, 6, (some .int), 8, 138, false, [])
def me_L_book : ME := (yL_book, method_10_code, 8, (some .int), 9, 163, false, [(0, 16, 19, 13), (0, 16, 23, 15)])
def me_X11_isSort : ME := (yX11_isSort, prog_1_method_58_code, 1, (some .boolean), 0, 0, false, [])
def me_X1_pieceUnder : ME := (yX1_pieceUnder, prog_3_method_6_code, 5, (some .int), 0, 0, false, [])
def me_X11_box : ME := (yX11_box, prog_1_method_9_code, 3, (some .int), 8, 138, false, [])
def me_L_box : ME := (yL_box, method_8_code, 5, (some .int), 9, 160, false, [(0, 10, 13, 13), (0, 10, 17, 29)])
def me_X0_hasLeaf : ME := (yX0_hasLeaf, prog_2_method_8_code, 2, (some .boolean), 0, 0, false, [])
def me_X11_cancel : ME := (yX11_cancel, prog_1_method_31_code, 7, (some .int), 8, 140, false, [])
def me_L_cancel : ME := (yL_cancel, method_29_code, 6, (some .int), 9, 166, false, [(0, 12, 15, 29), (0, 12, 19, 15)])
def me_X1_putOn : ME := (yX1_putOn, prog_3_method_4_code, 3, none, 0, 0, false, [])
def me_X1_add : ME := (yX1_add, prog_3_method_3_code, 2, none, 1, 22, false, [])
def me_X11_cast : ME := (yX11_cast, prog_1_method_6_code, 4, (some .int), 8, 138, false, [])
def me_L_cast : ME := (yL_cast, method_5_code, 5, (some .int), 9, 161, false, [(0, 10, 13, 13), (0, 10, 17, 15)])
def me_X4_isSet : ME := (yX4_isSet, prog_6_method_2_code, 1, (some .boolean), 0, 0, false, [])
def me_X0_firstWordOfPart : ME := (yX0_firstWordOfPart, prog_2_method_16_code, 2, (some .int), 1, 20, false, [])
def me_X0_hasSetPage : ME := (yX0_hasSetPage, prog_2_method_11_code, 5, (some .boolean), 1, 20, false, [])
def me_X11_letterAt : ME := (yX11_letterAt, prog_1_method_61_code, 3, (some .int), 0, 0, false, [])
def me_X11_letters : ME := (yX11_letters, prog_1_method_62_code, 4, (some .int), 1, 22, false, [])
def me_X0_partByUnits : ME := (yX0_partByUnits, prog_2_method_15_code, 6, none, 2, 45, false, [])
def me_X11_castOff : ME := (yX11_castOff, prog_1_method_14_code, 4, (some .int), 8, 140, false, [])
def me_L_castOff : ME := (yL_castOff, method_13_code, 5, (some .int), 9, 163, false, [(0, 10, 13, 29), (0, 10, 17, 13), (0, 10, 21, 15)])
def me_X0_hasPage : ME := (yX0_hasPage, prog_2_method_5_code, 2, (some .boolean), 0, 0, false, [])
def me_X4_signOf : ME := (yX4_signOf, prog_6_method_20_code, 2, (some .int), 0, 0, false, [])
def me_X4_wordBehindLine : ME := (yX4_wordBehindLine, prog_6_method_4_code, 2, (some .int), 0, 0, false, [])
def me_X5_printed : ME := (yX5_printed, prog_7_method_6_code, 3, (some .int), 0, 0, false, [])
def me_X4_printedSign : ME := (yX4_printedSign, prog_6_method_19_code, 10, (some .int), 1, 22, false, [])
def me_X11_character : ME := (yX11_character, prog_1_method_34_code, 7, (some .int), 8, 140, false, [])
def me_L_character : ME := (yL_character, method_32_code, 8, (some .int), 9, 166, false, [(0, 16, 19, 29), (0, 16, 23, 15)])
def me_X11_isLetter : ME := (yX11_isLetter, prog_1_method_59_code, 1, (some .boolean), 0, 0, false, [])
def me_X10_faultPlace : ME := (yX10_faultPlace, prog_12_method_3_code, 4, (some .int), 1, 20, false, [])
def me_X10_isText : ME := (yX10_isText, prog_12_method_4_code, 1, (some .boolean), 2, 43, false, [])
def me_X10_splitText : ME := (yX10_splitText, prog_12_method_5_code, 6, (some .int), 1, 20, false, [])
def me_X10_spellingOf : ME := (yX10_spellingOf, prog_12_method_8_code, 4, (some .int), 0, 0, false, [])
def me_X9_add : ME := (yX9_add, prog_11_method_2_code, 6, none, 1, 23, false, [])
def me_X11_copy : ME := (yX11_copy, prog_1_method_12_code, 5, (some .int), 8, 140, false, [])
def me_L_copy : ME := (yL_copy, method_11_code, 4, (some .int), 9, 164, false, [(0, 9, 12, 29), (0, 9, 15, 13), (0, 9, 18, 15)])
def me_X11_pageOf : ME := (yX11_pageOf, prog_1_method_51_code, 2, (some (.object "Leadchapel$Page")), 7, 118, false, [])
def me_X5_beginState : ME := (yX5_beginState, prog_7_method_3_code, 2, none, 1, 60, false, [])
def me_X2_beginStateIfPrinted : ME := (yX2_beginStateIfPrinted, prog_4_method_4_code, 5, none, 2, 81, false, [])
def me_X1_take : ME := (yX1_take, prog_3_method_5_code, 4, (some .int), 0, 0, false, [])
def me_X5_replace : ME := (yX5_replace, prog_7_method_4_code, 7, none, 1, 23, false, [])
def me_X11_correct : ME := (yX11_correct, prog_1_method_25_code, 7, (some .int), 8, 140, false, [])
def me_L_correct : ME := (yL_correct, method_23_code, 6, (some .int), 9, 166, false, [(0, 12, 15, 29), (0, 12, 19, 15)])
def me_X11_exchange : ME := (yX11_exchange, prog_1_method_30_code, 7, none, 8, 140, false, [])
def me_L_exchange : ME := (yL_exchange, method_28_code, 6, (some .int), 9, 166, false, [(0, 9, 12, 29), (0, 9, 16, 15)])
def me_X0_wordsOnPages : ME := (yX0_wordsOnPages, prog_2_method_12_code, 6, (some .int), 0, 0, false, [])
def me_X9_form : ME := (yX9_form, prog_11_method_4_code, 3, (some .long), 0, 0, false, [])
def me_X9_addPage : ME := (yX9_addPage, prog_11_method_3_code, 7, none, 2, 48, false, [])
def me_X11_follow : ME := (yX11_follow, prog_1_method_13_code, 9, (some .int), 8, 140, false, [])
def me_L_follow : ME := (yL_follow, method_12_code, 5, (some .int), 9, 168, false, [(0, 10, 13, 29), (0, 10, 17, 13), (0, 10, 21, 15)])
def me_X4_lastWord : ME := (yX4_lastWord, prog_6_method_5_code, 2, (some .int), 1, 21, false, [])
def me_X0_lastWordOfLine : ME := (yX0_lastWordOfLine, prog_2_method_14_code, 7, (some .int), 2, 42, false, [])
def me_X0_linesOnPages : ME := (yX0_linesOnPages, prog_2_method_13_code, 6, (some .int), 0, 0, false, [])
def me_X9_isLike : ME := (yX9_isLike, prog_11_method_6_code, 4, (some .boolean), 0, 0, false, [])
def me_X11_follows : ME := (yX11_follows, prog_1_method_43_code, 10, (some .int), 8, 140, false, [])
def me_L_follows : ME := (yL_follows, method_41_code, 5, (some .int), 9, 169, false, [(0, 10, 13, 29)])
def me_X11_formeOf : ME := (yX11_formeOf, prog_1_method_52_code, 2, (some (.object "Leadchapel$Forme")), 7, 118, false, [])
def me_X11_forme : ME := (yX11_forme, prog_1_method_24_code, 5, (some .int), 8, 140, false, [])
def me_L_forme : ME := (yL_forme, method_22_code, 6, (some .int), 9, 164, false, [(0, 12, 15, 29), (0, 12, 19, 13)])
def me_X3_init : ME := (yX3_init, prog_5_method_1_code, 4, none, 1, 20, true, [])
def me_X11_hand : ME := (yX11_hand, prog_1_method_10_code, 4, (some .int), 8, 138, false, [])
def me_L_hand : ME := (yL_hand, method_9_code, 6, (some .int), 9, 161, false, [(0, 12, 15, 13), (0, 12, 19, 15)])
def me_X7_canPart (d : Nat) : ME := (yX7_canPart, prog_9_method_10_code, 7, (some .boolean), d + 1, 26 * d + 21, false, [])
def me_X4_isLoose : ME := (yX4_isLoose, prog_6_method_6_code, 2, (some .boolean), 0, 0, false, [])
def me_X4_spellingsOf : ME := (yX4_spellingsOf, prog_6_method_7_code, 8, (some .int), 1, 21, false, [])
def me_X4_looseSpellings : ME := (yX4_looseSpellings, prog_6_method_8_code, 5, (some .int), 2, 48, false, [])
def me_X7_readPages : ME := (yX7_readPages, prog_9_method_9_code, 7, (some .int), 3, 72, false, [])
def me_J_bitCount : ME := (⟨"java/lang/Integer", "bitCount", "(I)I"⟩, prog_19_method_49_code, 1, (some .int), 0, 0, false, [])
def me_X7_tightPages : ME := (yX7_tightPages, prog_9_method_8_code, 6, (some .int), 1, 20, false, [])
def me_X7_fewestHands : ME := (yX7_fewestHands, prog_9_method_7_code, 4, (some .int), 20, 515, false, [])
def me_X11_hands : ME := (yX11_hands, prog_1_method_41_code, 2, (some .int), 21, 538, false, [])
def me_L_hands : ME := (yL_hands, method_39_code, 4, (some .int), 22, 559, false, [(0, 9, 12, 29)])
def me_X11_lay : ME := (yX11_lay, prog_1_method_28_code, 5, none, 8, 140, false, [])
def me_L_lay : ME := (yL_lay, method_26_code, 5, (some .int), 9, 164, false, [(0, 7, 10, 29), (0, 7, 14, 13), (0, 7, 18, 15)])
def me_X11_line : ME := (yX11_line, prog_1_method_17_code, 7, (some .int), 8, 140, false, [])
def me_L_line : ME := (yL_line, method_16_code, 7, (some .int), 9, 166, false, [(0, 14, 17, 29), (0, 14, 21, 13)])
def me_X0_holdsSkeleton : ME := (yX0_holdsSkeleton, prog_2_method_18_code, 6, (some .boolean), 0, 0, false, [])
def me_X11_isInUse : ME := (yX11_isInUse, prog_1_method_54_code, 6, (some .boolean), 1, 25, false, [])
def me_X2_allPagesSet : ME := (yX2_allPagesSet, prog_4_method_3_code, 5, (some .boolean), 1, 20, false, [])
def me_X11_lock : ME := (yX11_lock, prog_1_method_19_code, 5, none, 8, 140, false, [])
def me_L_lock : ME := (yL_lock, method_18_code, 5, (some .int), 9, 164, false, [(0, 7, 10, 29), (0, 7, 14, 13), (0, 7, 18, 15)])
def me_X0_isMixed : ME := (yX0_isMixed, prog_2_method_23_code, 6, (some .boolean), 0, 0, false, [])
def me_X11_madeUp : ME := (yX11_madeUp, prog_1_method_36_code, 6, (some .int), 8, 140, false, [])
def me_L_madeUp : ME := (yL_madeUp, method_34_code, 5, (some .int), 9, 165, false, [(0, 10, 13, 29), (0, 10, 17, 15)])
def me_X8_moldOf : ME := (yX8_moldOf, prog_10_method_5_code, 2, (some .int), 0, 0, false, [])
def me_X11_mark : ME := (yX11_mark, prog_1_method_33_code, 6, (some .int), 8, 140, false, [])
def me_L_mark : ME := (yL_mark, method_31_code, 6, (some .int), 9, 165, false, [(0, 12, 15, 29), (0, 12, 19, 15)])
def me_X11_men : ME := (yX11_men, prog_1_method_21_code, 5, (some .int), 8, 139, false, [])
def me_L_men : ME := (yL_men, method_20_code, 5, (some .int), 9, 163, false, [(0, 10, 13, 29), (0, 10, 17, 13)])
def me_X7_countByLast : ME := (yX7_countByLast, prog_9_method_4_code, 6, (some .int), 0, 0, false, [])
def me_X11_orders : ME := (yX11_orders, prog_1_method_38_code, 3, (some .int), 8, 140, false, [])
def me_L_orders : ME := (yL_orders, method_36_code, 4, (some .int), 9, 162, false, [(0, 9, 12, 29)])
def me_X7_countByPlace : ME := (yX7_countByPlace, prog_9_method_5_code, 6, (some .int), 0, 0, false, [])
def me_X11_ordersAnew : ME := (yX11_ordersAnew, prog_1_method_39_code, 3, (some .int), 8, 140, false, [])
def me_L_ordersAnew : ME := (yL_ordersAnew, method_37_code, 4, (some .int), 9, 162, false, [(0, 9, 12, 29)])
def me_X0_runningTitle : ME := (yX0_runningTitle, prog_2_method_10_code, 3, (some .int), 2, 43, false, [])
def me_X4_told : ME := (yX4_told, prog_6_method_3_code, 2, (some .int), 1, 20, false, [])
def me_X11_page : ME := (yX11_page, prog_1_method_16_code, 6, (some .int), 8, 140, false, [])
def me_L_page : ME := (yL_page, method_15_code, 6, (some .int), 9, 165, false, [(0, 12, 15, 29), (0, 12, 19, 13)])
def me_X11_paper : ME := (yX11_paper, prog_1_method_27_code, 2, (some .int), 8, 138, false, [])
def me_L_paper : ME := (yL_paper, method_25_code, 4, (some .int), 9, 159, false, [(0, 9, 12, 29)])
def me_X11_isHoliday : ME := (yX11_isHoliday, prog_1_method_56_code, 1, (some .boolean), 0, 0, false, [])
def me_X2_finish : ME := (yX2_finish, prog_4_method_6_code, 10, none, 0, 0, false, [])
def me_X6_work : ME := (yX6_work, prog_8_method_2_code, 4, (some .boolean), 1, 29, false, [])
def me_X11_workAnHour : ME := (yX11_workAnHour, prog_1_method_55_code, 6, (some .int), 2, 52, false, [])
def me_X11_pass : ME := (yX11_pass, prog_1_method_22_code, 4, (some .int), 8, 138, false, [])
def me_L_pass : ME := (yL_pass, method_21_code, 4, (some .int), 9, 161, false, [(0, 9, 12, 13), (0, 9, 15, 15)])
def me_X1_has : ME := (yX1_has, prog_3_method_2_code, 2, (some .boolean), 0, 0, false, [])
def me_X11_piece : ME := (yX11_piece, prog_1_method_8_code, 3, (some .int), 8, 138, false, [])
def me_L_piece : ME := (yL_piece, method_7_code, 5, (some .int), 9, 160, false, [(0, 10, 13, 29), (0, 10, 17, 13)])
def me_X11_place : ME := (yX11_place, prog_1_method_18_code, 6, (some .int), 8, 140, false, [])
def me_L_place : ME := (yL_place, method_17_code, 7, (some .int), 9, 165, false, [(0, 14, 17, 29), (0, 14, 21, 13)])
def me_X11_workingHoursAhead : ME := (yX11_workingHoursAhead, prog_1_method_57_code, 1, (some .int), 1, 21, false, [])
def me_X7_fewestPresses : ME := (yX7_fewestPresses, prog_9_method_11_code, 8, (some .int), 2, 41, false, [])
def me_X11_presses : ME := (yX11_presses, prog_1_method_42_code, 2, (some .int), 8, 140, false, [])
def me_L_presses : ME := (yL_presses, method_40_code, 4, (some .int), 9, 161, false, [(0, 9, 12, 29)])
def me_X8_isOnPress : ME := (yX8_isOnPress, prog_10_method_2_code, 1, (some .boolean), 0, 0, false, [])
def me_X8_isWhite : ME := (yX8_isWhite, prog_10_method_3_code, 1, (some .boolean), 0, 0, false, [])
def me_X8_takeHeap : ME := (yX8_takeHeap, prog_10_method_4_code, 4, none, 0, 0, false, [])
def me_X11_print : ME := (yX11_print, prog_1_method_20_code, 8, none, 8, 140, false, [])
def me_L_print : ME := (yL_print, method_19_code, 5, (some .int), 9, 167, false, [(0, 7, 10, 29), (0, 7, 14, 15)])
def me_X3_boxForNext : ME := (yX3_boxForNext, prog_5_method_4_code, 2, (some .int), 0, 0, false, [])
def me_X5_clear : ME := (yX5_clear, prog_7_method_5_code, 6, (some .int), 1, 22, false, [])
def me_X11_putAway : ME := (yX11_putAway, prog_1_method_26_code, 11, (some .int), 8, 140, false, [])
def me_L_putAway : ME := (yL_putAway, method_24_code, 6, (some .int), 9, 170, false, [(0, 12, 15, 29), (0, 12, 19, 15)])
def me_X0_wordBehindPart : ME := (yX0_wordBehindPart, prog_2_method_17_code, 2, (some .int), 0, 0, false, [])
def me_X9_growth : ME := (yX9_growth, prog_11_method_5_code, 2, (some .int), 2, 45, false, [])
def me_X4_fillOut : ME := (yX4_fillOut, prog_6_method_15_code, 7, none, 3, 66, false, [])
def me_X4_addWord : ME := (yX4_addWord, prog_6_method_13_code, 3, none, 0, 0, false, [])
def me_X3_skipsNow : ME := (yX3_skipsNow, prog_5_method_3_code, 1, (some .boolean), 0, 0, false, [])
def me_X9_sameSoon : ME := (yX9_sameSoon, prog_11_method_7_code, 4, (some .int), 0, 0, false, [])
def me_X4_goOnBehind : ME := (yX4_goOnBehind, prog_6_method_14_code, 6, none, 1, 23, false, [])
def me_X3_likesLong : ME := (yX3_likesLong, prog_5_method_2_code, 2, (some .boolean), 0, 0, false, [])
def me_X4_prefersLong : ME := (yX4_prefersLong, prog_6_method_12_code, 5, (some .boolean), 2, 45, false, [])
def me_X4_takeLine : ME := (yX4_takeLine, prog_6_method_11_code, 11, none, 3, 69, false, [])
def me_X4_takeLines : ME := (yX4_takeLines, prog_6_method_10_code, 6, none, 4, 99, false, [])
def me_X4_compose : ME := (yX4_compose, prog_6_method_9_code, 8, none, 5, 124, false, [])
def me_X4_joined : ME := (yX4_joined, prog_6_method_18_code, 2, (some .int), 0, 0, false, [])
def me_X1_turnedBox : ME := (yX1_turnedBox, prog_3_method_7_code, 1, (some .int), 0, 0, false, [])
def me_X5_fillNext : ME := (yX5_fillNext, prog_7_method_2_code, 9, (some .boolean), 1, 23, false, [])
def me_X4_fillWord : ME := (yX4_fillWord, prog_6_method_17_code, 11, (some .int), 2, 51, false, [])
def me_X4_fillPlaces : ME := (yX4_fillPlaces, prog_6_method_16_code, 6, (some .int), 3, 81, false, [])
def me_X11_set : ME := (yX11_set, prog_1_method_15_code, 9, (some .int), 8, 151, false, [])
def me_L_set : ME := (yL_set, method_14_code, 6, (some .int), 9, 179, false, [(0, 12, 15, 29), (0, 12, 19, 15)])
def me_X11_shared : ME := (yX11_shared, prog_1_method_37_code, 9, (some .int), 8, 140, false, [])
def me_L_shared : ME := (yL_shared, method_35_code, 6, (some .int), 9, 168, false, [(0, 12, 15, 29), (0, 12, 19, 13)])
def me_X10_addSpelling : ME := (yX10_addSpelling, prog_12_method_7_code, 5, (some .int), 0, 0, false, [])
def me_X10_isPair : ME := (yX10_isPair, prog_12_method_6_code, 1, (some .boolean), 3, 63, false, [])
def me_X11_someBookHasCopy : ME := (yX11_someBookHasCopy, prog_1_method_53_code, 5, (some .boolean), 0, 0, false, [])
def me_X11_spelling : ME := (yX11_spelling, prog_1_method_5_code, 6, (some .int), 8, 138, false, [])
def me_L_spelling : ME := (yL_spelling, method_4_code, 3, (some .int), 9, 163, false, [(0, 8, 11, 13), (0, 8, 14, 15)])
def me_X11_state : ME := (yX11_state, prog_1_method_32_code, 5, (some .int), 8, 140, false, [])
def me_L_state : ME := (yL_state, method_30_code, 6, (some .int), 9, 164, false, [(0, 12, 15, 29), (0, 12, 19, 15)])
def me_X10_add : ME := (yX10_add, prog_12_method_2_code, 2, none, 0, 0, false, [])
def me_X11_isSign : ME := (yX11_isSign, prog_1_method_60_code, 1, (some .boolean), 1, 20, false, [])
def me_X11_type : ME := (yX11_type, prog_1_method_2_code, 5, (some .int), 8, 138, false, [])
def me_L_type : ME := (yL_type, method_3_code, 6, (some .int), 9, 162, false, [(0, 11, 14, 13), (0, 11, 18, 15)])
def me_X11_wear : ME := (yX11_wear, prog_1_method_7_code, 2, (some .int), 8, 138, false, [])
def me_L_wear : ME := (yL_wear, method_6_code, 4, (some .int), 9, 159, false, [(0, 9, 12, 29), (0, 9, 15, 15)])
def me_X11_fault : ME := (yX11_fault, prog_1_method_4_code, 1, (some .int), 2, 43, false, [])
def me_X11_hour : ME := (yX11_hour, prog_1_method_23_code, 1, (some .int), 0, 0, false, [])
def me_X10_init : ME := (yX10_init, prog_12_method_1_code, 1, none, 1, 20, true, [])
def me_X1_init : ME := (yX1_init, prog_3_method_1_code, 2, none, 1, 20, true, [])
def me_X6_init : ME := (yX6_init, prog_8_method_1_code, 1, none, 1, 20, true, [])
def me_X7_init : ME := (yX7_init, prog_9_method_1_code, 1, none, 1, 20, true, [])
def me_X11_init : ME := (yX11_init, prog_1_method_1_code, 2, none, 2, 41, true, [])
def me_X11_wipe : ME := (yX11_wipe, prog_1_method_3_code, 2, (some .int), 0, 0, false, [])
def me_X12_holds : ME := (yX12_holds, prog_14_method_3_code, 2, (some .boolean), 0, 0, false, [])
def me_X12_isIn : ME := (yX12_isIn, prog_14_method_4_code, 3, (some .boolean), 0, 0, false, [])
def me_X12_isHand : ME := (yX12_isHand, prog_14_method_9_code, 2, (some .boolean), 1, 22, false, [])
def me_X12_account : ME := (yX12_account, prog_14_method_99_code, 5, (some .int), 2, 43, false, [])
def me_X12_formeOf : ME := (yX12_formeOf, prog_14_method_12_code, 4, (some .int), 0, 0, false, [])
def me_X12_pagesOf : ME := (yX12_pagesOf, prog_14_method_6_code, 2, (some .int), 0, 0, false, [])
def me_X12_seenIn : ME := (yX12_seenIn, prog_14_method_84_code, 7, (some .int), 1, 23, false, [])
def me_X12_findSure : ME := (yX12_findSure, prog_14_method_86_code, 7, none, 2, 49, false, [])
def me_X12_isBook : ME := (yX12_isBook, prog_14_method_5_code, 2, (some .boolean), 1, 22, false, [])
def me_X12_isForme : ME := (yX12_isForme, prog_14_method_8_code, 3, (some .boolean), 2, 43, false, [])
def me_X12_ahead : ME := (yX12_ahead, prog_14_method_90_code, 8, (some .int), 3, 75, false, [])
def me_X12_isCopy : ME := (yX12_isCopy, prog_14_method_10_code, 3, (some .boolean), 2, 43, false, [])
def me_X12_leafAt : ME := (yX12_leafAt, prog_14_method_73_code, 3, (some .int), 0, 0, false, [])
def me_X12_stateIn : ME := (yX12_stateIn, prog_14_method_77_code, 9, (some .int), 1, 23, false, [])
def me_X12_alike : ME := (yX12_alike, prog_14_method_82_code, 7, (some .int), 3, 65, false, [])
def me_X12_bind : ME := (yX12_bind, prog_14_method_74_code, 6, (some .int), 2, 43, false, [])
def me_X12_book : ME := (yX12_book, prog_14_method_33_code, 8, (some .int), 1, 22, false, [])
def me_X12_box : ME := (yX12_box, prog_14_method_31_code, 5, (some .int), 1, 22, false, [])
def me_X12_isLeaf : ME := (yX12_isLeaf, prog_14_method_11_code, 3, (some .boolean), 2, 43, false, [])
def me_X12_cancel : ME := (yX12_cancel, prog_14_method_76_code, 7, (some .int), 3, 65, false, [])
def me_X12_puts : ME := (yX12_puts, prog_14_method_26_code, 3, none, 0, 0, false, [])
def me_X12_cast : ME := (yX12_cast, prog_14_method_28_code, 4, (some .int), 1, 22, false, [])
def me_X12_letters : ME := (yX12_letters, prog_14_method_13_code, 3, (some .int), 0, 0, false, [])
def me_X12_castFrom : ME := (yX12_castFrom, prog_14_method_38_code, 6, (some .int), 1, 22, false, [])
def me_X12_hasSet : ME := (yX12_hasSet, prog_14_method_34_code, 4, (some .boolean), 1, 21, false, [])
def me_X12_castOff : ME := (yX12_castOff, prog_14_method_39_code, 5, (some .int), 2, 47, false, [])
def me_X12_glyphIn : ME := (yX12_glyphIn, prog_14_method_80_code, 5, (some .int), 0, 0, false, [])
def me_X12_isPage : ME := (yX12_isPage, prog_14_method_7_code, 3, (some .boolean), 2, 43, false, [])
def me_X12_character : ME := (yX12_character, prog_14_method_81_code, 16, (some .int), 3, 65, false, [])
def me_X12_tapeFrom : ME := (yX12_tapeFrom, prog_14_method_21_code, 4, (some .int), 1, 22, false, [])
def me_X12_tapeEnds : ME := (yX12_tapeEnds, prog_14_method_23_code, 3, (some .boolean), 2, 45, false, [])
def me_X12_tapeFault : ME := (yX12_tapeFault, prog_14_method_18_code, 4, (some .int), 1, 22, false, [])
def me_X12_tapeWord : ME := (yX12_tapeWord, prog_14_method_22_code, 6, (some .long), 2, 45, false, [])
def me_X12_tapeWords : ME := (yX12_tapeWords, prog_14_method_20_code, 3, (some .int), 1, 22, false, [])
def me_X12_copy : ME := (yX12_copy, prog_14_method_35_code, 7, (some .int), 3, 70, false, [])
def me_X12_turnedOf : ME := (yX12_turnedOf, prog_14_method_47_code, 3, (some .int), 0, 0, false, [])
def me_X12_printOf : ME := (yX12_printOf, prog_14_method_48_code, 4, (some .int), 1, 22, false, [])
def me_X12_takes : ME := (yX12_takes, prog_14_method_27_code, 3, (some .int), 0, 0, false, [])
def me_X12_correct : ME := (yX12_correct, prog_14_method_69_code, 10, (some .int), 3, 65, false, [])
def me_X12_exchange : ME := (yX12_exchange, prog_14_method_75_code, 7, none, 3, 65, false, [])
def me_X12_fault : ME := (yX12_fault, prog_14_method_19_code, 1, (some .int), 2, 45, false, [])
def me_X12_wordsOn : ME := (yX12_wordsOn, prog_14_method_36_code, 4, (some .int), 1, 21, false, [])
def me_X12_follow : ME := (yX12_follow, prog_14_method_37_code, 10, (some .int), 2, 44, false, [])
def me_X12_lastWord : ME := (yX12_lastWord, prog_14_method_97_code, 7, (some .int), 1, 21, false, [])
def me_X12_spellingOf : ME := (yX12_spellingOf, prog_14_method_15_code, 4, (some .int), 0, 0, false, [])
def me_X12_follows : ME := (yX12_follows, prog_14_method_98_code, 9, (some .int), 2, 47, false, [])
def me_X12_stateMany : ME := (yX12_stateMany, prog_14_method_68_code, 2, (some .int), 0, 0, false, [])
def me_X12_forme : ME := (yX12_forme, prog_14_method_67_code, 5, (some .int), 3, 65, false, [])
def me_X12_hand : ME := (yX12_hand, prog_14_method_32_code, 5, (some .int), 1, 22, false, [])
def me_X12_canPart : ME := (yX12_canPart, prog_14_method_94_code, 7, (some .boolean), 0, 0, false, [])
def me_X12_formsIn : ME := (yX12_formsIn, prog_14_method_54_code, 8, (some .int), 1, 23, false, [])
def me_X12_looseIn : ME := (yX12_looseIn, prog_14_method_91_code, 6, (some .int), 2, 50, false, [])
def me_X12_isUnlike : ME := (yX12_isUnlike, prog_14_method_92_code, 3, (some .boolean), 3, 75, false, [])
def me_X12_findUnlike : ME := (yX12_findUnlike, prog_14_method_93_code, 4, none, 4, 97, false, [])
def me_X12_hands : ME := (yX12_hands, prog_14_method_95_code, 3, (some .int), 5, 120, false, [])
def me_X12_hour : ME := (yX12_hour, prog_14_method_66_code, 1, (some .int), 0, 0, false, [])
def me_X12_init : ME := (yX12_init, prog_14_method_1_code, 2, none, 1, 20, true, [])
def me_X12_lay : ME := (yX12_lay, prog_14_method_72_code, 5, none, 2, 43, false, [])
def me_X12_line : ME := (yX12_line, prog_14_method_55_code, 7, (some .int), 3, 65, false, [])
def me_X12_isUsed : ME := (yX12_isUsed, prog_14_method_58_code, 4, (some .boolean), 1, 22, false, [])
def me_X12_isWhole : ME := (yX12_isWhole, prog_14_method_57_code, 5, (some .boolean), 1, 23, false, [])
def me_X12_lock : ME := (yX12_lock, prog_14_method_59_code, 8, none, 3, 65, false, [])
def me_X12_madeUp : ME := (yX12_madeUp, prog_14_method_83_code, 9, (some .int), 3, 65, false, [])
def me_X12_mark : ME := (yX12_mark, prog_14_method_79_code, 7, (some .int), 3, 65, false, [])
def me_X12_men : ME := (yX12_men, prog_14_method_61_code, 4, (some .int), 1, 22, false, [])
def me_X12_ordersOf : ME := (yX12_ordersOf, prog_14_method_87_code, 6, (some .int), 3, 75, false, [])
def me_X12_orders : ME := (yX12_orders, prog_14_method_88_code, 2, (some .int), 4, 100, false, [])
def me_X12_ordersAnew : ME := (yX12_ordersAnew, prog_14_method_89_code, 2, (some .int), 5, 121, false, [])
def me_X12_placeInForme : ME := (yX12_placeInForme, prog_14_method_53_code, 5, (some .int), 1, 23, false, [])
def me_X12_page : ME := (yX12_page, prog_14_method_52_code, 6, (some .int), 3, 65, false, [])
def me_X12_paper : ME := (yX12_paper, prog_14_method_71_code, 2, (some .int), 1, 22, false, [])
def me_X12_isHoliday : ME := (yX12_isHoliday, prog_14_method_62_code, 1, (some .boolean), 0, 0, false, [])
def me_X12_keeps : ME := (yX12_keeps, prog_14_method_64_code, 6, none, 1, 23, false, [])
def me_X12_works : ME := (yX12_works, prog_14_method_63_code, 6, (some .int), 2, 48, false, [])
def me_X12_pass : ME := (yX12_pass, prog_14_method_65_code, 5, (some .int), 3, 73, false, [])
def me_X12_piece : ME := (yX12_piece, prog_14_method_30_code, 3, (some .int), 1, 22, false, [])
def me_X12_place : ME := (yX12_place, prog_14_method_56_code, 7, (some .int), 3, 65, false, [])
def me_X12_presses : ME := (yX12_presses, prog_14_method_96_code, 7, (some .int), 2, 43, false, [])
def me_X12_print : ME := (yX12_print, prog_14_method_60_code, 7, none, 3, 65, false, [])
def me_X12_putAway : ME := (yX12_putAway, prog_14_method_70_code, 11, (some .int), 3, 65, false, [])
def me_X12_fillsOut : ME := (yX12_fillsOut, prog_14_method_46_code, 9, none, 1, 23, false, [])
def me_X12_fills : ME := (yX12_fills, prog_14_method_49_code, 7, (some .int), 2, 45, false, [])
def me_X12_letter : ME := (yX12_letter, prog_14_method_14_code, 3, (some .int), 0, 0, false, [])
def me_X12_fillsPlaces : ME := (yX12_fillsPlaces, prog_14_method_50_code, 13, (some .int), 3, 71, false, [])
def me_X12_hasPart : ME := (yX12_hasPart, prog_14_method_40_code, 3, (some .boolean), 0, 0, false, [])
def me_X12_formOf : ME := (yX12_formOf, prog_14_method_44_code, 8, (some .long), 1, 23, false, [])
def me_X12_sameBehind : ME := (yX12_sameBehind, prog_14_method_43_code, 5, (some .int), 0, 0, false, [])
def me_X12_laysLines : ME := (yX12_laysLines, prog_14_method_45_code, 17, (some .int), 2, 50, false, [])
def me_X12_partFrom : ME := (yX12_partFrom, prog_14_method_41_code, 3, (some .int), 2, 47, false, [])
def me_X12_partTo : ME := (yX12_partTo, prog_14_method_42_code, 3, (some .int), 2, 47, false, [])
def me_X12_set : ME := (yX12_set, prog_14_method_51_code, 12, (some .int), 4, 103, false, [])
def me_X12_shared : ME := (yX12_shared, prog_14_method_85_code, 8, (some .int), 3, 65, false, [])
def me_X12_isSpelling : ME := (yX12_isSpelling, prog_14_method_24_code, 2, (some .boolean), 3, 70, false, [])
def me_X12_spelling : ME := (yX12_spelling, prog_14_method_25_code, 3, (some .int), 4, 91, false, [])
def me_X12_state : ME := (yX12_state, prog_14_method_78_code, 5, (some .int), 3, 65, false, [])
def me_X12_thrown : ME := (yX12_thrown, prog_14_method_2_code, 1, (some .int), 0, 0, false, [])
def me_X12_type : ME := (yX12_type, prog_14_method_16_code, 7, (some .int), 1, 22, false, [])
def me_X12_wear : ME := (yX12_wear, prog_14_method_29_code, 3, (some .int), 1, 22, false, [])
def me_X12_wipe : ME := (yX12_wipe, prog_14_method_17_code, 2, (some .int), 0, 0, false, [])
def me_L_law : ME := (yL_law, code, 5, (some .boolean), 23, 582, false, [])
theorem w_224 : Cond.fieldLink "Leadchapel" 25 "Leadchapel" "staff" "[LLeadchapel$Hand;" ∈ GW := gwt tb_1 159 rfl rfl
theorem w_454 : Cond.classLink "Leadchapel" 446 "java/lang/IndexOutOfBoundsException" ∈ GW := gwt tb_2 149 rfl rfl
theorem w_226 : Cond.fieldLink "Leadchapel" 37 "Leadchapel" "pressRoom" "[LLeadchapel$Press;" ∈ GW := gwt tb_1 161 rfl rfl
theorem w_287 : Cond.classLink "Leadchapel" 453 "java/lang/IllegalArgumentException" ∈ GW := gwt tb_1 222 rfl rfl
theorem w_286 : Cond.code yX11_requireArgument prog_1_method_46_code 1 (Option.none : Option Jvm.ClassFile.FieldType) ∈ GW := gwt tb_1 221 rfl rfl
theorem w_66 : Cond.initialized "Leadchapel" ∈ GW := gwt tb_1 1 rfl rfl
theorem w_285 : Cond.static yX11_requireArgument ∈ GW := gwt tb_1 220 rfl rfl
theorem w_284 : Cond.methodLink "Leadchapel" 53 yX11_requireArgument ∈ GW := gwt tb_1 219 rfl rfl
theorem w_895 : Cond.code yX11_handAt prog_1_method_49_code 3 (Option.some (Jvm.ClassFile.FieldType.object "Leadchapel$Hand")) ∈ GW := gwt tb_4 110 rfl rfl
theorem w_894 : Cond.instanceMethod yX11_handAt ∈ GW := gwt tb_4 109 rfl rfl
theorem w_3 : Cond.selects "Leadchapel" yX11_handAt yX11_handAt ∈ GW := gwt tb_0 3 rfl rfl
theorem w_892 : Cond.methodLink "Leadchapel" 196 yX11_handAt ∈ GW := gwt tb_4 107 rfl rfl
theorem w_507 : Cond.fieldLink "Leadchapel" 443 "Leadchapel$Hand" "away" "I" ∈ GW := gwt tb_2 202 rfl rfl
theorem w_505 : Cond.fieldLink "Leadchapel" 219 "Leadchapel$Hand" "taken" "I" ∈ GW := gwt tb_2 200 rfl rfl
theorem w_1056 : Cond.code yX11_pressAt prog_1_method_50_code 2 (Option.some (Jvm.ClassFile.FieldType.object "Leadchapel$Press")) ∈ GW := gwt tb_5 31 rfl rfl
theorem w_1055 : Cond.instanceMethod yX11_pressAt ∈ GW := gwt tb_5 30 rfl rfl
theorem w_12 : Cond.selects "Leadchapel" yX11_pressAt yX11_pressAt ∈ GW := gwt tb_0 12 rfl rfl
theorem w_1053 : Cond.methodLink "Leadchapel" 287 yX11_pressAt ∈ GW := gwt tb_5 28 rfl rfl
theorem w_187 : Cond.fieldLink "Leadchapel" 440 "Leadchapel$Press" "hoursWorked" "I" ∈ GW := gwt tb_1 122 rfl rfl
theorem w_185 : Cond.fieldLink "Leadchapel" 438 "Leadchapel$Press" "sheets" "I" ∈ GW := gwt tb_1 120 rfl rfl
theorem w_453 : Cond.code yX11_requireIndex prog_1_method_45_code 1 (Option.none : Option Jvm.ClassFile.FieldType) ∈ GW := gwt tb_2 148 rfl rfl
theorem w_452 : Cond.static yX11_requireIndex ∈ GW := gwt tb_2 147 rfl rfl
theorem w_451 : Cond.methodLink "Leadchapel" 115 yX11_requireIndex ∈ GW := gwt tb_2 146 rfl rfl
theorem w_227 : Cond.fieldLink "Leadchapel" 42 "Leadchapel" "sheetsTaken" "[I" ∈ GW := gwt tb_1 162 rfl rfl
theorem w_1402 : Cond.code yX11_account prog_1_method_44_code 4 (Option.some Jvm.ClassFile.FieldType.int) ∈ GW := gwt tb_6 137 rfl rfl
theorem w_1400 : Cond.instanceMethod yX11_account ∈ GW := gwt tb_6 135 rfl rfl
theorem w_1401 : Cond.selects "Leadchapel" yX11_account yX11_account ∈ GW := gwt tb_6 136 rfl rfl
theorem w_1399 : Cond.methodLink "LeadchapelLaw" 141 yX11_account ∈ GW := gwt tb_6 134 rfl rfl
theorem w_770 : Cond.fieldLink "Leadchapel$Book" 42 "Leadchapel$Book" "formes" "[LLeadchapel$Forme;" ∈ GW := gwt tb_3 225 rfl rfl
theorem w_225 : Cond.fieldLink "Leadchapel" 31 "Leadchapel" "shelf" "[LLeadchapel$Book;" ∈ GW := gwt tb_1 160 rfl rfl
theorem w_203 : Cond.fieldLink "Leadchapel$Scholar" 9 "Leadchapel$Scholar" "surelyAhead" "[I" ∈ GW := gwt tb_1 138 rfl rfl
theorem w_771 : Cond.fieldLink "Leadchapel$Scholar" 30 "Leadchapel$Book" "formes" "[LLeadchapel$Forme;" ∈ GW := gwt tb_3 226 rfl rfl
theorem w_685 : Cond.fieldLink "Leadchapel$Scholar" 49 "Leadchapel$Forme" "seen" "[I" ∈ GW := gwt tb_3 140 rfl rfl
theorem w_154 : Cond.fieldLink "Leadchapel$Scholar" 36 "Leadchapel$Cases" "count" "I" ∈ GW := gwt tb_1 89 rfl rfl
theorem w_143 : Cond.fieldLink "Leadchapel$Scholar" 42 "Leadchapel$Cases" "worn" "[I" ∈ GW := gwt tb_1 78 rfl rfl
theorem w_1294 : Cond.code yX7_readPiece prog_9_method_3_code 7 (Option.none : Option Jvm.ClassFile.FieldType) ∈ GW := gwt tb_6 29 rfl rfl
theorem w_70 : Cond.initialized "Leadchapel$Scholar" ∈ GW := gwt tb_1 5 rfl rfl
theorem w_1293 : Cond.instanceMethod yX7_readPiece ∈ GW := gwt tb_6 28 rfl rfl
theorem w_14 : Cond.selects "Leadchapel$Scholar" yX7_readPiece yX7_readPiece ∈ GW := gwt tb_0 14 rfl rfl
theorem w_1291 : Cond.methodLink "Leadchapel$Scholar" 45 yX7_readPiece ∈ GW := gwt tb_6 26 rfl rfl
theorem w_817 : Cond.code yX11_bookAt prog_1_method_48_code 3 (Option.some (Jvm.ClassFile.FieldType.object "Leadchapel$Book")) ∈ GW := gwt tb_4 32 rfl rfl
theorem w_816 : Cond.instanceMethod yX11_bookAt ∈ GW := gwt tb_4 31 rfl rfl
theorem w_2 : Cond.selects "Leadchapel" yX11_bookAt yX11_bookAt ∈ GW := gwt tb_0 2 rfl rfl
theorem w_814 : Cond.methodLink "Leadchapel" 143 yX11_bookAt ∈ GW := gwt tb_4 29 rfl rfl
theorem w_1031 : Cond.code yX0_hasForme prog_2_method_6_code 2 (Option.some Jvm.ClassFile.FieldType.boolean) ∈ GW := gwt tb_5 6 rfl rfl
theorem w_79 : Cond.initialized "Leadchapel$Book" ∈ GW := gwt tb_1 14 rfl rfl
theorem w_1029 : Cond.instanceMethod yX0_hasForme ∈ GW := gwt tb_5 4 rfl rfl
theorem w_1030 : Cond.selects "Leadchapel$Book" yX0_hasForme yX0_hasForme ∈ GW := gwt tb_5 5 rfl rfl
theorem w_1028 : Cond.methodLink "Leadchapel" 415 yX0_hasForme ∈ GW := gwt tb_5 3 rfl rfl
theorem w_228 : Cond.fieldLink "Leadchapel" 49 "Leadchapel" "scholar" "LLeadchapel$Scholar;" ∈ GW := gwt tb_1 163 rfl rfl
theorem w_223 : Cond.fieldLink "Leadchapel" 19 "Leadchapel" "cases" "LLeadchapel$Cases;" ∈ GW := gwt tb_1 158 rfl rfl
theorem w_1290 : Cond.code yX7_readFormes prog_9_method_2_code 4 (Option.none : Option Jvm.ClassFile.FieldType) ∈ GW := gwt tb_6 25 rfl rfl
theorem w_1288 : Cond.instanceMethod yX7_readFormes ∈ GW := gwt tb_6 23 rfl rfl
theorem w_1289 : Cond.selects "Leadchapel$Scholar" yX7_readFormes yX7_readFormes ∈ GW := gwt tb_6 24 rfl rfl
theorem w_1287 : Cond.methodLink "Leadchapel" 405 yX7_readFormes ∈ GW := gwt tb_6 22 rfl rfl
theorem w_772 : Cond.fieldLink "Leadchapel" 338 "Leadchapel$Book" "formes" "[LLeadchapel$Forme;" ∈ GW := gwt tb_3 227 rfl rfl
theorem w_1320 : Cond.code yX7_allAheadOf prog_9_method_6_code 6 (Option.some Jvm.ClassFile.FieldType.int) ∈ GW := gwt tb_6 55 rfl rfl
theorem w_1318 : Cond.instanceMethod yX7_allAheadOf ∈ GW := gwt tb_6 53 rfl rfl
theorem w_1319 : Cond.selects "Leadchapel$Scholar" yX7_allAheadOf yX7_allAheadOf ∈ GW := gwt tb_6 54 rfl rfl
theorem w_1317 : Cond.methodLink "Leadchapel" 418 yX7_allAheadOf ∈ GW := gwt tb_6 52 rfl rfl
theorem w_1316 : Cond.code yX11_ahead prog_1_method_40_code 5 (Option.some Jvm.ClassFile.FieldType.int) ∈ GW := gwt tb_6 51 rfl rfl
theorem w_1314 : Cond.instanceMethod yX11_ahead ∈ GW := gwt tb_6 49 rfl rfl
theorem w_1315 : Cond.selects "Leadchapel" yX11_ahead yX11_ahead ∈ GW := gwt tb_6 50 rfl rfl
theorem w_1313 : Cond.methodLink "LeadchapelLaw" 129 yX11_ahead ∈ GW := gwt tb_6 48 rfl rfl
theorem w_761 : Cond.fieldLink "Leadchapel$Book" 28 "Leadchapel$Book" "edition" "I" ∈ GW := gwt tb_3 216 rfl rfl
theorem w_757 : Cond.fieldLink "Leadchapel$Book" 18 "Leadchapel$Book" "format" "I" ∈ GW := gwt tb_3 212 rfl rfl
theorem w_670 : Cond.code yX0_formeOfPage prog_2_method_3_code 3 (Option.some Jvm.ClassFile.FieldType.int) ∈ GW := gwt tb_3 125 rfl rfl
theorem w_669 : Cond.static yX0_formeOfPage ∈ GW := gwt tb_3 124 rfl rfl
theorem w_668 : Cond.methodLink "Leadchapel$Book" 71 yX0_formeOfPage ∈ GW := gwt tb_3 123 rfl rfl
theorem w_697 : Cond.fieldLink "Leadchapel$Forme" 22 "Leadchapel$Forme" "states" "I" ∈ GW := gwt tb_3 152 rfl rfl
theorem w_683 : Cond.fieldLink "Leadchapel$Forme" 38 "Leadchapel$Forme" "stateBegins" "[I" ∈ GW := gwt tb_3 138 rfl rfl
theorem w_738 : Cond.fieldLink "Leadchapel$Sheet" 24 "Leadchapel$Sheet" "printedFirst" "LLeadchapel$Forme;" ∈ GW := gwt tb_3 193 rfl rfl
theorem w_682 : Cond.fieldLink "Leadchapel$Sheet" 33 "Leadchapel$Forme" "edition" "I" ∈ GW := gwt tb_3 137 rfl rfl
theorem w_1220 : Cond.code yX2_stateOf prog_4_method_5_code 4 (Option.some Jvm.ClassFile.FieldType.int) ∈ GW := gwt tb_5 195 rfl rfl
theorem w_83 : Cond.initialized "Leadchapel$Forme" ∈ GW := gwt tb_1 18 rfl rfl
theorem w_1218 : Cond.instanceMethod yX2_stateOf ∈ GW := gwt tb_5 193 rfl rfl
theorem w_1219 : Cond.selects "Leadchapel$Forme" yX2_stateOf yX2_stateOf ∈ GW := gwt tb_5 194 rfl rfl
theorem w_1217 : Cond.methodLink "Leadchapel$Sheet" 36 yX2_stateOf ∈ GW := gwt tb_5 192 rfl rfl
theorem w_776 : Cond.fieldLink "Leadchapel$Book" 68 "Leadchapel$Book" "leaves" "[[I" ∈ GW := gwt tb_3 231 rfl rfl
theorem w_773 : Cond.fieldLink "Leadchapel$Book" 55 "Leadchapel$Book" "sheets" "[LLeadchapel$Sheet;" ∈ GW := gwt tb_3 228 rfl rfl
theorem w_983 : Cond.code yX0_formeNumber prog_2_method_9_code 2 (Option.some Jvm.ClassFile.FieldType.int) ∈ GW := gwt tb_4 198 rfl rfl
theorem w_981 : Cond.instanceMethod yX0_formeNumber ∈ GW := gwt tb_4 196 rfl rfl
theorem w_982 : Cond.selects "Leadchapel$Book" yX0_formeNumber yX0_formeNumber ∈ GW := gwt tb_4 197 rfl rfl
theorem w_988 : Cond.methodLink "Leadchapel$Book" 78 yX0_formeNumber ∈ GW := gwt tb_4 203 rfl rfl
theorem w_1216 : Cond.code yX8_stateOn prog_10_method_6_code 3 (Option.some Jvm.ClassFile.FieldType.int) ∈ GW := gwt tb_5 191 rfl rfl
theorem w_84 : Cond.initialized "Leadchapel$Sheet" ∈ GW := gwt tb_1 19 rfl rfl
theorem w_1214 : Cond.instanceMethod yX8_stateOn ∈ GW := gwt tb_5 189 rfl rfl
theorem w_1215 : Cond.selects "Leadchapel$Sheet" yX8_stateOn yX8_stateOn ∈ GW := gwt tb_5 190 rfl rfl
theorem w_1213 : Cond.methodLink "Leadchapel$Book" 133 yX8_stateOn ∈ GW := gwt tb_5 188 rfl rfl
theorem w_767 : Cond.fieldLink "Leadchapel$Book" 33 "Leadchapel$Book" "pages" "[LLeadchapel$Page;" ∈ GW := gwt tb_3 222 rfl rfl
theorem w_1212 : Cond.code yX0_stateIn prog_2_method_21_code 4 (Option.some Jvm.ClassFile.FieldType.int) ∈ GW := gwt tb_5 187 rfl rfl
theorem w_1210 : Cond.instanceMethod yX0_stateIn ∈ GW := gwt tb_5 185 rfl rfl
theorem w_1211 : Cond.selects "Leadchapel$Book" yX0_stateIn yX0_stateIn ∈ GW := gwt tb_5 186 rfl rfl
theorem w_1261 : Cond.methodLink "Leadchapel$Book" 137 yX0_stateIn ∈ GW := gwt tb_5 236 rfl rfl
theorem w_366 : Cond.classLink "Leadchapel" 458 "java/lang/IllegalStateException" ∈ GW := gwt tb_2 61 rfl rfl
theorem w_1190 : Cond.code yX0_hasCopy prog_2_method_7_code 2 (Option.some Jvm.ClassFile.FieldType.boolean) ∈ GW := gwt tb_5 165 rfl rfl
theorem w_1188 : Cond.instanceMethod yX0_hasCopy ∈ GW := gwt tb_5 163 rfl rfl
theorem w_1189 : Cond.selects "Leadchapel$Book" yX0_hasCopy yX0_hasCopy ∈ GW := gwt tb_5 164 rfl rfl
theorem w_1187 : Cond.methodLink "Leadchapel" 369 yX0_hasCopy ∈ GW := gwt tb_5 162 rfl rfl
theorem w_781 : Cond.fieldLink "Leadchapel" 357 "Leadchapel$Book" "isBound" "Z" ∈ GW := gwt tb_3 236 rfl rfl
theorem w_365 : Cond.code yX11_requireState prog_1_method_47_code 1 (Option.none : Option Jvm.ClassFile.FieldType) ∈ GW := gwt tb_2 60 rfl rfl
theorem w_364 : Cond.static yX11_requireState ∈ GW := gwt tb_2 59 rfl rfl
theorem w_363 : Cond.methodLink "Leadchapel" 69 yX11_requireState ∈ GW := gwt tb_2 58 rfl rfl
theorem w_763 : Cond.fieldLink "Leadchapel" 314 "Leadchapel$Book" "edition" "I" ∈ GW := gwt tb_3 218 rfl rfl
theorem w_1260 : Cond.code yX0_hasSameStates prog_2_method_22_code 4 (Option.some Jvm.ClassFile.FieldType.boolean) ∈ GW := gwt tb_5 235 rfl rfl
theorem w_1258 : Cond.instanceMethod yX0_hasSameStates ∈ GW := gwt tb_5 233 rfl rfl
theorem w_1259 : Cond.selects "Leadchapel$Book" yX0_hasSameStates yX0_hasSameStates ∈ GW := gwt tb_5 234 rfl rfl
theorem w_1257 : Cond.methodLink "Leadchapel" 395 yX0_hasSameStates ∈ GW := gwt tb_5 232 rfl rfl
theorem w_1256 : Cond.code yX11_alike prog_1_method_35_code 6 (Option.some Jvm.ClassFile.FieldType.int) ∈ GW := gwt tb_5 231 rfl rfl
theorem w_1254 : Cond.instanceMethod yX11_alike ∈ GW := gwt tb_5 229 rfl rfl
theorem w_1255 : Cond.selects "Leadchapel" yX11_alike yX11_alike ∈ GW := gwt tb_5 230 rfl rfl
theorem w_1253 : Cond.methodLink "LeadchapelLaw" 114 yX11_alike ∈ GW := gwt tb_5 228 rfl rfl
theorem w_741 : Cond.fieldLink "Leadchapel$Book" 127 "Leadchapel$Sheet" "turn" "I" ∈ GW := gwt tb_3 196 rfl rfl
theorem w_780 : Cond.fieldLink "Leadchapel$Book" 130 "Leadchapel$Book" "isBound" "Z" ∈ GW := gwt tb_3 235 rfl rfl
theorem w_687 : Cond.fieldLink "Leadchapel$Forme" 15 "Leadchapel$Forme" "how" "I" ∈ GW := gwt tb_3 142 rfl rfl
theorem w_1175 : Cond.code yX2_wasDone prog_4_method_2_code 1 (Option.some Jvm.ClassFile.FieldType.boolean) ∈ GW := gwt tb_5 150 rfl rfl
theorem w_1173 : Cond.instanceMethod yX2_wasDone ∈ GW := gwt tb_5 148 rfl rfl
theorem w_1174 : Cond.selects "Leadchapel$Forme" yX2_wasDone yX2_wasDone ∈ GW := gwt tb_5 149 rfl rfl
theorem w_1172 : Cond.methodLink "Leadchapel$Book" 124 yX2_wasDone ∈ GW := gwt tb_5 147 rfl rfl
theorem w_1171 : Cond.code yX0_isPrinted prog_2_method_19_code 5 (Option.some Jvm.ClassFile.FieldType.boolean) ∈ GW := gwt tb_5 146 rfl rfl
theorem w_1169 : Cond.instanceMethod yX0_isPrinted ∈ GW := gwt tb_5 144 rfl rfl
theorem w_1170 : Cond.selects "Leadchapel$Book" yX0_isPrinted yX0_isPrinted ∈ GW := gwt tb_5 145 rfl rfl
theorem w_1168 : Cond.methodLink "Leadchapel" 363 yX0_isPrinted ∈ GW := gwt tb_5 143 rfl rfl
theorem w_1179 : Cond.code yX0_gather prog_2_method_20_code 3 (Option.none : Option Jvm.ClassFile.FieldType) ∈ GW := gwt tb_5 154 rfl rfl
theorem w_1177 : Cond.instanceMethod yX0_gather ∈ GW := gwt tb_5 152 rfl rfl
theorem w_1178 : Cond.selects "Leadchapel$Book" yX0_gather yX0_gather ∈ GW := gwt tb_5 153 rfl rfl
theorem w_1176 : Cond.methodLink "Leadchapel" 366 yX0_gather ∈ GW := gwt tb_5 151 rfl rfl
theorem w_1167 : Cond.code yX11_bind prog_1_method_29_code 3 (Option.some Jvm.ClassFile.FieldType.int) ∈ GW := gwt tb_5 142 rfl rfl
theorem w_1165 : Cond.instanceMethod yX11_bind ∈ GW := gwt tb_5 140 rfl rfl
theorem w_1166 : Cond.selects "Leadchapel" yX11_bind yX11_bind ∈ GW := gwt tb_5 141 rfl rfl
theorem w_1164 : Cond.methodLink "LeadchapelLaw" 95 yX11_bind ∈ GW := gwt tb_5 139 rfl rfl
theorem w_673 : Cond.code yX0_placeInForme prog_2_method_4_code 2 (Option.some Jvm.ClassFile.FieldType.int) ∈ GW := gwt tb_3 128 rfl rfl
theorem w_672 : Cond.static yX0_placeInForme ∈ GW := gwt tb_3 127 rfl rfl
theorem w_671 : Cond.methodLink "Leadchapel$Book" 75 yX0_placeInForme ∈ GW := gwt tb_3 126 rfl rfl
theorem w_564 : Cond.classLink "Leadchapel$Book" 31 "Leadchapel$Page" ∈ GW := gwt tb_3 19 rfl rfl
theorem w_684 : Cond.fieldLink "Leadchapel$Forme" 9 "Leadchapel$Forme" "seen" "[I" ∈ GW := gwt tb_3 139 rfl rfl
theorem w_691 : Cond.fieldLink "Leadchapel$Forme" 19 "Leadchapel$Forme" "skeleton" "I" ∈ GW := gwt tb_3 146 rfl rfl
theorem w_699 : Cond.fieldLink "Leadchapel$Forme" 25 "Leadchapel$Forme" "onHour" "I" ∈ GW := gwt tb_3 154 rfl rfl
theorem w_702 : Cond.fieldLink "Leadchapel$Forme" 28 "Leadchapel$Forme" "doneHour" "I" ∈ GW := gwt tb_3 157 rfl rfl
theorem w_678 : Cond.fieldLink "Leadchapel$Forme" 31 "Leadchapel$Forme" "pages" "[LLeadchapel$Page;" ∈ GW := gwt tb_3 133 rfl rfl
theorem w_680 : Cond.fieldLink "Leadchapel$Forme" 35 "Leadchapel$Forme" "edition" "I" ∈ GW := gwt tb_3 135 rfl rfl
theorem w_130 : Cond.arrayClass Jvm.ClassFile.FieldType.int ∈ GW := gwt tb_1 65 rfl rfl
theorem w_677 : Cond.methodLink "Leadchapel$Forme" 3 ⟨"java/lang/Object", "<init>", "()V"⟩ ∈ GW := gwt tb_3 132 rfl rfl
theorem w_579 : Cond.fieldLink "Leadchapel$Places" 9 "Leadchapel$Places" "wanted" "[I" ∈ GW := gwt tb_3 34 rfl rfl
theorem w_581 : Cond.fieldLink "Leadchapel$Places" 15 "Leadchapel$Places" "piece" "[I" ∈ GW := gwt tb_3 36 rfl rfl
theorem w_584 : Cond.fieldLink "Leadchapel$Places" 18 "Leadchapel$Places" "turned" "[Z" ∈ GW := gwt tb_3 39 rfl rfl
theorem w_586 : Cond.fieldLink "Leadchapel$Places" 24 "Leadchapel$Places" "prints" "[[I" ∈ GW := gwt tb_3 41 rfl rfl
theorem w_577 : Cond.classLink "Leadchapel$Places" 22 "[[I" ∈ GW := gwt tb_3 32 rfl rfl
theorem w_132 : Cond.arrayClass Jvm.ClassFile.FieldType.boolean ∈ GW := gwt tb_1 67 rfl rfl
theorem w_576 : Cond.methodLink "Leadchapel$Places" 3 ⟨"java/lang/Object", "<init>", "()V"⟩ ∈ GW := gwt tb_3 31 rfl rfl
theorem w_603 : Cond.fieldLink "Leadchapel$Page" 9 "Leadchapel$Page" "number" "[I" ∈ GW := gwt tb_3 58 rfl rfl
theorem w_605 : Cond.fieldLink "Leadchapel$Page" 15 "Leadchapel$Page" "isFull" "[Z" ∈ GW := gwt tb_3 60 rfl rfl
theorem w_607 : Cond.fieldLink "Leadchapel$Page" 19 "Leadchapel$Page" "blanks" "[I" ∈ GW := gwt tb_3 62 rfl rfl
theorem w_608 : Cond.fieldLink "Leadchapel$Page" 22 "Leadchapel$Page" "firstPlace" "[I" ∈ GW := gwt tb_3 63 rfl rfl
theorem w_619 : Cond.fieldLink "Leadchapel$Page" 25 "Leadchapel$Page" "hand" "I" ∈ GW := gwt tb_3 74 rfl rfl
theorem w_602 : Cond.fieldLink "Leadchapel$Page" 29 "Leadchapel$Page" "measure" "I" ∈ GW := gwt tb_3 57 rfl rfl
theorem w_609 : Cond.fieldLink "Leadchapel$Page" 32 "Leadchapel$Page" "firstWord" "[I" ∈ GW := gwt tb_3 64 rfl rfl
theorem w_612 : Cond.fieldLink "Leadchapel$Page" 35 "Leadchapel$Page" "missing" "[I" ∈ GW := gwt tb_3 67 rfl rfl
theorem w_614 : Cond.fieldLink "Leadchapel$Page" 38 "Leadchapel$Page" "cut" "[Z" ∈ GW := gwt tb_3 69 rfl rfl
theorem w_571 : Cond.classLink "Leadchapel$Page" 41 "Leadchapel$Places" ∈ GW := gwt tb_3 26 rfl rfl
theorem w_572 : Cond.instantiable "Leadchapel$Places" 5 ∈ GW := gwt tb_3 27 rfl rfl
theorem w_82 : Cond.initialized "Leadchapel$Places" ∈ GW := gwt tb_1 17 rfl rfl
theorem w_575 : Cond.code yX5_init prog_7_method_1_code 3 (Option.none : Option Jvm.ClassFile.FieldType) ∈ GW := gwt tb_3 30 rfl rfl
theorem w_574 : Cond.instanceMethod yX5_init ∈ GW := gwt tb_3 29 rfl rfl
theorem w_573 : Cond.methodLink "Leadchapel$Page" 43 yX5_init ∈ GW := gwt tb_3 28 rfl rfl
theorem w_616 : Cond.fieldLink "Leadchapel$Page" 46 "Leadchapel$Page" "places" "LLeadchapel$Places;" ∈ GW := gwt tb_3 71 rfl rfl
theorem w_570 : Cond.methodLink "Leadchapel$Page" 3 ⟨"java/lang/Object", "<init>", "()V"⟩ ∈ GW := gwt tb_3 25 rfl rfl
theorem w_736 : Cond.fieldLink "Leadchapel$Sheet" 9 "Leadchapel$Sheet" "outer" "LLeadchapel$Forme;" ∈ GW := gwt tb_3 191 rfl rfl
theorem w_737 : Cond.fieldLink "Leadchapel$Sheet" 15 "Leadchapel$Sheet" "inner" "LLeadchapel$Forme;" ∈ GW := gwt tb_3 192 rfl rfl
theorem w_735 : Cond.methodLink "Leadchapel$Sheet" 3 ⟨"java/lang/Object", "<init>", "()V"⟩ ∈ GW := gwt tb_3 190 rfl rfl
theorem w_539 : Cond.fieldLink "Leadchapel$Text" 9 "Leadchapel$Text" "told" "[J" ∈ GW := gwt tb_2 234 rfl rfl
theorem w_541 : Cond.fieldLink "Leadchapel$Text" 15 "Leadchapel$Text" "brief" "[J" ∈ GW := gwt tb_2 236 rfl rfl
theorem w_542 : Cond.fieldLink "Leadchapel$Text" 18 "Leadchapel$Text" "full" "[J" ∈ GW := gwt tb_2 237 rfl rfl
theorem w_544 : Cond.fieldLink "Leadchapel$Text" 21 "Leadchapel$Text" "spelling" "[I" ∈ GW := gwt tb_2 239 rfl rfl
theorem w_546 : Cond.fieldLink "Leadchapel$Text" 25 "Leadchapel$Text" "endsLine" "[Z" ∈ GW := gwt tb_3 1 rfl rfl
theorem w_131 : Cond.arrayClass Jvm.ClassFile.FieldType.long ∈ GW := gwt tb_1 66 rfl rfl
theorem w_538 : Cond.methodLink "Leadchapel$Text" 3 ⟨"java/lang/Object", "<init>", "()V"⟩ ∈ GW := gwt tb_2 233 rfl rfl
theorem w_533 : Cond.classLink "Leadchapel$Book" 9 "Leadchapel$Text" ∈ GW := gwt tb_2 228 rfl rfl
theorem w_534 : Cond.instantiable "Leadchapel$Text" 6 ∈ GW := gwt tb_2 229 rfl rfl
theorem w_80 : Cond.initialized "Leadchapel$Text" ∈ GW := gwt tb_1 15 rfl rfl
theorem w_537 : Cond.code yX9_init prog_11_method_1_code 1 (Option.none : Option Jvm.ClassFile.FieldType) ∈ GW := gwt tb_2 232 rfl rfl
theorem w_536 : Cond.instanceMethod yX9_init ∈ GW := gwt tb_2 231 rfl rfl
theorem w_764 : Cond.fieldLink "Leadchapel$Book" 12 "Leadchapel$Book" "text" "LLeadchapel$Text;" ∈ GW := gwt tb_3 219 rfl rfl
theorem w_759 : Cond.fieldLink "Leadchapel$Book" 22 "Leadchapel$Book" "measure" "I" ∈ GW := gwt tb_3 214 rfl rfl
theorem w_760 : Cond.fieldLink "Leadchapel$Book" 25 "Leadchapel$Book" "mostLines" "I" ∈ GW := gwt tb_3 215 rfl rfl
theorem w_566 : Cond.instantiable "Leadchapel$Page" 15 ∈ GW := gwt tb_3 21 rfl rfl
theorem w_81 : Cond.initialized "Leadchapel$Page" ∈ GW := gwt tb_1 16 rfl rfl
theorem w_569 : Cond.code yX4_init prog_6_method_1_code 4 (Option.none : Option Jvm.ClassFile.FieldType) ∈ GW := gwt tb_3 24 rfl rfl
theorem w_568 : Cond.instanceMethod yX4_init ∈ GW := gwt tb_3 23 rfl rfl
theorem w_567 : Cond.methodLink "Leadchapel$Book" 37 yX4_init ∈ GW := gwt tb_3 22 rfl rfl
theorem w_532 : Cond.methodLink "Leadchapel$Book" 3 ⟨"java/lang/Object", "<init>", "()V"⟩ ∈ GW := gwt tb_2 227 rfl rfl
theorem w_662 : Cond.classLink "Leadchapel$Book" 40 "Leadchapel$Forme" ∈ GW := gwt tb_3 117 rfl rfl
theorem w_664 : Cond.instantiable "Leadchapel$Forme" 11 ∈ GW := gwt tb_3 119 rfl rfl
theorem w_667 : Cond.code yX0_pagesOf prog_2_method_2_code 5 (Option.some (Jvm.ClassFile.FieldType.array (Jvm.ClassFile.FieldType.object "Leadchapel$Page")) ) ∈ GW := gwt tb_3 122 rfl rfl
theorem w_666 : Cond.static yX0_pagesOf ∈ GW := gwt tb_3 121 rfl rfl
theorem w_665 : Cond.methodLink "Leadchapel$Book" 46 yX0_pagesOf ∈ GW := gwt tb_3 120 rfl rfl
theorem w_676 : Cond.code yX2_init prog_4_method_1_code 3 (Option.none : Option Jvm.ClassFile.FieldType) ∈ GW := gwt tb_3 131 rfl rfl
theorem w_675 : Cond.instanceMethod yX2_init ∈ GW := gwt tb_3 130 rfl rfl
theorem w_674 : Cond.methodLink "Leadchapel$Book" 50 yX2_init ∈ GW := gwt tb_3 129 rfl rfl
theorem w_729 : Cond.classLink "Leadchapel$Book" 53 "Leadchapel$Sheet" ∈ GW := gwt tb_3 184 rfl rfl
theorem w_731 : Cond.instantiable "Leadchapel$Sheet" 6 ∈ GW := gwt tb_3 186 rfl rfl
theorem w_734 : Cond.code yX8_init prog_10_method_1_code 3 (Option.none : Option Jvm.ClassFile.FieldType) ∈ GW := gwt tb_3 189 rfl rfl
theorem w_733 : Cond.instanceMethod yX8_init ∈ GW := gwt tb_3 188 rfl rfl
theorem w_732 : Cond.methodLink "Leadchapel$Book" 59 yX8_init ∈ GW := gwt tb_3 187 rfl rfl
theorem w_775 : Cond.fieldLink "Leadchapel$Book" 62 "Leadchapel$Book" "partBegins" "[I" ∈ GW := gwt tb_3 230 rfl rfl
theorem w_756 : Cond.classLink "Leadchapel$Book" 66 "[[I" ∈ GW := gwt tb_3 211 rfl rfl
theorem w_230 : Cond.fieldLink "Leadchapel" 137 "Leadchapel" "bookCount" "I" ∈ GW := gwt tb_1 165 rfl rfl
theorem w_171 : Cond.classLink "Leadchapel" 29 "Leadchapel$Book" ∈ GW := gwt tb_1 106 rfl rfl
theorem w_528 : Cond.instantiable "Leadchapel$Book" 12 ∈ GW := gwt tb_2 223 rfl rfl
theorem w_531 : Cond.code yX0_init prog_2_method_1_code 7 (Option.none : Option Jvm.ClassFile.FieldType) ∈ GW := gwt tb_2 226 rfl rfl
theorem w_530 : Cond.instanceMethod yX0_init ∈ GW := gwt tb_2 225 rfl rfl
theorem w_529 : Cond.methodLink "Leadchapel" 140 yX0_init ∈ GW := gwt tb_2 224 rfl rfl
theorem w_527 : Cond.code yX11_book prog_1_method_11_code 6 (Option.some Jvm.ClassFile.FieldType.int) ∈ GW := gwt tb_2 222 rfl rfl
theorem w_525 : Cond.instanceMethod yX11_book ∈ GW := gwt tb_2 220 rfl rfl
theorem w_526 : Cond.selects "Leadchapel" yX11_book yX11_book ∈ GW := gwt tb_2 221 rfl rfl
theorem w_524 : Cond.methodLink "LeadchapelLaw" 41 yX11_book ∈ GW := gwt tb_2 219 rfl rfl
theorem w_149 : Cond.fieldLink "Leadchapel$Cases" 24 "Leadchapel$Cases" "top" "[I" ∈ GW := gwt tb_1 84 rfl rfl
theorem w_148 : Cond.fieldLink "Leadchapel$Cases" 21 "Leadchapel$Cases" "under" "[I" ∈ GW := gwt tb_1 83 rfl rfl
theorem w_430 : Cond.code yX11_isSort prog_1_method_58_code 1 (Option.some Jvm.ClassFile.FieldType.boolean) ∈ GW := gwt tb_2 125 rfl rfl
theorem w_429 : Cond.static yX11_isSort ∈ GW := gwt tb_2 124 rfl rfl
theorem w_428 : Cond.methodLink "Leadchapel" 105 yX11_isSort ∈ GW := gwt tb_2 123 rfl rfl
theorem w_487 : Cond.code yX1_pieceUnder prog_3_method_6_code 5 (Option.some Jvm.ClassFile.FieldType.int) ∈ GW := gwt tb_2 182 rfl rfl
theorem w_68 : Cond.initialized "Leadchapel$Cases" ∈ GW := gwt tb_1 3 rfl rfl
theorem w_485 : Cond.instanceMethod yX1_pieceUnder ∈ GW := gwt tb_2 180 rfl rfl
theorem w_486 : Cond.selects "Leadchapel$Cases" yX1_pieceUnder yX1_pieceUnder ∈ GW := gwt tb_2 181 rfl rfl
theorem w_484 : Cond.methodLink "Leadchapel" 127 yX1_pieceUnder ∈ GW := gwt tb_2 179 rfl rfl
theorem w_483 : Cond.code yX11_box prog_1_method_9_code 3 (Option.some Jvm.ClassFile.FieldType.int) ∈ GW := gwt tb_2 178 rfl rfl
theorem w_481 : Cond.instanceMethod yX11_box ∈ GW := gwt tb_2 176 rfl rfl
theorem w_482 : Cond.selects "Leadchapel" yX11_box yX11_box ∈ GW := gwt tb_2 177 rfl rfl
theorem w_480 : Cond.methodLink "LeadchapelLaw" 34 yX11_box ∈ GW := gwt tb_2 175 rfl rfl
theorem w_1194 : Cond.code yX0_hasLeaf prog_2_method_8_code 2 (Option.some Jvm.ClassFile.FieldType.boolean) ∈ GW := gwt tb_5 169 rfl rfl
theorem w_1192 : Cond.instanceMethod yX0_hasLeaf ∈ GW := gwt tb_5 167 rfl rfl
theorem w_1193 : Cond.selects "Leadchapel$Book" yX0_hasLeaf yX0_hasLeaf ∈ GW := gwt tb_5 168 rfl rfl
theorem w_1191 : Cond.methodLink "Leadchapel" 372 yX0_hasLeaf ∈ GW := gwt tb_5 166 rfl rfl
theorem w_777 : Cond.fieldLink "Leadchapel" 375 "Leadchapel$Book" "leaves" "[[I" ∈ GW := gwt tb_3 232 rfl rfl
theorem w_1201 : Cond.code yX11_cancel prog_1_method_31_code 7 (Option.some Jvm.ClassFile.FieldType.int) ∈ GW := gwt tb_5 176 rfl rfl
theorem w_1199 : Cond.instanceMethod yX11_cancel ∈ GW := gwt tb_5 174 rfl rfl
theorem w_1200 : Cond.selects "Leadchapel" yX11_cancel yX11_cancel ∈ GW := gwt tb_5 175 rfl rfl
theorem w_1198 : Cond.methodLink "LeadchapelLaw" 102 yX11_cancel ∈ GW := gwt tb_5 173 rfl rfl
theorem w_146 : Cond.fieldLink "Leadchapel$Cases" 18 "Leadchapel$Cases" "where" "[I" ∈ GW := gwt tb_1 81 rfl rfl
theorem w_153 : Cond.fieldLink "Leadchapel$Cases" 27 "Leadchapel$Cases" "count" "I" ∈ GW := gwt tb_1 88 rfl rfl
theorem w_139 : Cond.fieldLink "Leadchapel$Cases" 9 "Leadchapel$Cases" "sort" "[I" ∈ GW := gwt tb_1 74 rfl rfl
theorem w_438 : Cond.code yX1_putOn prog_3_method_4_code 3 (Option.none : Option Jvm.ClassFile.FieldType) ∈ GW := gwt tb_2 133 rfl rfl
theorem w_436 : Cond.instanceMethod yX1_putOn ∈ GW := gwt tb_2 131 rfl rfl
theorem w_437 : Cond.selects "Leadchapel$Cases" yX1_putOn yX1_putOn ∈ GW := gwt tb_2 132 rfl rfl
theorem w_435 : Cond.methodLink "Leadchapel$Cases" 31 yX1_putOn ∈ GW := gwt tb_2 130 rfl rfl
theorem w_155 : Cond.fieldLink "Leadchapel" 108 "Leadchapel$Cases" "count" "I" ∈ GW := gwt tb_1 90 rfl rfl
theorem w_434 : Cond.code yX1_add prog_3_method_3_code 2 (Option.none : Option Jvm.ClassFile.FieldType) ∈ GW := gwt tb_2 129 rfl rfl
theorem w_432 : Cond.instanceMethod yX1_add ∈ GW := gwt tb_2 127 rfl rfl
theorem w_433 : Cond.selects "Leadchapel$Cases" yX1_add yX1_add ∈ GW := gwt tb_2 128 rfl rfl
theorem w_431 : Cond.methodLink "Leadchapel" 111 yX1_add ∈ GW := gwt tb_2 126 rfl rfl
theorem w_427 : Cond.code yX11_cast prog_1_method_6_code 4 (Option.some Jvm.ClassFile.FieldType.int) ∈ GW := gwt tb_2 122 rfl rfl
theorem w_425 : Cond.instanceMethod yX11_cast ∈ GW := gwt tb_2 120 rfl rfl
theorem w_426 : Cond.selects "Leadchapel" yX11_cast yX11_cast ∈ GW := gwt tb_2 121 rfl rfl
theorem w_424 : Cond.methodLink "LeadchapelLaw" 21 yX11_cast ∈ GW := gwt tb_2 119 rfl rfl
theorem w_779 : Cond.fieldLink "Leadchapel$Book" 114 "Leadchapel$Book" "isCastOff" "Z" ∈ GW := gwt tb_3 234 rfl rfl
theorem w_828 : Cond.code yX4_isSet prog_6_method_2_code 1 (Option.some Jvm.ClassFile.FieldType.boolean) ∈ GW := gwt tb_4 43 rfl rfl
theorem w_826 : Cond.instanceMethod yX4_isSet ∈ GW := gwt tb_4 41 rfl rfl
theorem w_827 : Cond.selects "Leadchapel$Page" yX4_isSet yX4_isSet ∈ GW := gwt tb_4 42 rfl rfl
theorem w_825 : Cond.methodLink "Leadchapel$Book" 85 yX4_isSet ∈ GW := gwt tb_4 40 rfl rfl
theorem w_628 : Cond.fieldLink "Leadchapel$Book" 118 "Leadchapel$Page" "through" "I" ∈ GW := gwt tb_3 83 rfl rfl
theorem w_358 : Cond.constantLong "Leadchapel" 491 255 ∈ GW := gwt tb_2 53 rfl rfl
theorem w_357 : Cond.code yX11_letterAt prog_1_method_61_code 3 (Option.some Jvm.ClassFile.FieldType.int) ∈ GW := gwt tb_2 52 rfl rfl
theorem w_356 : Cond.static yX11_letterAt ∈ GW := gwt tb_2 51 rfl rfl
theorem w_355 : Cond.methodLink "Leadchapel" 57 yX11_letterAt ∈ GW := gwt tb_2 50 rfl rfl
theorem w_869 : Cond.methodLink "Leadchapel$Book" 98 ⟨"java/lang/Math", "max", "(II)I"⟩ ∈ GW := gwt tb_4 84 rfl rfl
theorem w_550 : Cond.fieldLink "Leadchapel$Book" 103 "Leadchapel$Text" "count" "I" ∈ GW := gwt tb_3 5 rfl rfl
theorem w_540 : Cond.fieldLink "Leadchapel$Book" 106 "Leadchapel$Text" "told" "[J" ∈ GW := gwt tb_2 235 rfl rfl
theorem w_408 : Cond.code yX11_letters prog_1_method_62_code 4 (Option.some Jvm.ClassFile.FieldType.int) ∈ GW := gwt tb_2 103 rfl rfl
theorem w_407 : Cond.static yX11_letters ∈ GW := gwt tb_2 102 rfl rfl
theorem w_766 : Cond.fieldLink "Leadchapel" 153 "Leadchapel$Book" "text" "LLeadchapel$Text;" ∈ GW := gwt tb_3 221 rfl rfl
theorem w_549 : Cond.fieldLink "Leadchapel" 157 "Leadchapel$Text" "count" "I" ∈ GW := gwt tb_3 4 rfl rfl
theorem w_778 : Cond.fieldLink "Leadchapel" 160 "Leadchapel$Book" "isCastOff" "Z" ∈ GW := gwt tb_3 233 rfl rfl
theorem w_824 : Cond.code yX0_hasSetPage prog_2_method_11_code 5 (Option.some Jvm.ClassFile.FieldType.boolean) ∈ GW := gwt tb_4 39 rfl rfl
theorem w_822 : Cond.instanceMethod yX0_hasSetPage ∈ GW := gwt tb_4 37 rfl rfl
theorem w_823 : Cond.selects "Leadchapel$Book" yX0_hasSetPage yX0_hasSetPage ∈ GW := gwt tb_4 38 rfl rfl
theorem w_821 : Cond.methodLink "Leadchapel" 164 yX0_hasSetPage ∈ GW := gwt tb_4 36 rfl rfl
theorem w_868 : Cond.code yX0_partByUnits prog_2_method_15_code 6 (Option.none : Option Jvm.ClassFile.FieldType) ∈ GW := gwt tb_4 83 rfl rfl
theorem w_866 : Cond.instanceMethod yX0_partByUnits ∈ GW := gwt tb_4 81 rfl rfl
theorem w_867 : Cond.selects "Leadchapel$Book" yX0_partByUnits yX0_partByUnits ∈ GW := gwt tb_4 82 rfl rfl
theorem w_865 : Cond.methodLink "Leadchapel" 185 yX0_partByUnits ∈ GW := gwt tb_4 80 rfl rfl
theorem w_769 : Cond.fieldLink "Leadchapel" 177 "Leadchapel$Book" "pages" "[LLeadchapel$Page;" ∈ GW := gwt tb_3 224 rfl rfl
theorem w_876 : Cond.code yX0_firstWordOfPart prog_2_method_16_code 2 (Option.some Jvm.ClassFile.FieldType.int) ∈ GW := gwt tb_4 91 rfl rfl
theorem w_874 : Cond.instanceMethod yX0_firstWordOfPart ∈ GW := gwt tb_4 89 rfl rfl
theorem w_875 : Cond.selects "Leadchapel$Book" yX0_firstWordOfPart yX0_firstWordOfPart ∈ GW := gwt tb_4 90 rfl rfl
theorem w_873 : Cond.methodLink "Leadchapel" 188 yX0_firstWordOfPart ∈ GW := gwt tb_4 88 rfl rfl
theorem w_864 : Cond.code yX11_castOff prog_1_method_14_code 4 (Option.some Jvm.ClassFile.FieldType.int) ∈ GW := gwt tb_4 79 rfl rfl
theorem w_862 : Cond.instanceMethod yX11_castOff ∈ GW := gwt tb_4 77 rfl rfl
theorem w_863 : Cond.selects "Leadchapel" yX11_castOff yX11_castOff ∈ GW := gwt tb_4 78 rfl rfl
theorem w_861 : Cond.methodLink "LeadchapelLaw" 51 yX11_castOff ∈ GW := gwt tb_4 76 rfl rfl
theorem w_624 : Cond.fieldLink "Leadchapel$Page" 70 "Leadchapel$Page" "lines" "I" ∈ GW := gwt tb_3 79 rfl rfl
theorem w_621 : Cond.fieldLink "Leadchapel$Page" 54 "Leadchapel$Page" "words" "I" ∈ GW := gwt tb_3 76 rfl rfl
theorem w_852 : Cond.code yX4_wordBehindLine prog_6_method_4_code 2 (Option.some Jvm.ClassFile.FieldType.int) ∈ GW := gwt tb_4 67 rfl rfl
theorem w_850 : Cond.instanceMethod yX4_wordBehindLine ∈ GW := gwt tb_4 65 rfl rfl
theorem w_851 : Cond.selects "Leadchapel$Page" yX4_wordBehindLine yX4_wordBehindLine ∈ GW := gwt tb_4 66 rfl rfl
theorem w_944 : Cond.methodLink "Leadchapel$Page" 73 yX4_wordBehindLine ∈ GW := gwt tb_4 159 rfl rfl
theorem w_1246 : Cond.code yX5_printed prog_7_method_6_code 3 (Option.some Jvm.ClassFile.FieldType.int) ∈ GW := gwt tb_5 221 rfl rfl
theorem w_1244 : Cond.instanceMethod yX5_printed ∈ GW := gwt tb_5 219 rfl rfl
theorem w_1245 : Cond.selects "Leadchapel$Places" yX5_printed yX5_printed ∈ GW := gwt tb_5 220 rfl rfl
theorem w_1243 : Cond.methodLink "Leadchapel$Page" 171 yX5_printed ∈ GW := gwt tb_5 218 rfl rfl
theorem w_1249 : Cond.code yX4_signOf prog_6_method_20_code 2 (Option.some Jvm.ClassFile.FieldType.int) ∈ GW := gwt tb_5 224 rfl rfl
theorem w_1248 : Cond.static yX4_signOf ∈ GW := gwt tb_5 223 rfl rfl
theorem w_1247 : Cond.methodLink "Leadchapel$Page" 174 yX4_signOf ∈ GW := gwt tb_5 222 rfl rfl
theorem w_890 : Cond.code yX0_hasPage prog_2_method_5_code 2 (Option.some Jvm.ClassFile.FieldType.boolean) ∈ GW := gwt tb_4 105 rfl rfl
theorem w_888 : Cond.instanceMethod yX0_hasPage ∈ GW := gwt tb_4 103 rfl rfl
theorem w_889 : Cond.selects "Leadchapel$Book" yX0_hasPage yX0_hasPage ∈ GW := gwt tb_4 104 rfl rfl
theorem w_887 : Cond.methodLink "Leadchapel" 379 yX0_hasPage ∈ GW := gwt tb_4 102 rfl rfl
theorem w_1209 : Cond.methodLink "Leadchapel" 382 yX0_stateIn ∈ GW := gwt tb_5 184 rfl rfl
theorem w_1242 : Cond.code yX4_printedSign prog_6_method_19_code 10 (Option.some Jvm.ClassFile.FieldType.int) ∈ GW := gwt tb_5 217 rfl rfl
theorem w_1240 : Cond.instanceMethod yX4_printedSign ∈ GW := gwt tb_5 215 rfl rfl
theorem w_1241 : Cond.selects "Leadchapel$Page" yX4_printedSign yX4_printedSign ∈ GW := gwt tb_5 216 rfl rfl
theorem w_1239 : Cond.methodLink "Leadchapel" 391 yX4_printedSign ∈ GW := gwt tb_5 214 rfl rfl
theorem w_1238 : Cond.code yX11_character prog_1_method_34_code 7 (Option.some Jvm.ClassFile.FieldType.int) ∈ GW := gwt tb_5 213 rfl rfl
theorem w_1236 : Cond.instanceMethod yX11_character ∈ GW := gwt tb_5 211 rfl rfl
theorem w_1237 : Cond.selects "Leadchapel" yX11_character yX11_character ∈ GW := gwt tb_5 212 rfl rfl
theorem w_1235 : Cond.methodLink "LeadchapelLaw" 111 yX11_character ∈ GW := gwt tb_5 210 rfl rfl
theorem w_111 : Cond.fieldLink "Leadchapel$Words" 29 "Leadchapel$Words" "length" "I" ∈ GW := gwt tb_1 46 rfl rfl
theorem w_102 : Cond.fieldLink "Leadchapel$Words" 9 "Leadchapel$Words" "tape" "[I" ∈ GW := gwt tb_1 37 rfl rfl
theorem w_270 : Cond.code yX11_isLetter prog_1_method_59_code 1 (Option.some Jvm.ClassFile.FieldType.boolean) ∈ GW := gwt tb_1 205 rfl rfl
theorem w_269 : Cond.static yX11_isLetter ∈ GW := gwt tb_1 204 rfl rfl
theorem w_267 : Cond.code yX10_faultPlace prog_12_method_3_code 4 (Option.some Jvm.ClassFile.FieldType.int) ∈ GW := gwt tb_1 202 rfl rfl
theorem w_67 : Cond.initialized "Leadchapel$Words" ∈ GW := gwt tb_1 2 rfl rfl
theorem w_265 : Cond.instanceMethod yX10_faultPlace ∈ GW := gwt tb_1 200 rfl rfl
theorem w_266 : Cond.selects "Leadchapel$Words" yX10_faultPlace yX10_faultPlace ∈ GW := gwt tb_1 201 rfl rfl
theorem w_401 : Cond.methodLink "Leadchapel$Words" 37 yX10_faultPlace ∈ GW := gwt tb_2 96 rfl rfl
theorem w_103 : Cond.fieldLink "Leadchapel$Words" 15 "Leadchapel$Words" "split" "[J" ∈ GW := gwt tb_1 38 rfl rfl
theorem w_105 : Cond.fieldLink "Leadchapel$Words" 19 "Leadchapel$Words" "endsLine" "[Z" ∈ GW := gwt tb_1 40 rfl rfl
theorem w_114 : Cond.fieldLink "Leadchapel$Words" 48 "Leadchapel$Words" "spellings" "I" ∈ GW := gwt tb_1 49 rfl rfl
theorem w_107 : Cond.fieldLink "Leadchapel$Words" 23 "Leadchapel$Words" "brief" "[J" ∈ GW := gwt tb_1 42 rfl rfl
theorem w_109 : Cond.fieldLink "Leadchapel$Words" 26 "Leadchapel$Words" "full" "[J" ∈ GW := gwt tb_1 44 rfl rfl
theorem w_548 : Cond.fieldLink "Leadchapel$Text" 29 "Leadchapel$Text" "count" "I" ∈ GW := gwt tb_3 3 rfl rfl
theorem w_412 : Cond.code yX10_spellingOf prog_12_method_8_code 4 (Option.some Jvm.ClassFile.FieldType.int) ∈ GW := gwt tb_2 107 rfl rfl
theorem w_410 : Cond.instanceMethod yX10_spellingOf ∈ GW := gwt tb_2 105 rfl rfl
theorem w_411 : Cond.selects "Leadchapel$Words" yX10_spellingOf yX10_spellingOf ∈ GW := gwt tb_2 106 rfl rfl
theorem w_833 : Cond.methodLink "Leadchapel$Text" 33 yX10_spellingOf ∈ GW := gwt tb_4 48 rfl rfl
theorem w_108 : Cond.fieldLink "Leadchapel$Text" 39 "Leadchapel$Words" "brief" "[J" ∈ GW := gwt tb_1 43 rfl rfl
theorem w_110 : Cond.fieldLink "Leadchapel$Text" 40 "Leadchapel$Words" "full" "[J" ∈ GW := gwt tb_1 45 rfl rfl
theorem w_222 : Cond.fieldLink "Leadchapel" 10 "Leadchapel" "words" "LLeadchapel$Words;" ∈ GW := gwt tb_1 157 rfl rfl
theorem w_400 : Cond.code yX10_isText prog_12_method_4_code 1 (Option.some Jvm.ClassFile.FieldType.boolean) ∈ GW := gwt tb_2 95 rfl rfl
theorem w_398 : Cond.instanceMethod yX10_isText ∈ GW := gwt tb_2 93 rfl rfl
theorem w_399 : Cond.selects "Leadchapel$Words" yX10_isText yX10_isText ∈ GW := gwt tb_2 94 rfl rfl
theorem w_819 : Cond.methodLink "Leadchapel" 147 yX10_isText ∈ GW := gwt tb_4 34 rfl rfl
theorem w_405 : Cond.code yX10_splitText prog_12_method_5_code 6 (Option.some Jvm.ClassFile.FieldType.int) ∈ GW := gwt tb_2 100 rfl rfl
theorem w_403 : Cond.instanceMethod yX10_splitText ∈ GW := gwt tb_2 98 rfl rfl
theorem w_404 : Cond.selects "Leadchapel$Words" yX10_splitText yX10_splitText ∈ GW := gwt tb_2 99 rfl rfl
theorem w_820 : Cond.methodLink "Leadchapel" 150 yX10_splitText ∈ GW := gwt tb_4 35 rfl rfl
theorem w_104 : Cond.fieldLink "Leadchapel" 84 "Leadchapel$Words" "split" "[J" ∈ GW := gwt tb_1 39 rfl rfl
theorem w_106 : Cond.fieldLink "Leadchapel" 167 "Leadchapel$Words" "endsLine" "[Z" ∈ GW := gwt tb_1 41 rfl rfl
theorem w_832 : Cond.code yX9_add prog_11_method_2_code 6 (Option.none : Option Jvm.ClassFile.FieldType) ∈ GW := gwt tb_4 47 rfl rfl
theorem w_830 : Cond.instanceMethod yX9_add ∈ GW := gwt tb_4 45 rfl rfl
theorem w_831 : Cond.selects "Leadchapel$Text" yX9_add yX9_add ∈ GW := gwt tb_4 46 rfl rfl
theorem w_829 : Cond.methodLink "Leadchapel" 171 yX9_add ∈ GW := gwt tb_4 44 rfl rfl
theorem w_112 : Cond.fieldLink "Leadchapel" 65 "Leadchapel$Words" "length" "I" ∈ GW := gwt tb_1 47 rfl rfl
theorem w_813 : Cond.code yX11_copy prog_1_method_12_code 5 (Option.some Jvm.ClassFile.FieldType.int) ∈ GW := gwt tb_4 28 rfl rfl
theorem w_811 : Cond.instanceMethod yX11_copy ∈ GW := gwt tb_4 26 rfl rfl
theorem w_812 : Cond.selects "Leadchapel" yX11_copy yX11_copy ∈ GW := gwt tb_4 27 rfl rfl
theorem w_810 : Cond.methodLink "LeadchapelLaw" 45 yX11_copy ∈ GW := gwt tb_4 25 rfl rfl
theorem w_587 : Cond.fieldLink "Leadchapel$Places" 27 "Leadchapel$Places" "count" "I" ∈ GW := gwt tb_3 42 rfl rfl
theorem w_1124 : Cond.methodLink "Leadchapel$Places" 47 ⟨"java/lang/System", "arraycopy", "(Ljava/lang/Object;ILjava/lang/Object;II)V"⟩ ∈ GW := gwt tb_5 99 rfl rfl
theorem w_695 : Cond.fieldLink "Leadchapel$Forme" 47 "Leadchapel$Forme" "printed" "I" ∈ GW := gwt tb_3 150 rfl rfl
theorem w_617 : Cond.fieldLink "Leadchapel$Forme" 50 "Leadchapel$Page" "places" "LLeadchapel$Places;" ∈ GW := gwt tb_3 72 rfl rfl
theorem w_1123 : Cond.code yX5_beginState prog_7_method_3_code 2 (Option.none : Option Jvm.ClassFile.FieldType) ∈ GW := gwt tb_5 98 rfl rfl
theorem w_1121 : Cond.instanceMethod yX5_beginState ∈ GW := gwt tb_5 96 rfl rfl
theorem w_1122 : Cond.selects "Leadchapel$Places" yX5_beginState yX5_beginState ∈ GW := gwt tb_5 97 rfl rfl
theorem w_1120 : Cond.methodLink "Leadchapel$Forme" 54 yX5_beginState ∈ GW := gwt tb_5 95 rfl rfl
theorem w_969 : Cond.code yX1_take prog_3_method_5_code 4 (Option.some Jvm.ClassFile.FieldType.int) ∈ GW := gwt tb_4 184 rfl rfl
theorem w_967 : Cond.instanceMethod yX1_take ∈ GW := gwt tb_4 182 rfl rfl
theorem w_968 : Cond.selects "Leadchapel$Cases" yX1_take yX1_take ∈ GW := gwt tb_4 183 rfl rfl
theorem w_966 : Cond.methodLink "Leadchapel$Places" 31 yX1_take ∈ GW := gwt tb_4 181 rfl rfl
theorem w_140 : Cond.fieldLink "Leadchapel$Places" 44 "Leadchapel$Cases" "sort" "[I" ∈ GW := gwt tb_1 75 rfl rfl
theorem w_1131 : Cond.methodLink "Leadchapel$Places" 53 yX1_putOn ∈ GW := gwt tb_5 106 rfl rfl
theorem w_886 : Cond.code yX11_pageOf prog_1_method_51_code 2 (Option.some (Jvm.ClassFile.FieldType.object "Leadchapel$Page")) ∈ GW := gwt tb_4 101 rfl rfl
theorem w_885 : Cond.static yX11_pageOf ∈ GW := gwt tb_4 100 rfl rfl
theorem w_884 : Cond.methodLink "Leadchapel" 192 yX11_pageOf ∈ GW := gwt tb_4 99 rfl rfl
theorem w_618 : Cond.fieldLink "Leadchapel" 222 "Leadchapel$Page" "places" "LLeadchapel$Places;" ∈ GW := gwt tb_3 73 rfl rfl
theorem w_590 : Cond.fieldLink "Leadchapel" 226 "Leadchapel$Places" "count" "I" ∈ GW := gwt tb_3 45 rfl rfl
theorem w_980 : Cond.methodLink "Leadchapel" 229 yX0_formeNumber ∈ GW := gwt tb_4 195 rfl rfl
theorem w_690 : Cond.fieldLink "Leadchapel" 273 "Leadchapel$Forme" "how" "I" ∈ GW := gwt tb_3 145 rfl rfl
theorem w_152 : Cond.fieldLink "Leadchapel" 342 "Leadchapel$Cases" "top" "[I" ∈ GW := gwt tb_1 87 rfl rfl
theorem w_580 : Cond.fieldLink "Leadchapel" 263 "Leadchapel$Places" "wanted" "[I" ∈ GW := gwt tb_3 35 rfl rfl
theorem w_1119 : Cond.code yX2_beginStateIfPrinted prog_4_method_4_code 5 (Option.none : Option Jvm.ClassFile.FieldType) ∈ GW := gwt tb_5 94 rfl rfl
theorem w_1117 : Cond.instanceMethod yX2_beginStateIfPrinted ∈ GW := gwt tb_5 92 rfl rfl
theorem w_1118 : Cond.selects "Leadchapel$Forme" yX2_beginStateIfPrinted yX2_beginStateIfPrinted ∈ GW := gwt tb_5 93 rfl rfl
theorem w_1116 : Cond.methodLink "Leadchapel" 345 yX2_beginStateIfPrinted ∈ GW := gwt tb_5 91 rfl rfl
theorem w_698 : Cond.fieldLink "Leadchapel" 332 "Leadchapel$Forme" "states" "I" ∈ GW := gwt tb_3 153 rfl rfl
theorem w_1130 : Cond.code yX5_replace prog_7_method_4_code 7 (Option.none : Option Jvm.ClassFile.FieldType) ∈ GW := gwt tb_5 105 rfl rfl
theorem w_1128 : Cond.instanceMethod yX5_replace ∈ GW := gwt tb_5 103 rfl rfl
theorem w_1129 : Cond.selects "Leadchapel$Places" yX5_replace yX5_replace ∈ GW := gwt tb_5 104 rfl rfl
theorem w_1127 : Cond.methodLink "Leadchapel" 348 yX5_replace ∈ GW := gwt tb_5 102 rfl rfl
theorem w_1115 : Cond.code yX11_correct prog_1_method_25_code 7 (Option.some Jvm.ClassFile.FieldType.int) ∈ GW := gwt tb_5 90 rfl rfl
theorem w_1113 : Cond.instanceMethod yX11_correct ∈ GW := gwt tb_5 88 rfl rfl
theorem w_1114 : Cond.selects "Leadchapel" yX11_correct yX11_correct ∈ GW := gwt tb_5 89 rfl rfl
theorem w_1112 : Cond.methodLink "LeadchapelLaw" 83 yX11_correct ∈ GW := gwt tb_5 87 rfl rfl
theorem w_1186 : Cond.code yX11_exchange prog_1_method_30_code 7 (Option.none : Option Jvm.ClassFile.FieldType) ∈ GW := gwt tb_5 161 rfl rfl
theorem w_1184 : Cond.instanceMethod yX11_exchange ∈ GW := gwt tb_5 159 rfl rfl
theorem w_1185 : Cond.selects "Leadchapel" yX11_exchange yX11_exchange ∈ GW := gwt tb_5 160 rfl rfl
theorem w_1183 : Cond.methodLink "LeadchapelLaw" 98 yX11_exchange ∈ GW := gwt tb_5 158 rfl rfl
theorem w_622 : Cond.fieldLink "Leadchapel$Book" 89 "Leadchapel$Page" "words" "I" ∈ GW := gwt tb_3 77 rfl rfl
theorem w_623 : Cond.fieldLink "Leadchapel$Text" 41 "Leadchapel$Page" "lines" "I" ∈ GW := gwt tb_3 78 rfl rfl
theorem w_849 : Cond.methodLink "Leadchapel$Text" 46 yX4_wordBehindLine ∈ GW := gwt tb_4 64 rfl rfl
theorem w_610 : Cond.fieldLink "Leadchapel$Text" 50 "Leadchapel$Page" "firstWord" "[I" ∈ GW := gwt tb_3 65 rfl rfl
theorem w_604 : Cond.fieldLink "Leadchapel$Text" 53 "Leadchapel$Page" "number" "[I" ∈ GW := gwt tb_3 59 rfl rfl
theorem w_606 : Cond.fieldLink "Leadchapel$Text" 56 "Leadchapel$Page" "isFull" "[Z" ∈ GW := gwt tb_3 61 rfl rfl
theorem w_856 : Cond.code yX9_form prog_11_method_4_code 3 (Option.some Jvm.ClassFile.FieldType.long) ∈ GW := gwt tb_4 71 rfl rfl
theorem w_854 : Cond.instanceMethod yX9_form ∈ GW := gwt tb_4 69 rfl rfl
theorem w_855 : Cond.selects "Leadchapel$Text" yX9_form yX9_form ∈ GW := gwt tb_4 70 rfl rfl
theorem w_853 : Cond.methodLink "Leadchapel$Text" 59 yX9_form ∈ GW := gwt tb_4 68 rfl rfl
theorem w_857 : Cond.methodLink "Leadchapel$Text" 63 yX9_add ∈ GW := gwt tb_4 72 rfl rfl
theorem w_844 : Cond.code yX0_wordsOnPages prog_2_method_12_code 6 (Option.some Jvm.ClassFile.FieldType.int) ∈ GW := gwt tb_4 59 rfl rfl
theorem w_842 : Cond.instanceMethod yX0_wordsOnPages ∈ GW := gwt tb_4 57 rfl rfl
theorem w_843 : Cond.selects "Leadchapel$Book" yX0_wordsOnPages yX0_wordsOnPages ∈ GW := gwt tb_4 58 rfl rfl
theorem w_841 : Cond.methodLink "Leadchapel" 174 yX0_wordsOnPages ∈ GW := gwt tb_4 56 rfl rfl
theorem w_848 : Cond.code yX9_addPage prog_11_method_3_code 7 (Option.none : Option Jvm.ClassFile.FieldType) ∈ GW := gwt tb_4 63 rfl rfl
theorem w_846 : Cond.instanceMethod yX9_addPage ∈ GW := gwt tb_4 61 rfl rfl
theorem w_847 : Cond.selects "Leadchapel$Text" yX9_addPage yX9_addPage ∈ GW := gwt tb_4 62 rfl rfl
theorem w_845 : Cond.methodLink "Leadchapel" 181 yX9_addPage ∈ GW := gwt tb_4 60 rfl rfl
theorem w_840 : Cond.code yX11_follow prog_1_method_13_code 9 (Option.some Jvm.ClassFile.FieldType.int) ∈ GW := gwt tb_4 55 rfl rfl
theorem w_838 : Cond.instanceMethod yX11_follow ∈ GW := gwt tb_4 53 rfl rfl
theorem w_839 : Cond.selects "Leadchapel" yX11_follow yX11_follow ∈ GW := gwt tb_4 54 rfl rfl
theorem w_837 : Cond.methodLink "LeadchapelLaw" 48 yX11_follow ∈ GW := gwt tb_4 52 rfl rfl
theorem w_1006 : Cond.methodLink "Leadchapel$Page" 77 ⟨"java/lang/Math", "max", "(II)I"⟩ ∈ GW := gwt tb_4 221 rfl rfl
theorem w_625 : Cond.fieldLink "Leadchapel$Book" 92 "Leadchapel$Page" "lines" "I" ∈ GW := gwt tb_3 80 rfl rfl
theorem w_1005 : Cond.code yX4_lastWord prog_6_method_5_code 2 (Option.some Jvm.ClassFile.FieldType.int) ∈ GW := gwt tb_4 220 rfl rfl
theorem w_1003 : Cond.instanceMethod yX4_lastWord ∈ GW := gwt tb_4 218 rfl rfl
theorem w_1004 : Cond.selects "Leadchapel$Page" yX4_lastWord yX4_lastWord ∈ GW := gwt tb_4 219 rfl rfl
theorem w_1391 : Cond.methodLink "Leadchapel$Book" 95 yX4_lastWord ∈ GW := gwt tb_6 126 rfl rfl
theorem w_1386 : Cond.code yX0_linesOnPages prog_2_method_13_code 6 (Option.some Jvm.ClassFile.FieldType.int) ∈ GW := gwt tb_6 121 rfl rfl
theorem w_1384 : Cond.instanceMethod yX0_linesOnPages ∈ GW := gwt tb_6 119 rfl rfl
theorem w_1385 : Cond.selects "Leadchapel$Book" yX0_linesOnPages yX0_linesOnPages ∈ GW := gwt tb_6 120 rfl rfl
theorem w_1383 : Cond.methodLink "Leadchapel" 428 yX0_linesOnPages ∈ GW := gwt tb_6 118 rfl rfl
theorem w_1390 : Cond.code yX0_lastWordOfLine prog_2_method_14_code 7 (Option.some Jvm.ClassFile.FieldType.int) ∈ GW := gwt tb_6 125 rfl rfl
theorem w_1388 : Cond.instanceMethod yX0_lastWordOfLine ∈ GW := gwt tb_6 123 rfl rfl
theorem w_1389 : Cond.selects "Leadchapel$Book" yX0_lastWordOfLine yX0_lastWordOfLine ∈ GW := gwt tb_6 124 rfl rfl
theorem w_1387 : Cond.methodLink "Leadchapel" 431 yX0_lastWordOfLine ∈ GW := gwt tb_6 122 rfl rfl
theorem w_1395 : Cond.code yX9_isLike prog_11_method_6_code 4 (Option.some Jvm.ClassFile.FieldType.boolean) ∈ GW := gwt tb_6 130 rfl rfl
theorem w_1393 : Cond.instanceMethod yX9_isLike ∈ GW := gwt tb_6 128 rfl rfl
theorem w_1394 : Cond.selects "Leadchapel$Text" yX9_isLike yX9_isLike ∈ GW := gwt tb_6 129 rfl rfl
theorem w_1392 : Cond.methodLink "Leadchapel" 434 yX9_isLike ∈ GW := gwt tb_6 127 rfl rfl
theorem w_1382 : Cond.code yX11_follows prog_1_method_43_code 10 (Option.some Jvm.ClassFile.FieldType.int) ∈ GW := gwt tb_6 117 rfl rfl
theorem w_1380 : Cond.instanceMethod yX11_follows ∈ GW := gwt tb_6 115 rfl rfl
theorem w_1381 : Cond.selects "Leadchapel" yX11_follows yX11_follows ∈ GW := gwt tb_6 116 rfl rfl
theorem w_1379 : Cond.methodLink "LeadchapelLaw" 138 yX11_follows ∈ GW := gwt tb_6 114 rfl rfl
theorem w_1027 : Cond.code yX11_formeOf prog_1_method_52_code 2 (Option.some (Jvm.ClassFile.FieldType.object "Leadchapel$Forme")) ∈ GW := gwt tb_5 2 rfl rfl
theorem w_1026 : Cond.static yX11_formeOf ∈ GW := gwt tb_5 1 rfl rfl
theorem w_1025 : Cond.methodLink "Leadchapel" 269 yX11_formeOf ∈ GW := gwt tb_5 0 rfl rfl
theorem w_693 : Cond.fieldLink "Leadchapel" 284 "Leadchapel$Forme" "skeleton" "I" ∈ GW := gwt tb_3 148 rfl rfl
theorem w_696 : Cond.fieldLink "Leadchapel" 329 "Leadchapel$Forme" "printed" "I" ∈ GW := gwt tb_3 151 rfl rfl
theorem w_704 : Cond.fieldLink "Leadchapel" 335 "Leadchapel$Forme" "doneHour" "I" ∈ GW := gwt tb_3 159 rfl rfl
theorem w_1108 : Cond.code yX11_forme prog_1_method_24_code 5 (Option.some Jvm.ClassFile.FieldType.int) ∈ GW := gwt tb_5 83 rfl rfl
theorem w_1106 : Cond.instanceMethod yX11_forme ∈ GW := gwt tb_5 81 rfl rfl
theorem w_1107 : Cond.selects "Leadchapel" yX11_forme yX11_forme ∈ GW := gwt tb_5 82 rfl rfl
theorem w_1105 : Cond.methodLink "LeadchapelLaw" 80 yX11_forme ∈ GW := gwt tb_5 80 rfl rfl
theorem w_500 : Cond.fieldLink "Leadchapel$Hand" 9 "Leadchapel$Hand" "likes" "I" ∈ GW := gwt tb_2 195 rfl rfl
theorem w_501 : Cond.fieldLink "Leadchapel$Hand" 15 "Leadchapel$Hand" "drops" "I" ∈ GW := gwt tb_2 196 rfl rfl
theorem w_502 : Cond.fieldLink "Leadchapel$Hand" 18 "Leadchapel$Hand" "skips" "I" ∈ GW := gwt tb_2 197 rfl rfl
theorem w_499 : Cond.methodLink "Leadchapel$Hand" 3 ⟨"java/lang/Object", "<init>", "()V"⟩ ∈ GW := gwt tb_2 194 rfl rfl
theorem w_229 : Cond.fieldLink "Leadchapel" 131 "Leadchapel" "handCount" "I" ∈ GW := gwt tb_1 164 rfl rfl
theorem w_169 : Cond.classLink "Leadchapel" 23 "Leadchapel$Hand" ∈ GW := gwt tb_1 104 rfl rfl
theorem w_495 : Cond.instantiable "Leadchapel$Hand" 6 ∈ GW := gwt tb_2 190 rfl rfl
theorem w_78 : Cond.initialized "Leadchapel$Hand" ∈ GW := gwt tb_1 13 rfl rfl
theorem w_498 : Cond.code yX3_init prog_5_method_1_code 4 (Option.none : Option Jvm.ClassFile.FieldType) ∈ GW := gwt tb_2 193 rfl rfl
theorem w_497 : Cond.instanceMethod yX3_init ∈ GW := gwt tb_2 192 rfl rfl
theorem w_496 : Cond.methodLink "Leadchapel" 134 yX3_init ∈ GW := gwt tb_2 191 rfl rfl
theorem w_494 : Cond.code yX11_hand prog_1_method_10_code 4 (Option.some Jvm.ClassFile.FieldType.int) ∈ GW := gwt tb_2 189 rfl rfl
theorem w_492 : Cond.instanceMethod yX11_hand ∈ GW := gwt tb_2 187 rfl rfl
theorem w_493 : Cond.selects "Leadchapel" yX11_hand yX11_hand ∈ GW := gwt tb_2 188 rfl rfl
theorem w_491 : Cond.methodLink "LeadchapelLaw" 37 yX11_hand ∈ GW := gwt tb_2 186 rfl rfl
theorem w_208 : Cond.fieldLink "Leadchapel$Scholar" 27 "Leadchapel$Scholar" "parts" "[I" ∈ GW := gwt tb_1 143 rfl rfl
theorem w_205 : Cond.fieldLink "Leadchapel$Scholar" 18 "Leadchapel$Scholar" "unlike" "[I" ∈ GW := gwt tb_1 140 rfl rfl
theorem w_1359 : Cond.methodLink "Leadchapel$Scholar" 90 ⟨"java/lang/Math", "max", "(II)I"⟩ ∈ GW := gwt tb_6 94 rfl rfl
theorem w_1358 : Cond.code yX7_canPart prog_9_method_10_code 7 (Option.some Jvm.ClassFile.FieldType.boolean) ∈ GW := gwt tb_6 93 rfl rfl
theorem w_1357 : Cond.static yX7_canPart ∈ GW := gwt tb_6 92 rfl rfl
theorem w_1356 : Cond.methodLink "Leadchapel$Scholar" 62 yX7_canPart ∈ GW := gwt tb_6 91 rfl rfl
theorem w_630 : Cond.fieldLink "Leadchapel$Page" 60 "Leadchapel$Page" "crowded" "Z" ∈ GW := gwt tb_3 85 rfl rfl
theorem w_545 : Cond.fieldLink "Leadchapel$Page" 83 "Leadchapel$Text" "spelling" "[I" ∈ GW := gwt tb_3 0 rfl rfl
theorem w_1344 : Cond.code yX4_isLoose prog_6_method_6_code 2 (Option.some Jvm.ClassFile.FieldType.boolean) ∈ GW := gwt tb_6 79 rfl rfl
theorem w_1342 : Cond.instanceMethod yX4_isLoose ∈ GW := gwt tb_6 77 rfl rfl
theorem w_1343 : Cond.selects "Leadchapel$Page" yX4_isLoose yX4_isLoose ∈ GW := gwt tb_6 78 rfl rfl
theorem w_1341 : Cond.methodLink "Leadchapel$Page" 88 yX4_isLoose ∈ GW := gwt tb_6 76 rfl rfl
theorem w_1010 : Cond.code yX4_spellingsOf prog_6_method_7_code 8 (Option.some Jvm.ClassFile.FieldType.int) ∈ GW := gwt tb_4 225 rfl rfl
theorem w_1008 : Cond.instanceMethod yX4_spellingsOf ∈ GW := gwt tb_4 223 rfl rfl
theorem w_1009 : Cond.selects "Leadchapel$Page" yX4_spellingsOf yX4_spellingsOf ∈ GW := gwt tb_4 224 rfl rfl
theorem w_1345 : Cond.methodLink "Leadchapel$Page" 92 yX4_spellingsOf ∈ GW := gwt tb_6 80 rfl rfl
theorem w_768 : Cond.fieldLink "Leadchapel$Scholar" 72 "Leadchapel$Book" "pages" "[LLeadchapel$Page;" ∈ GW := gwt tb_3 223 rfl rfl
theorem w_1336 : Cond.methodLink "Leadchapel$Scholar" 76 yX4_isSet ∈ GW := gwt tb_6 71 rfl rfl
theorem w_206 : Cond.fieldLink "Leadchapel$Scholar" 21 "Leadchapel$Scholar" "brief" "[I" ∈ GW := gwt tb_1 141 rfl rfl
theorem w_765 : Cond.fieldLink "Leadchapel$Scholar" 82 "Leadchapel$Book" "text" "LLeadchapel$Text;" ∈ GW := gwt tb_3 220 rfl rfl
theorem w_1340 : Cond.code yX4_looseSpellings prog_6_method_8_code 5 (Option.some Jvm.ClassFile.FieldType.int) ∈ GW := gwt tb_6 75 rfl rfl
theorem w_1338 : Cond.instanceMethod yX4_looseSpellings ∈ GW := gwt tb_6 73 rfl rfl
theorem w_1339 : Cond.selects "Leadchapel$Page" yX4_looseSpellings yX4_looseSpellings ∈ GW := gwt tb_6 74 rfl rfl
theorem w_1337 : Cond.methodLink "Leadchapel$Scholar" 86 yX4_looseSpellings ∈ GW := gwt tb_6 72 rfl rfl
theorem w_207 : Cond.fieldLink "Leadchapel$Scholar" 24 "Leadchapel$Scholar" "full" "[I" ∈ GW := gwt tb_1 142 rfl rfl
theorem w_1353 : Cond.constant "java/lang/Integer" 265 1431655765 ∈ GW := gwt tb_6 88 rfl rfl
theorem w_1354 : Cond.constant "java/lang/Integer" 266 858993459 ∈ GW := gwt tb_6 89 rfl rfl
theorem w_1355 : Cond.constant "java/lang/Integer" 267 252645135 ∈ GW := gwt tb_6 90 rfl rfl
theorem w_1352 : Cond.code ⟨"java/lang/Integer", "bitCount", "(I)I"⟩ prog_19_method_49_code 1 (Option.some Jvm.ClassFile.FieldType.int) ∈ GW := gwt tb_6 87 rfl rfl
theorem w_87 : Cond.initialized "java/lang/Integer" ∈ GW := gwt tb_1 22 rfl rfl
theorem w_1351 : Cond.static ⟨"java/lang/Integer", "bitCount", "(I)I"⟩ ∈ GW := gwt tb_6 86 rfl rfl
theorem w_1350 : Cond.methodLink "Leadchapel$Scholar" 66 ⟨"java/lang/Integer", "bitCount", "(I)I"⟩ ∈ GW := gwt tb_6 85 rfl rfl
theorem w_1335 : Cond.code yX7_readPages prog_9_method_9_code 7 (Option.some Jvm.ClassFile.FieldType.int) ∈ GW := gwt tb_6 70 rfl rfl
theorem w_1334 : Cond.instanceMethod yX7_readPages ∈ GW := gwt tb_6 69 rfl rfl
theorem w_15 : Cond.selects "Leadchapel$Scholar" yX7_readPages yX7_readPages ∈ GW := gwt tb_0 15 rfl rfl
theorem w_1332 : Cond.methodLink "Leadchapel$Scholar" 54 yX7_readPages ∈ GW := gwt tb_6 67 rfl rfl
theorem w_1349 : Cond.code yX7_tightPages prog_9_method_8_code 6 (Option.some Jvm.ClassFile.FieldType.int) ∈ GW := gwt tb_6 84 rfl rfl
theorem w_1348 : Cond.instanceMethod yX7_tightPages ∈ GW := gwt tb_6 83 rfl rfl
theorem w_16 : Cond.selects "Leadchapel$Scholar" yX7_tightPages yX7_tightPages ∈ GW := gwt tb_0 16 rfl rfl
theorem w_1346 : Cond.methodLink "Leadchapel$Scholar" 58 yX7_tightPages ∈ GW := gwt tb_6 81 rfl rfl
theorem w_1331 : Cond.code yX7_fewestHands prog_9_method_7_code 4 (Option.some Jvm.ClassFile.FieldType.int) ∈ GW := gwt tb_6 66 rfl rfl
theorem w_1329 : Cond.instanceMethod yX7_fewestHands ∈ GW := gwt tb_6 64 rfl rfl
theorem w_1330 : Cond.selects "Leadchapel$Scholar" yX7_fewestHands yX7_fewestHands ∈ GW := gwt tb_6 65 rfl rfl
theorem w_1328 : Cond.methodLink "Leadchapel" 421 yX7_fewestHands ∈ GW := gwt tb_6 63 rfl rfl
theorem w_1327 : Cond.code yX11_hands prog_1_method_41_code 2 (Option.some Jvm.ClassFile.FieldType.int) ∈ GW := gwt tb_6 62 rfl rfl
theorem w_1325 : Cond.instanceMethod yX11_hands ∈ GW := gwt tb_6 60 rfl rfl
theorem w_1326 : Cond.selects "Leadchapel" yX11_hands yX11_hands ∈ GW := gwt tb_6 61 rfl rfl
theorem w_1324 : Cond.methodLink "LeadchapelLaw" 132 yX11_hands ∈ GW := gwt tb_6 59 rfl rfl
theorem w_774 : Cond.fieldLink "Leadchapel" 291 "Leadchapel$Book" "sheets" "[LLeadchapel$Sheet;" ∈ GW := gwt tb_3 229 rfl rfl
theorem w_742 : Cond.fieldLink "Leadchapel" 360 "Leadchapel$Sheet" "turn" "I" ∈ GW := gwt tb_3 197 rfl rfl
theorem w_1160 : Cond.code yX11_lay prog_1_method_28_code 5 (Option.none : Option Jvm.ClassFile.FieldType) ∈ GW := gwt tb_5 135 rfl rfl
theorem w_1158 : Cond.instanceMethod yX11_lay ∈ GW := gwt tb_5 133 rfl rfl
theorem w_1159 : Cond.selects "Leadchapel" yX11_lay yX11_lay ∈ GW := gwt tb_5 134 rfl rfl
theorem w_1157 : Cond.methodLink "LeadchapelLaw" 92 yX11_lay ∈ GW := gwt tb_5 132 rfl rfl
theorem w_626 : Cond.fieldLink "Leadchapel" 238 "Leadchapel$Page" "lines" "I" ∈ GW := gwt tb_3 81 rfl rfl
theorem w_1001 : Cond.methodLink "Leadchapel" 241 yX4_wordBehindLine ∈ GW := gwt tb_4 216 rfl rfl
theorem w_611 : Cond.fieldLink "Leadchapel" 244 "Leadchapel$Page" "firstWord" "[I" ∈ GW := gwt tb_3 66 rfl rfl
theorem w_1002 : Cond.methodLink "Leadchapel" 247 yX4_lastWord ∈ GW := gwt tb_4 217 rfl rfl
theorem w_613 : Cond.fieldLink "Leadchapel" 250 "Leadchapel$Page" "missing" "[I" ∈ GW := gwt tb_3 68 rfl rfl
theorem w_615 : Cond.fieldLink "Leadchapel" 253 "Leadchapel$Page" "cut" "[Z" ∈ GW := gwt tb_3 70 rfl rfl
theorem w_1007 : Cond.methodLink "Leadchapel" 256 yX4_spellingsOf ∈ GW := gwt tb_4 222 rfl rfl
theorem w_1000 : Cond.code yX11_line prog_1_method_17_code 7 (Option.some Jvm.ClassFile.FieldType.int) ∈ GW := gwt tb_4 215 rfl rfl
theorem w_998 : Cond.instanceMethod yX11_line ∈ GW := gwt tb_4 213 rfl rfl
theorem w_999 : Cond.selects "Leadchapel" yX11_line yX11_line ∈ GW := gwt tb_4 214 rfl rfl
theorem w_997 : Cond.methodLink "LeadchapelLaw" 60 yX11_line ∈ GW := gwt tb_4 212 rfl rfl
theorem w_692 : Cond.fieldLink "Leadchapel$Book" 82 "Leadchapel$Forme" "skeleton" "I" ∈ GW := gwt tb_3 147 rfl rfl
theorem w_689 : Cond.fieldLink "Leadchapel$Book" 121 "Leadchapel$Forme" "how" "I" ∈ GW := gwt tb_3 144 rfl rfl
theorem w_1045 : Cond.code yX0_holdsSkeleton prog_2_method_18_code 6 (Option.some Jvm.ClassFile.FieldType.boolean) ∈ GW := gwt tb_5 20 rfl rfl
theorem w_1043 : Cond.instanceMethod yX0_holdsSkeleton ∈ GW := gwt tb_5 18 rfl rfl
theorem w_1044 : Cond.selects "Leadchapel$Book" yX0_holdsSkeleton yX0_holdsSkeleton ∈ GW := gwt tb_5 19 rfl rfl
theorem w_1042 : Cond.methodLink "Leadchapel" 473 yX0_holdsSkeleton ∈ GW := gwt tb_5 17 rfl rfl
theorem w_1037 : Cond.methodLink "Leadchapel$Forme" 41 yX4_isSet ∈ GW := gwt tb_5 12 rfl rfl
theorem w_1036 : Cond.code yX2_allPagesSet prog_4_method_3_code 5 (Option.some Jvm.ClassFile.FieldType.boolean) ∈ GW := gwt tb_5 11 rfl rfl
theorem w_1034 : Cond.instanceMethod yX2_allPagesSet ∈ GW := gwt tb_5 9 rfl rfl
theorem w_1035 : Cond.selects "Leadchapel$Forme" yX2_allPagesSet yX2_allPagesSet ∈ GW := gwt tb_5 10 rfl rfl
theorem w_1033 : Cond.methodLink "Leadchapel" 278 yX2_allPagesSet ∈ GW := gwt tb_5 8 rfl rfl
theorem w_1041 : Cond.code yX11_isInUse prog_1_method_54_code 6 (Option.some Jvm.ClassFile.FieldType.boolean) ∈ GW := gwt tb_5 16 rfl rfl
theorem w_1040 : Cond.instanceMethod yX11_isInUse ∈ GW := gwt tb_5 15 rfl rfl
theorem w_11 : Cond.selects "Leadchapel" yX11_isInUse yX11_isInUse ∈ GW := gwt tb_0 11 rfl rfl
theorem w_1038 : Cond.methodLink "Leadchapel" 281 yX11_isInUse ∈ GW := gwt tb_5 13 rfl rfl
theorem w_1024 : Cond.code yX11_lock prog_1_method_19_code 5 (Option.none : Option Jvm.ClassFile.FieldType) ∈ GW := gwt tb_4 239 rfl rfl
theorem w_1022 : Cond.instanceMethod yX11_lock ∈ GW := gwt tb_4 237 rfl rfl
theorem w_1023 : Cond.selects "Leadchapel" yX11_lock yX11_lock ∈ GW := gwt tb_4 238 rfl rfl
theorem w_1021 : Cond.methodLink "LeadchapelLaw" 67 yX11_lock ∈ GW := gwt tb_4 236 rfl rfl
theorem w_1272 : Cond.code yX0_isMixed prog_2_method_23_code 6 (Option.some Jvm.ClassFile.FieldType.boolean) ∈ GW := gwt tb_6 7 rfl rfl
theorem w_1270 : Cond.instanceMethod yX0_isMixed ∈ GW := gwt tb_6 5 rfl rfl
theorem w_1271 : Cond.selects "Leadchapel$Book" yX0_isMixed yX0_isMixed ∈ GW := gwt tb_6 6 rfl rfl
theorem w_1269 : Cond.methodLink "Leadchapel" 399 yX0_isMixed ∈ GW := gwt tb_6 4 rfl rfl
theorem w_1268 : Cond.code yX11_madeUp prog_1_method_36_code 6 (Option.some Jvm.ClassFile.FieldType.int) ∈ GW := gwt tb_6 3 rfl rfl
theorem w_1266 : Cond.instanceMethod yX11_madeUp ∈ GW := gwt tb_6 1 rfl rfl
theorem w_1267 : Cond.selects "Leadchapel" yX11_madeUp yX11_madeUp ∈ GW := gwt tb_6 2 rfl rfl
theorem w_1265 : Cond.methodLink "LeadchapelLaw" 117 yX11_madeUp ∈ GW := gwt tb_6 0 rfl rfl
theorem w_739 : Cond.fieldLink "Leadchapel$Sheet" 27 "Leadchapel$Sheet" "stock" "I" ∈ GW := gwt tb_3 194 rfl rfl
theorem w_740 : Cond.fieldLink "Leadchapel$Sheet" 30 "Leadchapel$Sheet" "firstOfStock" "I" ∈ GW := gwt tb_3 195 rfl rfl
theorem w_758 : Cond.fieldLink "Leadchapel" 385 "Leadchapel$Book" "format" "I" ∈ GW := gwt tb_3 213 rfl rfl
theorem w_1231 : Cond.code yX8_moldOf prog_10_method_5_code 2 (Option.some Jvm.ClassFile.FieldType.int) ∈ GW := gwt tb_5 206 rfl rfl
theorem w_1229 : Cond.instanceMethod yX8_moldOf ∈ GW := gwt tb_5 204 rfl rfl
theorem w_1230 : Cond.selects "Leadchapel$Sheet" yX8_moldOf yX8_moldOf ∈ GW := gwt tb_5 205 rfl rfl
theorem w_1228 : Cond.methodLink "Leadchapel" 388 yX8_moldOf ∈ GW := gwt tb_5 203 rfl rfl
theorem w_1227 : Cond.code yX11_mark prog_1_method_33_code 6 (Option.some Jvm.ClassFile.FieldType.int) ∈ GW := gwt tb_5 202 rfl rfl
theorem w_1225 : Cond.instanceMethod yX11_mark ∈ GW := gwt tb_5 200 rfl rfl
theorem w_1226 : Cond.selects "Leadchapel" yX11_mark yX11_mark ∈ GW := gwt tb_5 201 rfl rfl
theorem w_1224 : Cond.methodLink "LeadchapelLaw" 108 yX11_mark ∈ GW := gwt tb_5 199 rfl rfl
theorem w_183 : Cond.fieldLink "Leadchapel" 323 "Leadchapel$Press" "crew" "I" ∈ GW := gwt tb_1 118 rfl rfl
theorem w_1076 : Cond.code yX11_men prog_1_method_21_code 5 (Option.some Jvm.ClassFile.FieldType.int) ∈ GW := gwt tb_5 51 rfl rfl
theorem w_1074 : Cond.instanceMethod yX11_men ∈ GW := gwt tb_5 49 rfl rfl
theorem w_1075 : Cond.selects "Leadchapel" yX11_men yX11_men ∈ GW := gwt tb_5 50 rfl rfl
theorem w_1073 : Cond.methodLink "LeadchapelLaw" 74 yX11_men ∈ GW := gwt tb_5 48 rfl rfl
theorem w_204 : Cond.fieldLink "Leadchapel$Scholar" 15 "Leadchapel$Scholar" "ways" "[I" ∈ GW := gwt tb_1 139 rfl rfl
theorem w_1298 : Cond.code yX7_countByLast prog_9_method_4_code 6 (Option.some Jvm.ClassFile.FieldType.int) ∈ GW := gwt tb_6 33 rfl rfl
theorem w_1296 : Cond.instanceMethod yX7_countByLast ∈ GW := gwt tb_6 31 rfl rfl
theorem w_1297 : Cond.selects "Leadchapel$Scholar" yX7_countByLast yX7_countByLast ∈ GW := gwt tb_6 32 rfl rfl
theorem w_1295 : Cond.methodLink "Leadchapel" 409 yX7_countByLast ∈ GW := gwt tb_6 30 rfl rfl
theorem w_1286 : Cond.code yX11_orders prog_1_method_38_code 3 (Option.some Jvm.ClassFile.FieldType.int) ∈ GW := gwt tb_6 21 rfl rfl
theorem w_1284 : Cond.instanceMethod yX11_orders ∈ GW := gwt tb_6 19 rfl rfl
theorem w_1285 : Cond.selects "Leadchapel" yX11_orders yX11_orders ∈ GW := gwt tb_6 20 rfl rfl
theorem w_1283 : Cond.methodLink "LeadchapelLaw" 123 yX11_orders ∈ GW := gwt tb_6 18 rfl rfl
theorem w_1309 : Cond.code yX7_countByPlace prog_9_method_5_code 6 (Option.some Jvm.ClassFile.FieldType.int) ∈ GW := gwt tb_6 44 rfl rfl
theorem w_1307 : Cond.instanceMethod yX7_countByPlace ∈ GW := gwt tb_6 42 rfl rfl
theorem w_1308 : Cond.selects "Leadchapel$Scholar" yX7_countByPlace yX7_countByPlace ∈ GW := gwt tb_6 43 rfl rfl
theorem w_1306 : Cond.methodLink "Leadchapel" 412 yX7_countByPlace ∈ GW := gwt tb_6 41 rfl rfl
theorem w_1305 : Cond.code yX11_ordersAnew prog_1_method_39_code 3 (Option.some Jvm.ClassFile.FieldType.int) ∈ GW := gwt tb_6 40 rfl rfl
theorem w_1303 : Cond.instanceMethod yX11_ordersAnew ∈ GW := gwt tb_6 38 rfl rfl
theorem w_1304 : Cond.selects "Leadchapel" yX11_ordersAnew yX11_ordersAnew ∈ GW := gwt tb_6 39 rfl rfl
theorem w_1302 : Cond.methodLink "LeadchapelLaw" 126 yX11_ordersAnew ∈ GW := gwt tb_6 37 rfl rfl
theorem w_993 : Cond.methodLink "Leadchapel$Page" 50 yX4_isSet ∈ GW := gwt tb_4 208 rfl rfl
theorem w_627 : Cond.fieldLink "Leadchapel$Page" 57 "Leadchapel$Page" "through" "I" ∈ GW := gwt tb_3 82 rfl rfl
theorem w_629 : Cond.fieldLink "Leadchapel$Page" 64 "Leadchapel$Page" "leftOut" "I" ∈ GW := gwt tb_3 84 rfl rfl
theorem w_588 : Cond.fieldLink "Leadchapel$Page" 67 "Leadchapel$Places" "count" "I" ∈ GW := gwt tb_3 43 rfl rfl
theorem w_992 : Cond.code yX4_told prog_6_method_3_code 2 (Option.some Jvm.ClassFile.FieldType.int) ∈ GW := gwt tb_4 207 rfl rfl
theorem w_990 : Cond.instanceMethod yX4_told ∈ GW := gwt tb_4 205 rfl rfl
theorem w_991 : Cond.selects "Leadchapel$Page" yX4_told yX4_told ∈ GW := gwt tb_4 206 rfl rfl
theorem w_989 : Cond.methodLink "Leadchapel" 235 yX4_told ∈ GW := gwt tb_4 204 rfl rfl
theorem w_987 : Cond.code yX0_runningTitle prog_2_method_10_code 3 (Option.some Jvm.ClassFile.FieldType.int) ∈ GW := gwt tb_4 202 rfl rfl
theorem w_985 : Cond.instanceMethod yX0_runningTitle ∈ GW := gwt tb_4 200 rfl rfl
theorem w_986 : Cond.selects "Leadchapel$Book" yX0_runningTitle yX0_runningTitle ∈ GW := gwt tb_4 201 rfl rfl
theorem w_984 : Cond.methodLink "Leadchapel" 232 yX0_runningTitle ∈ GW := gwt tb_4 199 rfl rfl
theorem w_979 : Cond.code yX11_page prog_1_method_16_code 6 (Option.some Jvm.ClassFile.FieldType.int) ∈ GW := gwt tb_4 194 rfl rfl
theorem w_977 : Cond.instanceMethod yX11_page ∈ GW := gwt tb_4 192 rfl rfl
theorem w_978 : Cond.selects "Leadchapel" yX11_page yX11_page ∈ GW := gwt tb_4 193 rfl rfl
theorem w_976 : Cond.methodLink "LeadchapelLaw" 57 yX11_page ∈ GW := gwt tb_4 191 rfl rfl
theorem w_231 : Cond.fieldLink "Leadchapel" 307 "Leadchapel" "stock" "I" ∈ GW := gwt tb_1 166 rfl rfl
theorem w_1153 : Cond.code yX11_paper prog_1_method_27_code 2 (Option.some Jvm.ClassFile.FieldType.int) ∈ GW := gwt tb_5 128 rfl rfl
theorem w_1151 : Cond.instanceMethod yX11_paper ∈ GW := gwt tb_5 126 rfl rfl
theorem w_1152 : Cond.selects "Leadchapel" yX11_paper yX11_paper ∈ GW := gwt tb_5 127 rfl rfl
theorem w_1150 : Cond.methodLink "LeadchapelLaw" 89 yX11_paper ∈ GW := gwt tb_5 125 rfl rfl
theorem w_589 : Cond.fieldLink "Leadchapel$Forme" 60 "Leadchapel$Places" "count" "I" ∈ GW := gwt tb_3 44 rfl rfl
theorem w_582 : Cond.fieldLink "Leadchapel$Forme" 63 "Leadchapel$Places" "piece" "[I" ∈ GW := gwt tb_3 37 rfl rfl
theorem w_144 : Cond.fieldLink "Leadchapel$Forme" 66 "Leadchapel$Cases" "worn" "[I" ∈ GW := gwt tb_1 79 rfl rfl
theorem w_180 : Cond.fieldLink "Leadchapel$Press" 13 "Leadchapel$Press" "forme" "LLeadchapel$Forme;" ∈ GW := gwt tb_1 115 rfl rfl
theorem w_182 : Cond.fieldLink "Leadchapel$Press" 7 "Leadchapel$Press" "crew" "I" ∈ GW := gwt tb_1 117 rfl rfl
theorem w_186 : Cond.fieldLink "Leadchapel$Press" 17 "Leadchapel$Press" "hoursWorked" "I" ∈ GW := gwt tb_1 121 rfl rfl
theorem w_705 : Cond.fieldLink "Leadchapel$Press" 20 "Leadchapel$Forme" "ready" "Z" ∈ GW := gwt tb_3 160 rfl rfl
theorem w_681 : Cond.fieldLink "Leadchapel$Press" 26 "Leadchapel$Forme" "edition" "I" ∈ GW := gwt tb_3 136 rfl rfl
theorem w_694 : Cond.fieldLink "Leadchapel$Press" 29 "Leadchapel$Forme" "printed" "I" ∈ GW := gwt tb_3 149 rfl rfl
theorem w_1095 : Cond.methodLink "Leadchapel$Press" 32 ⟨"java/lang/Math", "min", "(II)I"⟩ ∈ GW := gwt tb_5 70 rfl rfl
theorem w_184 : Cond.fieldLink "Leadchapel$Press" 38 "Leadchapel$Press" "sheets" "I" ∈ GW := gwt tb_1 119 rfl rfl
theorem w_1101 : Cond.code yX2_finish prog_4_method_6_code 10 (Option.none : Option Jvm.ClassFile.FieldType) ∈ GW := gwt tb_5 76 rfl rfl
theorem w_1099 : Cond.instanceMethod yX2_finish ∈ GW := gwt tb_5 74 rfl rfl
theorem w_1100 : Cond.selects "Leadchapel$Forme" yX2_finish yX2_finish ∈ GW := gwt tb_5 75 rfl rfl
theorem w_1098 : Cond.methodLink "Leadchapel$Press" 41 yX2_finish ∈ GW := gwt tb_5 73 rfl rfl
theorem w_232 : Cond.fieldLink "Leadchapel" 317 "Leadchapel" "now" "I" ∈ GW := gwt tb_1 167 rfl rfl
theorem w_1090 : Cond.code yX11_isHoliday prog_1_method_56_code 1 (Option.some Jvm.ClassFile.FieldType.boolean) ∈ GW := gwt tb_5 65 rfl rfl
theorem w_1089 : Cond.static yX11_isHoliday ∈ GW := gwt tb_5 64 rfl rfl
theorem w_1088 : Cond.methodLink "Leadchapel" 476 yX11_isHoliday ∈ GW := gwt tb_5 63 rfl rfl
theorem w_1094 : Cond.code yX6_work prog_8_method_2_code 4 (Option.some Jvm.ClassFile.FieldType.boolean) ∈ GW := gwt tb_5 69 rfl rfl
theorem w_69 : Cond.initialized "Leadchapel$Press" ∈ GW := gwt tb_1 4 rfl rfl
theorem w_1092 : Cond.instanceMethod yX6_work ∈ GW := gwt tb_5 67 rfl rfl
theorem w_1093 : Cond.selects "Leadchapel$Press" yX6_work yX6_work ∈ GW := gwt tb_5 68 rfl rfl
theorem w_1091 : Cond.methodLink "Leadchapel" 479 yX6_work ∈ GW := gwt tb_5 66 rfl rfl
theorem w_1087 : Cond.code yX11_workAnHour prog_1_method_55_code 6 (Option.some Jvm.ClassFile.FieldType.int) ∈ GW := gwt tb_5 62 rfl rfl
theorem w_1086 : Cond.instanceMethod yX11_workAnHour ∈ GW := gwt tb_5 61 rfl rfl
theorem w_13 : Cond.selects "Leadchapel" yX11_workAnHour yX11_workAnHour ∈ GW := gwt tb_0 13 rfl rfl
theorem w_1084 : Cond.methodLink "Leadchapel" 326 yX11_workAnHour ∈ GW := gwt tb_5 59 rfl rfl
theorem w_1083 : Cond.code yX11_pass prog_1_method_22_code 4 (Option.some Jvm.ClassFile.FieldType.int) ∈ GW := gwt tb_5 58 rfl rfl
theorem w_1081 : Cond.instanceMethod yX11_pass ∈ GW := gwt tb_5 56 rfl rfl
theorem w_1082 : Cond.selects "Leadchapel" yX11_pass yX11_pass ∈ GW := gwt tb_5 57 rfl rfl
theorem w_1080 : Cond.methodLink "LeadchapelLaw" 77 yX11_pass ∈ GW := gwt tb_5 55 rfl rfl
theorem w_450 : Cond.code yX1_has prog_3_method_2_code 2 (Option.some Jvm.ClassFile.FieldType.boolean) ∈ GW := gwt tb_2 145 rfl rfl
theorem w_448 : Cond.instanceMethod yX1_has ∈ GW := gwt tb_2 143 rfl rfl
theorem w_449 : Cond.selects "Leadchapel$Cases" yX1_has yX1_has ∈ GW := gwt tb_2 144 rfl rfl
theorem w_447 : Cond.methodLink "Leadchapel" 112 yX1_has ∈ GW := gwt tb_2 142 rfl rfl
theorem w_141 : Cond.fieldLink "Leadchapel" 121 "Leadchapel$Cases" "sort" "[I" ∈ GW := gwt tb_1 76 rfl rfl
theorem w_145 : Cond.fieldLink "Leadchapel" 118 "Leadchapel$Cases" "worn" "[I" ∈ GW := gwt tb_1 80 rfl rfl
theorem w_147 : Cond.fieldLink "Leadchapel" 124 "Leadchapel$Cases" "where" "[I" ∈ GW := gwt tb_1 82 rfl rfl
theorem w_476 : Cond.code yX11_piece prog_1_method_8_code 3 (Option.some Jvm.ClassFile.FieldType.int) ∈ GW := gwt tb_2 171 rfl rfl
theorem w_474 : Cond.instanceMethod yX11_piece ∈ GW := gwt tb_2 169 rfl rfl
theorem w_475 : Cond.selects "Leadchapel" yX11_piece yX11_piece ∈ GW := gwt tb_2 170 rfl rfl
theorem w_473 : Cond.methodLink "LeadchapelLaw" 31 yX11_piece ∈ GW := gwt tb_2 168 rfl rfl
theorem w_583 : Cond.fieldLink "Leadchapel" 260 "Leadchapel$Places" "piece" "[I" ∈ GW := gwt tb_3 38 rfl rfl
theorem w_585 : Cond.fieldLink "Leadchapel" 266 "Leadchapel$Places" "turned" "[Z" ∈ GW := gwt tb_3 40 rfl rfl
theorem w_1017 : Cond.code yX11_place prog_1_method_18_code 6 (Option.some Jvm.ClassFile.FieldType.int) ∈ GW := gwt tb_4 232 rfl rfl
theorem w_1015 : Cond.instanceMethod yX11_place ∈ GW := gwt tb_4 230 rfl rfl
theorem w_1016 : Cond.selects "Leadchapel" yX11_place yX11_place ∈ GW := gwt tb_4 231 rfl rfl
theorem w_1014 : Cond.methodLink "LeadchapelLaw" 64 yX11_place ∈ GW := gwt tb_4 229 rfl rfl
theorem w_1375 : Cond.methodLink "Leadchapel" 483 ⟨"java/lang/Math", "min", "(II)I"⟩ ∈ GW := gwt tb_6 110 rfl rfl
theorem w_1370 : Cond.methodLink "Leadchapel$Scholar" 95 yX2_wasDone ∈ GW := gwt tb_6 105 rfl rfl
theorem w_700 : Cond.fieldLink "Leadchapel$Scholar" 98 "Leadchapel$Forme" "onHour" "I" ∈ GW := gwt tb_3 155 rfl rfl
theorem w_1371 : Cond.methodLink "Leadchapel$Scholar" 101 ⟨"java/lang/Math", "min", "(II)I"⟩ ∈ GW := gwt tb_6 106 rfl rfl
theorem w_703 : Cond.fieldLink "Leadchapel$Scholar" 104 "Leadchapel$Forme" "doneHour" "I" ∈ GW := gwt tb_3 158 rfl rfl
theorem w_762 : Cond.fieldLink "Leadchapel$Scholar" 107 "Leadchapel$Book" "edition" "I" ∈ GW := gwt tb_3 217 rfl rfl
theorem w_1374 : Cond.code yX11_workingHoursAhead prog_1_method_57_code 1 (Option.some Jvm.ClassFile.FieldType.int) ∈ GW := gwt tb_6 109 rfl rfl
theorem w_1373 : Cond.static yX11_workingHoursAhead ∈ GW := gwt tb_6 108 rfl rfl
theorem w_1369 : Cond.code yX7_fewestPresses prog_9_method_11_code 8 (Option.some Jvm.ClassFile.FieldType.int) ∈ GW := gwt tb_6 104 rfl rfl
theorem w_1368 : Cond.static yX7_fewestPresses ∈ GW := gwt tb_6 103 rfl rfl
theorem w_1367 : Cond.methodLink "Leadchapel" 425 yX7_fewestPresses ∈ GW := gwt tb_6 102 rfl rfl
theorem w_1366 : Cond.code yX11_presses prog_1_method_42_code 2 (Option.some Jvm.ClassFile.FieldType.int) ∈ GW := gwt tb_6 101 rfl rfl
theorem w_1364 : Cond.instanceMethod yX11_presses ∈ GW := gwt tb_6 99 rfl rfl
theorem w_1365 : Cond.selects "Leadchapel" yX11_presses yX11_presses ∈ GW := gwt tb_6 100 rfl rfl
theorem w_1363 : Cond.methodLink "LeadchapelLaw" 135 yX11_presses ∈ GW := gwt tb_6 98 rfl rfl
theorem w_688 : Cond.fieldLink "Leadchapel$Sheet" 18 "Leadchapel$Forme" "how" "I" ∈ GW := gwt tb_3 143 rfl rfl
theorem w_181 : Cond.fieldLink "Leadchapel" 295 "Leadchapel$Press" "forme" "LLeadchapel$Forme;" ∈ GW := gwt tb_1 116 rfl rfl
theorem w_1061 : Cond.code yX8_isOnPress prog_10_method_2_code 1 (Option.some Jvm.ClassFile.FieldType.boolean) ∈ GW := gwt tb_5 36 rfl rfl
theorem w_1059 : Cond.instanceMethod yX8_isOnPress ∈ GW := gwt tb_5 34 rfl rfl
theorem w_1060 : Cond.selects "Leadchapel$Sheet" yX8_isOnPress yX8_isOnPress ∈ GW := gwt tb_5 35 rfl rfl
theorem w_1058 : Cond.methodLink "Leadchapel" 299 yX8_isOnPress ∈ GW := gwt tb_5 33 rfl rfl
theorem w_1065 : Cond.code yX8_isWhite prog_10_method_3_code 1 (Option.some Jvm.ClassFile.FieldType.boolean) ∈ GW := gwt tb_5 40 rfl rfl
theorem w_1063 : Cond.instanceMethod yX8_isWhite ∈ GW := gwt tb_5 38 rfl rfl
theorem w_1064 : Cond.selects "Leadchapel$Sheet" yX8_isWhite yX8_isWhite ∈ GW := gwt tb_5 39 rfl rfl
theorem w_1062 : Cond.methodLink "Leadchapel" 304 yX8_isWhite ∈ GW := gwt tb_5 37 rfl rfl
theorem w_1069 : Cond.code yX8_takeHeap prog_10_method_4_code 4 (Option.none : Option Jvm.ClassFile.FieldType) ∈ GW := gwt tb_5 44 rfl rfl
theorem w_1067 : Cond.instanceMethod yX8_takeHeap ∈ GW := gwt tb_5 42 rfl rfl
theorem w_1068 : Cond.selects "Leadchapel$Sheet" yX8_takeHeap yX8_takeHeap ∈ GW := gwt tb_5 43 rfl rfl
theorem w_1066 : Cond.methodLink "Leadchapel" 310 yX8_takeHeap ∈ GW := gwt tb_5 41 rfl rfl
theorem w_701 : Cond.fieldLink "Leadchapel" 320 "Leadchapel$Forme" "onHour" "I" ∈ GW := gwt tb_3 156 rfl rfl
theorem w_1052 : Cond.code yX11_print prog_1_method_20_code 8 (Option.none : Option Jvm.ClassFile.FieldType) ∈ GW := gwt tb_5 27 rfl rfl
theorem w_1050 : Cond.instanceMethod yX11_print ∈ GW := gwt tb_5 25 rfl rfl
theorem w_1051 : Cond.selects "Leadchapel" yX11_print yX11_print ∈ GW := gwt tb_5 26 rfl rfl
theorem w_1049 : Cond.methodLink "LeadchapelLaw" 71 yX11_print ∈ GW := gwt tb_5 24 rfl rfl
theorem w_506 : Cond.fieldLink "Leadchapel$Hand" 24 "Leadchapel$Hand" "away" "I" ∈ GW := gwt tb_2 201 rfl rfl
theorem w_1146 : Cond.code yX3_boxForNext prog_5_method_4_code 2 (Option.some Jvm.ClassFile.FieldType.int) ∈ GW := gwt tb_5 121 rfl rfl
theorem w_1144 : Cond.instanceMethod yX3_boxForNext ∈ GW := gwt tb_5 119 rfl rfl
theorem w_1145 : Cond.selects "Leadchapel$Hand" yX3_boxForNext yX3_boxForNext ∈ GW := gwt tb_5 120 rfl rfl
theorem w_1143 : Cond.methodLink "Leadchapel$Places" 57 yX3_boxForNext ∈ GW := gwt tb_5 118 rfl rfl
theorem w_679 : Cond.fieldLink "Leadchapel" 352 "Leadchapel$Forme" "pages" "[LLeadchapel$Page;" ∈ GW := gwt tb_3 134 rfl rfl
theorem w_1142 : Cond.code yX5_clear prog_7_method_5_code 6 (Option.some Jvm.ClassFile.FieldType.int) ∈ GW := gwt tb_5 117 rfl rfl
theorem w_1140 : Cond.instanceMethod yX5_clear ∈ GW := gwt tb_5 115 rfl rfl
theorem w_1141 : Cond.selects "Leadchapel$Places" yX5_clear yX5_clear ∈ GW := gwt tb_5 116 rfl rfl
theorem w_1139 : Cond.methodLink "Leadchapel" 353 yX5_clear ∈ GW := gwt tb_5 114 rfl rfl
theorem w_1138 : Cond.code yX11_putAway prog_1_method_26_code 11 (Option.some Jvm.ClassFile.FieldType.int) ∈ GW := gwt tb_5 113 rfl rfl
theorem w_1136 : Cond.instanceMethod yX11_putAway ∈ GW := gwt tb_5 111 rfl rfl
theorem w_1137 : Cond.selects "Leadchapel" yX11_putAway yX11_putAway ∈ GW := gwt tb_5 112 rfl rfl
theorem w_1135 : Cond.methodLink "LeadchapelLaw" 86 yX11_putAway ∈ GW := gwt tb_5 110 rfl rfl
theorem w_948 : Cond.code yX9_growth prog_11_method_5_code 2 (Option.some Jvm.ClassFile.FieldType.int) ∈ GW := gwt tb_4 163 rfl rfl
theorem w_946 : Cond.instanceMethod yX9_growth ∈ GW := gwt tb_4 161 rfl rfl
theorem w_947 : Cond.selects "Leadchapel$Text" yX9_growth yX9_growth ∈ GW := gwt tb_4 162 rfl rfl
theorem w_945 : Cond.methodLink "Leadchapel$Page" 148 yX9_growth ∈ GW := gwt tb_4 160 rfl rfl
theorem w_503 : Cond.fieldLink "Leadchapel$Hand" 21 "Leadchapel$Hand" "chances" "I" ∈ GW := gwt tb_2 198 rfl rfl
theorem w_935 : Cond.code yX9_sameSoon prog_11_method_7_code 4 (Option.some Jvm.ClassFile.FieldType.int) ∈ GW := gwt tb_4 150 rfl rfl
theorem w_933 : Cond.instanceMethod yX9_sameSoon ∈ GW := gwt tb_4 148 rfl rfl
theorem w_934 : Cond.selects "Leadchapel$Text" yX9_sameSoon yX9_sameSoon ∈ GW := gwt tb_4 149 rfl rfl
theorem w_932 : Cond.methodLink "Leadchapel$Page" 142 yX9_sameSoon ∈ GW := gwt tb_4 147 rfl rfl
theorem w_939 : Cond.code yX3_skipsNow prog_5_method_3_code 1 (Option.some Jvm.ClassFile.FieldType.boolean) ∈ GW := gwt tb_4 154 rfl rfl
theorem w_937 : Cond.instanceMethod yX3_skipsNow ∈ GW := gwt tb_4 152 rfl rfl
theorem w_938 : Cond.selects "Leadchapel$Hand" yX3_skipsNow yX3_skipsNow ∈ GW := gwt tb_4 153 rfl rfl
theorem w_936 : Cond.methodLink "Leadchapel$Page" 145 yX3_skipsNow ∈ GW := gwt tb_4 151 rfl rfl
theorem w_921 : Cond.code yX3_likesLong prog_5_method_2_code 2 (Option.some Jvm.ClassFile.FieldType.boolean) ∈ GW := gwt tb_4 136 rfl rfl
theorem w_919 : Cond.instanceMethod yX3_likesLong ∈ GW := gwt tb_4 134 rfl rfl
theorem w_920 : Cond.selects "Leadchapel$Hand" yX3_likesLong yX3_likesLong ∈ GW := gwt tb_4 135 rfl rfl
theorem w_918 : Cond.methodLink "Leadchapel$Page" 135 yX3_likesLong ∈ GW := gwt tb_4 133 rfl rfl
theorem w_543 : Cond.fieldLink "Leadchapel$Page" 138 "Leadchapel$Text" "full" "[J" ∈ GW := gwt tb_2 238 rfl rfl
theorem w_917 : Cond.code yX4_prefersLong prog_6_method_12_code 5 (Option.some Jvm.ClassFile.FieldType.boolean) ∈ GW := gwt tb_4 132 rfl rfl
theorem w_916 : Cond.instanceMethod yX4_prefersLong ∈ GW := gwt tb_4 131 rfl rfl
theorem w_6 : Cond.selects "Leadchapel$Page" yX4_prefersLong yX4_prefersLong ∈ GW := gwt tb_0 6 rfl rfl
theorem w_914 : Cond.methodLink "Leadchapel$Page" 112 yX4_prefersLong ∈ GW := gwt tb_4 129 rfl rfl
theorem w_923 : Cond.methodLink "Leadchapel$Page" 116 yX9_form ∈ GW := gwt tb_4 138 rfl rfl
theorem w_927 : Cond.code yX4_addWord prog_6_method_13_code 3 (Option.none : Option Jvm.ClassFile.FieldType) ∈ GW := gwt tb_4 142 rfl rfl
theorem w_926 : Cond.instanceMethod yX4_addWord ∈ GW := gwt tb_4 141 rfl rfl
theorem w_7 : Cond.selects "Leadchapel$Page" yX4_addWord yX4_addWord ∈ GW := gwt tb_0 7 rfl rfl
theorem w_924 : Cond.methodLink "Leadchapel$Page" 124 yX4_addWord ∈ GW := gwt tb_4 139 rfl rfl
theorem w_547 : Cond.fieldLink "Leadchapel$Page" 128 "Leadchapel$Text" "endsLine" "[Z" ∈ GW := gwt tb_3 2 rfl rfl
theorem w_931 : Cond.code yX4_goOnBehind prog_6_method_14_code 6 (Option.none : Option Jvm.ClassFile.FieldType) ∈ GW := gwt tb_4 146 rfl rfl
theorem w_930 : Cond.instanceMethod yX4_goOnBehind ∈ GW := gwt tb_4 145 rfl rfl
theorem w_8 : Cond.selects "Leadchapel$Page" yX4_goOnBehind yX4_goOnBehind ∈ GW := gwt tb_0 8 rfl rfl
theorem w_928 : Cond.methodLink "Leadchapel$Page" 131 yX4_goOnBehind ∈ GW := gwt tb_4 143 rfl rfl
theorem w_913 : Cond.code yX4_takeLine prog_6_method_11_code 11 (Option.none : Option Jvm.ClassFile.FieldType) ∈ GW := gwt tb_4 128 rfl rfl
theorem w_912 : Cond.instanceMethod yX4_takeLine ∈ GW := gwt tb_4 127 rfl rfl
theorem w_5 : Cond.selects "Leadchapel$Page" yX4_takeLine yX4_takeLine ∈ GW := gwt tb_0 5 rfl rfl
theorem w_910 : Cond.methodLink "Leadchapel$Page" 109 yX4_takeLine ∈ GW := gwt tb_4 125 rfl rfl
theorem w_504 : Cond.fieldLink "Leadchapel$Page" 96 "Leadchapel$Hand" "chances" "I" ∈ GW := gwt tb_2 199 rfl rfl
theorem w_909 : Cond.code yX4_takeLines prog_6_method_10_code 6 (Option.none : Option Jvm.ClassFile.FieldType) ∈ GW := gwt tb_4 124 rfl rfl
theorem w_908 : Cond.instanceMethod yX4_takeLines ∈ GW := gwt tb_4 123 rfl rfl
theorem w_4 : Cond.selects "Leadchapel$Page" yX4_takeLines yX4_takeLines ∈ GW := gwt tb_0 4 rfl rfl
theorem w_906 : Cond.methodLink "Leadchapel$Page" 101 yX4_takeLines ∈ GW := gwt tb_4 121 rfl rfl
theorem w_943 : Cond.code yX4_fillOut prog_6_method_15_code 7 (Option.none : Option Jvm.ClassFile.FieldType) ∈ GW := gwt tb_4 158 rfl rfl
theorem w_942 : Cond.instanceMethod yX4_fillOut ∈ GW := gwt tb_4 157 rfl rfl
theorem w_9 : Cond.selects "Leadchapel$Page" yX4_fillOut yX4_fillOut ∈ GW := gwt tb_0 9 rfl rfl
theorem w_940 : Cond.methodLink "Leadchapel$Page" 105 yX4_fillOut ∈ GW := gwt tb_4 155 rfl rfl
theorem w_972 : Cond.code yX1_turnedBox prog_3_method_7_code 1 (Option.some Jvm.ClassFile.FieldType.int) ∈ GW := gwt tb_4 187 rfl rfl
theorem w_971 : Cond.static yX1_turnedBox ∈ GW := gwt tb_4 186 rfl rfl
theorem w_970 : Cond.methodLink "Leadchapel$Places" 37 yX1_turnedBox ∈ GW := gwt tb_4 185 rfl rfl
theorem w_150 : Cond.fieldLink "Leadchapel$Places" 41 "Leadchapel$Cases" "top" "[I" ∈ GW := gwt tb_1 85 rfl rfl
theorem w_961 : Cond.code yX4_joined prog_6_method_18_code 2 (Option.some Jvm.ClassFile.FieldType.int) ∈ GW := gwt tb_4 176 rfl rfl
theorem w_960 : Cond.static yX4_joined ∈ GW := gwt tb_4 175 rfl rfl
theorem w_959 : Cond.methodLink "Leadchapel$Page" 159 yX4_joined ∈ GW := gwt tb_4 174 rfl rfl
theorem w_151 : Cond.fieldLink "Leadchapel$Page" 162 "Leadchapel$Cases" "top" "[I" ∈ GW := gwt tb_1 86 rfl rfl
theorem w_965 : Cond.code yX5_fillNext prog_7_method_2_code 9 (Option.some Jvm.ClassFile.FieldType.boolean) ∈ GW := gwt tb_4 180 rfl rfl
theorem w_963 : Cond.instanceMethod yX5_fillNext ∈ GW := gwt tb_4 178 rfl rfl
theorem w_964 : Cond.selects "Leadchapel$Places" yX5_fillNext yX5_fillNext ∈ GW := gwt tb_4 179 rfl rfl
theorem w_962 : Cond.methodLink "Leadchapel$Page" 167 yX5_fillNext ∈ GW := gwt tb_4 177 rfl rfl
theorem w_957 : Cond.code yX4_fillWord prog_6_method_17_code 11 (Option.some Jvm.ClassFile.FieldType.int) ∈ GW := gwt tb_4 172 rfl rfl
theorem w_956 : Cond.instanceMethod yX4_fillWord ∈ GW := gwt tb_4 171 rfl rfl
theorem w_10 : Cond.selects "Leadchapel$Page" yX4_fillWord yX4_fillWord ∈ GW := gwt tb_0 10 rfl rfl
theorem w_954 : Cond.methodLink "Leadchapel$Page" 151 yX4_fillWord ∈ GW := gwt tb_4 169 rfl rfl
theorem w_897 : Cond.methodLink "Leadchapel" 200 yX4_isSet ∈ GW := gwt tb_4 112 rfl rfl
theorem w_901 : Cond.code yX0_wordBehindPart prog_2_method_17_code 2 (Option.some Jvm.ClassFile.FieldType.int) ∈ GW := gwt tb_4 116 rfl rfl
theorem w_899 : Cond.instanceMethod yX0_wordBehindPart ∈ GW := gwt tb_4 114 rfl rfl
theorem w_900 : Cond.selects "Leadchapel$Book" yX0_wordBehindPart yX0_wordBehindPart ∈ GW := gwt tb_4 115 rfl rfl
theorem w_898 : Cond.methodLink "Leadchapel" 205 yX0_wordBehindPart ∈ GW := gwt tb_4 113 rfl rfl
theorem w_905 : Cond.code yX4_compose prog_6_method_9_code 8 (Option.none : Option Jvm.ClassFile.FieldType) ∈ GW := gwt tb_4 120 rfl rfl
theorem w_903 : Cond.instanceMethod yX4_compose ∈ GW := gwt tb_4 118 rfl rfl
theorem w_904 : Cond.selects "Leadchapel$Page" yX4_compose yX4_compose ∈ GW := gwt tb_4 119 rfl rfl
theorem w_902 : Cond.methodLink "Leadchapel" 208 yX4_compose ∈ GW := gwt tb_4 117 rfl rfl
theorem w_620 : Cond.fieldLink "Leadchapel" 212 "Leadchapel$Page" "hand" "I" ∈ GW := gwt tb_3 75 rfl rfl
theorem w_953 : Cond.code yX4_fillPlaces prog_6_method_16_code 6 (Option.some Jvm.ClassFile.FieldType.int) ∈ GW := gwt tb_4 168 rfl rfl
theorem w_951 : Cond.instanceMethod yX4_fillPlaces ∈ GW := gwt tb_4 166 rfl rfl
theorem w_952 : Cond.selects "Leadchapel$Page" yX4_fillPlaces yX4_fillPlaces ∈ GW := gwt tb_4 167 rfl rfl
theorem w_950 : Cond.methodLink "Leadchapel" 215 yX4_fillPlaces ∈ GW := gwt tb_4 165 rfl rfl
theorem w_883 : Cond.code yX11_set prog_1_method_15_code 9 (Option.some Jvm.ClassFile.FieldType.int) ∈ GW := gwt tb_4 98 rfl rfl
theorem w_881 : Cond.instanceMethod yX11_set ∈ GW := gwt tb_4 96 rfl rfl
theorem w_882 : Cond.selects "Leadchapel" yX11_set yX11_set ∈ GW := gwt tb_4 97 rfl rfl
theorem w_880 : Cond.methodLink "LeadchapelLaw" 54 yX11_set ∈ GW := gwt tb_4 95 rfl rfl
theorem w_686 : Cond.fieldLink "Leadchapel" 402 "Leadchapel$Forme" "seen" "[I" ∈ GW := gwt tb_3 141 rfl rfl
theorem w_1279 : Cond.code yX11_shared prog_1_method_37_code 9 (Option.some Jvm.ClassFile.FieldType.int) ∈ GW := gwt tb_6 14 rfl rfl
theorem w_1277 : Cond.instanceMethod yX11_shared ∈ GW := gwt tb_6 12 rfl rfl
theorem w_1278 : Cond.selects "Leadchapel" yX11_shared yX11_shared ∈ GW := gwt tb_6 13 rfl rfl
theorem w_1276 : Cond.methodLink "LeadchapelLaw" 120 yX11_shared ∈ GW := gwt tb_6 11 rfl rfl
theorem w_397 : Cond.methodLink "Leadchapel$Words" 41 yX10_isText ∈ GW := gwt tb_2 92 rfl rfl
theorem w_402 : Cond.methodLink "Leadchapel$Words" 45 yX10_splitText ∈ GW := gwt tb_2 97 rfl rfl
theorem w_396 : Cond.code yX10_isPair prog_12_method_6_code 1 (Option.some Jvm.ClassFile.FieldType.boolean) ∈ GW := gwt tb_2 91 rfl rfl
theorem w_394 : Cond.instanceMethod yX10_isPair ∈ GW := gwt tb_2 89 rfl rfl
theorem w_395 : Cond.selects "Leadchapel$Words" yX10_isPair yX10_isPair ∈ GW := gwt tb_2 90 rfl rfl
theorem w_393 : Cond.methodLink "Leadchapel" 80 yX10_isPair ∈ GW := gwt tb_2 88 rfl rfl
theorem w_406 : Cond.methodLink "Leadchapel" 88 yX11_letters ∈ GW := gwt tb_2 101 rfl rfl
theorem w_409 : Cond.methodLink "Leadchapel" 92 yX10_spellingOf ∈ GW := gwt tb_2 104 rfl rfl
theorem w_113 : Cond.fieldLink "Leadchapel" 95 "Leadchapel$Words" "spellings" "I" ∈ GW := gwt tb_1 48 rfl rfl
theorem w_416 : Cond.code yX11_someBookHasCopy prog_1_method_53_code 5 (Option.some Jvm.ClassFile.FieldType.boolean) ∈ GW := gwt tb_2 111 rfl rfl
theorem w_415 : Cond.instanceMethod yX11_someBookHasCopy ∈ GW := gwt tb_2 110 rfl rfl
theorem w_1 : Cond.selects "Leadchapel" yX11_someBookHasCopy yX11_someBookHasCopy ∈ GW := gwt tb_0 1 rfl rfl
theorem w_413 : Cond.methodLink "Leadchapel" 98 yX11_someBookHasCopy ∈ GW := gwt tb_2 108 rfl rfl
theorem w_420 : Cond.code yX10_addSpelling prog_12_method_7_code 5 (Option.some Jvm.ClassFile.FieldType.int) ∈ GW := gwt tb_2 115 rfl rfl
theorem w_418 : Cond.instanceMethod yX10_addSpelling ∈ GW := gwt tb_2 113 rfl rfl
theorem w_419 : Cond.selects "Leadchapel$Words" yX10_addSpelling yX10_addSpelling ∈ GW := gwt tb_2 114 rfl rfl
theorem w_417 : Cond.methodLink "Leadchapel" 101 yX10_addSpelling ∈ GW := gwt tb_2 112 rfl rfl
theorem w_392 : Cond.code yX11_spelling prog_1_method_5_code 6 (Option.some Jvm.ClassFile.FieldType.int) ∈ GW := gwt tb_2 87 rfl rfl
theorem w_390 : Cond.instanceMethod yX11_spelling ∈ GW := gwt tb_2 85 rfl rfl
theorem w_391 : Cond.selects "Leadchapel" yX11_spelling yX11_spelling ∈ GW := gwt tb_2 86 rfl rfl
theorem w_389 : Cond.methodLink "LeadchapelLaw" 17 yX11_spelling ∈ GW := gwt tb_2 84 rfl rfl
theorem w_1208 : Cond.code yX11_state prog_1_method_32_code 5 (Option.some Jvm.ClassFile.FieldType.int) ∈ GW := gwt tb_5 183 rfl rfl
theorem w_1206 : Cond.instanceMethod yX11_state ∈ GW := gwt tb_5 181 rfl rfl
theorem w_1207 : Cond.selects "Leadchapel" yX11_state yX11_state ∈ GW := gwt tb_5 182 rfl rfl
theorem w_1205 : Cond.methodLink "LeadchapelLaw" 105 yX11_state ∈ GW := gwt tb_5 180 rfl rfl
theorem w_362 : Cond.methodLink "Leadchapel" 488 yX11_isLetter ∈ GW := gwt tb_2 57 rfl rfl
theorem w_361 : Cond.code yX11_isSign prog_1_method_60_code 1 (Option.some Jvm.ClassFile.FieldType.boolean) ∈ GW := gwt tb_2 56 rfl rfl
theorem w_360 : Cond.static yX11_isSign ∈ GW := gwt tb_2 55 rfl rfl
theorem w_359 : Cond.methodLink "Leadchapel" 61 yX11_isSign ∈ GW := gwt tb_2 54 rfl rfl
theorem w_385 : Cond.code yX10_add prog_12_method_2_code 2 (Option.none : Option Jvm.ClassFile.FieldType) ∈ GW := gwt tb_2 80 rfl rfl
theorem w_383 : Cond.instanceMethod yX10_add ∈ GW := gwt tb_2 78 rfl rfl
theorem w_384 : Cond.selects "Leadchapel$Words" yX10_add yX10_add ∈ GW := gwt tb_2 79 rfl rfl
theorem w_382 : Cond.methodLink "Leadchapel" 72 yX10_add ∈ GW := gwt tb_2 77 rfl rfl
theorem w_283 : Cond.code yX11_type prog_1_method_2_code 5 (Option.some Jvm.ClassFile.FieldType.int) ∈ GW := gwt tb_1 218 rfl rfl
theorem w_281 : Cond.instanceMethod yX11_type ∈ GW := gwt tb_1 216 rfl rfl
theorem w_282 : Cond.selects "Leadchapel" yX11_type yX11_type ∈ GW := gwt tb_1 217 rfl rfl
theorem w_280 : Cond.methodLink "LeadchapelLaw" 7 yX11_type ∈ GW := gwt tb_1 215 rfl rfl
theorem w_446 : Cond.code yX11_wear prog_1_method_7_code 2 (Option.some Jvm.ClassFile.FieldType.int) ∈ GW := gwt tb_2 141 rfl rfl
theorem w_444 : Cond.instanceMethod yX11_wear ∈ GW := gwt tb_2 139 rfl rfl
theorem w_445 : Cond.selects "Leadchapel" yX11_wear yX11_wear ∈ GW := gwt tb_2 140 rfl rfl
theorem w_443 : Cond.methodLink "LeadchapelLaw" 25 yX11_wear ∈ GW := gwt tb_2 138 rfl rfl
theorem w_264 : Cond.methodLink "Leadchapel" 76 yX10_faultPlace ∈ GW := gwt tb_1 199 rfl rfl
theorem w_101 : Cond.methodLink "Leadchapel$Words" 3 ⟨"java/lang/Object", "<init>", "()V"⟩ ∈ GW := gwt tb_1 36 rfl rfl
theorem w_142 : Cond.fieldLink "Leadchapel$Cases" 15 "Leadchapel$Cases" "worn" "[I" ∈ GW := gwt tb_1 77 rfl rfl
theorem w_138 : Cond.methodLink "Leadchapel$Cases" 3 ⟨"java/lang/Object", "<init>", "()V"⟩ ∈ GW := gwt tb_1 73 rfl rfl
theorem w_179 : Cond.methodLink "Leadchapel$Press" 1 ⟨"java/lang/Object", "<init>", "()V"⟩ ∈ GW := gwt tb_1 114 rfl rfl
theorem w_202 : Cond.methodLink "Leadchapel$Scholar" 3 ⟨"java/lang/Object", "<init>", "()V"⟩ ∈ GW := gwt tb_1 137 rfl rfl
theorem w_96 : Cond.classLink "Leadchapel" 7 "Leadchapel$Words" ∈ GW := gwt tb_1 31 rfl rfl
theorem w_97 : Cond.instantiable "Leadchapel$Words" 7 ∈ GW := gwt tb_1 32 rfl rfl
theorem w_100 : Cond.code yX10_init prog_12_method_1_code 1 (Option.none : Option Jvm.ClassFile.FieldType) ∈ GW := gwt tb_1 35 rfl rfl
theorem w_99 : Cond.instanceMethod yX10_init ∈ GW := gwt tb_1 34 rfl rfl
theorem w_133 : Cond.classLink "Leadchapel" 16 "Leadchapel$Cases" ∈ GW := gwt tb_1 68 rfl rfl
theorem w_134 : Cond.instantiable "Leadchapel$Cases" 6 ∈ GW := gwt tb_1 69 rfl rfl
theorem w_137 : Cond.code yX1_init prog_3_method_1_code 2 (Option.none : Option Jvm.ClassFile.FieldType) ∈ GW := gwt tb_1 72 rfl rfl
theorem w_136 : Cond.instanceMethod yX1_init ∈ GW := gwt tb_1 71 rfl rfl
theorem w_135 : Cond.methodLink "Leadchapel" 18 yX1_init ∈ GW := gwt tb_1 70 rfl rfl
theorem w_173 : Cond.classLink "Leadchapel" 35 "Leadchapel$Press" ∈ GW := gwt tb_1 108 rfl rfl
theorem w_175 : Cond.instantiable "Leadchapel$Press" 4 ∈ GW := gwt tb_1 110 rfl rfl
theorem w_178 : Cond.code yX6_init prog_8_method_1_code 1 (Option.none : Option Jvm.ClassFile.FieldType) ∈ GW := gwt tb_1 113 rfl rfl
theorem w_177 : Cond.instanceMethod yX6_init ∈ GW := gwt tb_1 112 rfl rfl
theorem w_93 : Cond.methodLink "Leadchapel" 1 ⟨"java/lang/Object", "<init>", "()V"⟩ ∈ GW := gwt tb_1 28 rfl rfl
theorem w_197 : Cond.classLink "Leadchapel" 46 "Leadchapel$Scholar" ∈ GW := gwt tb_1 132 rfl rfl
theorem w_198 : Cond.instantiable "Leadchapel$Scholar" 6 ∈ GW := gwt tb_1 133 rfl rfl
theorem w_201 : Cond.code yX7_init prog_9_method_1_code 1 (Option.none : Option Jvm.ClassFile.FieldType) ∈ GW := gwt tb_1 136 rfl rfl
theorem w_200 : Cond.instanceMethod yX7_init ∈ GW := gwt tb_1 135 rfl rfl
theorem w_1409 : Cond.fieldLink "LeadchapelModel" 228 "LeadchapelModel" "thrown" "I" ∈ GW := gwt tb_6 144 rfl rfl
theorem w_1421 : Cond.fieldLink "LeadchapelModel" 247 "LeadchapelModel" "hands" "I" ∈ GW := gwt tb_6 156 rfl rfl
theorem w_1666 : Cond.code yX12_isIn prog_14_method_4_code 3 (Option.some Jvm.ClassFile.FieldType.boolean) ∈ GW := gwt tb_7 161 rfl rfl
theorem w_71 : Cond.initialized "LeadchapelModel" ∈ GW := gwt tb_1 6 rfl rfl
theorem w_1665 : Cond.static yX12_isIn ∈ GW := gwt tb_7 160 rfl rfl
theorem w_1664 : Cond.methodLink "LeadchapelModel" 235 yX12_isIn ∈ GW := gwt tb_7 159 rfl rfl
theorem w_1786 : Cond.code yX12_isHand prog_14_method_9_code 2 (Option.some Jvm.ClassFile.FieldType.boolean) ∈ GW := gwt tb_8 41 rfl rfl
theorem w_1785 : Cond.instanceMethod yX12_isHand ∈ GW := gwt tb_8 40 rfl rfl
theorem w_32 : Cond.selects "LeadchapelModel" yX12_isHand yX12_isHand ∈ GW := gwt tb_0 32 rfl rfl
theorem w_1783 : Cond.methodLink "LeadchapelModel" 337 yX12_isHand ∈ GW := gwt tb_8 38 rfl rfl
theorem w_1671 : Cond.code yX12_holds prog_14_method_3_code 2 (Option.some Jvm.ClassFile.FieldType.boolean) ∈ GW := gwt tb_7 166 rfl rfl
theorem w_1670 : Cond.instanceMethod yX12_holds ∈ GW := gwt tb_7 165 rfl rfl
theorem w_17 : Cond.selects "LeadchapelModel" yX12_holds yX12_holds ∈ GW := gwt tb_0 17 rfl rfl
theorem w_1668 : Cond.methodLink "LeadchapelModel" 260 yX12_holds ∈ GW := gwt tb_7 163 rfl rfl
theorem w_1484 : Cond.fieldLink "LeadchapelModel" 210 "LeadchapelModel" "stockTaken" "[I" ∈ GW := gwt tb_6 219 rfl rfl
theorem w_1482 : Cond.fieldLink "LeadchapelModel" 207 "LeadchapelModel" "pressHours" "[I" ∈ GW := gwt tb_6 217 rfl rfl
theorem w_1481 : Cond.fieldLink "LeadchapelModel" 204 "LeadchapelModel" "pressSheets" "[I" ∈ GW := gwt tb_6 216 rfl rfl
theorem w_1427 : Cond.fieldLink "LeadchapelModel" 50 "LeadchapelModel" "putBack" "[I" ∈ GW := gwt tb_6 162 rfl rfl
theorem w_1426 : Cond.fieldLink "LeadchapelModel" 47 "LeadchapelModel" "took" "[I" ∈ GW := gwt tb_6 161 rfl rfl
theorem w_1429 : Cond.fieldLink "LeadchapelModel" 53 "LeadchapelModel" "format" "[I" ∈ GW := gwt tb_6 164 rfl rfl
theorem w_1430 : Cond.fieldLink "LeadchapelModel" 56 "LeadchapelModel" "sheets" "[I" ∈ GW := gwt tb_6 165 rfl rfl
theorem w_1465 : Cond.fieldLink "LeadchapelModel" 159 "LeadchapelModel" "state" "[I" ∈ GW := gwt tb_6 200 rfl rfl
theorem w_1758 : Cond.code yX12_pagesOf prog_14_method_6_code 2 (Option.some Jvm.ClassFile.FieldType.int) ∈ GW := gwt tb_8 13 rfl rfl
theorem w_1757 : Cond.instanceMethod yX12_pagesOf ∈ GW := gwt tb_8 12 rfl rfl
theorem w_28 : Cond.selects "LeadchapelModel" yX12_pagesOf yX12_pagesOf ∈ GW := gwt tb_0 28 rfl rfl
theorem w_1755 : Cond.methodLink "LeadchapelModel" 243 yX12_pagesOf ∈ GW := gwt tb_8 10 rfl rfl
theorem w_1446 : Cond.fieldLink "LeadchapelModel" 105 "LeadchapelModel" "placeMany" "[I" ∈ GW := gwt tb_6 181 rfl rfl
theorem w_1845 : Cond.code yX12_formeOf prog_14_method_12_code 4 (Option.some Jvm.ClassFile.FieldType.int) ∈ GW := gwt tb_8 100 rfl rfl
theorem w_1844 : Cond.instanceMethod yX12_formeOf ∈ GW := gwt tb_8 99 rfl rfl
theorem w_44 : Cond.selects "LeadchapelModel" yX12_formeOf yX12_formeOf ∈ GW := gwt tb_0 44 rfl rfl
theorem w_1842 : Cond.methodLink "LeadchapelModel" 360 yX12_formeOf ∈ GW := gwt tb_8 97 rfl rfl
theorem w_1459 : Cond.fieldLink "LeadchapelModel" 144 "LeadchapelModel" "donePiece" "[I" ∈ GW := gwt tb_6 194 rfl rfl
theorem w_1460 : Cond.fieldLink "LeadchapelModel" 147 "LeadchapelModel" "doneWorn" "[I" ∈ GW := gwt tb_6 195 rfl rfl
theorem w_1486 : Cond.fieldLink "LeadchapelModel" 216 "LeadchapelModel" "sure" "[I" ∈ GW := gwt tb_6 221 rfl rfl
theorem w_1415 : Cond.fieldLink "LeadchapelModel" 291 "LeadchapelModel" "pieces" "I" ∈ GW := gwt tb_6 150 rfl rfl
theorem w_1417 : Cond.fieldLink "LeadchapelModel" 23 "LeadchapelModel" "worn" "[I" ∈ GW := gwt tb_6 152 rfl rfl
theorem w_1987 : Cond.code yX12_seenIn prog_14_method_84_code 7 (Option.some Jvm.ClassFile.FieldType.int) ∈ GW := gwt tb_9 2 rfl rfl
theorem w_1986 : Cond.instanceMethod yX12_seenIn ∈ GW := gwt tb_9 1 rfl rfl
theorem w_57 : Cond.selects "LeadchapelModel" yX12_seenIn yX12_seenIn ∈ GW := gwt tb_0 57 rfl rfl
theorem w_1984 : Cond.methodLink "LeadchapelModel" 415 yX12_seenIn ∈ GW := gwt tb_8 239 rfl rfl
theorem w_1428 : Cond.fieldLink "LeadchapelModel" 232 "LeadchapelModel" "books" "I" ∈ GW := gwt tb_6 163 rfl rfl
theorem w_1750 : Cond.code yX12_isBook prog_14_method_5_code 2 (Option.some Jvm.ClassFile.FieldType.boolean) ∈ GW := gwt tb_8 5 rfl rfl
theorem w_1749 : Cond.instanceMethod yX12_isBook ∈ GW := gwt tb_8 4 rfl rfl
theorem w_26 : Cond.selects "LeadchapelModel" yX12_isBook yX12_isBook ∈ GW := gwt tb_0 26 rfl rfl
theorem w_1747 : Cond.methodLink "LeadchapelModel" 239 yX12_isBook ∈ GW := gwt tb_8 2 rfl rfl
theorem w_1869 : Cond.code yX12_isForme prog_14_method_8_code 3 (Option.some Jvm.ClassFile.FieldType.boolean) ∈ GW := gwt tb_8 124 rfl rfl
theorem w_1868 : Cond.instanceMethod yX12_isForme ∈ GW := gwt tb_8 123 rfl rfl
theorem w_47 : Cond.selects "LeadchapelModel" yX12_isForme yX12_isForme ∈ GW := gwt tb_0 47 rfl rfl
theorem w_1866 : Cond.methodLink "LeadchapelModel" 370 yX12_isForme ∈ GW := gwt tb_8 121 rfl rfl
theorem w_1999 : Cond.code yX12_findSure prog_14_method_86_code 7 (Option.none : Option Jvm.ClassFile.FieldType) ∈ GW := gwt tb_9 14 rfl rfl
theorem w_1998 : Cond.instanceMethod yX12_findSure ∈ GW := gwt tb_9 13 rfl rfl
theorem w_59 : Cond.selects "LeadchapelModel" yX12_findSure yX12_findSure ∈ GW := gwt tb_0 59 rfl rfl
theorem w_1996 : Cond.methodLink "LeadchapelModel" 418 yX12_findSure ∈ GW := gwt tb_9 11 rfl rfl
theorem w_1433 : Cond.fieldLink "LeadchapelModel" 65 "LeadchapelModel" "edition" "[I" ∈ GW := gwt tb_6 168 rfl rfl
theorem w_1485 : Cond.fieldLink "LeadchapelModel" 213 "LeadchapelModel" "leafSheet" "[I" ∈ GW := gwt tb_6 220 rfl rfl
theorem w_1935 : Cond.code yX12_leafAt prog_14_method_73_code 3 (Option.some Jvm.ClassFile.FieldType.int) ∈ GW := gwt tb_8 190 rfl rfl
theorem w_1934 : Cond.static yX12_leafAt ∈ GW := gwt tb_8 189 rfl rfl
theorem w_1933 : Cond.methodLink "LeadchapelModel" 400 yX12_leafAt ∈ GW := gwt tb_8 188 rfl rfl
theorem w_1473 : Cond.fieldLink "LeadchapelModel" 183 "LeadchapelModel" "isFirst" "[Z" ∈ GW := gwt tb_6 208 rfl rfl
theorem w_1468 : Cond.fieldLink "LeadchapelModel" 168 "LeadchapelModel" "states" "[I" ∈ GW := gwt tb_6 203 rfl rfl
theorem w_1469 : Cond.fieldLink "LeadchapelModel" 171 "LeadchapelModel" "stateFrom" "[I" ∈ GW := gwt tb_6 204 rfl rfl
theorem w_1943 : Cond.code yX12_isCopy prog_14_method_10_code 3 (Option.some Jvm.ClassFile.FieldType.boolean) ∈ GW := gwt tb_8 198 rfl rfl
theorem w_1942 : Cond.instanceMethod yX12_isCopy ∈ GW := gwt tb_8 197 rfl rfl
theorem w_53 : Cond.selects "LeadchapelModel" yX12_isCopy yX12_isCopy ∈ GW := gwt tb_0 53 rfl rfl
theorem w_1940 : Cond.methodLink "LeadchapelModel" 403 yX12_isCopy ∈ GW := gwt tb_8 195 rfl rfl
theorem w_1435 : Cond.fieldLink "LeadchapelModel" 71 "LeadchapelModel" "isBound" "[Z" ∈ GW := gwt tb_6 170 rfl rfl
theorem w_1959 : Cond.code yX12_stateIn prog_14_method_77_code 9 (Option.some Jvm.ClassFile.FieldType.int) ∈ GW := gwt tb_8 214 rfl rfl
theorem w_1958 : Cond.instanceMethod yX12_stateIn ∈ GW := gwt tb_8 213 rfl rfl
theorem w_55 : Cond.selects "LeadchapelModel" yX12_stateIn yX12_stateIn ∈ GW := gwt tb_0 55 rfl rfl
theorem w_1956 : Cond.methodLink "LeadchapelModel" 409 yX12_stateIn ∈ GW := gwt tb_8 211 rfl rfl
theorem w_1477 : Cond.fieldLink "LeadchapelModel" 195 "LeadchapelModel" "turn" "[I" ∈ GW := gwt tb_6 212 rfl rfl
theorem w_1431 : Cond.fieldLink "LeadchapelModel" 59 "LeadchapelModel" "measure" "[I" ∈ GW := gwt tb_6 166 rfl rfl
theorem w_1432 : Cond.fieldLink "LeadchapelModel" 62 "LeadchapelModel" "lines" "[I" ∈ GW := gwt tb_6 167 rfl rfl
theorem w_1420 : Cond.fieldLink "LeadchapelModel" 32 "LeadchapelModel" "top" "[I" ∈ GW := gwt tb_6 155 rfl rfl
theorem w_1419 : Cond.fieldLink "LeadchapelModel" 29 "LeadchapelModel" "below" "[I" ∈ GW := gwt tb_6 154 rfl rfl
theorem w_1947 : Cond.code yX12_isLeaf prog_14_method_11_code 3 (Option.some Jvm.ClassFile.FieldType.boolean) ∈ GW := gwt tb_8 202 rfl rfl
theorem w_1946 : Cond.instanceMethod yX12_isLeaf ∈ GW := gwt tb_8 201 rfl rfl
theorem w_54 : Cond.selects "LeadchapelModel" yX12_isLeaf yX12_isLeaf ∈ GW := gwt tb_0 54 rfl rfl
theorem w_1944 : Cond.methodLink "LeadchapelModel" 406 yX12_isLeaf ∈ GW := gwt tb_8 199 rfl rfl
theorem w_1418 : Cond.fieldLink "LeadchapelModel" 26 "LeadchapelModel" "where" "[I" ∈ GW := gwt tb_6 153 rfl rfl
theorem w_1416 : Cond.fieldLink "LeadchapelModel" 20 "LeadchapelModel" "sort" "[I" ∈ GW := gwt tb_6 151 rfl rfl
theorem w_1722 : Cond.code yX12_puts prog_14_method_26_code 3 (Option.none : Option Jvm.ClassFile.FieldType) ∈ GW := gwt tb_7 217 rfl rfl
theorem w_1721 : Cond.instanceMethod yX12_puts ∈ GW := gwt tb_7 216 rfl rfl
theorem w_25 : Cond.selects "LeadchapelModel" yX12_puts yX12_puts ∈ GW := gwt tb_0 25 rfl rfl
theorem w_1719 : Cond.methodLink "LeadchapelModel" 294 yX12_puts ∈ GW := gwt tb_7 214 rfl rfl
theorem w_1434 : Cond.fieldLink "LeadchapelModel" 68 "LeadchapelModel" "percent" "[I" ∈ GW := gwt tb_6 169 rfl rfl
theorem w_1436 : Cond.fieldLink "LeadchapelModel" 75 "LeadchapelModel" "copyMany" "[I" ∈ GW := gwt tb_6 171 rfl rfl
theorem w_1437 : Cond.fieldLink "LeadchapelModel" 78 "LeadchapelModel" "copyWord" "[J" ∈ GW := gwt tb_6 172 rfl rfl
theorem w_1710 : Cond.code yX12_letters prog_14_method_13_code 3 (Option.some Jvm.ClassFile.FieldType.int) ∈ GW := gwt tb_7 205 rfl rfl
theorem w_1709 : Cond.static yX12_letters ∈ GW := gwt tb_7 204 rfl rfl
theorem w_1708 : Cond.methodLink "LeadchapelModel" 280 yX12_letters ∈ GW := gwt tb_7 203 rfl rfl
theorem w_1439 : Cond.fieldLink "LeadchapelModel" 84 "LeadchapelModel" "isSet" "[Z" ∈ GW := gwt tb_6 174 rfl rfl
theorem w_1754 : Cond.code yX12_hasSet prog_14_method_34_code 4 (Option.some Jvm.ClassFile.FieldType.boolean) ∈ GW := gwt tb_8 9 rfl rfl
theorem w_1753 : Cond.instanceMethod yX12_hasSet ∈ GW := gwt tb_8 8 rfl rfl
theorem w_27 : Cond.selects "LeadchapelModel" yX12_hasSet yX12_hasSet ∈ GW := gwt tb_0 27 rfl rfl
theorem w_1751 : Cond.methodLink "LeadchapelModel" 298 yX12_hasSet ∈ GW := gwt tb_8 6 rfl rfl
theorem w_1774 : Cond.code yX12_castFrom prog_14_method_38_code 6 (Option.some Jvm.ClassFile.FieldType.int) ∈ GW := gwt tb_8 29 rfl rfl
theorem w_1773 : Cond.instanceMethod yX12_castFrom ∈ GW := gwt tb_8 28 rfl rfl
theorem w_30 : Cond.selects "LeadchapelModel" yX12_castFrom yX12_castFrom ∈ GW := gwt tb_0 30 rfl rfl
theorem w_1771 : Cond.methodLink "LeadchapelModel" 304 yX12_castFrom ∈ GW := gwt tb_8 26 rfl rfl
theorem w_1458 : Cond.fieldLink "LeadchapelModel" 141 "LeadchapelModel" "glyph" "[I" ∈ GW := gwt tb_6 193 rfl rfl
theorem w_1461 : Cond.fieldLink "LeadchapelModel" 397 "LeadchapelModel" "corrections" "I" ∈ GW := gwt tb_6 196 rfl rfl
theorem w_1462 : Cond.fieldLink "LeadchapelModel" 150 "LeadchapelModel" "corrected" "[I" ∈ GW := gwt tb_6 197 rfl rfl
theorem w_1463 : Cond.fieldLink "LeadchapelModel" 153 "LeadchapelModel" "correctedState" "[I" ∈ GW := gwt tb_6 198 rfl rfl
theorem w_1464 : Cond.fieldLink "LeadchapelModel" 156 "LeadchapelModel" "correctedGlyph" "[I" ∈ GW := gwt tb_6 199 rfl rfl
theorem w_1455 : Cond.fieldLink "LeadchapelModel" 132 "LeadchapelModel" "wanted" "[I" ∈ GW := gwt tb_6 190 rfl rfl
theorem w_1782 : Cond.code yX12_isPage prog_14_method_7_code 3 (Option.some Jvm.ClassFile.FieldType.boolean) ∈ GW := gwt tb_8 37 rfl rfl
theorem w_1781 : Cond.instanceMethod yX12_isPage ∈ GW := gwt tb_8 36 rfl rfl
theorem w_31 : Cond.selects "LeadchapelModel" yX12_isPage yX12_isPage ∈ GW := gwt tb_0 31 rfl rfl
theorem w_1779 : Cond.methodLink "LeadchapelModel" 333 yX12_isPage ∈ GW := gwt tb_8 34 rfl rfl
theorem w_1444 : Cond.fieldLink "LeadchapelModel" 99 "LeadchapelModel" "lineMany" "[I" ∈ GW := gwt tb_6 179 rfl rfl
theorem w_1447 : Cond.fieldLink "LeadchapelModel" 108 "LeadchapelModel" "lineFrom" "[I" ∈ GW := gwt tb_6 182 rfl rfl
theorem w_1448 : Cond.fieldLink "LeadchapelModel" 111 "LeadchapelModel" "lineWords" "[I" ∈ GW := gwt tb_6 183 rfl rfl
theorem w_1453 : Cond.fieldLink "LeadchapelModel" 126 "LeadchapelModel" "blanks" "[I" ∈ GW := gwt tb_6 188 rfl rfl
theorem w_1445 : Cond.fieldLink "LeadchapelModel" 102 "LeadchapelModel" "wordMany" "[I" ∈ GW := gwt tb_6 180 rfl rfl
theorem w_1454 : Cond.fieldLink "LeadchapelModel" 129 "LeadchapelModel" "wordPlace" "[I" ∈ GW := gwt tb_6 189 rfl rfl
theorem w_1971 : Cond.code yX12_glyphIn prog_14_method_80_code 5 (Option.some Jvm.ClassFile.FieldType.int) ∈ GW := gwt tb_8 226 rfl rfl
theorem w_1970 : Cond.instanceMethod yX12_glyphIn ∈ GW := gwt tb_8 225 rfl rfl
theorem w_56 : Cond.selects "LeadchapelModel" yX12_glyphIn yX12_glyphIn ∈ GW := gwt tb_0 56 rfl rfl
theorem w_1968 : Cond.methodLink "LeadchapelModel" 412 yX12_glyphIn ∈ GW := gwt tb_8 223 rfl rfl
theorem w_1411 : Cond.fieldLink "LeadchapelModel" 7 "LeadchapelModel" "tape" "[I" ∈ GW := gwt tb_6 146 rfl rfl
theorem w_1703 : Cond.code yX12_tapeFrom prog_14_method_21_code 4 (Option.some Jvm.ClassFile.FieldType.int) ∈ GW := gwt tb_7 198 rfl rfl
theorem w_1702 : Cond.instanceMethod yX12_tapeFrom ∈ GW := gwt tb_7 197 rfl rfl
theorem w_22 : Cond.selects "LeadchapelModel" yX12_tapeFrom yX12_tapeFrom ∈ GW := gwt tb_0 22 rfl rfl
theorem w_1700 : Cond.methodLink "LeadchapelModel" 267 yX12_tapeFrom ∈ GW := gwt tb_7 195 rfl rfl
theorem w_1410 : Cond.fieldLink "LeadchapelModel" 257 "LeadchapelModel" "taped" "I" ∈ GW := gwt tb_6 145 rfl rfl
theorem w_1683 : Cond.code yX12_tapeFault prog_14_method_18_code 4 (Option.some Jvm.ClassFile.FieldType.int) ∈ GW := gwt tb_7 178 rfl rfl
theorem w_1682 : Cond.instanceMethod yX12_tapeFault ∈ GW := gwt tb_7 177 rfl rfl
theorem w_18 : Cond.selects "LeadchapelModel" yX12_tapeFault yX12_tapeFault ∈ GW := gwt tb_0 18 rfl rfl
theorem w_1680 : Cond.methodLink "LeadchapelModel" 263 yX12_tapeFault ∈ GW := gwt tb_7 175 rfl rfl
theorem w_1695 : Cond.code yX12_tapeWords prog_14_method_20_code 3 (Option.some Jvm.ClassFile.FieldType.int) ∈ GW := gwt tb_7 190 rfl rfl
theorem w_1694 : Cond.instanceMethod yX12_tapeWords ∈ GW := gwt tb_7 189 rfl rfl
theorem w_20 : Cond.selects "LeadchapelModel" yX12_tapeWords yX12_tapeWords ∈ GW := gwt tb_0 20 rfl rfl
theorem w_1692 : Cond.methodLink "LeadchapelModel" 270 yX12_tapeWords ∈ GW := gwt tb_7 187 rfl rfl
theorem w_1707 : Cond.code yX12_tapeWord prog_14_method_22_code 6 (Option.some Jvm.ClassFile.FieldType.long) ∈ GW := gwt tb_7 202 rfl rfl
theorem w_1706 : Cond.instanceMethod yX12_tapeWord ∈ GW := gwt tb_7 201 rfl rfl
theorem w_23 : Cond.selects "LeadchapelModel" yX12_tapeWord yX12_tapeWord ∈ GW := gwt tb_0 23 rfl rfl
theorem w_1704 : Cond.methodLink "LeadchapelModel" 276 yX12_tapeWord ∈ GW := gwt tb_7 199 rfl rfl
theorem w_1438 : Cond.fieldLink "LeadchapelModel" 81 "LeadchapelModel" "copyEnds" "[Z" ∈ GW := gwt tb_6 173 rfl rfl
theorem w_1699 : Cond.code yX12_tapeEnds prog_14_method_23_code 3 (Option.some Jvm.ClassFile.FieldType.boolean) ∈ GW := gwt tb_7 194 rfl rfl
theorem w_1698 : Cond.instanceMethod yX12_tapeEnds ∈ GW := gwt tb_7 193 rfl rfl
theorem w_21 : Cond.selects "LeadchapelModel" yX12_tapeEnds yX12_tapeEnds ∈ GW := gwt tb_0 21 rfl rfl
theorem w_1696 : Cond.methodLink "LeadchapelModel" 273 yX12_tapeEnds ∈ GW := gwt tb_7 191 rfl rfl
theorem w_1833 : Cond.code yX12_turnedOf prog_14_method_47_code 3 (Option.some Jvm.ClassFile.FieldType.int) ∈ GW := gwt tb_8 88 rfl rfl
theorem w_1832 : Cond.static yX12_turnedOf ∈ GW := gwt tb_8 87 rfl rfl
theorem w_1831 : Cond.methodLink "LeadchapelModel" 316 yX12_turnedOf ∈ GW := gwt tb_8 86 rfl rfl
theorem w_1830 : Cond.code yX12_takes prog_14_method_27_code 3 (Option.some Jvm.ClassFile.FieldType.int) ∈ GW := gwt tb_8 85 rfl rfl
theorem w_1829 : Cond.instanceMethod yX12_takes ∈ GW := gwt tb_8 84 rfl rfl
theorem w_42 : Cond.selects "LeadchapelModel" yX12_takes yX12_takes ∈ GW := gwt tb_0 42 rfl rfl
theorem w_1827 : Cond.methodLink "LeadchapelModel" 319 yX12_takes ∈ GW := gwt tb_8 82 rfl rfl
theorem w_1456 : Cond.fieldLink "LeadchapelModel" 135 "LeadchapelModel" "there" "[I" ∈ GW := gwt tb_6 191 rfl rfl
theorem w_1457 : Cond.fieldLink "LeadchapelModel" 138 "LeadchapelModel" "isTurned" "[I" ∈ GW := gwt tb_6 192 rfl rfl
theorem w_1467 : Cond.fieldLink "LeadchapelModel" 165 "LeadchapelModel" "printed" "[I" ∈ GW := gwt tb_6 202 rfl rfl
theorem w_1837 : Cond.code yX12_printOf prog_14_method_48_code 4 (Option.some Jvm.ClassFile.FieldType.int) ∈ GW := gwt tb_8 92 rfl rfl
theorem w_1836 : Cond.instanceMethod yX12_printOf ∈ GW := gwt tb_8 91 rfl rfl
theorem w_43 : Cond.selects "LeadchapelModel" yX12_printOf yX12_printOf ∈ GW := gwt tb_0 43 rfl rfl
theorem w_1834 : Cond.methodLink "LeadchapelModel" 322 yX12_printOf ∈ GW := gwt tb_8 89 rfl rfl
theorem w_1766 : Cond.code yX12_wordsOn prog_14_method_36_code 4 (Option.some Jvm.ClassFile.FieldType.int) ∈ GW := gwt tb_8 21 rfl rfl
theorem w_1765 : Cond.instanceMethod yX12_wordsOn ∈ GW := gwt tb_8 20 rfl rfl
theorem w_29 : Cond.selects "LeadchapelModel" yX12_wordsOn yX12_wordsOn ∈ GW := gwt tb_0 29 rfl rfl
theorem w_1763 : Cond.methodLink "LeadchapelModel" 301 yX12_wordsOn ∈ GW := gwt tb_8 18 rfl rfl
theorem w_1452 : Cond.fieldLink "LeadchapelModel" 123 "LeadchapelModel" "wordSet" "[J" ∈ GW := gwt tb_6 187 rfl rfl
theorem w_1451 : Cond.fieldLink "LeadchapelModel" 120 "LeadchapelModel" "wordOf" "[I" ∈ GW := gwt tb_6 186 rfl rfl
theorem w_1412 : Cond.fieldLink "LeadchapelModel" 252 "LeadchapelModel" "spellings" "I" ∈ GW := gwt tb_6 147 rfl rfl
theorem w_1413 : Cond.fieldLink "LeadchapelModel" 13 "LeadchapelModel" "brief" "[J" ∈ GW := gwt tb_6 148 rfl rfl
theorem w_1414 : Cond.fieldLink "LeadchapelModel" 17 "LeadchapelModel" "ample" "[J" ∈ GW := gwt tb_6 149 rfl rfl
theorem w_2040 : Cond.code yX12_lastWord prog_14_method_97_code 7 (Option.some Jvm.ClassFile.FieldType.int) ∈ GW := gwt tb_9 55 rfl rfl
theorem w_2039 : Cond.instanceMethod yX12_lastWord ∈ GW := gwt tb_9 54 rfl rfl
theorem w_64 : Cond.selects "LeadchapelModel" yX12_lastWord yX12_lastWord ∈ GW := gwt tb_0 64 rfl rfl
theorem w_2037 : Cond.methodLink "LeadchapelModel" 444 yX12_lastWord ∈ GW := gwt tb_9 52 rfl rfl
theorem w_1714 : Cond.code yX12_spellingOf prog_14_method_15_code 4 (Option.some Jvm.ClassFile.FieldType.int) ∈ GW := gwt tb_7 209 rfl rfl
theorem w_1713 : Cond.instanceMethod yX12_spellingOf ∈ GW := gwt tb_7 208 rfl rfl
theorem w_24 : Cond.selects "LeadchapelModel" yX12_spellingOf yX12_spellingOf ∈ GW := gwt tb_0 24 rfl rfl
theorem w_1711 : Cond.methodLink "LeadchapelModel" 284 yX12_spellingOf ∈ GW := gwt tb_7 206 rfl rfl
theorem w_1471 : Cond.fieldLink "LeadchapelModel" 177 "LeadchapelModel" "doneHour" "[I" ∈ GW := gwt tb_6 206 rfl rfl
theorem w_1912 : Cond.code yX12_stateMany prog_14_method_68_code 2 (Option.some Jvm.ClassFile.FieldType.int) ∈ GW := gwt tb_8 167 rfl rfl
theorem w_1911 : Cond.instanceMethod yX12_stateMany ∈ GW := gwt tb_8 166 rfl rfl
theorem w_52 : Cond.selects "LeadchapelModel" yX12_stateMany yX12_stateMany ∈ GW := gwt tb_0 52 rfl rfl
theorem w_1909 : Cond.methodLink "LeadchapelModel" 394 yX12_stateMany ∈ GW := gwt tb_8 164 rfl rfl
theorem w_1466 : Cond.fieldLink "LeadchapelModel" 162 "LeadchapelModel" "skeleton" "[I" ∈ GW := gwt tb_6 201 rfl rfl
theorem w_1422 : Cond.fieldLink "LeadchapelModel" 35 "LeadchapelModel" "likes" "[I" ∈ GW := gwt tb_6 157 rfl rfl
theorem w_1423 : Cond.fieldLink "LeadchapelModel" 38 "LeadchapelModel" "drops" "[I" ∈ GW := gwt tb_6 158 rfl rfl
theorem w_1424 : Cond.fieldLink "LeadchapelModel" 41 "LeadchapelModel" "skips" "[I" ∈ GW := gwt tb_6 159 rfl rfl
theorem w_1488 : Cond.fieldLink "LeadchapelModel" 432 "LeadchapelModel" "many" "I" ∈ GW := gwt tb_6 223 rfl rfl
theorem w_1490 : Cond.fieldLink "LeadchapelModel" 225 "LeadchapelModel" "hue" "[I" ∈ GW := gwt tb_6 225 rfl rfl
theorem w_1489 : Cond.fieldLink "LeadchapelModel" 222 "LeadchapelModel" "unlike" "[I" ∈ GW := gwt tb_6 224 rfl rfl
theorem w_1442 : Cond.fieldLink "LeadchapelModel" 93 "LeadchapelModel" "isCrowded" "[I" ∈ GW := gwt tb_6 177 rfl rfl
theorem w_1450 : Cond.fieldLink "LeadchapelModel" 117 "LeadchapelModel" "lineFilled" "[I" ∈ GW := gwt tb_6 185 rfl rfl
theorem w_1449 : Cond.fieldLink "LeadchapelModel" 114 "LeadchapelModel" "lineMissing" "[I" ∈ GW := gwt tb_6 184 rfl rfl
theorem w_1857 : Cond.code yX12_formsIn prog_14_method_54_code 8 (Option.some Jvm.ClassFile.FieldType.int) ∈ GW := gwt tb_8 112 rfl rfl
theorem w_1856 : Cond.instanceMethod yX12_formsIn ∈ GW := gwt tb_8 111 rfl rfl
theorem w_46 : Cond.selects "LeadchapelModel" yX12_formsIn yX12_formsIn ∈ GW := gwt tb_0 46 rfl rfl
theorem w_1854 : Cond.methodLink "LeadchapelModel" 366 yX12_formsIn ∈ GW := gwt tb_8 109 rfl rfl
theorem w_2024 : Cond.code yX12_looseIn prog_14_method_91_code 6 (Option.some Jvm.ClassFile.FieldType.int) ∈ GW := gwt tb_9 39 rfl rfl
theorem w_2023 : Cond.instanceMethod yX12_looseIn ∈ GW := gwt tb_9 38 rfl rfl
theorem w_62 : Cond.selects "LeadchapelModel" yX12_looseIn yX12_looseIn ∈ GW := gwt tb_0 62 rfl rfl
theorem w_2021 : Cond.methodLink "LeadchapelModel" 428 yX12_looseIn ∈ GW := gwt tb_9 36 rfl rfl
theorem w_2020 : Cond.code yX12_isUnlike prog_14_method_92_code 3 (Option.some Jvm.ClassFile.FieldType.boolean) ∈ GW := gwt tb_9 35 rfl rfl
theorem w_2019 : Cond.instanceMethod yX12_isUnlike ∈ GW := gwt tb_9 34 rfl rfl
theorem w_61 : Cond.selects "LeadchapelModel" yX12_isUnlike yX12_isUnlike ∈ GW := gwt tb_0 61 rfl rfl
theorem w_2017 : Cond.methodLink "LeadchapelModel" 435 yX12_isUnlike ∈ GW := gwt tb_9 32 rfl rfl
theorem w_2016 : Cond.code yX12_findUnlike prog_14_method_93_code 4 (Option.none : Option Jvm.ClassFile.FieldType) ∈ GW := gwt tb_9 31 rfl rfl
theorem w_2015 : Cond.instanceMethod yX12_findUnlike ∈ GW := gwt tb_9 30 rfl rfl
theorem w_60 : Cond.selects "LeadchapelModel" yX12_findUnlike yX12_findUnlike ∈ GW := gwt tb_0 60 rfl rfl
theorem w_2013 : Cond.methodLink "LeadchapelModel" 438 yX12_findUnlike ∈ GW := gwt tb_9 28 rfl rfl
theorem w_2028 : Cond.code yX12_canPart prog_14_method_94_code 7 (Option.some Jvm.ClassFile.FieldType.boolean) ∈ GW := gwt tb_9 43 rfl rfl
theorem w_2027 : Cond.instanceMethod yX12_canPart ∈ GW := gwt tb_9 42 rfl rfl
theorem w_63 : Cond.selects "LeadchapelModel" yX12_canPart yX12_canPart ∈ GW := gwt tb_0 63 rfl rfl
theorem w_2025 : Cond.methodLink "LeadchapelModel" 441 yX12_canPart ∈ GW := gwt tb_9 40 rfl rfl
theorem w_1478 : Cond.fieldLink "LeadchapelModel" 379 "LeadchapelModel" "hour" "I" ∈ GW := gwt tb_6 213 rfl rfl
theorem w_1425 : Cond.fieldLink "LeadchapelModel" 44 "LeadchapelModel" "chances" "[I" ∈ GW := gwt tb_6 160 rfl rfl
theorem w_1440 : Cond.fieldLink "LeadchapelModel" 87 "LeadchapelModel" "setBy" "[I" ∈ GW := gwt tb_6 175 rfl rfl
theorem w_1441 : Cond.fieldLink "LeadchapelModel" 90 "LeadchapelModel" "went" "[I" ∈ GW := gwt tb_6 176 rfl rfl
theorem w_1443 : Cond.fieldLink "LeadchapelModel" 96 "LeadchapelModel" "left" "[I" ∈ GW := gwt tb_6 178 rfl rfl
theorem w_1470 : Cond.fieldLink "LeadchapelModel" 174 "LeadchapelModel" "wentHour" "[I" ∈ GW := gwt tb_6 205 rfl rfl
theorem w_1472 : Cond.fieldLink "LeadchapelModel" 180 "LeadchapelModel" "isReady" "[Z" ∈ GW := gwt tb_6 207 rfl rfl
theorem w_1474 : Cond.fieldLink "LeadchapelModel" 186 "LeadchapelModel" "isTaken" "[Z" ∈ GW := gwt tb_6 209 rfl rfl
theorem w_1475 : Cond.fieldLink "LeadchapelModel" 189 "LeadchapelModel" "heapStock" "[I" ∈ GW := gwt tb_6 210 rfl rfl
theorem w_1476 : Cond.fieldLink "LeadchapelModel" 192 "LeadchapelModel" "heapFrom" "[I" ∈ GW := gwt tb_6 211 rfl rfl
theorem w_1479 : Cond.fieldLink "LeadchapelModel" 198 "LeadchapelModel" "men" "[I" ∈ GW := gwt tb_6 214 rfl rfl
theorem w_1480 : Cond.fieldLink "LeadchapelModel" 201 "LeadchapelModel" "pressForme" "[I" ∈ GW := gwt tb_6 215 rfl rfl
theorem w_1487 : Cond.fieldLink "LeadchapelModel" 219 "LeadchapelModel" "ways" "[I" ∈ GW := gwt tb_6 222 rfl rfl
theorem w_1408 : Cond.methodLink "LeadchapelModel" 1 ⟨"java/lang/Object", "<init>", "()V"⟩ ∈ GW := gwt tb_6 143 rfl rfl
theorem w_1873 : Cond.code yX12_isWhole prog_14_method_57_code 5 (Option.some Jvm.ClassFile.FieldType.boolean) ∈ GW := gwt tb_8 128 rfl rfl
theorem w_1872 : Cond.instanceMethod yX12_isWhole ∈ GW := gwt tb_8 127 rfl rfl
theorem w_48 : Cond.selects "LeadchapelModel" yX12_isWhole yX12_isWhole ∈ GW := gwt tb_0 48 rfl rfl
theorem w_1870 : Cond.methodLink "LeadchapelModel" 373 yX12_isWhole ∈ GW := gwt tb_8 125 rfl rfl
theorem w_1877 : Cond.code yX12_isUsed prog_14_method_58_code 4 (Option.some Jvm.ClassFile.FieldType.boolean) ∈ GW := gwt tb_8 132 rfl rfl
theorem w_1876 : Cond.instanceMethod yX12_isUsed ∈ GW := gwt tb_8 131 rfl rfl
theorem w_49 : Cond.selects "LeadchapelModel" yX12_isUsed yX12_isUsed ∈ GW := gwt tb_0 49 rfl rfl
theorem w_1874 : Cond.methodLink "LeadchapelModel" 376 yX12_isUsed ∈ GW := gwt tb_8 129 rfl rfl
theorem w_1995 : Cond.code yX12_ordersOf prog_14_method_87_code 6 (Option.some Jvm.ClassFile.FieldType.int) ∈ GW := gwt tb_9 10 rfl rfl
theorem w_1994 : Cond.instanceMethod yX12_ordersOf ∈ GW := gwt tb_9 9 rfl rfl
theorem w_58 : Cond.selects "LeadchapelModel" yX12_ordersOf yX12_ordersOf ∈ GW := gwt tb_0 58 rfl rfl
theorem w_1992 : Cond.methodLink "LeadchapelModel" 422 yX12_ordersOf ∈ GW := gwt tb_9 7 rfl rfl
theorem w_1991 : Cond.code yX12_orders prog_14_method_88_code 2 (Option.some Jvm.ClassFile.FieldType.int) ∈ GW := gwt tb_9 6 rfl rfl
theorem w_1989 : Cond.instanceMethod yX12_orders ∈ GW := gwt tb_9 4 rfl rfl
theorem w_1990 : Cond.selects "LeadchapelModel" yX12_orders yX12_orders ∈ GW := gwt tb_9 5 rfl rfl
theorem w_2004 : Cond.methodLink "LeadchapelModel" 425 yX12_orders ∈ GW := gwt tb_9 19 rfl rfl
theorem w_1849 : Cond.code yX12_placeInForme prog_14_method_53_code 5 (Option.some Jvm.ClassFile.FieldType.int) ∈ GW := gwt tb_8 104 rfl rfl
theorem w_1848 : Cond.instanceMethod yX12_placeInForme ∈ GW := gwt tb_8 103 rfl rfl
theorem w_45 : Cond.selects "LeadchapelModel" yX12_placeInForme yX12_placeInForme ∈ GW := gwt tb_0 45 rfl rfl
theorem w_1846 : Cond.methodLink "LeadchapelModel" 363 yX12_placeInForme ∈ GW := gwt tb_8 101 rfl rfl
theorem w_1483 : Cond.fieldLink "LeadchapelModel" 382 "LeadchapelModel" "stock" "I" ∈ GW := gwt tb_6 218 rfl rfl
theorem w_1900 : Cond.code yX12_keeps prog_14_method_64_code 6 (Option.none : Option Jvm.ClassFile.FieldType) ∈ GW := gwt tb_8 155 rfl rfl
theorem w_1899 : Cond.instanceMethod yX12_keeps ∈ GW := gwt tb_8 154 rfl rfl
theorem w_51 : Cond.selects "LeadchapelModel" yX12_keeps yX12_keeps ∈ GW := gwt tb_0 51 rfl rfl
theorem w_1897 : Cond.methodLink "LeadchapelModel" 385 yX12_keeps ∈ GW := gwt tb_8 152 rfl rfl
theorem w_1892 : Cond.code yX12_isHoliday prog_14_method_62_code 1 (Option.some Jvm.ClassFile.FieldType.boolean) ∈ GW := gwt tb_8 147 rfl rfl
theorem w_1891 : Cond.static yX12_isHoliday ∈ GW := gwt tb_8 146 rfl rfl
theorem w_1890 : Cond.methodLink "LeadchapelModel" 388 yX12_isHoliday ∈ GW := gwt tb_8 145 rfl rfl
theorem w_1896 : Cond.code yX12_works prog_14_method_63_code 6 (Option.some Jvm.ClassFile.FieldType.int) ∈ GW := gwt tb_8 151 rfl rfl
theorem w_1895 : Cond.instanceMethod yX12_works ∈ GW := gwt tb_8 150 rfl rfl
theorem w_50 : Cond.selects "LeadchapelModel" yX12_works yX12_works ∈ GW := gwt tb_0 50 rfl rfl
theorem w_1893 : Cond.methodLink "LeadchapelModel" 391 yX12_works ∈ GW := gwt tb_8 148 rfl rfl
theorem w_1822 : Cond.constantLong "LeadchapelModel" 250 31 ∈ GW := gwt tb_8 77 rfl rfl
theorem w_1821 : Cond.code yX12_letter prog_14_method_14_code 3 (Option.some Jvm.ClassFile.FieldType.int) ∈ GW := gwt tb_8 76 rfl rfl
theorem w_1820 : Cond.static yX12_letter ∈ GW := gwt tb_8 75 rfl rfl
theorem w_1819 : Cond.methodLink "LeadchapelModel" 325 yX12_letter ∈ GW := gwt tb_8 74 rfl rfl
theorem w_1826 : Cond.code yX12_fills prog_14_method_49_code 7 (Option.some Jvm.ClassFile.FieldType.int) ∈ GW := gwt tb_8 81 rfl rfl
theorem w_1825 : Cond.instanceMethod yX12_fills ∈ GW := gwt tb_8 80 rfl rfl
theorem w_41 : Cond.selects "LeadchapelModel" yX12_fills yX12_fills ∈ GW := gwt tb_0 41 rfl rfl
theorem w_1823 : Cond.methodLink "LeadchapelModel" 329 yX12_fills ∈ GW := gwt tb_8 78 rfl rfl
theorem w_1806 : Cond.code yX12_formOf prog_14_method_44_code 8 (Option.some Jvm.ClassFile.FieldType.long) ∈ GW := gwt tb_8 61 rfl rfl
theorem w_1805 : Cond.instanceMethod yX12_formOf ∈ GW := gwt tb_8 60 rfl rfl
theorem w_37 : Cond.selects "LeadchapelModel" yX12_formOf yX12_formOf ∈ GW := gwt tb_0 37 rfl rfl
theorem w_1803 : Cond.methodLink "LeadchapelModel" 308 yX12_formOf ∈ GW := gwt tb_8 58 rfl rfl
theorem w_1810 : Cond.code yX12_sameBehind prog_14_method_43_code 5 (Option.some Jvm.ClassFile.FieldType.int) ∈ GW := gwt tb_8 65 rfl rfl
theorem w_1809 : Cond.instanceMethod yX12_sameBehind ∈ GW := gwt tb_8 64 rfl rfl
theorem w_38 : Cond.selects "LeadchapelModel" yX12_sameBehind yX12_sameBehind ∈ GW := gwt tb_0 38 rfl rfl
theorem w_1807 : Cond.methodLink "LeadchapelModel" 312 yX12_sameBehind ∈ GW := gwt tb_8 62 rfl rfl
theorem w_1790 : Cond.code yX12_hasPart prog_14_method_40_code 3 (Option.some Jvm.ClassFile.FieldType.boolean) ∈ GW := gwt tb_8 45 rfl rfl
theorem w_1789 : Cond.instanceMethod yX12_hasPart ∈ GW := gwt tb_8 44 rfl rfl
theorem w_33 : Cond.selects "LeadchapelModel" yX12_hasPart yX12_hasPart ∈ GW := gwt tb_0 33 rfl rfl
theorem w_1787 : Cond.methodLink "LeadchapelModel" 340 yX12_hasPart ∈ GW := gwt tb_8 42 rfl rfl
theorem w_1794 : Cond.code yX12_partFrom prog_14_method_41_code 3 (Option.some Jvm.ClassFile.FieldType.int) ∈ GW := gwt tb_8 49 rfl rfl
theorem w_1793 : Cond.instanceMethod yX12_partFrom ∈ GW := gwt tb_8 48 rfl rfl
theorem w_34 : Cond.selects "LeadchapelModel" yX12_partFrom yX12_partFrom ∈ GW := gwt tb_0 34 rfl rfl
theorem w_1791 : Cond.methodLink "LeadchapelModel" 343 yX12_partFrom ∈ GW := gwt tb_8 46 rfl rfl
theorem w_1798 : Cond.code yX12_partTo prog_14_method_42_code 3 (Option.some Jvm.ClassFile.FieldType.int) ∈ GW := gwt tb_8 53 rfl rfl
theorem w_1797 : Cond.instanceMethod yX12_partTo ∈ GW := gwt tb_8 52 rfl rfl
theorem w_35 : Cond.selects "LeadchapelModel" yX12_partTo yX12_partTo ∈ GW := gwt tb_0 35 rfl rfl
theorem w_1795 : Cond.methodLink "LeadchapelModel" 346 yX12_partTo ∈ GW := gwt tb_8 50 rfl rfl
theorem w_1802 : Cond.code yX12_laysLines prog_14_method_45_code 17 (Option.some Jvm.ClassFile.FieldType.int) ∈ GW := gwt tb_8 57 rfl rfl
theorem w_1801 : Cond.instanceMethod yX12_laysLines ∈ GW := gwt tb_8 56 rfl rfl
theorem w_36 : Cond.selects "LeadchapelModel" yX12_laysLines yX12_laysLines ∈ GW := gwt tb_0 36 rfl rfl
theorem w_1799 : Cond.methodLink "LeadchapelModel" 349 yX12_laysLines ∈ GW := gwt tb_8 54 rfl rfl
theorem w_1814 : Cond.code yX12_fillsOut prog_14_method_46_code 9 (Option.none : Option Jvm.ClassFile.FieldType) ∈ GW := gwt tb_8 69 rfl rfl
theorem w_1813 : Cond.instanceMethod yX12_fillsOut ∈ GW := gwt tb_8 68 rfl rfl
theorem w_39 : Cond.selects "LeadchapelModel" yX12_fillsOut yX12_fillsOut ∈ GW := gwt tb_0 39 rfl rfl
theorem w_1811 : Cond.methodLink "LeadchapelModel" 353 yX12_fillsOut ∈ GW := gwt tb_8 66 rfl rfl
theorem w_1818 : Cond.code yX12_fillsPlaces prog_14_method_50_code 13 (Option.some Jvm.ClassFile.FieldType.int) ∈ GW := gwt tb_8 73 rfl rfl
theorem w_1817 : Cond.instanceMethod yX12_fillsPlaces ∈ GW := gwt tb_8 72 rfl rfl
theorem w_40 : Cond.selects "LeadchapelModel" yX12_fillsPlaces yX12_fillsPlaces ∈ GW := gwt tb_0 40 rfl rfl
theorem w_1815 : Cond.methodLink "LeadchapelModel" 357 yX12_fillsPlaces ∈ GW := gwt tb_8 70 rfl rfl
theorem w_1691 : Cond.code yX12_isSpelling prog_14_method_24_code 2 (Option.some Jvm.ClassFile.FieldType.boolean) ∈ GW := gwt tb_7 186 rfl rfl
theorem w_1690 : Cond.instanceMethod yX12_isSpelling ∈ GW := gwt tb_7 185 rfl rfl
theorem w_19 : Cond.selects "LeadchapelModel" yX12_isSpelling yX12_isSpelling ∈ GW := gwt tb_0 19 rfl rfl
theorem w_1688 : Cond.methodLink "LeadchapelModel" 287 yX12_isSpelling ∈ GW := gwt tb_7 183 rfl rfl
theorem w_1667 : Cond.constantLong "LeadchapelModel" 255 255 ∈ GW := gwt tb_7 162 rfl rfl
theorem w_88 : Cond.classLink "LeadchapelLaw" 8 "Leadchapel" ∈ GW := gwt tb_1 23 rfl rfl
theorem w_89 : Cond.instantiable "Leadchapel" 11 ∈ GW := gwt tb_1 24 rfl rfl
theorem w_92 : Cond.code yX11_init prog_1_method_1_code 2 (Option.none : Option Jvm.ClassFile.FieldType) ∈ GW := gwt tb_1 27 rfl rfl
theorem w_91 : Cond.instanceMethod yX11_init ∈ GW := gwt tb_1 26 rfl rfl
theorem w_90 : Cond.methodLink "LeadchapelLaw" 144 yX11_init ∈ GW := gwt tb_1 25 rfl rfl
theorem w_1403 : Cond.classLink "LeadchapelLaw" 145 "LeadchapelModel" ∈ GW := gwt tb_6 138 rfl rfl
theorem w_1404 : Cond.instantiable "LeadchapelModel" 82 ∈ GW := gwt tb_6 139 rfl rfl
theorem w_1407 : Cond.code yX12_init prog_14_method_1_code 2 (Option.none : Option Jvm.ClassFile.FieldType) ∈ GW := gwt tb_6 142 rfl rfl
theorem w_1406 : Cond.instanceMethod yX12_init ∈ GW := gwt tb_6 141 rfl rfl
theorem w_1405 : Cond.methodLink "LeadchapelLaw" 147 yX12_init ∈ GW := gwt tb_6 140 rfl rfl
theorem w_2045 : Cond.constantLong "LeadchapelLaw" 148 4294967295 ∈ GW := gwt tb_9 60 rfl rfl
theorem w_277 : Cond.codeWith yL_type method_3_code 6 (Option.some Jvm.ClassFile.FieldType.int) [(0, 11, 14, 13), (0, 11, 18, 15)] ∈ GW := gwt tb_1 212 rfl rfl
theorem w_65 : Cond.initialized "LeadchapelLaw" ∈ GW := gwt tb_1 0 rfl rfl
theorem w_276 : Cond.static yL_type ∈ GW := gwt tb_1 211 rfl rfl
theorem w_275 : Cond.methodLink "LeadchapelLaw" 150 yL_type ∈ GW := gwt tb_1 210 rfl rfl
theorem w_1663 : Cond.code yX12_type prog_14_method_16_code 7 (Option.some Jvm.ClassFile.FieldType.int) ∈ GW := gwt tb_7 158 rfl rfl
theorem w_1661 : Cond.instanceMethod yX12_type ∈ GW := gwt tb_7 156 rfl rfl
theorem w_1662 : Cond.selects "LeadchapelModel" yX12_type yX12_type ∈ GW := gwt tb_7 157 rfl rfl
theorem w_1660 : Cond.methodLink "LeadchapelLaw" 155 yX12_type ∈ GW := gwt tb_7 155 rfl rfl
theorem w_1659 : Cond.code yX12_thrown prog_14_method_2_code 1 (Option.some Jvm.ClassFile.FieldType.int) ∈ GW := gwt tb_7 154 rfl rfl
theorem w_1657 : Cond.instanceMethod yX12_thrown ∈ GW := gwt tb_7 152 rfl rfl
theorem w_1658 : Cond.selects "LeadchapelModel" yX12_thrown yX12_thrown ∈ GW := gwt tb_7 153 rfl rfl
theorem w_1656 : Cond.methodLink "LeadchapelLaw" 156 yX12_thrown ∈ GW := gwt tb_7 151 rfl rfl
theorem w_259 : Cond.code yX11_wipe prog_1_method_3_code 2 (Option.some Jvm.ClassFile.FieldType.int) ∈ GW := gwt tb_1 194 rfl rfl
theorem w_257 : Cond.instanceMethod yX11_wipe ∈ GW := gwt tb_1 192 rfl rfl
theorem w_258 : Cond.selects "Leadchapel" yX11_wipe yX11_wipe ∈ GW := gwt tb_1 193 rfl rfl
theorem w_256 : Cond.methodLink "LeadchapelLaw" 159 yX11_wipe ∈ GW := gwt tb_1 191 rfl rfl
theorem w_1675 : Cond.code yX12_wipe prog_14_method_17_code 2 (Option.some Jvm.ClassFile.FieldType.int) ∈ GW := gwt tb_7 170 rfl rfl
theorem w_1673 : Cond.instanceMethod yX12_wipe ∈ GW := gwt tb_7 168 rfl rfl
theorem w_1674 : Cond.selects "LeadchapelModel" yX12_wipe yX12_wipe ∈ GW := gwt tb_7 169 rfl rfl
theorem w_1672 : Cond.methodLink "LeadchapelLaw" 162 yX12_wipe ∈ GW := gwt tb_7 167 rfl rfl
theorem w_263 : Cond.code yX11_fault prog_1_method_4_code 1 (Option.some Jvm.ClassFile.FieldType.int) ∈ GW := gwt tb_1 198 rfl rfl
theorem w_261 : Cond.instanceMethod yX11_fault ∈ GW := gwt tb_1 196 rfl rfl
theorem w_262 : Cond.selects "Leadchapel" yX11_fault yX11_fault ∈ GW := gwt tb_1 197 rfl rfl
theorem w_260 : Cond.methodLink "LeadchapelLaw" 163 yX11_fault ∈ GW := gwt tb_1 195 rfl rfl
theorem w_1679 : Cond.code yX12_fault prog_14_method_19_code 1 (Option.some Jvm.ClassFile.FieldType.int) ∈ GW := gwt tb_7 174 rfl rfl
theorem w_1677 : Cond.instanceMethod yX12_fault ∈ GW := gwt tb_7 172 rfl rfl
theorem w_1678 : Cond.selects "LeadchapelModel" yX12_fault yX12_fault ∈ GW := gwt tb_7 173 rfl rfl
theorem w_1676 : Cond.methodLink "LeadchapelLaw" 166 yX12_fault ∈ GW := gwt tb_7 171 rfl rfl
theorem w_388 : Cond.codeWith yL_spelling method_4_code 3 (Option.some Jvm.ClassFile.FieldType.int) [(0, 8, 11, 13), (0, 8, 14, 15)] ∈ GW := gwt tb_2 83 rfl rfl
theorem w_387 : Cond.static yL_spelling ∈ GW := gwt tb_2 82 rfl rfl
theorem w_386 : Cond.methodLink "LeadchapelLaw" 167 yL_spelling ∈ GW := gwt tb_2 81 rfl rfl
theorem w_1687 : Cond.code yX12_spelling prog_14_method_25_code 3 (Option.some Jvm.ClassFile.FieldType.int) ∈ GW := gwt tb_7 182 rfl rfl
theorem w_1685 : Cond.instanceMethod yX12_spelling ∈ GW := gwt tb_7 180 rfl rfl
theorem w_1686 : Cond.selects "LeadchapelModel" yX12_spelling yX12_spelling ∈ GW := gwt tb_7 181 rfl rfl
theorem w_1684 : Cond.methodLink "LeadchapelLaw" 170 yX12_spelling ∈ GW := gwt tb_7 179 rfl rfl
theorem w_423 : Cond.codeWith yL_cast method_5_code 5 (Option.some Jvm.ClassFile.FieldType.int) [(0, 10, 13, 13), (0, 10, 17, 15)] ∈ GW := gwt tb_2 118 rfl rfl
theorem w_422 : Cond.static yL_cast ∈ GW := gwt tb_2 117 rfl rfl
theorem w_421 : Cond.methodLink "LeadchapelLaw" 171 yL_cast ∈ GW := gwt tb_2 116 rfl rfl
theorem w_1718 : Cond.code yX12_cast prog_14_method_28_code 4 (Option.some Jvm.ClassFile.FieldType.int) ∈ GW := gwt tb_7 213 rfl rfl
theorem w_1716 : Cond.instanceMethod yX12_cast ∈ GW := gwt tb_7 211 rfl rfl
theorem w_1717 : Cond.selects "LeadchapelModel" yX12_cast yX12_cast ∈ GW := gwt tb_7 212 rfl rfl
theorem w_1715 : Cond.methodLink "LeadchapelLaw" 174 yX12_cast ∈ GW := gwt tb_7 210 rfl rfl
theorem w_441 : Cond.codeWith yL_wear method_6_code 4 (Option.some Jvm.ClassFile.FieldType.int) [(0, 9, 12, 29), (0, 9, 15, 15)] ∈ GW := gwt tb_2 136 rfl rfl
theorem w_440 : Cond.static yL_wear ∈ GW := gwt tb_2 135 rfl rfl
theorem w_439 : Cond.methodLink "LeadchapelLaw" 175 yL_wear ∈ GW := gwt tb_2 134 rfl rfl
theorem w_1726 : Cond.code yX12_wear prog_14_method_29_code 3 (Option.some Jvm.ClassFile.FieldType.int) ∈ GW := gwt tb_7 221 rfl rfl
theorem w_1724 : Cond.instanceMethod yX12_wear ∈ GW := gwt tb_7 219 rfl rfl
theorem w_1725 : Cond.selects "LeadchapelModel" yX12_wear yX12_wear ∈ GW := gwt tb_7 220 rfl rfl
theorem w_1723 : Cond.methodLink "LeadchapelLaw" 178 yX12_wear ∈ GW := gwt tb_7 218 rfl rfl
theorem w_472 : Cond.codeWith yL_piece method_7_code 5 (Option.some Jvm.ClassFile.FieldType.int) [(0, 10, 13, 29), (0, 10, 17, 13)] ∈ GW := gwt tb_2 167 rfl rfl
theorem w_471 : Cond.static yL_piece ∈ GW := gwt tb_2 166 rfl rfl
theorem w_470 : Cond.methodLink "LeadchapelLaw" 179 yL_piece ∈ GW := gwt tb_2 165 rfl rfl
theorem w_1730 : Cond.code yX12_piece prog_14_method_30_code 3 (Option.some Jvm.ClassFile.FieldType.int) ∈ GW := gwt tb_7 225 rfl rfl
theorem w_1728 : Cond.instanceMethod yX12_piece ∈ GW := gwt tb_7 223 rfl rfl
theorem w_1729 : Cond.selects "LeadchapelModel" yX12_piece yX12_piece ∈ GW := gwt tb_7 224 rfl rfl
theorem w_1727 : Cond.methodLink "LeadchapelLaw" 181 yX12_piece ∈ GW := gwt tb_7 222 rfl rfl
theorem w_479 : Cond.codeWith yL_box method_8_code 5 (Option.some Jvm.ClassFile.FieldType.int) [(0, 10, 13, 13), (0, 10, 17, 29)] ∈ GW := gwt tb_2 174 rfl rfl
theorem w_478 : Cond.static yL_box ∈ GW := gwt tb_2 173 rfl rfl
theorem w_477 : Cond.methodLink "LeadchapelLaw" 182 yL_box ∈ GW := gwt tb_2 172 rfl rfl
theorem w_1734 : Cond.code yX12_box prog_14_method_31_code 5 (Option.some Jvm.ClassFile.FieldType.int) ∈ GW := gwt tb_7 229 rfl rfl
theorem w_1732 : Cond.instanceMethod yX12_box ∈ GW := gwt tb_7 227 rfl rfl
theorem w_1733 : Cond.selects "LeadchapelModel" yX12_box yX12_box ∈ GW := gwt tb_7 228 rfl rfl
theorem w_1731 : Cond.methodLink "LeadchapelLaw" 184 yX12_box ∈ GW := gwt tb_7 226 rfl rfl
theorem w_490 : Cond.codeWith yL_hand method_9_code 6 (Option.some Jvm.ClassFile.FieldType.int) [(0, 12, 15, 13), (0, 12, 19, 15)] ∈ GW := gwt tb_2 185 rfl rfl
theorem w_489 : Cond.static yL_hand ∈ GW := gwt tb_2 184 rfl rfl
theorem w_488 : Cond.methodLink "LeadchapelLaw" 185 yL_hand ∈ GW := gwt tb_2 183 rfl rfl
theorem w_1738 : Cond.code yX12_hand prog_14_method_32_code 5 (Option.some Jvm.ClassFile.FieldType.int) ∈ GW := gwt tb_7 233 rfl rfl
theorem w_1736 : Cond.instanceMethod yX12_hand ∈ GW := gwt tb_7 231 rfl rfl
theorem w_1737 : Cond.selects "LeadchapelModel" yX12_hand yX12_hand ∈ GW := gwt tb_7 232 rfl rfl
theorem w_1735 : Cond.methodLink "LeadchapelLaw" 188 yX12_hand ∈ GW := gwt tb_7 230 rfl rfl
theorem w_523 : Cond.codeWith yL_book method_10_code 8 (Option.some Jvm.ClassFile.FieldType.int) [(0, 16, 19, 13), (0, 16, 23, 15)] ∈ GW := gwt tb_2 218 rfl rfl
theorem w_522 : Cond.static yL_book ∈ GW := gwt tb_2 217 rfl rfl
theorem w_521 : Cond.methodLink "LeadchapelLaw" 189 yL_book ∈ GW := gwt tb_2 216 rfl rfl
theorem w_1742 : Cond.code yX12_book prog_14_method_33_code 8 (Option.some Jvm.ClassFile.FieldType.int) ∈ GW := gwt tb_7 237 rfl rfl
theorem w_1740 : Cond.instanceMethod yX12_book ∈ GW := gwt tb_7 235 rfl rfl
theorem w_1741 : Cond.selects "LeadchapelModel" yX12_book yX12_book ∈ GW := gwt tb_7 236 rfl rfl
theorem w_1739 : Cond.methodLink "LeadchapelLaw" 192 yX12_book ∈ GW := gwt tb_7 234 rfl rfl
theorem w_809 : Cond.codeWith yL_copy method_11_code 4 (Option.some Jvm.ClassFile.FieldType.int) [(0, 9, 12, 29), (0, 9, 15, 13), (0, 9, 18, 15)] ∈ GW := gwt tb_4 24 rfl rfl
theorem w_808 : Cond.static yL_copy ∈ GW := gwt tb_4 23 rfl rfl
theorem w_807 : Cond.methodLink "LeadchapelLaw" 193 yL_copy ∈ GW := gwt tb_4 22 rfl rfl
theorem w_1746 : Cond.code yX12_copy prog_14_method_35_code 7 (Option.some Jvm.ClassFile.FieldType.int) ∈ GW := gwt tb_8 1 rfl rfl
theorem w_1744 : Cond.instanceMethod yX12_copy ∈ GW := gwt tb_7 239 rfl rfl
theorem w_1745 : Cond.selects "LeadchapelModel" yX12_copy yX12_copy ∈ GW := gwt tb_8 0 rfl rfl
theorem w_1743 : Cond.methodLink "LeadchapelLaw" 195 yX12_copy ∈ GW := gwt tb_7 238 rfl rfl
theorem w_836 : Cond.codeWith yL_follow method_12_code 5 (Option.some Jvm.ClassFile.FieldType.int) [(0, 10, 13, 29), (0, 10, 17, 13), (0, 10, 21, 15)] ∈ GW := gwt tb_4 51 rfl rfl
theorem w_835 : Cond.static yL_follow ∈ GW := gwt tb_4 50 rfl rfl
theorem w_834 : Cond.methodLink "LeadchapelLaw" 196 yL_follow ∈ GW := gwt tb_4 49 rfl rfl
theorem w_1762 : Cond.code yX12_follow prog_14_method_37_code 10 (Option.some Jvm.ClassFile.FieldType.int) ∈ GW := gwt tb_8 17 rfl rfl
theorem w_1760 : Cond.instanceMethod yX12_follow ∈ GW := gwt tb_8 15 rfl rfl
theorem w_1761 : Cond.selects "LeadchapelModel" yX12_follow yX12_follow ∈ GW := gwt tb_8 16 rfl rfl
theorem w_1759 : Cond.methodLink "LeadchapelLaw" 198 yX12_follow ∈ GW := gwt tb_8 14 rfl rfl
theorem w_860 : Cond.codeWith yL_castOff method_13_code 5 (Option.some Jvm.ClassFile.FieldType.int) [(0, 10, 13, 29), (0, 10, 17, 13), (0, 10, 21, 15)] ∈ GW := gwt tb_4 75 rfl rfl
theorem w_859 : Cond.static yL_castOff ∈ GW := gwt tb_4 74 rfl rfl
theorem w_858 : Cond.methodLink "LeadchapelLaw" 199 yL_castOff ∈ GW := gwt tb_4 73 rfl rfl
theorem w_1770 : Cond.code yX12_castOff prog_14_method_39_code 5 (Option.some Jvm.ClassFile.FieldType.int) ∈ GW := gwt tb_8 25 rfl rfl
theorem w_1768 : Cond.instanceMethod yX12_castOff ∈ GW := gwt tb_8 23 rfl rfl
theorem w_1769 : Cond.selects "LeadchapelModel" yX12_castOff yX12_castOff ∈ GW := gwt tb_8 24 rfl rfl
theorem w_1767 : Cond.methodLink "LeadchapelLaw" 201 yX12_castOff ∈ GW := gwt tb_8 22 rfl rfl
theorem w_879 : Cond.codeWith yL_set method_14_code 6 (Option.some Jvm.ClassFile.FieldType.int) [(0, 12, 15, 29), (0, 12, 19, 15)] ∈ GW := gwt tb_4 94 rfl rfl
theorem w_878 : Cond.static yL_set ∈ GW := gwt tb_4 93 rfl rfl
theorem w_877 : Cond.methodLink "LeadchapelLaw" 202 yL_set ∈ GW := gwt tb_4 92 rfl rfl
theorem w_1778 : Cond.code yX12_set prog_14_method_51_code 12 (Option.some Jvm.ClassFile.FieldType.int) ∈ GW := gwt tb_8 33 rfl rfl
theorem w_1776 : Cond.instanceMethod yX12_set ∈ GW := gwt tb_8 31 rfl rfl
theorem w_1777 : Cond.selects "LeadchapelModel" yX12_set yX12_set ∈ GW := gwt tb_8 32 rfl rfl
theorem w_1775 : Cond.methodLink "LeadchapelLaw" 204 yX12_set ∈ GW := gwt tb_8 30 rfl rfl
theorem w_975 : Cond.codeWith yL_page method_15_code 6 (Option.some Jvm.ClassFile.FieldType.int) [(0, 12, 15, 29), (0, 12, 19, 13)] ∈ GW := gwt tb_4 190 rfl rfl
theorem w_974 : Cond.static yL_page ∈ GW := gwt tb_4 189 rfl rfl
theorem w_973 : Cond.methodLink "LeadchapelLaw" 205 yL_page ∈ GW := gwt tb_4 188 rfl rfl
theorem w_1841 : Cond.code yX12_page prog_14_method_52_code 6 (Option.some Jvm.ClassFile.FieldType.int) ∈ GW := gwt tb_8 96 rfl rfl
theorem w_1839 : Cond.instanceMethod yX12_page ∈ GW := gwt tb_8 94 rfl rfl
theorem w_1840 : Cond.selects "LeadchapelModel" yX12_page yX12_page ∈ GW := gwt tb_8 95 rfl rfl
theorem w_1838 : Cond.methodLink "LeadchapelLaw" 207 yX12_page ∈ GW := gwt tb_8 93 rfl rfl
theorem w_996 : Cond.codeWith yL_line method_16_code 7 (Option.some Jvm.ClassFile.FieldType.int) [(0, 14, 17, 29), (0, 14, 21, 13)] ∈ GW := gwt tb_4 211 rfl rfl
theorem w_995 : Cond.static yL_line ∈ GW := gwt tb_4 210 rfl rfl
theorem w_994 : Cond.methodLink "LeadchapelLaw" 208 yL_line ∈ GW := gwt tb_4 209 rfl rfl
theorem w_1853 : Cond.code yX12_line prog_14_method_55_code 7 (Option.some Jvm.ClassFile.FieldType.int) ∈ GW := gwt tb_8 108 rfl rfl
theorem w_1851 : Cond.instanceMethod yX12_line ∈ GW := gwt tb_8 106 rfl rfl
theorem w_1852 : Cond.selects "LeadchapelModel" yX12_line yX12_line ∈ GW := gwt tb_8 107 rfl rfl
theorem w_1850 : Cond.methodLink "LeadchapelLaw" 211 yX12_line ∈ GW := gwt tb_8 105 rfl rfl
theorem w_1013 : Cond.codeWith yL_place method_17_code 7 (Option.some Jvm.ClassFile.FieldType.int) [(0, 14, 17, 29), (0, 14, 21, 13)] ∈ GW := gwt tb_4 228 rfl rfl
theorem w_1012 : Cond.static yL_place ∈ GW := gwt tb_4 227 rfl rfl
theorem w_1011 : Cond.methodLink "LeadchapelLaw" 212 yL_place ∈ GW := gwt tb_4 226 rfl rfl
theorem w_1861 : Cond.code yX12_place prog_14_method_56_code 7 (Option.some Jvm.ClassFile.FieldType.int) ∈ GW := gwt tb_8 116 rfl rfl
theorem w_1859 : Cond.instanceMethod yX12_place ∈ GW := gwt tb_8 114 rfl rfl
theorem w_1860 : Cond.selects "LeadchapelModel" yX12_place yX12_place ∈ GW := gwt tb_8 115 rfl rfl
theorem w_1858 : Cond.methodLink "LeadchapelLaw" 214 yX12_place ∈ GW := gwt tb_8 113 rfl rfl
theorem w_1020 : Cond.codeWith yL_lock method_18_code 5 (Option.some Jvm.ClassFile.FieldType.int) [(0, 7, 10, 29), (0, 7, 14, 13), (0, 7, 18, 15)] ∈ GW := gwt tb_4 235 rfl rfl
theorem w_1019 : Cond.static yL_lock ∈ GW := gwt tb_4 234 rfl rfl
theorem w_1018 : Cond.methodLink "LeadchapelLaw" 215 yL_lock ∈ GW := gwt tb_4 233 rfl rfl
theorem w_1865 : Cond.code yX12_lock prog_14_method_59_code 8 (Option.none : Option Jvm.ClassFile.FieldType) ∈ GW := gwt tb_8 120 rfl rfl
theorem w_1863 : Cond.instanceMethod yX12_lock ∈ GW := gwt tb_8 118 rfl rfl
theorem w_1864 : Cond.selects "LeadchapelModel" yX12_lock yX12_lock ∈ GW := gwt tb_8 119 rfl rfl
theorem w_1862 : Cond.methodLink "LeadchapelLaw" 218 yX12_lock ∈ GW := gwt tb_8 117 rfl rfl
theorem w_1048 : Cond.codeWith yL_print method_19_code 5 (Option.some Jvm.ClassFile.FieldType.int) [(0, 7, 10, 29), (0, 7, 14, 15)] ∈ GW := gwt tb_5 23 rfl rfl
theorem w_1047 : Cond.static yL_print ∈ GW := gwt tb_5 22 rfl rfl
theorem w_1046 : Cond.methodLink "LeadchapelLaw" 219 yL_print ∈ GW := gwt tb_5 21 rfl rfl
theorem w_1881 : Cond.code yX12_print prog_14_method_60_code 7 (Option.none : Option Jvm.ClassFile.FieldType) ∈ GW := gwt tb_8 136 rfl rfl
theorem w_1879 : Cond.instanceMethod yX12_print ∈ GW := gwt tb_8 134 rfl rfl
theorem w_1880 : Cond.selects "LeadchapelModel" yX12_print yX12_print ∈ GW := gwt tb_8 135 rfl rfl
theorem w_1878 : Cond.methodLink "LeadchapelLaw" 221 yX12_print ∈ GW := gwt tb_8 133 rfl rfl
theorem w_1072 : Cond.codeWith yL_men method_20_code 5 (Option.some Jvm.ClassFile.FieldType.int) [(0, 10, 13, 29), (0, 10, 17, 13)] ∈ GW := gwt tb_5 47 rfl rfl
theorem w_1071 : Cond.static yL_men ∈ GW := gwt tb_5 46 rfl rfl
theorem w_1070 : Cond.methodLink "LeadchapelLaw" 222 yL_men ∈ GW := gwt tb_5 45 rfl rfl
theorem w_1885 : Cond.code yX12_men prog_14_method_61_code 4 (Option.some Jvm.ClassFile.FieldType.int) ∈ GW := gwt tb_8 140 rfl rfl
theorem w_1883 : Cond.instanceMethod yX12_men ∈ GW := gwt tb_8 138 rfl rfl
theorem w_1884 : Cond.selects "LeadchapelModel" yX12_men yX12_men ∈ GW := gwt tb_8 139 rfl rfl
theorem w_1882 : Cond.methodLink "LeadchapelLaw" 224 yX12_men ∈ GW := gwt tb_8 137 rfl rfl
theorem w_1079 : Cond.codeWith yL_pass method_21_code 4 (Option.some Jvm.ClassFile.FieldType.int) [(0, 9, 12, 13), (0, 9, 15, 15)] ∈ GW := gwt tb_5 54 rfl rfl
theorem w_1078 : Cond.static yL_pass ∈ GW := gwt tb_5 53 rfl rfl
theorem w_1077 : Cond.methodLink "LeadchapelLaw" 225 yL_pass ∈ GW := gwt tb_5 52 rfl rfl
theorem w_1889 : Cond.code yX12_pass prog_14_method_65_code 5 (Option.some Jvm.ClassFile.FieldType.int) ∈ GW := gwt tb_8 144 rfl rfl
theorem w_1887 : Cond.instanceMethod yX12_pass ∈ GW := gwt tb_8 142 rfl rfl
theorem w_1888 : Cond.selects "LeadchapelModel" yX12_pass yX12_pass ∈ GW := gwt tb_8 143 rfl rfl
theorem w_1886 : Cond.methodLink "LeadchapelLaw" 227 yX12_pass ∈ GW := gwt tb_8 141 rfl rfl
theorem w_274 : Cond.code yX11_hour prog_1_method_23_code 1 (Option.some Jvm.ClassFile.FieldType.int) ∈ GW := gwt tb_1 209 rfl rfl
theorem w_272 : Cond.instanceMethod yX11_hour ∈ GW := gwt tb_1 207 rfl rfl
theorem w_273 : Cond.selects "Leadchapel" yX11_hour yX11_hour ∈ GW := gwt tb_1 208 rfl rfl
theorem w_271 : Cond.methodLink "LeadchapelLaw" 228 yX11_hour ∈ GW := gwt tb_1 206 rfl rfl
theorem w_1904 : Cond.code yX12_hour prog_14_method_66_code 1 (Option.some Jvm.ClassFile.FieldType.int) ∈ GW := gwt tb_8 159 rfl rfl
theorem w_1902 : Cond.instanceMethod yX12_hour ∈ GW := gwt tb_8 157 rfl rfl
theorem w_1903 : Cond.selects "LeadchapelModel" yX12_hour yX12_hour ∈ GW := gwt tb_8 158 rfl rfl
theorem w_1901 : Cond.methodLink "LeadchapelLaw" 231 yX12_hour ∈ GW := gwt tb_8 156 rfl rfl
theorem w_1104 : Cond.codeWith yL_forme method_22_code 6 (Option.some Jvm.ClassFile.FieldType.int) [(0, 12, 15, 29), (0, 12, 19, 13)] ∈ GW := gwt tb_5 79 rfl rfl
theorem w_1103 : Cond.static yL_forme ∈ GW := gwt tb_5 78 rfl rfl
theorem w_1102 : Cond.methodLink "LeadchapelLaw" 232 yL_forme ∈ GW := gwt tb_5 77 rfl rfl
theorem w_1908 : Cond.code yX12_forme prog_14_method_67_code 5 (Option.some Jvm.ClassFile.FieldType.int) ∈ GW := gwt tb_8 163 rfl rfl
theorem w_1906 : Cond.instanceMethod yX12_forme ∈ GW := gwt tb_8 161 rfl rfl
theorem w_1907 : Cond.selects "LeadchapelModel" yX12_forme yX12_forme ∈ GW := gwt tb_8 162 rfl rfl
theorem w_1905 : Cond.methodLink "LeadchapelLaw" 234 yX12_forme ∈ GW := gwt tb_8 160 rfl rfl
theorem w_1111 : Cond.codeWith yL_correct method_23_code 6 (Option.some Jvm.ClassFile.FieldType.int) [(0, 12, 15, 29), (0, 12, 19, 15)] ∈ GW := gwt tb_5 86 rfl rfl
theorem w_1110 : Cond.static yL_correct ∈ GW := gwt tb_5 85 rfl rfl
theorem w_1109 : Cond.methodLink "LeadchapelLaw" 235 yL_correct ∈ GW := gwt tb_5 84 rfl rfl
theorem w_1916 : Cond.code yX12_correct prog_14_method_69_code 10 (Option.some Jvm.ClassFile.FieldType.int) ∈ GW := gwt tb_8 171 rfl rfl
theorem w_1914 : Cond.instanceMethod yX12_correct ∈ GW := gwt tb_8 169 rfl rfl
theorem w_1915 : Cond.selects "LeadchapelModel" yX12_correct yX12_correct ∈ GW := gwt tb_8 170 rfl rfl
theorem w_1913 : Cond.methodLink "LeadchapelLaw" 237 yX12_correct ∈ GW := gwt tb_8 168 rfl rfl
theorem w_1134 : Cond.codeWith yL_putAway method_24_code 6 (Option.some Jvm.ClassFile.FieldType.int) [(0, 12, 15, 29), (0, 12, 19, 15)] ∈ GW := gwt tb_5 109 rfl rfl
theorem w_1133 : Cond.static yL_putAway ∈ GW := gwt tb_5 108 rfl rfl
theorem w_1132 : Cond.methodLink "LeadchapelLaw" 238 yL_putAway ∈ GW := gwt tb_5 107 rfl rfl
theorem w_1920 : Cond.code yX12_putAway prog_14_method_70_code 11 (Option.some Jvm.ClassFile.FieldType.int) ∈ GW := gwt tb_8 175 rfl rfl
theorem w_1918 : Cond.instanceMethod yX12_putAway ∈ GW := gwt tb_8 173 rfl rfl
theorem w_1919 : Cond.selects "LeadchapelModel" yX12_putAway yX12_putAway ∈ GW := gwt tb_8 174 rfl rfl
theorem w_1917 : Cond.methodLink "LeadchapelLaw" 240 yX12_putAway ∈ GW := gwt tb_8 172 rfl rfl
theorem w_1149 : Cond.codeWith yL_paper method_25_code 4 (Option.some Jvm.ClassFile.FieldType.int) [(0, 9, 12, 29)] ∈ GW := gwt tb_5 124 rfl rfl
theorem w_1148 : Cond.static yL_paper ∈ GW := gwt tb_5 123 rfl rfl
theorem w_1147 : Cond.methodLink "LeadchapelLaw" 241 yL_paper ∈ GW := gwt tb_5 122 rfl rfl
theorem w_1924 : Cond.code yX12_paper prog_14_method_71_code 2 (Option.some Jvm.ClassFile.FieldType.int) ∈ GW := gwt tb_8 179 rfl rfl
theorem w_1922 : Cond.instanceMethod yX12_paper ∈ GW := gwt tb_8 177 rfl rfl
theorem w_1923 : Cond.selects "LeadchapelModel" yX12_paper yX12_paper ∈ GW := gwt tb_8 178 rfl rfl
theorem w_1921 : Cond.methodLink "LeadchapelLaw" 243 yX12_paper ∈ GW := gwt tb_8 176 rfl rfl
theorem w_1156 : Cond.codeWith yL_lay method_26_code 5 (Option.some Jvm.ClassFile.FieldType.int) [(0, 7, 10, 29), (0, 7, 14, 13), (0, 7, 18, 15)] ∈ GW := gwt tb_5 131 rfl rfl
theorem w_1155 : Cond.static yL_lay ∈ GW := gwt tb_5 130 rfl rfl
theorem w_1154 : Cond.methodLink "LeadchapelLaw" 244 yL_lay ∈ GW := gwt tb_5 129 rfl rfl
theorem w_1928 : Cond.code yX12_lay prog_14_method_72_code 5 (Option.none : Option Jvm.ClassFile.FieldType) ∈ GW := gwt tb_8 183 rfl rfl
theorem w_1926 : Cond.instanceMethod yX12_lay ∈ GW := gwt tb_8 181 rfl rfl
theorem w_1927 : Cond.selects "LeadchapelModel" yX12_lay yX12_lay ∈ GW := gwt tb_8 182 rfl rfl
theorem w_1925 : Cond.methodLink "LeadchapelLaw" 246 yX12_lay ∈ GW := gwt tb_8 180 rfl rfl
theorem w_1163 : Cond.codeWith yL_bind method_27_code 4 (Option.some Jvm.ClassFile.FieldType.int) [(0, 9, 12, 29), (0, 9, 15, 15)] ∈ GW := gwt tb_5 138 rfl rfl
theorem w_1162 : Cond.static yL_bind ∈ GW := gwt tb_5 137 rfl rfl
theorem w_1161 : Cond.methodLink "LeadchapelLaw" 247 yL_bind ∈ GW := gwt tb_5 136 rfl rfl
theorem w_1932 : Cond.code yX12_bind prog_14_method_74_code 6 (Option.some Jvm.ClassFile.FieldType.int) ∈ GW := gwt tb_8 187 rfl rfl
theorem w_1930 : Cond.instanceMethod yX12_bind ∈ GW := gwt tb_8 185 rfl rfl
theorem w_1931 : Cond.selects "LeadchapelModel" yX12_bind yX12_bind ∈ GW := gwt tb_8 186 rfl rfl
theorem w_1929 : Cond.methodLink "LeadchapelLaw" 249 yX12_bind ∈ GW := gwt tb_8 184 rfl rfl
theorem w_1182 : Cond.codeWith yL_exchange method_28_code 6 (Option.some Jvm.ClassFile.FieldType.int) [(0, 9, 12, 29), (0, 9, 16, 15)] ∈ GW := gwt tb_5 157 rfl rfl
theorem w_1181 : Cond.static yL_exchange ∈ GW := gwt tb_5 156 rfl rfl
theorem w_1180 : Cond.methodLink "LeadchapelLaw" 250 yL_exchange ∈ GW := gwt tb_5 155 rfl rfl
theorem w_1939 : Cond.code yX12_exchange prog_14_method_75_code 7 (Option.none : Option Jvm.ClassFile.FieldType) ∈ GW := gwt tb_8 194 rfl rfl
theorem w_1937 : Cond.instanceMethod yX12_exchange ∈ GW := gwt tb_8 192 rfl rfl
theorem w_1938 : Cond.selects "LeadchapelModel" yX12_exchange yX12_exchange ∈ GW := gwt tb_8 193 rfl rfl
theorem w_1936 : Cond.methodLink "LeadchapelLaw" 253 yX12_exchange ∈ GW := gwt tb_8 191 rfl rfl
theorem w_1197 : Cond.codeWith yL_cancel method_29_code 6 (Option.some Jvm.ClassFile.FieldType.int) [(0, 12, 15, 29), (0, 12, 19, 15)] ∈ GW := gwt tb_5 172 rfl rfl
theorem w_1196 : Cond.static yL_cancel ∈ GW := gwt tb_5 171 rfl rfl
theorem w_1195 : Cond.methodLink "LeadchapelLaw" 254 yL_cancel ∈ GW := gwt tb_5 170 rfl rfl
theorem w_1951 : Cond.code yX12_cancel prog_14_method_76_code 7 (Option.some Jvm.ClassFile.FieldType.int) ∈ GW := gwt tb_8 206 rfl rfl
theorem w_1949 : Cond.instanceMethod yX12_cancel ∈ GW := gwt tb_8 204 rfl rfl
theorem w_1950 : Cond.selects "LeadchapelModel" yX12_cancel yX12_cancel ∈ GW := gwt tb_8 205 rfl rfl
theorem w_1948 : Cond.methodLink "LeadchapelLaw" 256 yX12_cancel ∈ GW := gwt tb_8 203 rfl rfl
theorem w_1204 : Cond.codeWith yL_state method_30_code 6 (Option.some Jvm.ClassFile.FieldType.int) [(0, 12, 15, 29), (0, 12, 19, 15)] ∈ GW := gwt tb_5 179 rfl rfl
theorem w_1203 : Cond.static yL_state ∈ GW := gwt tb_5 178 rfl rfl
theorem w_1202 : Cond.methodLink "LeadchapelLaw" 257 yL_state ∈ GW := gwt tb_5 177 rfl rfl
theorem w_1955 : Cond.code yX12_state prog_14_method_78_code 5 (Option.some Jvm.ClassFile.FieldType.int) ∈ GW := gwt tb_8 210 rfl rfl
theorem w_1953 : Cond.instanceMethod yX12_state ∈ GW := gwt tb_8 208 rfl rfl
theorem w_1954 : Cond.selects "LeadchapelModel" yX12_state yX12_state ∈ GW := gwt tb_8 209 rfl rfl
theorem w_1952 : Cond.methodLink "LeadchapelLaw" 259 yX12_state ∈ GW := gwt tb_8 207 rfl rfl
theorem w_1223 : Cond.codeWith yL_mark method_31_code 6 (Option.some Jvm.ClassFile.FieldType.int) [(0, 12, 15, 29), (0, 12, 19, 15)] ∈ GW := gwt tb_5 198 rfl rfl
theorem w_1222 : Cond.static yL_mark ∈ GW := gwt tb_5 197 rfl rfl
theorem w_1221 : Cond.methodLink "LeadchapelLaw" 260 yL_mark ∈ GW := gwt tb_5 196 rfl rfl
theorem w_1963 : Cond.code yX12_mark prog_14_method_79_code 7 (Option.some Jvm.ClassFile.FieldType.int) ∈ GW := gwt tb_8 218 rfl rfl
theorem w_1961 : Cond.instanceMethod yX12_mark ∈ GW := gwt tb_8 216 rfl rfl
theorem w_1962 : Cond.selects "LeadchapelModel" yX12_mark yX12_mark ∈ GW := gwt tb_8 217 rfl rfl
theorem w_1960 : Cond.methodLink "LeadchapelLaw" 262 yX12_mark ∈ GW := gwt tb_8 215 rfl rfl
theorem w_1234 : Cond.codeWith yL_character method_32_code 8 (Option.some Jvm.ClassFile.FieldType.int) [(0, 16, 19, 29), (0, 16, 23, 15)] ∈ GW := gwt tb_5 209 rfl rfl
theorem w_1233 : Cond.static yL_character ∈ GW := gwt tb_5 208 rfl rfl
theorem w_1232 : Cond.methodLink "LeadchapelLaw" 263 yL_character ∈ GW := gwt tb_5 207 rfl rfl
theorem w_1967 : Cond.code yX12_character prog_14_method_81_code 16 (Option.some Jvm.ClassFile.FieldType.int) ∈ GW := gwt tb_8 222 rfl rfl
theorem w_1965 : Cond.instanceMethod yX12_character ∈ GW := gwt tb_8 220 rfl rfl
theorem w_1966 : Cond.selects "LeadchapelModel" yX12_character yX12_character ∈ GW := gwt tb_8 221 rfl rfl
theorem w_1964 : Cond.methodLink "LeadchapelLaw" 265 yX12_character ∈ GW := gwt tb_8 219 rfl rfl
theorem w_1252 : Cond.codeWith yL_alike method_33_code 5 (Option.some Jvm.ClassFile.FieldType.int) [(0, 10, 13, 29), (0, 10, 17, 15)] ∈ GW := gwt tb_5 227 rfl rfl
theorem w_1251 : Cond.static yL_alike ∈ GW := gwt tb_5 226 rfl rfl
theorem w_1250 : Cond.methodLink "LeadchapelLaw" 266 yL_alike ∈ GW := gwt tb_5 225 rfl rfl
theorem w_1975 : Cond.code yX12_alike prog_14_method_82_code 7 (Option.some Jvm.ClassFile.FieldType.int) ∈ GW := gwt tb_8 230 rfl rfl
theorem w_1973 : Cond.instanceMethod yX12_alike ∈ GW := gwt tb_8 228 rfl rfl
theorem w_1974 : Cond.selects "LeadchapelModel" yX12_alike yX12_alike ∈ GW := gwt tb_8 229 rfl rfl
theorem w_1972 : Cond.methodLink "LeadchapelLaw" 268 yX12_alike ∈ GW := gwt tb_8 227 rfl rfl
theorem w_1264 : Cond.codeWith yL_madeUp method_34_code 5 (Option.some Jvm.ClassFile.FieldType.int) [(0, 10, 13, 29), (0, 10, 17, 15)] ∈ GW := gwt tb_5 239 rfl rfl
theorem w_1263 : Cond.static yL_madeUp ∈ GW := gwt tb_5 238 rfl rfl
theorem w_1262 : Cond.methodLink "LeadchapelLaw" 269 yL_madeUp ∈ GW := gwt tb_5 237 rfl rfl
theorem w_1979 : Cond.code yX12_madeUp prog_14_method_83_code 9 (Option.some Jvm.ClassFile.FieldType.int) ∈ GW := gwt tb_8 234 rfl rfl
theorem w_1977 : Cond.instanceMethod yX12_madeUp ∈ GW := gwt tb_8 232 rfl rfl
theorem w_1978 : Cond.selects "LeadchapelModel" yX12_madeUp yX12_madeUp ∈ GW := gwt tb_8 233 rfl rfl
theorem w_1976 : Cond.methodLink "LeadchapelLaw" 271 yX12_madeUp ∈ GW := gwt tb_8 231 rfl rfl
theorem w_1275 : Cond.codeWith yL_shared method_35_code 6 (Option.some Jvm.ClassFile.FieldType.int) [(0, 12, 15, 29), (0, 12, 19, 13)] ∈ GW := gwt tb_6 10 rfl rfl
theorem w_1274 : Cond.static yL_shared ∈ GW := gwt tb_6 9 rfl rfl
theorem w_1273 : Cond.methodLink "LeadchapelLaw" 272 yL_shared ∈ GW := gwt tb_6 8 rfl rfl
theorem w_1983 : Cond.code yX12_shared prog_14_method_85_code 8 (Option.some Jvm.ClassFile.FieldType.int) ∈ GW := gwt tb_8 238 rfl rfl
theorem w_1981 : Cond.instanceMethod yX12_shared ∈ GW := gwt tb_8 236 rfl rfl
theorem w_1982 : Cond.selects "LeadchapelModel" yX12_shared yX12_shared ∈ GW := gwt tb_8 237 rfl rfl
theorem w_1980 : Cond.methodLink "LeadchapelLaw" 274 yX12_shared ∈ GW := gwt tb_8 235 rfl rfl
theorem w_1282 : Cond.codeWith yL_orders method_36_code 4 (Option.some Jvm.ClassFile.FieldType.int) [(0, 9, 12, 29)] ∈ GW := gwt tb_6 17 rfl rfl
theorem w_1281 : Cond.static yL_orders ∈ GW := gwt tb_6 16 rfl rfl
theorem w_1280 : Cond.methodLink "LeadchapelLaw" 275 yL_orders ∈ GW := gwt tb_6 15 rfl rfl
theorem w_1988 : Cond.methodLink "LeadchapelLaw" 277 yX12_orders ∈ GW := gwt tb_9 3 rfl rfl
theorem w_1301 : Cond.codeWith yL_ordersAnew method_37_code 4 (Option.some Jvm.ClassFile.FieldType.int) [(0, 9, 12, 29)] ∈ GW := gwt tb_6 36 rfl rfl
theorem w_1300 : Cond.static yL_ordersAnew ∈ GW := gwt tb_6 35 rfl rfl
theorem w_1299 : Cond.methodLink "LeadchapelLaw" 278 yL_ordersAnew ∈ GW := gwt tb_6 34 rfl rfl
theorem w_2003 : Cond.code yX12_ordersAnew prog_14_method_89_code 2 (Option.some Jvm.ClassFile.FieldType.int) ∈ GW := gwt tb_9 18 rfl rfl
theorem w_2001 : Cond.instanceMethod yX12_ordersAnew ∈ GW := gwt tb_9 16 rfl rfl
theorem w_2002 : Cond.selects "LeadchapelModel" yX12_ordersAnew yX12_ordersAnew ∈ GW := gwt tb_9 17 rfl rfl
theorem w_2000 : Cond.methodLink "LeadchapelLaw" 280 yX12_ordersAnew ∈ GW := gwt tb_9 15 rfl rfl
theorem w_1312 : Cond.codeWith yL_ahead method_38_code 6 (Option.some Jvm.ClassFile.FieldType.int) [(0, 12, 15, 29), (0, 12, 19, 13)] ∈ GW := gwt tb_6 47 rfl rfl
theorem w_1311 : Cond.static yL_ahead ∈ GW := gwt tb_6 46 rfl rfl
theorem w_1310 : Cond.methodLink "LeadchapelLaw" 281 yL_ahead ∈ GW := gwt tb_6 45 rfl rfl
theorem w_2008 : Cond.code yX12_ahead prog_14_method_90_code 8 (Option.some Jvm.ClassFile.FieldType.int) ∈ GW := gwt tb_9 23 rfl rfl
theorem w_2006 : Cond.instanceMethod yX12_ahead ∈ GW := gwt tb_9 21 rfl rfl
theorem w_2007 : Cond.selects "LeadchapelModel" yX12_ahead yX12_ahead ∈ GW := gwt tb_9 22 rfl rfl
theorem w_2005 : Cond.methodLink "LeadchapelLaw" 283 yX12_ahead ∈ GW := gwt tb_9 20 rfl rfl
theorem w_1323 : Cond.codeWith yL_hands method_39_code 4 (Option.some Jvm.ClassFile.FieldType.int) [(0, 9, 12, 29)] ∈ GW := gwt tb_6 58 rfl rfl
theorem w_1322 : Cond.static yL_hands ∈ GW := gwt tb_6 57 rfl rfl
theorem w_1321 : Cond.methodLink "LeadchapelLaw" 284 yL_hands ∈ GW := gwt tb_6 56 rfl rfl
theorem w_2012 : Cond.code yX12_hands prog_14_method_95_code 3 (Option.some Jvm.ClassFile.FieldType.int) ∈ GW := gwt tb_9 27 rfl rfl
theorem w_2010 : Cond.instanceMethod yX12_hands ∈ GW := gwt tb_9 25 rfl rfl
theorem w_2011 : Cond.selects "LeadchapelModel" yX12_hands yX12_hands ∈ GW := gwt tb_9 26 rfl rfl
theorem w_2009 : Cond.methodLink "LeadchapelLaw" 286 yX12_hands ∈ GW := gwt tb_9 24 rfl rfl
theorem w_1362 : Cond.codeWith yL_presses method_40_code 4 (Option.some Jvm.ClassFile.FieldType.int) [(0, 9, 12, 29)] ∈ GW := gwt tb_6 97 rfl rfl
theorem w_1361 : Cond.static yL_presses ∈ GW := gwt tb_6 96 rfl rfl
theorem w_1360 : Cond.methodLink "LeadchapelLaw" 287 yL_presses ∈ GW := gwt tb_6 95 rfl rfl
theorem w_2032 : Cond.code yX12_presses prog_14_method_96_code 7 (Option.some Jvm.ClassFile.FieldType.int) ∈ GW := gwt tb_9 47 rfl rfl
theorem w_2030 : Cond.instanceMethod yX12_presses ∈ GW := gwt tb_9 45 rfl rfl
theorem w_2031 : Cond.selects "LeadchapelModel" yX12_presses yX12_presses ∈ GW := gwt tb_9 46 rfl rfl
theorem w_2029 : Cond.methodLink "LeadchapelLaw" 289 yX12_presses ∈ GW := gwt tb_9 44 rfl rfl
theorem w_1378 : Cond.codeWith yL_follows method_41_code 5 (Option.some Jvm.ClassFile.FieldType.int) [(0, 10, 13, 29)] ∈ GW := gwt tb_6 113 rfl rfl
theorem w_1377 : Cond.static yL_follows ∈ GW := gwt tb_6 112 rfl rfl
theorem w_1376 : Cond.methodLink "LeadchapelLaw" 290 yL_follows ∈ GW := gwt tb_6 111 rfl rfl
theorem w_2036 : Cond.code yX12_follows prog_14_method_98_code 9 (Option.some Jvm.ClassFile.FieldType.int) ∈ GW := gwt tb_9 51 rfl rfl
theorem w_2034 : Cond.instanceMethod yX12_follows ∈ GW := gwt tb_9 49 rfl rfl
theorem w_2035 : Cond.selects "LeadchapelModel" yX12_follows yX12_follows ∈ GW := gwt tb_9 50 rfl rfl
theorem w_2033 : Cond.methodLink "LeadchapelLaw" 292 yX12_follows ∈ GW := gwt tb_9 48 rfl rfl
theorem w_1398 : Cond.codeWith yL_account method_42_code 5 (Option.some Jvm.ClassFile.FieldType.int) [(0, 10, 13, 13), (0, 10, 17, 29)] ∈ GW := gwt tb_6 133 rfl rfl
theorem w_1397 : Cond.static yL_account ∈ GW := gwt tb_6 132 rfl rfl
theorem w_1396 : Cond.methodLink "LeadchapelLaw" 293 yL_account ∈ GW := gwt tb_6 131 rfl rfl
theorem w_2044 : Cond.code yX12_account prog_14_method_99_code 5 (Option.some Jvm.ClassFile.FieldType.int) ∈ GW := gwt tb_9 59 rfl rfl
theorem w_2042 : Cond.instanceMethod yX12_account ∈ GW := gwt tb_9 57 rfl rfl
theorem w_2043 : Cond.selects "LeadchapelModel" yX12_account yX12_account ∈ GW := gwt tb_9 58 rfl rfl
theorem w_2041 : Cond.methodLink "LeadchapelLaw" 295 yX12_account ∈ GW := gwt tb_9 56 rfl rfl
theorem wi_0 : Cond.initialized (exN 0) ∈ GW := gwt tb_1 12 rfl rfl
theorem wi_1 : Cond.initialized (exN 1) ∈ GW := gwt tb_1 10 rfl rfl
theorem wi_2 : Cond.initialized (exN 2) ∈ GW := gwt tb_1 11 rfl rfl
theorem wk_tf_446_450 : Cond.classLink "Leadchapel" 446 (exN 0) ∈ GW := w_454
theorem wk_tf_453_457 : Cond.classLink "Leadchapel" 453 (exN 1) ∈ GW := w_287
theorem wk_tf_458_462 : Cond.classLink "Leadchapel" 458 (exN 2) ∈ GW := w_366
theorem wx_29_0 : Cond.classLink "LeadchapelLaw" 29 (exN 0) ∈ GW := gwt tb_2 137 rfl rfl
theorem wx_13_1 : Cond.classLink "LeadchapelLaw" 13 (exN 1) ∈ GW := gwt tb_1 213 rfl rfl
theorem wx_15_2 : Cond.classLink "LeadchapelLaw" 15 (exN 2) ∈ GW := gwt tb_1 214 rfl rfl
theorem tf_446_450 : ∀ w ∈ vx_atS "Leadchapel" 450 (exN 0) ["java/lang/RuntimeException", "java/lang/Exception"], w ∈ GW ∨ w = .castable (exN 0) (exN 0) ∨ ∃ n, w = .declares (Bundle.initS (suN n)) := by
  have h : ∀ w ∈ vx_atS "Leadchapel" 450 (exN 0) ["java/lang/RuntimeException", "java/lang/Exception"], w ∈ GW ∨ w = .castable (exN 0) (exN 0) ∨ w = .declares (Bundle.initS (suN 0)) ∨ w = .declares (Bundle.initS (suN 1)) ∨ w = .declares (Bundle.initS (suN 2)) := by decide +kernel
  intro w hw
  rcases h w hw with h | h | h | h | h
  · exact Or.inl h
  · exact Or.inr (Or.inl h)
  · exact Or.inr (Or.inr ⟨0, h⟩)
  · exact Or.inr (Or.inr ⟨1, h⟩)
  · exact Or.inr (Or.inr ⟨2, h⟩)
theorem gtf_446_450 : ∀ w ∈ Cond.classLink "Leadchapel" 446 (exN 0) :: Cond.initialized (exN 0) :: vx_atS "Leadchapel" 450 (exN 0) ["java/lang/RuntimeException", "java/lang/Exception"], vx_ot w = true := by decide +kernel
theorem tf_453_457 : ∀ w ∈ vx_atS "Leadchapel" 457 (exN 1) ["java/lang/RuntimeException", "java/lang/Exception"], w ∈ GW ∨ w = .castable (exN 1) (exN 1) ∨ ∃ n, w = .declares (Bundle.initS (suN n)) := by
  have h : ∀ w ∈ vx_atS "Leadchapel" 457 (exN 1) ["java/lang/RuntimeException", "java/lang/Exception"], w ∈ GW ∨ w = .castable (exN 1) (exN 1) ∨ w = .declares (Bundle.initS (suN 0)) ∨ w = .declares (Bundle.initS (suN 1)) ∨ w = .declares (Bundle.initS (suN 2)) := by decide +kernel
  intro w hw
  rcases h w hw with h | h | h | h | h
  · exact Or.inl h
  · exact Or.inr (Or.inl h)
  · exact Or.inr (Or.inr ⟨0, h⟩)
  · exact Or.inr (Or.inr ⟨1, h⟩)
  · exact Or.inr (Or.inr ⟨2, h⟩)
theorem gtf_453_457 : ∀ w ∈ Cond.classLink "Leadchapel" 453 (exN 1) :: Cond.initialized (exN 1) :: vx_atS "Leadchapel" 457 (exN 1) ["java/lang/RuntimeException", "java/lang/Exception"], vx_ot w = true := by decide +kernel
theorem tf_458_462 : ∀ w ∈ vx_atS "Leadchapel" 462 (exN 2) ["java/lang/RuntimeException", "java/lang/Exception"], w ∈ GW ∨ w = .castable (exN 2) (exN 2) ∨ ∃ n, w = .declares (Bundle.initS (suN n)) := by
  have h : ∀ w ∈ vx_atS "Leadchapel" 462 (exN 2) ["java/lang/RuntimeException", "java/lang/Exception"], w ∈ GW ∨ w = .castable (exN 2) (exN 2) ∨ w = .declares (Bundle.initS (suN 0)) ∨ w = .declares (Bundle.initS (suN 1)) ∨ w = .declares (Bundle.initS (suN 2)) := by decide +kernel
  intro w hw
  rcases h w hw with h | h | h | h | h
  · exact Or.inl h
  · exact Or.inr (Or.inl h)
  · exact Or.inr (Or.inr ⟨0, h⟩)
  · exact Or.inr (Or.inr ⟨1, h⟩)
  · exact Or.inr (Or.inr ⟨2, h⟩)
theorem gtf_458_462 : ∀ w ∈ Cond.classLink "Leadchapel" 458 (exN 2) :: Cond.initialized (exN 2) :: vx_atS "Leadchapel" 462 (exN 2) ["java/lang/RuntimeException", "java/lang/Exception"], vx_ot w = true := by decide +kernel
theorem fl_X11_25 : fl "Leadchapel" 25 11 2 2 true := ⟨_, rfl, b8 rfl, w_224, rfl, rfl, b8 rfl, rfl⟩
theorem ka_55 : 13 ≤ 55 ∧ KT 55 = .object "Leadchapel$Hand" := ⟨b8 rfl, rfl⟩
theorem ta_55 : FieldType.object "Leadchapel$Hand" ∈ aTys := by decide
theorem fl_X11_37 : fl "Leadchapel" 37 11 4 2 true := ⟨_, rfl, b8 rfl, w_226, rfl, rfl, b8 rfl, rfl⟩
theorem ka_57 : 13 ≤ 57 ∧ KT 57 = .object "Leadchapel$Press" := ⟨b8 rfl, rfl⟩
theorem ta_57 : FieldType.object "Leadchapel$Press" ∈ aTys := by decide
theorem fl_X11_443 : fl "Leadchapel" 443 3 5 0 false := ⟨_, rfl, b8 rfl, w_507, rfl, rfl, b8 rfl, rfl⟩
theorem fl_X11_219 : fl "Leadchapel" 219 3 4 0 false := ⟨_, rfl, b8 rfl, w_505, rfl, rfl, b8 rfl, rfl⟩
theorem fl_X11_440 : fl "Leadchapel" 440 6 3 0 false := ⟨_, rfl, b8 rfl, w_187, rfl, rfl, b8 rfl, rfl⟩
theorem fl_X11_438 : fl "Leadchapel" 438 6 2 0 false := ⟨_, rfl, b8 rfl, w_185, rfl, rfl, b8 rfl, rfl⟩
theorem fl_X11_42 : fl "Leadchapel" 42 11 5 2 true := ⟨_, rfl, b8 rfl, w_227, rfl, rfl, b8 rfl, rfl⟩
theorem ka_58 : 13 ≤ 58 ∧ KT 58 = .int := ⟨b8 rfl, rfl⟩
theorem ka_131 : 13 ≤ 131 ∧ KT 131 = .long := ⟨b8 rfl, rfl⟩
theorem fl_X0_42 : fl "Leadchapel$Book" 42 0 6 2 true := ⟨_, rfl, b8 rfl, w_770, rfl, rfl, b8 rfl, rfl⟩
theorem ka_14 : 13 ≤ 14 ∧ KT 14 = .object "Leadchapel$Forme" := ⟨b8 rfl, rfl⟩
theorem ta_14 : FieldType.object "Leadchapel$Forme" ∈ aTys := by decide
theorem fl_X11_31 : fl "Leadchapel" 31 11 3 2 true := ⟨_, rfl, b8 rfl, w_225, rfl, rfl, b8 rfl, rfl⟩
theorem ka_56 : 13 ≤ 56 ∧ KT 56 = .object "Leadchapel$Book" := ⟨b8 rfl, rfl⟩
theorem ta_56 : FieldType.object "Leadchapel$Book" ∈ aTys := by decide
theorem fl_X7_9 : fl "Leadchapel$Scholar" 9 7 0 2 true := ⟨_, rfl, b8 rfl, w_203, rfl, rfl, b8 rfl, rfl⟩
theorem ka_39 : 13 ≤ 39 ∧ KT 39 = .int := ⟨b8 rfl, rfl⟩
theorem fl_X7_30 : fl "Leadchapel$Scholar" 30 0 6 2 true := ⟨_, rfl, b8 rfl, w_771, rfl, rfl, b8 rfl, rfl⟩
theorem fl_X7_49 : fl "Leadchapel$Scholar" 49 2 3 2 true := ⟨_, rfl, b8 rfl, w_685, rfl, rfl, b8 rfl, rfl⟩
theorem ka_25 : 13 ≤ 25 ∧ KT 25 = .int := ⟨b8 rfl, rfl⟩
theorem fl_X7_36 : fl "Leadchapel$Scholar" 36 1 5 0 false := ⟨_, rfl, b8 rfl, w_154, rfl, rfl, b8 rfl, rfl⟩
theorem fl_X7_42 : fl "Leadchapel$Scholar" 42 1 1 2 true := ⟨_, rfl, b8 rfl, w_143, rfl, rfl, b8 rfl, rfl⟩
theorem ka_21 : 13 ≤ 21 ∧ KT 21 = .int := ⟨b8 rfl, rfl⟩
theorem fl_X11_49 : fl "Leadchapel" 49 11 6 2 true := ⟨_, rfl, b8 rfl, w_228, rfl, rfl, b8 rfl, rfl⟩
theorem fl_X11_19 : fl "Leadchapel" 19 11 1 2 true := ⟨_, rfl, b8 rfl, w_223, rfl, rfl, b8 rfl, rfl⟩
theorem fl_X11_338 : fl "Leadchapel" 338 0 6 2 true := ⟨_, rfl, b8 rfl, w_772, rfl, rfl, b8 rfl, rfl⟩
theorem fl_X0_28 : fl "Leadchapel$Book" 28 0 3 0 true := ⟨_, rfl, b8 rfl, w_761, rfl, rfl, b8 rfl, rfl⟩
theorem fl_X0_18 : fl "Leadchapel$Book" 18 0 0 0 true := ⟨_, rfl, b8 rfl, w_757, rfl, rfl, b8 rfl, rfl⟩
theorem fl_X2_22 : fl "Leadchapel$Forme" 22 2 7 0 false := ⟨_, rfl, b8 rfl, w_697, rfl, rfl, b8 rfl, rfl⟩
theorem fl_X2_38 : fl "Leadchapel$Forme" 38 2 2 2 true := ⟨_, rfl, b8 rfl, w_683, rfl, rfl, b8 rfl, rfl⟩
theorem ka_26 : 13 ≤ 26 ∧ KT 26 = .int := ⟨b8 rfl, rfl⟩
theorem fl_X8_24 : fl "Leadchapel$Sheet" 24 8 2 2 false := ⟨_, rfl, b8 rfl, w_738, rfl, rfl, b8 rfl, rfl⟩
theorem fl_X8_33 : fl "Leadchapel$Sheet" 33 2 1 0 true := ⟨_, rfl, b8 rfl, w_682, rfl, rfl, b8 rfl, rfl⟩
theorem fl_X0_68 : fl "Leadchapel$Book" 68 0 9 2 true := ⟨_, rfl, b8 rfl, w_776, rfl, rfl, b8 rfl, rfl⟩
theorem ka_17 : 13 ≤ 17 ∧ KT 17 = .array .int := ⟨b8 rfl, rfl⟩
theorem ka_18 : 13 ≤ 18 ∧ KT 18 = .int := ⟨b8 rfl, rfl⟩
theorem fl_X0_55 : fl "Leadchapel$Book" 55 0 7 2 true := ⟨_, rfl, b8 rfl, w_773, rfl, rfl, b8 rfl, rfl⟩
theorem ka_15 : 13 ≤ 15 ∧ KT 15 = .object "Leadchapel$Sheet" := ⟨b8 rfl, rfl⟩
theorem ta_15 : FieldType.object "Leadchapel$Sheet" ∈ aTys := by decide
theorem ta_17 : FieldType.array .int ∈ aTys := by decide
theorem fl_X0_33 : fl "Leadchapel$Book" 33 0 5 2 true := ⟨_, rfl, b8 rfl, w_767, rfl, rfl, b8 rfl, rfl⟩
theorem ka_13 : 13 ≤ 13 ∧ KT 13 = .object "Leadchapel$Page" := ⟨b8 rfl, rfl⟩
theorem ta_13 : FieldType.object "Leadchapel$Page" ∈ aTys := by decide
theorem fl_X11_357 : fl "Leadchapel" 357 0 11 3 false := ⟨_, rfl, b8 rfl, w_781, rfl, rfl, b8 rfl, rfl⟩
theorem fl_X11_314 : fl "Leadchapel" 314 0 3 0 true := ⟨_, rfl, b8 rfl, w_763, rfl, rfl, b8 rfl, rfl⟩
theorem ta_18 : FieldType.int ∈ aTys := by decide
theorem fl_X0_127 : fl "Leadchapel$Book" 127 8 5 0 false := ⟨_, rfl, b8 rfl, w_741, rfl, rfl, b8 rfl, rfl⟩
theorem fl_X0_130 : fl "Leadchapel$Book" 130 0 11 3 false := ⟨_, rfl, b8 rfl, w_780, rfl, rfl, b8 rfl, rfl⟩
theorem fl_X2_15 : fl "Leadchapel$Forme" 15 2 4 0 false := ⟨_, rfl, b8 rfl, w_687, rfl, rfl, b8 rfl, rfl⟩
theorem ka_19 : 13 ≤ 19 ∧ KT 19 = .object "Leadchapel$Page" := ⟨b8 rfl, rfl⟩
theorem fl_X2_9 : fl "Leadchapel$Forme" 9 2 3 2 true := ⟨_, rfl, b8 rfl, w_684, rfl, rfl, b8 rfl, rfl⟩
theorem fl_X2_19 : fl "Leadchapel$Forme" 19 2 5 0 false := ⟨_, rfl, b8 rfl, w_691, rfl, rfl, b8 rfl, rfl⟩
theorem fl_X2_25 : fl "Leadchapel$Forme" 25 2 8 0 false := ⟨_, rfl, b8 rfl, w_699, rfl, rfl, b8 rfl, rfl⟩
theorem fl_X2_28 : fl "Leadchapel$Forme" 28 2 9 0 false := ⟨_, rfl, b8 rfl, w_702, rfl, rfl, b8 rfl, rfl⟩
theorem fl_X2_31 : fl "Leadchapel$Forme" 31 2 0 2 true := ⟨_, rfl, b8 rfl, w_678, rfl, rfl, b8 rfl, rfl⟩
theorem fl_X2_35 : fl "Leadchapel$Forme" 35 2 1 0 true := ⟨_, rfl, b8 rfl, w_680, rfl, rfl, b8 rfl, rfl⟩
theorem ka_34 : 13 ≤ 34 ∧ KT 34 = .int := ⟨b8 rfl, rfl⟩
theorem fl_X5_9 : fl "Leadchapel$Places" 9 5 0 2 true := ⟨_, rfl, b8 rfl, w_579, rfl, rfl, b8 rfl, rfl⟩
theorem ka_35 : 13 ≤ 35 ∧ KT 35 = .int := ⟨b8 rfl, rfl⟩
theorem fl_X5_15 : fl "Leadchapel$Places" 15 5 1 2 true := ⟨_, rfl, b8 rfl, w_581, rfl, rfl, b8 rfl, rfl⟩
theorem ka_36 : 13 ≤ 36 ∧ KT 36 = .boolean := ⟨b8 rfl, rfl⟩
theorem fl_X5_18 : fl "Leadchapel$Places" 18 5 2 2 true := ⟨_, rfl, b8 rfl, w_584, rfl, rfl, b8 rfl, rfl⟩
theorem ka_37 : 13 ≤ 37 ∧ KT 37 = .array .int := ⟨b8 rfl, rfl⟩
theorem ka_38 : 13 ≤ 38 ∧ KT 38 = .int := ⟨b8 rfl, rfl⟩
theorem fl_X5_24 : fl "Leadchapel$Places" 24 5 3 2 true := ⟨_, rfl, b8 rfl, w_586, rfl, rfl, b8 rfl, rfl⟩
theorem ka_27 : 13 ≤ 27 ∧ KT 27 = .int := ⟨b8 rfl, rfl⟩
theorem fl_X4_9 : fl "Leadchapel$Page" 9 4 1 2 true := ⟨_, rfl, b8 rfl, w_603, rfl, rfl, b8 rfl, rfl⟩
theorem ka_28 : 13 ≤ 28 ∧ KT 28 = .boolean := ⟨b8 rfl, rfl⟩
theorem fl_X4_15 : fl "Leadchapel$Page" 15 4 2 2 true := ⟨_, rfl, b8 rfl, w_605, rfl, rfl, b8 rfl, rfl⟩
theorem ka_29 : 13 ≤ 29 ∧ KT 29 = .int := ⟨b8 rfl, rfl⟩
theorem fl_X4_19 : fl "Leadchapel$Page" 19 4 3 2 true := ⟨_, rfl, b8 rfl, w_607, rfl, rfl, b8 rfl, rfl⟩
theorem ka_30 : 13 ≤ 30 ∧ KT 30 = .int := ⟨b8 rfl, rfl⟩
theorem fl_X4_22 : fl "Leadchapel$Page" 22 4 4 2 true := ⟨_, rfl, b8 rfl, w_608, rfl, rfl, b8 rfl, rfl⟩
theorem fl_X4_25 : fl "Leadchapel$Page" 25 4 9 0 false := ⟨_, rfl, b8 rfl, w_619, rfl, rfl, b8 rfl, rfl⟩
theorem fl_X4_29 : fl "Leadchapel$Page" 29 4 0 0 true := ⟨_, rfl, b8 rfl, w_602, rfl, rfl, b8 rfl, rfl⟩
theorem ka_31 : 13 ≤ 31 ∧ KT 31 = .int := ⟨b8 rfl, rfl⟩
theorem fl_X4_32 : fl "Leadchapel$Page" 32 4 5 2 true := ⟨_, rfl, b8 rfl, w_609, rfl, rfl, b8 rfl, rfl⟩
theorem ka_32 : 13 ≤ 32 ∧ KT 32 = .int := ⟨b8 rfl, rfl⟩
theorem fl_X4_35 : fl "Leadchapel$Page" 35 4 6 2 true := ⟨_, rfl, b8 rfl, w_612, rfl, rfl, b8 rfl, rfl⟩
theorem ka_33 : 13 ≤ 33 ∧ KT 33 = .boolean := ⟨b8 rfl, rfl⟩
theorem fl_X4_38 : fl "Leadchapel$Page" 38 4 7 2 true := ⟨_, rfl, b8 rfl, w_614, rfl, rfl, b8 rfl, rfl⟩
theorem nw_X4_41 : nwF "Leadchapel$Page" 41 5 5 := ⟨_, rfl, b8 rfl, rfl, b8 rfl, w_571, w_572, w_82, by decide +kernel⟩
theorem fl_X4_46 : fl "Leadchapel$Page" 46 4 8 2 true := ⟨_, rfl, b8 rfl, w_616, rfl, rfl, b8 rfl, rfl⟩
theorem fl_X8_9 : fl "Leadchapel$Sheet" 9 8 0 2 true := ⟨_, rfl, b8 rfl, w_736, rfl, rfl, b8 rfl, rfl⟩
theorem fl_X8_15 : fl "Leadchapel$Sheet" 15 8 1 2 true := ⟨_, rfl, b8 rfl, w_737, rfl, rfl, b8 rfl, rfl⟩
theorem ka_45 : 13 ≤ 45 ∧ KT 45 = .long := ⟨b8 rfl, rfl⟩
theorem fl_X9_9 : fl "Leadchapel$Text" 9 9 0 2 true := ⟨_, rfl, b8 rfl, w_539, rfl, rfl, b8 rfl, rfl⟩
theorem ka_46 : 13 ≤ 46 ∧ KT 46 = .long := ⟨b8 rfl, rfl⟩
theorem fl_X9_15 : fl "Leadchapel$Text" 15 9 1 2 true := ⟨_, rfl, b8 rfl, w_541, rfl, rfl, b8 rfl, rfl⟩
theorem ka_47 : 13 ≤ 47 ∧ KT 47 = .long := ⟨b8 rfl, rfl⟩
theorem fl_X9_18 : fl "Leadchapel$Text" 18 9 2 2 true := ⟨_, rfl, b8 rfl, w_542, rfl, rfl, b8 rfl, rfl⟩
theorem ka_48 : 13 ≤ 48 ∧ KT 48 = .int := ⟨b8 rfl, rfl⟩
theorem fl_X9_21 : fl "Leadchapel$Text" 21 9 3 2 true := ⟨_, rfl, b8 rfl, w_544, rfl, rfl, b8 rfl, rfl⟩
theorem ka_49 : 13 ≤ 49 ∧ KT 49 = .boolean := ⟨b8 rfl, rfl⟩
theorem fl_X9_25 : fl "Leadchapel$Text" 25 9 4 2 true := ⟨_, rfl, b8 rfl, w_546, rfl, rfl, b8 rfl, rfl⟩
theorem nw_X0_9 : nwF "Leadchapel$Book" 9 9 6 := ⟨_, rfl, b8 rfl, rfl, b8 rfl, w_533, w_534, w_80, by decide +kernel⟩
theorem fl_X0_12 : fl "Leadchapel$Book" 12 0 4 2 true := ⟨_, rfl, b8 rfl, w_764, rfl, rfl, b8 rfl, rfl⟩
theorem fl_X0_22 : fl "Leadchapel$Book" 22 0 1 0 true := ⟨_, rfl, b8 rfl, w_759, rfl, rfl, b8 rfl, rfl⟩
theorem fl_X0_25 : fl "Leadchapel$Book" 25 0 2 0 true := ⟨_, rfl, b8 rfl, w_760, rfl, rfl, b8 rfl, rfl⟩
theorem nw_X0_31 : nwF "Leadchapel$Book" 31 4 15 := ⟨_, rfl, b8 rfl, rfl, b8 rfl, w_564, w_566, w_81, by decide +kernel⟩
theorem nw_X0_40 : nwF "Leadchapel$Book" 40 2 11 := ⟨_, rfl, b8 rfl, rfl, b8 rfl, w_662, w_664, w_83, by decide +kernel⟩
theorem nw_X0_53 : nwF "Leadchapel$Book" 53 8 6 := ⟨_, rfl, b8 rfl, rfl, b8 rfl, w_729, w_731, w_84, by decide +kernel⟩
theorem ka_16 : 13 ≤ 16 ∧ KT 16 = .int := ⟨b8 rfl, rfl⟩
theorem fl_X0_62 : fl "Leadchapel$Book" 62 0 8 2 true := ⟨_, rfl, b8 rfl, w_775, rfl, rfl, b8 rfl, rfl⟩
theorem fl_X11_137 : fl "Leadchapel" 137 11 8 0 false := ⟨_, rfl, b8 rfl, w_230, rfl, rfl, b8 rfl, rfl⟩
theorem nw_X11_29 : nwF "Leadchapel" 29 0 12 := ⟨_, rfl, b8 rfl, rfl, b8 rfl, w_171, w_528, w_79, by decide +kernel⟩
theorem fl_X1_24 : fl "Leadchapel$Cases" 24 1 4 2 true := ⟨_, rfl, b8 rfl, w_149, rfl, rfl, b8 rfl, rfl⟩
theorem ka_24 : 13 ≤ 24 ∧ KT 24 = .int := ⟨b8 rfl, rfl⟩
theorem fl_X1_21 : fl "Leadchapel$Cases" 21 1 3 2 true := ⟨_, rfl, b8 rfl, w_148, rfl, rfl, b8 rfl, rfl⟩
theorem ka_23 : 13 ≤ 23 ∧ KT 23 = .int := ⟨b8 rfl, rfl⟩
theorem fl_X11_375 : fl "Leadchapel" 375 0 9 2 true := ⟨_, rfl, b8 rfl, w_777, rfl, rfl, b8 rfl, rfl⟩
theorem fl_X1_18 : fl "Leadchapel$Cases" 18 1 2 2 true := ⟨_, rfl, b8 rfl, w_146, rfl, rfl, b8 rfl, rfl⟩
theorem ka_22 : 13 ≤ 22 ∧ KT 22 = .int := ⟨b8 rfl, rfl⟩
theorem fl_X1_27 : fl "Leadchapel$Cases" 27 1 5 0 false := ⟨_, rfl, b8 rfl, w_153, rfl, rfl, b8 rfl, rfl⟩
theorem fl_X1_9 : fl "Leadchapel$Cases" 9 1 0 2 true := ⟨_, rfl, b8 rfl, w_139, rfl, rfl, b8 rfl, rfl⟩
theorem ka_20 : 13 ≤ 20 ∧ KT 20 = .int := ⟨b8 rfl, rfl⟩
theorem fl_X11_108 : fl "Leadchapel" 108 1 5 0 false := ⟨_, rfl, b8 rfl, w_155, rfl, rfl, b8 rfl, rfl⟩
theorem fl_X0_114 : fl "Leadchapel$Book" 114 0 10 3 false := ⟨_, rfl, b8 rfl, w_779, rfl, rfl, b8 rfl, rfl⟩
theorem fl_X0_118 : fl "Leadchapel$Book" 118 4 12 0 false := ⟨_, rfl, b8 rfl, w_628, rfl, rfl, b8 rfl, rfl⟩
theorem fl_X0_103 : fl "Leadchapel$Book" 103 9 5 0 false := ⟨_, rfl, b8 rfl, w_550, rfl, rfl, b8 rfl, rfl⟩
theorem fl_X0_106 : fl "Leadchapel$Book" 106 9 0 2 true := ⟨_, rfl, b8 rfl, w_540, rfl, rfl, b8 rfl, rfl⟩
theorem fl_X11_153 : fl "Leadchapel" 153 0 4 2 true := ⟨_, rfl, b8 rfl, w_766, rfl, rfl, b8 rfl, rfl⟩
theorem fl_X11_157 : fl "Leadchapel" 157 9 5 0 false := ⟨_, rfl, b8 rfl, w_549, rfl, rfl, b8 rfl, rfl⟩
theorem fl_X11_160 : fl "Leadchapel" 160 0 10 3 false := ⟨_, rfl, b8 rfl, w_778, rfl, rfl, b8 rfl, rfl⟩
theorem fl_X11_177 : fl "Leadchapel" 177 0 5 2 true := ⟨_, rfl, b8 rfl, w_769, rfl, rfl, b8 rfl, rfl⟩
theorem fl_X4_70 : fl "Leadchapel$Page" 70 4 11 0 false := ⟨_, rfl, b8 rfl, w_624, rfl, rfl, b8 rfl, rfl⟩
theorem fl_X4_54 : fl "Leadchapel$Page" 54 4 10 0 false := ⟨_, rfl, b8 rfl, w_621, rfl, rfl, b8 rfl, rfl⟩
theorem ta_37 : FieldType.array .int ∈ aTys := by decide
theorem fl_X10_29 : fl "Leadchapel$Words" 29 10 5 0 false := ⟨_, rfl, b8 rfl, w_111, rfl, rfl, b8 rfl, rfl⟩
theorem fl_X10_9 : fl "Leadchapel$Words" 9 10 0 2 true := ⟨_, rfl, b8 rfl, w_102, rfl, rfl, b8 rfl, rfl⟩
theorem ka_50 : 13 ≤ 50 ∧ KT 50 = .int := ⟨b8 rfl, rfl⟩
theorem fl_X10_15 : fl "Leadchapel$Words" 15 10 1 2 true := ⟨_, rfl, b8 rfl, w_103, rfl, rfl, b8 rfl, rfl⟩
theorem ka_51 : 13 ≤ 51 ∧ KT 51 = .long := ⟨b8 rfl, rfl⟩
theorem ta_51 : FieldType.long ∈ aTys := by decide
theorem fl_X10_19 : fl "Leadchapel$Words" 19 10 2 2 true := ⟨_, rfl, b8 rfl, w_105, rfl, rfl, b8 rfl, rfl⟩
theorem ka_52 : 13 ≤ 52 ∧ KT 52 = .boolean := ⟨b8 rfl, rfl⟩
theorem fl_X10_48 : fl "Leadchapel$Words" 48 10 6 0 false := ⟨_, rfl, b8 rfl, w_114, rfl, rfl, b8 rfl, rfl⟩
theorem fl_X10_23 : fl "Leadchapel$Words" 23 10 3 2 true := ⟨_, rfl, b8 rfl, w_107, rfl, rfl, b8 rfl, rfl⟩
theorem ka_53 : 13 ≤ 53 ∧ KT 53 = .long := ⟨b8 rfl, rfl⟩
theorem fl_X10_26 : fl "Leadchapel$Words" 26 10 4 2 true := ⟨_, rfl, b8 rfl, w_109, rfl, rfl, b8 rfl, rfl⟩
theorem ka_54 : 13 ≤ 54 ∧ KT 54 = .long := ⟨b8 rfl, rfl⟩
theorem fl_X9_29 : fl "Leadchapel$Text" 29 9 5 0 false := ⟨_, rfl, b8 rfl, w_548, rfl, rfl, b8 rfl, rfl⟩
theorem fl_X9_39 : fl "Leadchapel$Text" 39 10 3 2 true := ⟨_, rfl, b8 rfl, w_108, rfl, rfl, b8 rfl, rfl⟩
theorem fl_X9_40 : fl "Leadchapel$Text" 40 10 4 2 true := ⟨_, rfl, b8 rfl, w_110, rfl, rfl, b8 rfl, rfl⟩
theorem fl_X11_10 : fl "Leadchapel" 10 11 0 2 true := ⟨_, rfl, b8 rfl, w_222, rfl, rfl, b8 rfl, rfl⟩
theorem fl_X11_84 : fl "Leadchapel" 84 10 1 2 true := ⟨_, rfl, b8 rfl, w_104, rfl, rfl, b8 rfl, rfl⟩
theorem fl_X11_167 : fl "Leadchapel" 167 10 2 2 true := ⟨_, rfl, b8 rfl, w_106, rfl, rfl, b8 rfl, rfl⟩
theorem fl_X11_65 : fl "Leadchapel" 65 10 5 0 false := ⟨_, rfl, b8 rfl, w_112, rfl, rfl, b8 rfl, rfl⟩
theorem fl_X5_27 : fl "Leadchapel$Places" 27 5 4 0 false := ⟨_, rfl, b8 rfl, w_587, rfl, rfl, b8 rfl, rfl⟩
theorem fl_X2_47 : fl "Leadchapel$Forme" 47 2 6 0 false := ⟨_, rfl, b8 rfl, w_695, rfl, rfl, b8 rfl, rfl⟩
theorem ta_26 : FieldType.int ∈ aTys := by decide
theorem ta_19 : FieldType.object "Leadchapel$Page" ∈ aTys := by decide
theorem fl_X2_50 : fl "Leadchapel$Forme" 50 4 8 2 true := ⟨_, rfl, b8 rfl, w_617, rfl, rfl, b8 rfl, rfl⟩
theorem fl_X5_44 : fl "Leadchapel$Places" 44 1 0 2 true := ⟨_, rfl, b8 rfl, w_140, rfl, rfl, b8 rfl, rfl⟩
theorem fl_X11_222 : fl "Leadchapel" 222 4 8 2 true := ⟨_, rfl, b8 rfl, w_618, rfl, rfl, b8 rfl, rfl⟩
theorem fl_X11_226 : fl "Leadchapel" 226 5 4 0 false := ⟨_, rfl, b8 rfl, w_590, rfl, rfl, b8 rfl, rfl⟩
theorem fl_X11_273 : fl "Leadchapel" 273 2 4 0 false := ⟨_, rfl, b8 rfl, w_690, rfl, rfl, b8 rfl, rfl⟩
theorem fl_X11_342 : fl "Leadchapel" 342 1 4 2 true := ⟨_, rfl, b8 rfl, w_152, rfl, rfl, b8 rfl, rfl⟩
theorem fl_X11_263 : fl "Leadchapel" 263 5 0 2 true := ⟨_, rfl, b8 rfl, w_580, rfl, rfl, b8 rfl, rfl⟩
theorem fl_X11_332 : fl "Leadchapel" 332 2 7 0 false := ⟨_, rfl, b8 rfl, w_698, rfl, rfl, b8 rfl, rfl⟩
theorem fl_X0_89 : fl "Leadchapel$Book" 89 4 10 0 false := ⟨_, rfl, b8 rfl, w_622, rfl, rfl, b8 rfl, rfl⟩
theorem fl_X9_41 : fl "Leadchapel$Text" 41 4 11 0 false := ⟨_, rfl, b8 rfl, w_623, rfl, rfl, b8 rfl, rfl⟩
theorem fl_X9_50 : fl "Leadchapel$Text" 50 4 5 2 true := ⟨_, rfl, b8 rfl, w_610, rfl, rfl, b8 rfl, rfl⟩
theorem fl_X9_53 : fl "Leadchapel$Text" 53 4 1 2 true := ⟨_, rfl, b8 rfl, w_604, rfl, rfl, b8 rfl, rfl⟩
theorem fl_X9_56 : fl "Leadchapel$Text" 56 4 2 2 true := ⟨_, rfl, b8 rfl, w_606, rfl, rfl, b8 rfl, rfl⟩
theorem fl_X0_92 : fl "Leadchapel$Book" 92 4 11 0 false := ⟨_, rfl, b8 rfl, w_625, rfl, rfl, b8 rfl, rfl⟩
theorem fl_X11_284 : fl "Leadchapel" 284 2 5 0 false := ⟨_, rfl, b8 rfl, w_693, rfl, rfl, b8 rfl, rfl⟩
theorem fl_X11_329 : fl "Leadchapel" 329 2 6 0 false := ⟨_, rfl, b8 rfl, w_696, rfl, rfl, b8 rfl, rfl⟩
theorem fl_X11_335 : fl "Leadchapel" 335 2 9 0 false := ⟨_, rfl, b8 rfl, w_704, rfl, rfl, b8 rfl, rfl⟩
theorem fl_X3_9 : fl "Leadchapel$Hand" 9 3 0 0 true := ⟨_, rfl, b8 rfl, w_500, rfl, rfl, b8 rfl, rfl⟩
theorem fl_X3_15 : fl "Leadchapel$Hand" 15 3 1 0 true := ⟨_, rfl, b8 rfl, w_501, rfl, rfl, b8 rfl, rfl⟩
theorem fl_X3_18 : fl "Leadchapel$Hand" 18 3 2 0 true := ⟨_, rfl, b8 rfl, w_502, rfl, rfl, b8 rfl, rfl⟩
theorem fl_X11_131 : fl "Leadchapel" 131 11 7 0 false := ⟨_, rfl, b8 rfl, w_229, rfl, rfl, b8 rfl, rfl⟩
theorem nw_X11_23 : nwF "Leadchapel" 23 3 6 := ⟨_, rfl, b8 rfl, rfl, b8 rfl, w_169, w_495, w_78, by decide +kernel⟩
theorem fl_X7_27 : fl "Leadchapel$Scholar" 27 7 5 2 true := ⟨_, rfl, b8 rfl, w_208, rfl, rfl, b8 rfl, rfl⟩
theorem ka_44 : 13 ≤ 44 ∧ KT 44 = .int := ⟨b8 rfl, rfl⟩
theorem fl_X7_18 : fl "Leadchapel$Scholar" 18 7 2 2 true := ⟨_, rfl, b8 rfl, w_205, rfl, rfl, b8 rfl, rfl⟩
theorem ka_41 : 13 ≤ 41 ∧ KT 41 = .int := ⟨b8 rfl, rfl⟩
theorem fl_X4_60 : fl "Leadchapel$Page" 60 4 14 3 false := ⟨_, rfl, b8 rfl, w_630, rfl, rfl, b8 rfl, rfl⟩
theorem fl_X4_83 : fl "Leadchapel$Page" 83 9 3 2 true := ⟨_, rfl, b8 rfl, w_545, rfl, rfl, b8 rfl, rfl⟩
theorem fl_X7_72 : fl "Leadchapel$Scholar" 72 0 5 2 true := ⟨_, rfl, b8 rfl, w_768, rfl, rfl, b8 rfl, rfl⟩
theorem fl_X7_21 : fl "Leadchapel$Scholar" 21 7 3 2 true := ⟨_, rfl, b8 rfl, w_206, rfl, rfl, b8 rfl, rfl⟩
theorem fl_X7_82 : fl "Leadchapel$Scholar" 82 0 4 2 true := ⟨_, rfl, b8 rfl, w_765, rfl, rfl, b8 rfl, rfl⟩
theorem ka_42 : 13 ≤ 42 ∧ KT 42 = .int := ⟨b8 rfl, rfl⟩
theorem fl_X7_24 : fl "Leadchapel$Scholar" 24 7 4 2 true := ⟨_, rfl, b8 rfl, w_207, rfl, rfl, b8 rfl, rfl⟩
theorem ka_43 : 13 ≤ 43 ∧ KT 43 = .int := ⟨b8 rfl, rfl⟩
theorem fl_X11_291 : fl "Leadchapel" 291 0 7 2 true := ⟨_, rfl, b8 rfl, w_774, rfl, rfl, b8 rfl, rfl⟩
theorem fl_X11_360 : fl "Leadchapel" 360 8 5 0 false := ⟨_, rfl, b8 rfl, w_742, rfl, rfl, b8 rfl, rfl⟩
theorem fl_X11_238 : fl "Leadchapel" 238 4 11 0 false := ⟨_, rfl, b8 rfl, w_626, rfl, rfl, b8 rfl, rfl⟩
theorem fl_X11_244 : fl "Leadchapel" 244 4 5 2 true := ⟨_, rfl, b8 rfl, w_611, rfl, rfl, b8 rfl, rfl⟩
theorem fl_X11_250 : fl "Leadchapel" 250 4 6 2 true := ⟨_, rfl, b8 rfl, w_613, rfl, rfl, b8 rfl, rfl⟩
theorem fl_X11_253 : fl "Leadchapel" 253 4 7 2 true := ⟨_, rfl, b8 rfl, w_615, rfl, rfl, b8 rfl, rfl⟩
theorem fl_X0_82 : fl "Leadchapel$Book" 82 2 5 0 false := ⟨_, rfl, b8 rfl, w_692, rfl, rfl, b8 rfl, rfl⟩
theorem fl_X0_121 : fl "Leadchapel$Book" 121 2 4 0 false := ⟨_, rfl, b8 rfl, w_689, rfl, rfl, b8 rfl, rfl⟩
theorem fl_X8_27 : fl "Leadchapel$Sheet" 27 8 3 0 false := ⟨_, rfl, b8 rfl, w_739, rfl, rfl, b8 rfl, rfl⟩
theorem fl_X8_30 : fl "Leadchapel$Sheet" 30 8 4 0 false := ⟨_, rfl, b8 rfl, w_740, rfl, rfl, b8 rfl, rfl⟩
theorem fl_X11_385 : fl "Leadchapel" 385 0 0 0 true := ⟨_, rfl, b8 rfl, w_758, rfl, rfl, b8 rfl, rfl⟩
theorem fl_X11_323 : fl "Leadchapel" 323 6 1 0 false := ⟨_, rfl, b8 rfl, w_183, rfl, rfl, b8 rfl, rfl⟩
theorem fl_X7_15 : fl "Leadchapel$Scholar" 15 7 1 2 true := ⟨_, rfl, b8 rfl, w_204, rfl, rfl, b8 rfl, rfl⟩
theorem ka_40 : 13 ≤ 40 ∧ KT 40 = .int := ⟨b8 rfl, rfl⟩
theorem fl_X4_57 : fl "Leadchapel$Page" 57 4 12 0 false := ⟨_, rfl, b8 rfl, w_627, rfl, rfl, b8 rfl, rfl⟩
theorem fl_X4_64 : fl "Leadchapel$Page" 64 4 13 0 false := ⟨_, rfl, b8 rfl, w_629, rfl, rfl, b8 rfl, rfl⟩
theorem fl_X4_67 : fl "Leadchapel$Page" 67 5 4 0 false := ⟨_, rfl, b8 rfl, w_588, rfl, rfl, b8 rfl, rfl⟩
theorem fl_X11_307 : fl "Leadchapel" 307 11 9 0 false := ⟨_, rfl, b8 rfl, w_231, rfl, rfl, b8 rfl, rfl⟩
theorem fl_X2_60 : fl "Leadchapel$Forme" 60 5 4 0 false := ⟨_, rfl, b8 rfl, w_589, rfl, rfl, b8 rfl, rfl⟩
theorem fl_X2_63 : fl "Leadchapel$Forme" 63 5 1 2 true := ⟨_, rfl, b8 rfl, w_582, rfl, rfl, b8 rfl, rfl⟩
theorem fl_X2_66 : fl "Leadchapel$Forme" 66 1 1 2 true := ⟨_, rfl, b8 rfl, w_144, rfl, rfl, b8 rfl, rfl⟩
theorem fl_X6_13 : fl "Leadchapel$Press" 13 6 0 2 false := ⟨_, rfl, b8 rfl, w_180, rfl, rfl, b8 rfl, rfl⟩
theorem fl_X6_7 : fl "Leadchapel$Press" 7 6 1 0 false := ⟨_, rfl, b8 rfl, w_182, rfl, rfl, b8 rfl, rfl⟩
theorem fl_X6_17 : fl "Leadchapel$Press" 17 6 3 0 false := ⟨_, rfl, b8 rfl, w_186, rfl, rfl, b8 rfl, rfl⟩
theorem fl_X6_20 : fl "Leadchapel$Press" 20 2 10 3 false := ⟨_, rfl, b8 rfl, w_705, rfl, rfl, b8 rfl, rfl⟩
theorem fl_X6_26 : fl "Leadchapel$Press" 26 2 1 0 true := ⟨_, rfl, b8 rfl, w_681, rfl, rfl, b8 rfl, rfl⟩
theorem fl_X6_29 : fl "Leadchapel$Press" 29 2 6 0 false := ⟨_, rfl, b8 rfl, w_694, rfl, rfl, b8 rfl, rfl⟩
theorem fl_X6_38 : fl "Leadchapel$Press" 38 6 2 0 false := ⟨_, rfl, b8 rfl, w_184, rfl, rfl, b8 rfl, rfl⟩
theorem fl_X11_317 : fl "Leadchapel" 317 11 10 0 false := ⟨_, rfl, b8 rfl, w_232, rfl, rfl, b8 rfl, rfl⟩
theorem fl_X11_121 : fl "Leadchapel" 121 1 0 2 true := ⟨_, rfl, b8 rfl, w_141, rfl, rfl, b8 rfl, rfl⟩
theorem fl_X11_118 : fl "Leadchapel" 118 1 1 2 true := ⟨_, rfl, b8 rfl, w_145, rfl, rfl, b8 rfl, rfl⟩
theorem fl_X11_124 : fl "Leadchapel" 124 1 2 2 true := ⟨_, rfl, b8 rfl, w_147, rfl, rfl, b8 rfl, rfl⟩
theorem fl_X11_260 : fl "Leadchapel" 260 5 1 2 true := ⟨_, rfl, b8 rfl, w_583, rfl, rfl, b8 rfl, rfl⟩
theorem fl_X11_266 : fl "Leadchapel" 266 5 2 2 true := ⟨_, rfl, b8 rfl, w_585, rfl, rfl, b8 rfl, rfl⟩
theorem fl_X7_98 : fl "Leadchapel$Scholar" 98 2 8 0 false := ⟨_, rfl, b8 rfl, w_700, rfl, rfl, b8 rfl, rfl⟩
theorem fl_X7_104 : fl "Leadchapel$Scholar" 104 2 9 0 false := ⟨_, rfl, b8 rfl, w_703, rfl, rfl, b8 rfl, rfl⟩
theorem fl_X7_107 : fl "Leadchapel$Scholar" 107 0 3 0 true := ⟨_, rfl, b8 rfl, w_762, rfl, rfl, b8 rfl, rfl⟩
theorem fl_X8_18 : fl "Leadchapel$Sheet" 18 2 4 0 false := ⟨_, rfl, b8 rfl, w_688, rfl, rfl, b8 rfl, rfl⟩
theorem fl_X11_295 : fl "Leadchapel" 295 6 0 2 false := ⟨_, rfl, b8 rfl, w_181, rfl, rfl, b8 rfl, rfl⟩
theorem fl_X11_320 : fl "Leadchapel" 320 2 8 0 false := ⟨_, rfl, b8 rfl, w_701, rfl, rfl, b8 rfl, rfl⟩
theorem fl_X3_24 : fl "Leadchapel$Hand" 24 3 5 0 false := ⟨_, rfl, b8 rfl, w_506, rfl, rfl, b8 rfl, rfl⟩
theorem fl_X11_352 : fl "Leadchapel" 352 2 0 2 true := ⟨_, rfl, b8 rfl, w_679, rfl, rfl, b8 rfl, rfl⟩
theorem fl_X3_21 : fl "Leadchapel$Hand" 21 3 3 0 false := ⟨_, rfl, b8 rfl, w_503, rfl, rfl, b8 rfl, rfl⟩
theorem fl_X4_138 : fl "Leadchapel$Page" 138 9 2 2 true := ⟨_, rfl, b8 rfl, w_543, rfl, rfl, b8 rfl, rfl⟩
theorem fl_X4_128 : fl "Leadchapel$Page" 128 9 4 2 true := ⟨_, rfl, b8 rfl, w_547, rfl, rfl, b8 rfl, rfl⟩
theorem ta_31 : FieldType.int ∈ aTys := by decide
theorem fl_X4_96 : fl "Leadchapel$Page" 96 3 3 0 false := ⟨_, rfl, b8 rfl, w_504, rfl, rfl, b8 rfl, rfl⟩
theorem ta_34 : FieldType.int ∈ aTys := by decide
theorem fl_X5_41 : fl "Leadchapel$Places" 41 1 4 2 true := ⟨_, rfl, b8 rfl, w_150, rfl, rfl, b8 rfl, rfl⟩
theorem fl_X4_162 : fl "Leadchapel$Page" 162 1 4 2 true := ⟨_, rfl, b8 rfl, w_151, rfl, rfl, b8 rfl, rfl⟩
theorem fl_X11_212 : fl "Leadchapel" 212 4 9 0 false := ⟨_, rfl, b8 rfl, w_620, rfl, rfl, b8 rfl, rfl⟩
theorem fl_X11_402 : fl "Leadchapel" 402 2 3 2 true := ⟨_, rfl, b8 rfl, w_686, rfl, rfl, b8 rfl, rfl⟩
theorem ta_53 : FieldType.long ∈ aTys := by decide
theorem fl_X11_95 : fl "Leadchapel" 95 10 6 0 false := ⟨_, rfl, b8 rfl, w_113, rfl, rfl, b8 rfl, rfl⟩
theorem ta_50 : FieldType.int ∈ aTys := by decide
theorem fl_X1_15 : fl "Leadchapel$Cases" 15 1 1 2 true := ⟨_, rfl, b8 rfl, w_142, rfl, rfl, b8 rfl, rfl⟩
theorem nw_X11_7 : nwF "Leadchapel" 7 10 7 := ⟨_, rfl, b8 rfl, rfl, b8 rfl, w_96, w_97, w_67, by decide +kernel⟩
theorem nw_X11_16 : nwF "Leadchapel" 16 1 6 := ⟨_, rfl, b8 rfl, rfl, b8 rfl, w_133, w_134, w_68, by decide +kernel⟩
theorem nw_X11_35 : nwF "Leadchapel" 35 6 4 := ⟨_, rfl, b8 rfl, rfl, b8 rfl, w_173, w_175, w_69, by decide +kernel⟩
theorem nw_X11_46 : nwF "Leadchapel" 46 7 6 := ⟨_, rfl, b8 rfl, rfl, b8 rfl, w_197, w_198, w_70, by decide +kernel⟩
theorem fl_X12_228 : fl "LeadchapelModel" 228 12 0 0 false := ⟨_, rfl, b8 rfl, w_1409, rfl, rfl, b8 rfl, rfl⟩
theorem fl_X12_247 : fl "LeadchapelModel" 247 12 12 0 false := ⟨_, rfl, b8 rfl, w_1421, rfl, rfl, b8 rfl, rfl⟩
theorem fl_X12_210 : fl "LeadchapelModel" 210 12 75 2 true := ⟨_, rfl, b8 rfl, w_1484, rfl, rfl, b8 rfl, rfl⟩
theorem ka_125 : 13 ≤ 125 ∧ KT 125 = .int := ⟨b8 rfl, rfl⟩
theorem fl_X12_207 : fl "LeadchapelModel" 207 12 73 2 true := ⟨_, rfl, b8 rfl, w_1482, rfl, rfl, b8 rfl, rfl⟩
theorem ka_124 : 13 ≤ 124 ∧ KT 124 = .int := ⟨b8 rfl, rfl⟩
theorem fl_X12_204 : fl "LeadchapelModel" 204 12 72 2 true := ⟨_, rfl, b8 rfl, w_1481, rfl, rfl, b8 rfl, rfl⟩
theorem ka_123 : 13 ≤ 123 ∧ KT 123 = .int := ⟨b8 rfl, rfl⟩
theorem fl_X12_50 : fl "LeadchapelModel" 50 12 18 2 true := ⟨_, rfl, b8 rfl, w_1427, rfl, rfl, b8 rfl, rfl⟩
theorem ka_72 : 13 ≤ 72 ∧ KT 72 = .int := ⟨b8 rfl, rfl⟩
theorem fl_X12_47 : fl "LeadchapelModel" 47 12 17 2 true := ⟨_, rfl, b8 rfl, w_1426, rfl, rfl, b8 rfl, rfl⟩
theorem ka_71 : 13 ≤ 71 ∧ KT 71 = .int := ⟨b8 rfl, rfl⟩
theorem fl_X12_53 : fl "LeadchapelModel" 53 12 20 2 true := ⟨_, rfl, b8 rfl, w_1429, rfl, rfl, b8 rfl, rfl⟩
theorem ka_73 : 13 ≤ 73 ∧ KT 73 = .int := ⟨b8 rfl, rfl⟩
theorem fl_X12_56 : fl "LeadchapelModel" 56 12 21 2 true := ⟨_, rfl, b8 rfl, w_1430, rfl, rfl, b8 rfl, rfl⟩
theorem ka_74 : 13 ≤ 74 ∧ KT 74 = .int := ⟨b8 rfl, rfl⟩
theorem fl_X12_159 : fl "LeadchapelModel" 159 12 56 2 true := ⟨_, rfl, b8 rfl, w_1465, rfl, rfl, b8 rfl, rfl⟩
theorem ka_108 : 13 ≤ 108 ∧ KT 108 = .int := ⟨b8 rfl, rfl⟩
theorem fl_X12_105 : fl "LeadchapelModel" 105 12 37 2 true := ⟨_, rfl, b8 rfl, w_1446, rfl, rfl, b8 rfl, rfl⟩
theorem ka_90 : 13 ≤ 90 ∧ KT 90 = .int := ⟨b8 rfl, rfl⟩
theorem fl_X12_144 : fl "LeadchapelModel" 144 12 50 2 true := ⟨_, rfl, b8 rfl, w_1459, rfl, rfl, b8 rfl, rfl⟩
theorem ka_103 : 13 ≤ 103 ∧ KT 103 = .int := ⟨b8 rfl, rfl⟩
theorem fl_X12_147 : fl "LeadchapelModel" 147 12 51 2 true := ⟨_, rfl, b8 rfl, w_1460, rfl, rfl, b8 rfl, rfl⟩
theorem ka_104 : 13 ≤ 104 ∧ KT 104 = .int := ⟨b8 rfl, rfl⟩
theorem fl_X12_216 : fl "LeadchapelModel" 216 12 77 2 true := ⟨_, rfl, b8 rfl, w_1486, rfl, rfl, b8 rfl, rfl⟩
theorem ka_127 : 13 ≤ 127 ∧ KT 127 = .int := ⟨b8 rfl, rfl⟩
theorem fl_X12_291 : fl "LeadchapelModel" 291 12 6 0 false := ⟨_, rfl, b8 rfl, w_1415, rfl, rfl, b8 rfl, rfl⟩
theorem fl_X12_23 : fl "LeadchapelModel" 23 12 8 2 true := ⟨_, rfl, b8 rfl, w_1417, rfl, rfl, b8 rfl, rfl⟩
theorem ka_63 : 13 ≤ 63 ∧ KT 63 = .int := ⟨b8 rfl, rfl⟩
theorem fl_X12_232 : fl "LeadchapelModel" 232 12 19 0 false := ⟨_, rfl, b8 rfl, w_1428, rfl, rfl, b8 rfl, rfl⟩
theorem fl_X12_65 : fl "LeadchapelModel" 65 12 24 2 true := ⟨_, rfl, b8 rfl, w_1433, rfl, rfl, b8 rfl, rfl⟩
theorem ka_77 : 13 ≤ 77 ∧ KT 77 = .int := ⟨b8 rfl, rfl⟩
theorem fl_X12_213 : fl "LeadchapelModel" 213 12 76 2 true := ⟨_, rfl, b8 rfl, w_1485, rfl, rfl, b8 rfl, rfl⟩
theorem ka_126 : 13 ≤ 126 ∧ KT 126 = .int := ⟨b8 rfl, rfl⟩
theorem fl_X12_183 : fl "LeadchapelModel" 183 12 64 2 true := ⟨_, rfl, b8 rfl, w_1473, rfl, rfl, b8 rfl, rfl⟩
theorem ka_116 : 13 ≤ 116 ∧ KT 116 = .boolean := ⟨b8 rfl, rfl⟩
theorem fl_X12_168 : fl "LeadchapelModel" 168 12 59 2 true := ⟨_, rfl, b8 rfl, w_1468, rfl, rfl, b8 rfl, rfl⟩
theorem ka_111 : 13 ≤ 111 ∧ KT 111 = .int := ⟨b8 rfl, rfl⟩
theorem fl_X12_171 : fl "LeadchapelModel" 171 12 60 2 true := ⟨_, rfl, b8 rfl, w_1469, rfl, rfl, b8 rfl, rfl⟩
theorem ka_112 : 13 ≤ 112 ∧ KT 112 = .int := ⟨b8 rfl, rfl⟩
theorem fl_X12_71 : fl "LeadchapelModel" 71 12 26 2 true := ⟨_, rfl, b8 rfl, w_1435, rfl, rfl, b8 rfl, rfl⟩
theorem ka_79 : 13 ≤ 79 ∧ KT 79 = .boolean := ⟨b8 rfl, rfl⟩
theorem fl_X12_195 : fl "LeadchapelModel" 195 12 68 2 true := ⟨_, rfl, b8 rfl, w_1477, rfl, rfl, b8 rfl, rfl⟩
theorem ka_120 : 13 ≤ 120 ∧ KT 120 = .int := ⟨b8 rfl, rfl⟩
theorem fl_X12_59 : fl "LeadchapelModel" 59 12 22 2 true := ⟨_, rfl, b8 rfl, w_1431, rfl, rfl, b8 rfl, rfl⟩
theorem ka_75 : 13 ≤ 75 ∧ KT 75 = .int := ⟨b8 rfl, rfl⟩
theorem fl_X12_62 : fl "LeadchapelModel" 62 12 23 2 true := ⟨_, rfl, b8 rfl, w_1432, rfl, rfl, b8 rfl, rfl⟩
theorem ka_76 : 13 ≤ 76 ∧ KT 76 = .int := ⟨b8 rfl, rfl⟩
theorem fl_X12_32 : fl "LeadchapelModel" 32 12 11 2 true := ⟨_, rfl, b8 rfl, w_1420, rfl, rfl, b8 rfl, rfl⟩
theorem ka_66 : 13 ≤ 66 ∧ KT 66 = .int := ⟨b8 rfl, rfl⟩
theorem fl_X12_29 : fl "LeadchapelModel" 29 12 10 2 true := ⟨_, rfl, b8 rfl, w_1419, rfl, rfl, b8 rfl, rfl⟩
theorem ka_65 : 13 ≤ 65 ∧ KT 65 = .int := ⟨b8 rfl, rfl⟩
theorem fl_X12_26 : fl "LeadchapelModel" 26 12 9 2 true := ⟨_, rfl, b8 rfl, w_1418, rfl, rfl, b8 rfl, rfl⟩
theorem ka_64 : 13 ≤ 64 ∧ KT 64 = .int := ⟨b8 rfl, rfl⟩
theorem fl_X12_20 : fl "LeadchapelModel" 20 12 7 2 true := ⟨_, rfl, b8 rfl, w_1416, rfl, rfl, b8 rfl, rfl⟩
theorem ka_62 : 13 ≤ 62 ∧ KT 62 = .int := ⟨b8 rfl, rfl⟩
theorem fl_X12_68 : fl "LeadchapelModel" 68 12 25 2 true := ⟨_, rfl, b8 rfl, w_1434, rfl, rfl, b8 rfl, rfl⟩
theorem ka_78 : 13 ≤ 78 ∧ KT 78 = .int := ⟨b8 rfl, rfl⟩
theorem fl_X12_75 : fl "LeadchapelModel" 75 12 27 2 true := ⟨_, rfl, b8 rfl, w_1436, rfl, rfl, b8 rfl, rfl⟩
theorem ka_80 : 13 ≤ 80 ∧ KT 80 = .int := ⟨b8 rfl, rfl⟩
theorem fl_X12_78 : fl "LeadchapelModel" 78 12 28 2 true := ⟨_, rfl, b8 rfl, w_1437, rfl, rfl, b8 rfl, rfl⟩
theorem ka_81 : 13 ≤ 81 ∧ KT 81 = .long := ⟨b8 rfl, rfl⟩
theorem fl_X12_84 : fl "LeadchapelModel" 84 12 30 2 true := ⟨_, rfl, b8 rfl, w_1439, rfl, rfl, b8 rfl, rfl⟩
theorem ka_83 : 13 ≤ 83 ∧ KT 83 = .boolean := ⟨b8 rfl, rfl⟩
theorem fl_X12_141 : fl "LeadchapelModel" 141 12 49 2 true := ⟨_, rfl, b8 rfl, w_1458, rfl, rfl, b8 rfl, rfl⟩
theorem ka_102 : 13 ≤ 102 ∧ KT 102 = .int := ⟨b8 rfl, rfl⟩
theorem fl_X12_397 : fl "LeadchapelModel" 397 12 52 0 false := ⟨_, rfl, b8 rfl, w_1461, rfl, rfl, b8 rfl, rfl⟩
theorem fl_X12_150 : fl "LeadchapelModel" 150 12 53 2 true := ⟨_, rfl, b8 rfl, w_1462, rfl, rfl, b8 rfl, rfl⟩
theorem ka_105 : 13 ≤ 105 ∧ KT 105 = .int := ⟨b8 rfl, rfl⟩
theorem fl_X12_153 : fl "LeadchapelModel" 153 12 54 2 true := ⟨_, rfl, b8 rfl, w_1463, rfl, rfl, b8 rfl, rfl⟩
theorem ka_106 : 13 ≤ 106 ∧ KT 106 = .int := ⟨b8 rfl, rfl⟩
theorem fl_X12_156 : fl "LeadchapelModel" 156 12 55 2 true := ⟨_, rfl, b8 rfl, w_1464, rfl, rfl, b8 rfl, rfl⟩
theorem ka_107 : 13 ≤ 107 ∧ KT 107 = .int := ⟨b8 rfl, rfl⟩
theorem fl_X12_132 : fl "LeadchapelModel" 132 12 46 2 true := ⟨_, rfl, b8 rfl, w_1455, rfl, rfl, b8 rfl, rfl⟩
theorem ka_99 : 13 ≤ 99 ∧ KT 99 = .int := ⟨b8 rfl, rfl⟩
theorem fl_X12_99 : fl "LeadchapelModel" 99 12 35 2 true := ⟨_, rfl, b8 rfl, w_1444, rfl, rfl, b8 rfl, rfl⟩
theorem ka_88 : 13 ≤ 88 ∧ KT 88 = .int := ⟨b8 rfl, rfl⟩
theorem fl_X12_108 : fl "LeadchapelModel" 108 12 38 2 true := ⟨_, rfl, b8 rfl, w_1447, rfl, rfl, b8 rfl, rfl⟩
theorem ka_91 : 13 ≤ 91 ∧ KT 91 = .int := ⟨b8 rfl, rfl⟩
theorem fl_X12_111 : fl "LeadchapelModel" 111 12 39 2 true := ⟨_, rfl, b8 rfl, w_1448, rfl, rfl, b8 rfl, rfl⟩
theorem ka_92 : 13 ≤ 92 ∧ KT 92 = .int := ⟨b8 rfl, rfl⟩
theorem fl_X12_126 : fl "LeadchapelModel" 126 12 44 2 true := ⟨_, rfl, b8 rfl, w_1453, rfl, rfl, b8 rfl, rfl⟩
theorem ka_97 : 13 ≤ 97 ∧ KT 97 = .int := ⟨b8 rfl, rfl⟩
theorem fl_X12_102 : fl "LeadchapelModel" 102 12 36 2 true := ⟨_, rfl, b8 rfl, w_1445, rfl, rfl, b8 rfl, rfl⟩
theorem ka_89 : 13 ≤ 89 ∧ KT 89 = .int := ⟨b8 rfl, rfl⟩
theorem fl_X12_129 : fl "LeadchapelModel" 129 12 45 2 true := ⟨_, rfl, b8 rfl, w_1454, rfl, rfl, b8 rfl, rfl⟩
theorem ka_98 : 13 ≤ 98 ∧ KT 98 = .int := ⟨b8 rfl, rfl⟩
theorem fl_X12_7 : fl "LeadchapelModel" 7 12 2 2 true := ⟨_, rfl, b8 rfl, w_1411, rfl, rfl, b8 rfl, rfl⟩
theorem ka_59 : 13 ≤ 59 ∧ KT 59 = .int := ⟨b8 rfl, rfl⟩
theorem fl_X12_257 : fl "LeadchapelModel" 257 12 1 0 false := ⟨_, rfl, b8 rfl, w_1410, rfl, rfl, b8 rfl, rfl⟩
theorem fl_X12_81 : fl "LeadchapelModel" 81 12 29 2 true := ⟨_, rfl, b8 rfl, w_1438, rfl, rfl, b8 rfl, rfl⟩
theorem ka_82 : 13 ≤ 82 ∧ KT 82 = .boolean := ⟨b8 rfl, rfl⟩
theorem fl_X12_135 : fl "LeadchapelModel" 135 12 47 2 true := ⟨_, rfl, b8 rfl, w_1456, rfl, rfl, b8 rfl, rfl⟩
theorem ka_100 : 13 ≤ 100 ∧ KT 100 = .int := ⟨b8 rfl, rfl⟩
theorem fl_X12_138 : fl "LeadchapelModel" 138 12 48 2 true := ⟨_, rfl, b8 rfl, w_1457, rfl, rfl, b8 rfl, rfl⟩
theorem ka_101 : 13 ≤ 101 ∧ KT 101 = .int := ⟨b8 rfl, rfl⟩
theorem fl_X12_165 : fl "LeadchapelModel" 165 12 58 2 true := ⟨_, rfl, b8 rfl, w_1467, rfl, rfl, b8 rfl, rfl⟩
theorem ka_110 : 13 ≤ 110 ∧ KT 110 = .int := ⟨b8 rfl, rfl⟩
theorem fl_X12_123 : fl "LeadchapelModel" 123 12 43 2 true := ⟨_, rfl, b8 rfl, w_1452, rfl, rfl, b8 rfl, rfl⟩
theorem ka_96 : 13 ≤ 96 ∧ KT 96 = .long := ⟨b8 rfl, rfl⟩
theorem fl_X12_120 : fl "LeadchapelModel" 120 12 42 2 true := ⟨_, rfl, b8 rfl, w_1451, rfl, rfl, b8 rfl, rfl⟩
theorem ka_95 : 13 ≤ 95 ∧ KT 95 = .int := ⟨b8 rfl, rfl⟩
theorem fl_X12_252 : fl "LeadchapelModel" 252 12 3 0 false := ⟨_, rfl, b8 rfl, w_1412, rfl, rfl, b8 rfl, rfl⟩
theorem fl_X12_13 : fl "LeadchapelModel" 13 12 4 2 true := ⟨_, rfl, b8 rfl, w_1413, rfl, rfl, b8 rfl, rfl⟩
theorem ka_60 : 13 ≤ 60 ∧ KT 60 = .long := ⟨b8 rfl, rfl⟩
theorem fl_X12_17 : fl "LeadchapelModel" 17 12 5 2 true := ⟨_, rfl, b8 rfl, w_1414, rfl, rfl, b8 rfl, rfl⟩
theorem ka_61 : 13 ≤ 61 ∧ KT 61 = .long := ⟨b8 rfl, rfl⟩
theorem fl_X12_177 : fl "LeadchapelModel" 177 12 62 2 true := ⟨_, rfl, b8 rfl, w_1471, rfl, rfl, b8 rfl, rfl⟩
theorem ka_114 : 13 ≤ 114 ∧ KT 114 = .int := ⟨b8 rfl, rfl⟩
theorem fl_X12_162 : fl "LeadchapelModel" 162 12 57 2 true := ⟨_, rfl, b8 rfl, w_1466, rfl, rfl, b8 rfl, rfl⟩
theorem ka_109 : 13 ≤ 109 ∧ KT 109 = .int := ⟨b8 rfl, rfl⟩
theorem fl_X12_35 : fl "LeadchapelModel" 35 12 13 2 true := ⟨_, rfl, b8 rfl, w_1422, rfl, rfl, b8 rfl, rfl⟩
theorem ka_67 : 13 ≤ 67 ∧ KT 67 = .int := ⟨b8 rfl, rfl⟩
theorem fl_X12_38 : fl "LeadchapelModel" 38 12 14 2 true := ⟨_, rfl, b8 rfl, w_1423, rfl, rfl, b8 rfl, rfl⟩
theorem ka_68 : 13 ≤ 68 ∧ KT 68 = .int := ⟨b8 rfl, rfl⟩
theorem fl_X12_41 : fl "LeadchapelModel" 41 12 15 2 true := ⟨_, rfl, b8 rfl, w_1424, rfl, rfl, b8 rfl, rfl⟩
theorem ka_69 : 13 ≤ 69 ∧ KT 69 = .int := ⟨b8 rfl, rfl⟩
theorem fl_X12_432 : fl "LeadchapelModel" 432 12 79 0 false := ⟨_, rfl, b8 rfl, w_1488, rfl, rfl, b8 rfl, rfl⟩
theorem fl_X12_225 : fl "LeadchapelModel" 225 12 81 2 true := ⟨_, rfl, b8 rfl, w_1490, rfl, rfl, b8 rfl, rfl⟩
theorem ka_130 : 13 ≤ 130 ∧ KT 130 = .int := ⟨b8 rfl, rfl⟩
theorem fl_X12_222 : fl "LeadchapelModel" 222 12 80 2 true := ⟨_, rfl, b8 rfl, w_1489, rfl, rfl, b8 rfl, rfl⟩
theorem ka_129 : 13 ≤ 129 ∧ KT 129 = .int := ⟨b8 rfl, rfl⟩
theorem fl_X12_93 : fl "LeadchapelModel" 93 12 33 2 true := ⟨_, rfl, b8 rfl, w_1442, rfl, rfl, b8 rfl, rfl⟩
theorem ka_86 : 13 ≤ 86 ∧ KT 86 = .int := ⟨b8 rfl, rfl⟩
theorem fl_X12_117 : fl "LeadchapelModel" 117 12 41 2 true := ⟨_, rfl, b8 rfl, w_1450, rfl, rfl, b8 rfl, rfl⟩
theorem ka_94 : 13 ≤ 94 ∧ KT 94 = .int := ⟨b8 rfl, rfl⟩
theorem fl_X12_114 : fl "LeadchapelModel" 114 12 40 2 true := ⟨_, rfl, b8 rfl, w_1449, rfl, rfl, b8 rfl, rfl⟩
theorem ka_93 : 13 ≤ 93 ∧ KT 93 = .int := ⟨b8 rfl, rfl⟩
theorem fl_X12_379 : fl "LeadchapelModel" 379 12 69 0 false := ⟨_, rfl, b8 rfl, w_1478, rfl, rfl, b8 rfl, rfl⟩
theorem ka_70 : 13 ≤ 70 ∧ KT 70 = .int := ⟨b8 rfl, rfl⟩
theorem fl_X12_44 : fl "LeadchapelModel" 44 12 16 2 true := ⟨_, rfl, b8 rfl, w_1425, rfl, rfl, b8 rfl, rfl⟩
theorem ka_84 : 13 ≤ 84 ∧ KT 84 = .int := ⟨b8 rfl, rfl⟩
theorem fl_X12_87 : fl "LeadchapelModel" 87 12 31 2 true := ⟨_, rfl, b8 rfl, w_1440, rfl, rfl, b8 rfl, rfl⟩
theorem ka_85 : 13 ≤ 85 ∧ KT 85 = .int := ⟨b8 rfl, rfl⟩
theorem fl_X12_90 : fl "LeadchapelModel" 90 12 32 2 true := ⟨_, rfl, b8 rfl, w_1441, rfl, rfl, b8 rfl, rfl⟩
theorem ka_87 : 13 ≤ 87 ∧ KT 87 = .int := ⟨b8 rfl, rfl⟩
theorem fl_X12_96 : fl "LeadchapelModel" 96 12 34 2 true := ⟨_, rfl, b8 rfl, w_1443, rfl, rfl, b8 rfl, rfl⟩
theorem ka_113 : 13 ≤ 113 ∧ KT 113 = .int := ⟨b8 rfl, rfl⟩
theorem fl_X12_174 : fl "LeadchapelModel" 174 12 61 2 true := ⟨_, rfl, b8 rfl, w_1470, rfl, rfl, b8 rfl, rfl⟩
theorem ka_115 : 13 ≤ 115 ∧ KT 115 = .boolean := ⟨b8 rfl, rfl⟩
theorem fl_X12_180 : fl "LeadchapelModel" 180 12 63 2 true := ⟨_, rfl, b8 rfl, w_1472, rfl, rfl, b8 rfl, rfl⟩
theorem ka_117 : 13 ≤ 117 ∧ KT 117 = .boolean := ⟨b8 rfl, rfl⟩
theorem fl_X12_186 : fl "LeadchapelModel" 186 12 65 2 true := ⟨_, rfl, b8 rfl, w_1474, rfl, rfl, b8 rfl, rfl⟩
theorem ka_118 : 13 ≤ 118 ∧ KT 118 = .int := ⟨b8 rfl, rfl⟩
theorem fl_X12_189 : fl "LeadchapelModel" 189 12 66 2 true := ⟨_, rfl, b8 rfl, w_1475, rfl, rfl, b8 rfl, rfl⟩
theorem ka_119 : 13 ≤ 119 ∧ KT 119 = .int := ⟨b8 rfl, rfl⟩
theorem fl_X12_192 : fl "LeadchapelModel" 192 12 67 2 true := ⟨_, rfl, b8 rfl, w_1476, rfl, rfl, b8 rfl, rfl⟩
theorem ka_121 : 13 ≤ 121 ∧ KT 121 = .int := ⟨b8 rfl, rfl⟩
theorem fl_X12_198 : fl "LeadchapelModel" 198 12 70 2 true := ⟨_, rfl, b8 rfl, w_1479, rfl, rfl, b8 rfl, rfl⟩
theorem ka_122 : 13 ≤ 122 ∧ KT 122 = .int := ⟨b8 rfl, rfl⟩
theorem fl_X12_201 : fl "LeadchapelModel" 201 12 71 2 true := ⟨_, rfl, b8 rfl, w_1480, rfl, rfl, b8 rfl, rfl⟩
theorem ka_128 : 13 ≤ 128 ∧ KT 128 = .int := ⟨b8 rfl, rfl⟩
theorem fl_X12_219 : fl "LeadchapelModel" 219 12 78 2 true := ⟨_, rfl, b8 rfl, w_1487, rfl, rfl, b8 rfl, rfl⟩
theorem fl_X12_382 : fl "LeadchapelModel" 382 12 74 0 false := ⟨_, rfl, b8 rfl, w_1483, rfl, rfl, b8 rfl, rfl⟩
theorem nw_L_8 : nwF "LeadchapelLaw" 8 11 11 := ⟨_, rfl, b8 rfl, rfl, b8 rfl, w_88, w_89, w_66, by decide +kernel⟩
theorem nw_L_145 : nwF "LeadchapelLaw" 145 12 82 := ⟨_, rfl, b8 rfl, rfl, b8 rfl, w_1403, w_1404, w_71, by decide +kernel⟩
theorem mf_X11_requireArgument : mF me_X11_requireArgument 1 := ⟨by decide +kernel, fun h => absurd h (by decide), w_286, w_66, by decide, by decide, by decide +kernel⟩
theorem mf_X11_handAt : mF me_X11_handAt 1 := ⟨by decide +kernel, fun h => absurd h (by decide), w_895, w_66, by decide, by decide, by decide +kernel⟩
theorem mf_X11_pressAt : mF me_X11_pressAt 1 := ⟨by decide +kernel, fun h => absurd h (by decide), w_1056, w_66, by decide, by decide, by decide +kernel⟩
theorem mf_X11_requireIndex : mF me_X11_requireIndex 1 := ⟨by decide +kernel, fun h => absurd h (by decide), w_453, w_66, by decide, by decide, by decide +kernel⟩
theorem mf_X11_account : mF me_X11_account 2 := ⟨by decide +kernel, fun h => absurd h (by decide), w_1402, w_66, by decide, by decide, by decide +kernel⟩
theorem mf_X7_readPiece : mF me_X7_readPiece 2 := ⟨by decide +kernel, fun h => absurd h (by decide), w_1294, w_70, by decide, by decide, by decide +kernel⟩
theorem mf_X11_bookAt : mF me_X11_bookAt 1 := ⟨by decide +kernel, fun h => absurd h (by decide), w_817, w_66, by decide, by decide, by decide +kernel⟩
theorem mf_X0_hasForme : mF me_X0_hasForme 1 := ⟨by decide +kernel, fun h => absurd h (by decide), w_1031, w_79, by decide, by decide, by decide +kernel⟩
theorem mf_X7_readFormes : mF me_X7_readFormes 2 := ⟨by decide +kernel, fun h => absurd h (by decide), w_1290, w_70, by decide, by decide, by decide +kernel⟩
theorem mf_X7_allAheadOf : mF me_X7_allAheadOf 2 := ⟨by decide +kernel, fun h => absurd h (by decide), w_1320, w_70, by decide, by decide, by decide +kernel⟩
theorem mf_X11_ahead : mF me_X11_ahead 3 := ⟨by decide +kernel, fun h => absurd h (by decide), w_1316, w_66, by decide, by decide, by decide +kernel⟩
theorem mf_X0_formeOfPage : mF me_X0_formeOfPage 2 := ⟨by decide +kernel, fun h => absurd h (by decide), w_670, w_79, by decide, by decide, by decide +kernel⟩
theorem mf_X2_stateOf : mF me_X2_stateOf 1 := ⟨by decide +kernel, fun h => absurd h (by decide), w_1220, w_83, by decide, by decide, by decide +kernel⟩
theorem mf_X0_formeNumber : mF me_X0_formeNumber 1 := ⟨by decide +kernel, fun h => absurd h (by decide), w_983, w_79, by decide, by decide, by decide +kernel⟩
theorem mf_X8_stateOn : mF me_X8_stateOn 2 := ⟨by decide +kernel, fun h => absurd h (by decide), w_1216, w_84, by decide, by decide, by decide +kernel⟩
theorem mf_X0_stateIn : mF me_X0_stateIn 2 := ⟨by decide +kernel, fun h => absurd h (by decide), w_1212, w_79, by decide, by decide, by decide +kernel⟩
theorem mf_X0_hasCopy : mF me_X0_hasCopy 1 := ⟨by decide +kernel, fun h => absurd h (by decide), w_1190, w_79, by decide, by decide, by decide +kernel⟩
theorem mf_X11_requireState : mF me_X11_requireState 1 := ⟨by decide +kernel, fun h => absurd h (by decide), w_365, w_66, by decide, by decide, by decide +kernel⟩
theorem mf_X0_hasSameStates : mF me_X0_hasSameStates 2 := ⟨by decide +kernel, fun h => absurd h (by decide), w_1260, w_79, by decide, by decide, by decide +kernel⟩
theorem mf_X11_alike : mF me_X11_alike 2 := ⟨by decide +kernel, fun h => absurd h (by decide), w_1256, w_66, by decide, by decide, by decide +kernel⟩
theorem mf_X2_wasDone : mF me_X2_wasDone 0 := ⟨by decide +kernel, fun h => absurd h (by decide), w_1175, w_83, by decide, by decide, by decide +kernel⟩
theorem mf_X0_isPrinted : mF me_X0_isPrinted 0 := ⟨by decide +kernel, fun h => absurd h (by decide), w_1171, w_79, by decide, by decide, by decide +kernel⟩
theorem mf_X0_gather : mF me_X0_gather 0 := ⟨by decide +kernel, fun h => absurd h (by decide), w_1179, w_79, by decide, by decide, by decide +kernel⟩
theorem mf_X11_bind : mF me_X11_bind 1 := ⟨by decide +kernel, fun h => absurd h (by decide), w_1167, w_66, by decide, by decide, by decide +kernel⟩
theorem mf_X0_placeInForme : mF me_X0_placeInForme 2 := ⟨by decide +kernel, fun h => absurd h (by decide), w_673, w_79, by decide, by decide, by decide +kernel⟩
theorem mf_X5_init : mF me_X5_init 2 := ⟨by decide +kernel, fun _ => rfl, w_575, w_82, by decide, by decide, by decide +kernel⟩
theorem mf_X9_init : mF me_X9_init 0 := ⟨by decide +kernel, fun _ => rfl, w_537, w_80, by decide, by decide, by decide +kernel⟩
theorem mf_X4_init : mF me_X4_init 3 := ⟨by decide +kernel, fun _ => rfl, w_569, w_81, by decide, by decide, by decide +kernel⟩
theorem mf_X0_pagesOf : mF me_X0_pagesOf 3 := ⟨by decide +kernel, fun h => absurd h (by decide), w_667, w_79, by decide, by decide, by decide +kernel⟩
theorem mf_X2_init : mF me_X2_init 2 := ⟨by decide +kernel, fun _ => rfl, w_676, w_83, by decide, by decide, by decide +kernel⟩
theorem mf_X8_init : mF me_X8_init 2 := ⟨by decide +kernel, fun _ => rfl, w_734, w_84, by decide, by decide, by decide +kernel⟩
theorem mf_X0_init : mF me_X0_init 5 := ⟨by decide +kernel, fun _ => rfl, w_531, w_79, by decide, by decide, by decide +kernel⟩
theorem mf_X11_book : mF me_X11_book 5 := ⟨by decide +kernel, fun h => absurd h (by decide), w_527, w_66, by decide, by decide, by decide +kernel⟩
theorem mf_X11_isSort : mF me_X11_isSort 1 := ⟨by decide +kernel, fun h => absurd h (by decide), w_430, w_66, by decide, by decide, by decide +kernel⟩
theorem mf_X1_pieceUnder : mF me_X1_pieceUnder 2 := ⟨by decide +kernel, fun h => absurd h (by decide), w_487, w_68, by decide, by decide, by decide +kernel⟩
theorem mf_X11_box : mF me_X11_box 2 := ⟨by decide +kernel, fun h => absurd h (by decide), w_483, w_66, by decide, by decide, by decide +kernel⟩
theorem mf_X0_hasLeaf : mF me_X0_hasLeaf 1 := ⟨by decide +kernel, fun h => absurd h (by decide), w_1194, w_79, by decide, by decide, by decide +kernel⟩
theorem mf_X11_cancel : mF me_X11_cancel 3 := ⟨by decide +kernel, fun h => absurd h (by decide), w_1201, w_66, by decide, by decide, by decide +kernel⟩
theorem mf_X1_putOn : mF me_X1_putOn 2 := ⟨by decide +kernel, fun h => absurd h (by decide), w_438, w_68, by decide, by decide, by decide +kernel⟩
theorem mf_X1_add : mF me_X1_add 1 := ⟨by decide +kernel, fun h => absurd h (by decide), w_434, w_68, by decide, by decide, by decide +kernel⟩
theorem mf_X11_cast : mF me_X11_cast 2 := ⟨by decide +kernel, fun h => absurd h (by decide), w_427, w_66, by decide, by decide, by decide +kernel⟩
theorem mf_X4_isSet : mF me_X4_isSet 0 := ⟨by decide +kernel, fun h => absurd h (by decide), w_828, w_81, by decide, by decide, by decide +kernel⟩
theorem mf_X11_letterAt : mF me_X11_letterAt 2 := ⟨by decide +kernel, fun h => absurd h (by decide), w_357, w_66, by decide, by decide, by decide +kernel⟩
theorem mf_X11_letters : mF me_X11_letters 1 := ⟨by decide +kernel, fun h => absurd h (by decide), w_408, w_66, by decide, by decide, by decide +kernel⟩
theorem mf_X0_hasSetPage : mF me_X0_hasSetPage 0 := ⟨by decide +kernel, fun h => absurd h (by decide), w_824, w_79, by decide, by decide, by decide +kernel⟩
theorem mf_X0_partByUnits : mF me_X0_partByUnits 1 := ⟨by decide +kernel, fun h => absurd h (by decide), w_868, w_79, by decide, by decide, by decide +kernel⟩
theorem mf_X0_firstWordOfPart : mF me_X0_firstWordOfPart 1 := ⟨by decide +kernel, fun h => absurd h (by decide), w_876, w_79, by decide, by decide, by decide +kernel⟩
theorem mf_X11_castOff : mF me_X11_castOff 2 := ⟨by decide +kernel, fun h => absurd h (by decide), w_864, w_66, by decide, by decide, by decide +kernel⟩
theorem mf_X4_wordBehindLine : mF me_X4_wordBehindLine 1 := ⟨by decide +kernel, fun h => absurd h (by decide), w_852, w_81, by decide, by decide, by decide +kernel⟩
theorem mf_X5_printed : mF me_X5_printed 2 := ⟨by decide +kernel, fun h => absurd h (by decide), w_1246, w_82, by decide, by decide, by decide +kernel⟩
theorem mf_X4_signOf : mF me_X4_signOf 2 := ⟨by decide +kernel, fun h => absurd h (by decide), w_1249, w_81, by decide, by decide, by decide +kernel⟩
theorem mf_X0_hasPage : mF me_X0_hasPage 1 := ⟨by decide +kernel, fun h => absurd h (by decide), w_890, w_79, by decide, by decide, by decide +kernel⟩
theorem mf_X4_printedSign : mF me_X4_printedSign 3 := ⟨by decide +kernel, fun h => absurd h (by decide), w_1242, w_81, by decide, by decide, by decide +kernel⟩
theorem mf_X11_character : mF me_X11_character 5 := ⟨by decide +kernel, fun h => absurd h (by decide), w_1238, w_66, by decide, by decide, by decide +kernel⟩
theorem mf_X11_isLetter : mF me_X11_isLetter 1 := ⟨by decide +kernel, fun h => absurd h (by decide), w_270, w_66, by decide, by decide, by decide +kernel⟩
theorem mf_X10_faultPlace : mF me_X10_faultPlace 0 := ⟨by decide +kernel, fun h => absurd h (by decide), w_267, w_67, by decide, by decide, by decide +kernel⟩
theorem mf_X10_spellingOf : mF me_X10_spellingOf 1 := ⟨by decide +kernel, fun h => absurd h (by decide), w_412, w_67, by decide, by decide, by decide +kernel⟩
theorem mf_X10_isText : mF me_X10_isText 0 := ⟨by decide +kernel, fun h => absurd h (by decide), w_400, w_67, by decide, by decide, by decide +kernel⟩
theorem mf_X10_splitText : mF me_X10_splitText 0 := ⟨by decide +kernel, fun h => absurd h (by decide), w_405, w_67, by decide, by decide, by decide +kernel⟩
theorem mf_X9_add : mF me_X9_add 3 := ⟨by decide +kernel, fun h => absurd h (by decide), w_832, w_80, by decide, by decide, by decide +kernel⟩
theorem mf_X11_copy : mF me_X11_copy 1 := ⟨by decide +kernel, fun h => absurd h (by decide), w_813, w_66, by decide, by decide, by decide +kernel⟩
theorem mf_X5_beginState : mF me_X5_beginState 1 := ⟨by decide +kernel, fun h => absurd h (by decide), w_1123, w_82, by decide, by decide, by decide +kernel⟩
theorem mf_X1_take : mF me_X1_take 2 := ⟨by decide +kernel, fun h => absurd h (by decide), w_969, w_68, by decide, by decide, by decide +kernel⟩
theorem mf_X11_pageOf : mF me_X11_pageOf 2 := ⟨by decide +kernel, fun h => absurd h (by decide), w_886, w_66, by decide, by decide, by decide +kernel⟩
theorem mf_X2_beginStateIfPrinted : mF me_X2_beginStateIfPrinted 0 := ⟨by decide +kernel, fun h => absurd h (by decide), w_1119, w_83, by decide, by decide, by decide +kernel⟩
theorem mf_X5_replace : mF me_X5_replace 4 := ⟨by decide +kernel, fun h => absurd h (by decide), w_1130, w_82, by decide, by decide, by decide +kernel⟩
theorem mf_X11_correct : mF me_X11_correct 3 := ⟨by decide +kernel, fun h => absurd h (by decide), w_1115, w_66, by decide, by decide, by decide +kernel⟩
theorem mf_X11_exchange : mF me_X11_exchange 4 := ⟨by decide +kernel, fun h => absurd h (by decide), w_1186, w_66, by decide, by decide, by decide +kernel⟩
theorem mf_X9_form : mF me_X9_form 2 := ⟨by decide +kernel, fun h => absurd h (by decide), w_856, w_80, by decide, by decide, by decide +kernel⟩
theorem mf_X0_wordsOnPages : mF me_X0_wordsOnPages 0 := ⟨by decide +kernel, fun h => absurd h (by decide), w_844, w_79, by decide, by decide, by decide +kernel⟩
theorem mf_X9_addPage : mF me_X9_addPage 3 := ⟨by decide +kernel, fun h => absurd h (by decide), w_848, w_80, by decide, by decide, by decide +kernel⟩
theorem mf_X11_follow : mF me_X11_follow 2 := ⟨by decide +kernel, fun h => absurd h (by decide), w_840, w_66, by decide, by decide, by decide +kernel⟩
theorem mf_X4_lastWord : mF me_X4_lastWord 1 := ⟨by decide +kernel, fun h => absurd h (by decide), w_1005, w_81, by decide, by decide, by decide +kernel⟩
theorem mf_X0_linesOnPages : mF me_X0_linesOnPages 0 := ⟨by decide +kernel, fun h => absurd h (by decide), w_1386, w_79, by decide, by decide, by decide +kernel⟩
theorem mf_X0_lastWordOfLine : mF me_X0_lastWordOfLine 1 := ⟨by decide +kernel, fun h => absurd h (by decide), w_1390, w_79, by decide, by decide, by decide +kernel⟩
theorem mf_X9_isLike : mF me_X9_isLike 3 := ⟨by decide +kernel, fun h => absurd h (by decide), w_1395, w_80, by decide, by decide, by decide +kernel⟩
theorem mf_X11_follows : mF me_X11_follows 2 := ⟨by decide +kernel, fun h => absurd h (by decide), w_1382, w_66, by decide, by decide, by decide +kernel⟩
theorem mf_X11_formeOf : mF me_X11_formeOf 2 := ⟨by decide +kernel, fun h => absurd h (by decide), w_1027, w_66, by decide, by decide, by decide +kernel⟩
theorem mf_X11_forme : mF me_X11_forme 3 := ⟨by decide +kernel, fun h => absurd h (by decide), w_1108, w_66, by decide, by decide, by decide +kernel⟩
theorem mf_X3_init : mF me_X3_init 3 := ⟨by decide +kernel, fun _ => rfl, w_498, w_78, by decide, by decide, by decide +kernel⟩
theorem mf_X11_hand : mF me_X11_hand 3 := ⟨by decide +kernel, fun h => absurd h (by decide), w_494, w_66, by decide, by decide, by decide +kernel⟩
theorem mf_X7_canPart : mF (me_X7_canPart 0) 5 := ⟨by decide +kernel, fun h => absurd h (by decide), w_1358, w_70, by decide, by decide, by decide +kernel⟩
theorem mf_X4_isLoose : mF me_X4_isLoose 1 := ⟨by decide +kernel, fun h => absurd h (by decide), w_1344, w_81, by decide, by decide, by decide +kernel⟩
theorem mf_X4_spellingsOf : mF me_X4_spellingsOf 3 := ⟨by decide +kernel, fun h => absurd h (by decide), w_1010, w_81, by decide, by decide, by decide +kernel⟩
theorem mf_X4_looseSpellings : mF me_X4_looseSpellings 2 := ⟨by decide +kernel, fun h => absurd h (by decide), w_1340, w_81, by decide, by decide, by decide +kernel⟩
theorem mf_J_bitCount : mF me_J_bitCount 1 := ⟨by decide +kernel, fun h => absurd h (by decide), w_1352, w_87, by decide, by decide, by decide +kernel⟩
theorem mf_X7_readPages : mF me_X7_readPages 1 := ⟨by decide +kernel, fun h => absurd h (by decide), w_1335, w_70, by decide, by decide, by decide +kernel⟩
theorem mf_X7_tightPages : mF me_X7_tightPages 2 := ⟨by decide +kernel, fun h => absurd h (by decide), w_1349, w_70, by decide, by decide, by decide +kernel⟩
theorem mf_X7_fewestHands : mF me_X7_fewestHands 1 := ⟨by decide +kernel, fun h => absurd h (by decide), w_1331, w_70, by decide, by decide, by decide +kernel⟩
theorem mf_X11_hands : mF me_X11_hands 1 := ⟨by decide +kernel, fun h => absurd h (by decide), w_1327, w_66, by decide, by decide, by decide +kernel⟩
theorem mf_X11_lay : mF me_X11_lay 3 := ⟨by decide +kernel, fun h => absurd h (by decide), w_1160, w_66, by decide, by decide, by decide +kernel⟩
theorem mf_X11_line : mF me_X11_line 4 := ⟨by decide +kernel, fun h => absurd h (by decide), w_1000, w_66, by decide, by decide, by decide +kernel⟩
theorem mf_X0_holdsSkeleton : mF me_X0_holdsSkeleton 1 := ⟨by decide +kernel, fun h => absurd h (by decide), w_1045, w_79, by decide, by decide, by decide +kernel⟩
theorem mf_X2_allPagesSet : mF me_X2_allPagesSet 0 := ⟨by decide +kernel, fun h => absurd h (by decide), w_1036, w_83, by decide, by decide, by decide +kernel⟩
theorem mf_X11_isInUse : mF me_X11_isInUse 1 := ⟨by decide +kernel, fun h => absurd h (by decide), w_1041, w_66, by decide, by decide, by decide +kernel⟩
theorem mf_X11_lock : mF me_X11_lock 3 := ⟨by decide +kernel, fun h => absurd h (by decide), w_1024, w_66, by decide, by decide, by decide +kernel⟩
theorem mf_X0_isMixed : mF me_X0_isMixed 2 := ⟨by decide +kernel, fun h => absurd h (by decide), w_1272, w_79, by decide, by decide, by decide +kernel⟩
theorem mf_X11_madeUp : mF me_X11_madeUp 2 := ⟨by decide +kernel, fun h => absurd h (by decide), w_1268, w_66, by decide, by decide, by decide +kernel⟩
theorem mf_X8_moldOf : mF me_X8_moldOf 1 := ⟨by decide +kernel, fun h => absurd h (by decide), w_1231, w_84, by decide, by decide, by decide +kernel⟩
theorem mf_X11_mark : mF me_X11_mark 3 := ⟨by decide +kernel, fun h => absurd h (by decide), w_1227, w_66, by decide, by decide, by decide +kernel⟩
theorem mf_X11_men : mF me_X11_men 2 := ⟨by decide +kernel, fun h => absurd h (by decide), w_1076, w_66, by decide, by decide, by decide +kernel⟩
theorem mf_X7_countByLast : mF me_X7_countByLast 1 := ⟨by decide +kernel, fun h => absurd h (by decide), w_1298, w_70, by decide, by decide, by decide +kernel⟩
theorem mf_X11_orders : mF me_X11_orders 1 := ⟨by decide +kernel, fun h => absurd h (by decide), w_1286, w_66, by decide, by decide, by decide +kernel⟩
theorem mf_X7_countByPlace : mF me_X7_countByPlace 1 := ⟨by decide +kernel, fun h => absurd h (by decide), w_1309, w_70, by decide, by decide, by decide +kernel⟩
theorem mf_X11_ordersAnew : mF me_X11_ordersAnew 1 := ⟨by decide +kernel, fun h => absurd h (by decide), w_1305, w_66, by decide, by decide, by decide +kernel⟩
theorem mf_X4_told : mF me_X4_told 1 := ⟨by decide +kernel, fun h => absurd h (by decide), w_992, w_81, by decide, by decide, by decide +kernel⟩
theorem mf_X0_runningTitle : mF me_X0_runningTitle 1 := ⟨by decide +kernel, fun h => absurd h (by decide), w_987, w_79, by decide, by decide, by decide +kernel⟩
theorem mf_X11_page : mF me_X11_page 3 := ⟨by decide +kernel, fun h => absurd h (by decide), w_979, w_66, by decide, by decide, by decide +kernel⟩
theorem mf_X11_paper : mF me_X11_paper 1 := ⟨by decide +kernel, fun h => absurd h (by decide), w_1153, w_66, by decide, by decide, by decide +kernel⟩
theorem mf_X2_finish : mF me_X2_finish 2 := ⟨by decide +kernel, fun h => absurd h (by decide), w_1101, w_83, by decide, by decide, by decide +kernel⟩
theorem mf_X11_isHoliday : mF me_X11_isHoliday 1 := ⟨by decide +kernel, fun h => absurd h (by decide), w_1090, w_66, by decide, by decide, by decide +kernel⟩
theorem mf_X6_work : mF me_X6_work 2 := ⟨by decide +kernel, fun h => absurd h (by decide), w_1094, w_69, by decide, by decide, by decide +kernel⟩
theorem mf_X11_workAnHour : mF me_X11_workAnHour 0 := ⟨by decide +kernel, fun h => absurd h (by decide), w_1087, w_66, by decide, by decide, by decide +kernel⟩
theorem mf_X11_pass : mF me_X11_pass 1 := ⟨by decide +kernel, fun h => absurd h (by decide), w_1083, w_66, by decide, by decide, by decide +kernel⟩
theorem mf_X1_has : mF me_X1_has 1 := ⟨by decide +kernel, fun h => absurd h (by decide), w_450, w_68, by decide, by decide, by decide +kernel⟩
theorem mf_X11_piece : mF me_X11_piece 2 := ⟨by decide +kernel, fun h => absurd h (by decide), w_476, w_66, by decide, by decide, by decide +kernel⟩
theorem mf_X11_place : mF me_X11_place 4 := ⟨by decide +kernel, fun h => absurd h (by decide), w_1017, w_66, by decide, by decide, by decide +kernel⟩
theorem mf_X11_workingHoursAhead : mF me_X11_workingHoursAhead 1 := ⟨by decide +kernel, fun h => absurd h (by decide), w_1374, w_66, by decide, by decide, by decide +kernel⟩
theorem mf_X7_fewestPresses : mF me_X7_fewestPresses 1 := ⟨by decide +kernel, fun h => absurd h (by decide), w_1369, w_70, by decide, by decide, by decide +kernel⟩
theorem mf_X11_presses : mF me_X11_presses 1 := ⟨by decide +kernel, fun h => absurd h (by decide), w_1366, w_66, by decide, by decide, by decide +kernel⟩
theorem mf_X8_isOnPress : mF me_X8_isOnPress 0 := ⟨by decide +kernel, fun h => absurd h (by decide), w_1061, w_84, by decide, by decide, by decide +kernel⟩
theorem mf_X8_isWhite : mF me_X8_isWhite 0 := ⟨by decide +kernel, fun h => absurd h (by decide), w_1065, w_84, by decide, by decide, by decide +kernel⟩
theorem mf_X8_takeHeap : mF me_X8_takeHeap 3 := ⟨by decide +kernel, fun h => absurd h (by decide), w_1069, w_84, by decide, by decide, by decide +kernel⟩
theorem mf_X11_print : mF me_X11_print 3 := ⟨by decide +kernel, fun h => absurd h (by decide), w_1052, w_66, by decide, by decide, by decide +kernel⟩
theorem mf_X3_boxForNext : mF me_X3_boxForNext 1 := ⟨by decide +kernel, fun h => absurd h (by decide), w_1146, w_78, by decide, by decide, by decide +kernel⟩
theorem mf_X5_clear : mF me_X5_clear 2 := ⟨by decide +kernel, fun h => absurd h (by decide), w_1142, w_82, by decide, by decide, by decide +kernel⟩
theorem mf_X11_putAway : mF me_X11_putAway 3 := ⟨by decide +kernel, fun h => absurd h (by decide), w_1138, w_66, by decide, by decide, by decide +kernel⟩
theorem mf_X9_growth : mF me_X9_growth 1 := ⟨by decide +kernel, fun h => absurd h (by decide), w_948, w_80, by decide, by decide, by decide +kernel⟩
theorem mf_X9_sameSoon : mF me_X9_sameSoon 2 := ⟨by decide +kernel, fun h => absurd h (by decide), w_935, w_80, by decide, by decide, by decide +kernel⟩
theorem mf_X3_skipsNow : mF me_X3_skipsNow 0 := ⟨by decide +kernel, fun h => absurd h (by decide), w_939, w_78, by decide, by decide, by decide +kernel⟩
theorem mf_X3_likesLong : mF me_X3_likesLong 1 := ⟨by decide +kernel, fun h => absurd h (by decide), w_921, w_78, by decide, by decide, by decide +kernel⟩
theorem mf_X4_prefersLong : mF me_X4_prefersLong 4 := ⟨by decide +kernel, fun h => absurd h (by decide), w_917, w_81, by decide, by decide, by decide +kernel⟩
theorem mf_X4_addWord : mF me_X4_addWord 2 := ⟨by decide +kernel, fun h => absurd h (by decide), w_927, w_81, by decide, by decide, by decide +kernel⟩
theorem mf_X4_goOnBehind : mF me_X4_goOnBehind 3 := ⟨by decide +kernel, fun h => absurd h (by decide), w_931, w_81, by decide, by decide, by decide +kernel⟩
theorem mf_X4_takeLine : mF me_X4_takeLine 4 := ⟨by decide +kernel, fun h => absurd h (by decide), w_913, w_81, by decide, by decide, by decide +kernel⟩
theorem mf_X4_takeLines : mF me_X4_takeLines 4 := ⟨by decide +kernel, fun h => absurd h (by decide), w_909, w_81, by decide, by decide, by decide +kernel⟩
theorem mf_X4_fillOut : mF me_X4_fillOut 2 := ⟨by decide +kernel, fun h => absurd h (by decide), w_943, w_81, by decide, by decide, by decide +kernel⟩
theorem mf_X1_turnedBox : mF me_X1_turnedBox 1 := ⟨by decide +kernel, fun h => absurd h (by decide), w_972, w_68, by decide, by decide, by decide +kernel⟩
theorem mf_X4_joined : mF me_X4_joined 2 := ⟨by decide +kernel, fun h => absurd h (by decide), w_961, w_81, by decide, by decide, by decide +kernel⟩
theorem mf_X5_fillNext : mF me_X5_fillNext 3 := ⟨by decide +kernel, fun h => absurd h (by decide), w_965, w_82, by decide, by decide, by decide +kernel⟩
theorem mf_X4_fillWord : mF me_X4_fillWord 3 := ⟨by decide +kernel, fun h => absurd h (by decide), w_957, w_81, by decide, by decide, by decide +kernel⟩
theorem mf_X0_wordBehindPart : mF me_X0_wordBehindPart 1 := ⟨by decide +kernel, fun h => absurd h (by decide), w_901, w_79, by decide, by decide, by decide +kernel⟩
theorem mf_X4_compose : mF me_X4_compose 5 := ⟨by decide +kernel, fun h => absurd h (by decide), w_905, w_81, by decide, by decide, by decide +kernel⟩
theorem mf_X4_fillPlaces : mF me_X4_fillPlaces 3 := ⟨by decide +kernel, fun h => absurd h (by decide), w_953, w_81, by decide, by decide, by decide +kernel⟩
theorem mf_X11_set : mF me_X11_set 3 := ⟨by decide +kernel, fun h => absurd h (by decide), w_883, w_66, by decide, by decide, by decide +kernel⟩
theorem mf_X11_shared : mF me_X11_shared 3 := ⟨by decide +kernel, fun h => absurd h (by decide), w_1279, w_66, by decide, by decide, by decide +kernel⟩
theorem mf_X10_isPair : mF me_X10_isPair 0 := ⟨by decide +kernel, fun h => absurd h (by decide), w_396, w_67, by decide, by decide, by decide +kernel⟩
theorem mf_X11_someBookHasCopy : mF me_X11_someBookHasCopy 0 := ⟨by decide +kernel, fun h => absurd h (by decide), w_416, w_66, by decide, by decide, by decide +kernel⟩
theorem mf_X10_addSpelling : mF me_X10_addSpelling 2 := ⟨by decide +kernel, fun h => absurd h (by decide), w_420, w_67, by decide, by decide, by decide +kernel⟩
theorem mf_X11_spelling : mF me_X11_spelling 0 := ⟨by decide +kernel, fun h => absurd h (by decide), w_392, w_66, by decide, by decide, by decide +kernel⟩
theorem mf_X11_state : mF me_X11_state 3 := ⟨by decide +kernel, fun h => absurd h (by decide), w_1208, w_66, by decide, by decide, by decide +kernel⟩
theorem mf_X11_isSign : mF me_X11_isSign 1 := ⟨by decide +kernel, fun h => absurd h (by decide), w_361, w_66, by decide, by decide, by decide +kernel⟩
theorem mf_X10_add : mF me_X10_add 1 := ⟨by decide +kernel, fun h => absurd h (by decide), w_385, w_67, by decide, by decide, by decide +kernel⟩
theorem mf_X11_type : mF me_X11_type 2 := ⟨by decide +kernel, fun h => absurd h (by decide), w_283, w_66, by decide, by decide, by decide +kernel⟩
theorem mf_X11_wear : mF me_X11_wear 1 := ⟨by decide +kernel, fun h => absurd h (by decide), w_446, w_66, by decide, by decide, by decide +kernel⟩
theorem mf_X10_init : mF me_X10_init 0 := ⟨by decide +kernel, fun _ => rfl, w_100, w_67, by decide, by decide, by decide +kernel⟩
theorem mf_X1_init : mF me_X1_init 0 := ⟨by decide +kernel, fun _ => rfl, w_137, w_68, by decide, by decide, by decide +kernel⟩
theorem mf_X6_init : mF me_X6_init 0 := ⟨by decide +kernel, fun _ => rfl, w_178, w_69, by decide, by decide, by decide +kernel⟩
theorem mf_X7_init : mF me_X7_init 0 := ⟨by decide +kernel, fun _ => rfl, w_201, w_70, by decide, by decide, by decide +kernel⟩
theorem mf_X12_isIn : mF me_X12_isIn 3 := ⟨by decide +kernel, fun h => absurd h (by decide), w_1666, w_71, by decide, by decide, by decide +kernel⟩
theorem mf_X12_isHand : mF me_X12_isHand 1 := ⟨by decide +kernel, fun h => absurd h (by decide), w_1786, w_71, by decide, by decide, by decide +kernel⟩
theorem mf_X12_holds : mF me_X12_holds 1 := ⟨by decide +kernel, fun h => absurd h (by decide), w_1671, w_71, by decide, by decide, by decide +kernel⟩
theorem mf_X12_pagesOf : mF me_X12_pagesOf 1 := ⟨by decide +kernel, fun h => absurd h (by decide), w_1758, w_71, by decide, by decide, by decide +kernel⟩
theorem mf_X12_formeOf : mF me_X12_formeOf 2 := ⟨by decide +kernel, fun h => absurd h (by decide), w_1845, w_71, by decide, by decide, by decide +kernel⟩
theorem mf_X12_seenIn : mF me_X12_seenIn 3 := ⟨by decide +kernel, fun h => absurd h (by decide), w_1987, w_71, by decide, by decide, by decide +kernel⟩
theorem mf_X12_isBook : mF me_X12_isBook 1 := ⟨by decide +kernel, fun h => absurd h (by decide), w_1750, w_71, by decide, by decide, by decide +kernel⟩
theorem mf_X12_isForme : mF me_X12_isForme 2 := ⟨by decide +kernel, fun h => absurd h (by decide), w_1869, w_71, by decide, by decide, by decide +kernel⟩
theorem mf_X12_findSure : mF me_X12_findSure 1 := ⟨by decide +kernel, fun h => absurd h (by decide), w_1999, w_71, by decide, by decide, by decide +kernel⟩
theorem mf_X12_leafAt : mF me_X12_leafAt 3 := ⟨by decide +kernel, fun h => absurd h (by decide), w_1935, w_71, by decide, by decide, by decide +kernel⟩
theorem mf_X12_isCopy : mF me_X12_isCopy 2 := ⟨by decide +kernel, fun h => absurd h (by decide), w_1943, w_71, by decide, by decide, by decide +kernel⟩
theorem mf_X12_stateIn : mF me_X12_stateIn 3 := ⟨by decide +kernel, fun h => absurd h (by decide), w_1959, w_71, by decide, by decide, by decide +kernel⟩
theorem mf_X12_isLeaf : mF me_X12_isLeaf 2 := ⟨by decide +kernel, fun h => absurd h (by decide), w_1947, w_71, by decide, by decide, by decide +kernel⟩
theorem mf_X12_puts : mF me_X12_puts 2 := ⟨by decide +kernel, fun h => absurd h (by decide), w_1722, w_71, by decide, by decide, by decide +kernel⟩
theorem mf_X12_letters : mF me_X12_letters 1 := ⟨by decide +kernel, fun h => absurd h (by decide), w_1710, w_71, by decide, by decide, by decide +kernel⟩
theorem mf_X12_hasSet : mF me_X12_hasSet 1 := ⟨by decide +kernel, fun h => absurd h (by decide), w_1754, w_71, by decide, by decide, by decide +kernel⟩
theorem mf_X12_castFrom : mF me_X12_castFrom 2 := ⟨by decide +kernel, fun h => absurd h (by decide), w_1774, w_71, by decide, by decide, by decide +kernel⟩
theorem mf_X12_isPage : mF me_X12_isPage 2 := ⟨by decide +kernel, fun h => absurd h (by decide), w_1782, w_71, by decide, by decide, by decide +kernel⟩
theorem mf_X12_glyphIn : mF me_X12_glyphIn 2 := ⟨by decide +kernel, fun h => absurd h (by decide), w_1971, w_71, by decide, by decide, by decide +kernel⟩
theorem mf_X12_tapeFrom : mF me_X12_tapeFrom 1 := ⟨by decide +kernel, fun h => absurd h (by decide), w_1703, w_71, by decide, by decide, by decide +kernel⟩
theorem mf_X12_tapeFault : mF me_X12_tapeFault 0 := ⟨by decide +kernel, fun h => absurd h (by decide), w_1683, w_71, by decide, by decide, by decide +kernel⟩
theorem mf_X12_tapeWords : mF me_X12_tapeWords 0 := ⟨by decide +kernel, fun h => absurd h (by decide), w_1695, w_71, by decide, by decide, by decide +kernel⟩
theorem mf_X12_tapeWord : mF me_X12_tapeWord 1 := ⟨by decide +kernel, fun h => absurd h (by decide), w_1707, w_71, by decide, by decide, by decide +kernel⟩
theorem mf_X12_tapeEnds : mF me_X12_tapeEnds 1 := ⟨by decide +kernel, fun h => absurd h (by decide), w_1699, w_71, by decide, by decide, by decide +kernel⟩
theorem mf_X12_turnedOf : mF me_X12_turnedOf 1 := ⟨by decide +kernel, fun h => absurd h (by decide), w_1833, w_71, by decide, by decide, by decide +kernel⟩
theorem mf_X12_takes : mF me_X12_takes 1 := ⟨by decide +kernel, fun h => absurd h (by decide), w_1830, w_71, by decide, by decide, by decide +kernel⟩
theorem mf_X12_printOf : mF me_X12_printOf 3 := ⟨by decide +kernel, fun h => absurd h (by decide), w_1837, w_71, by decide, by decide, by decide +kernel⟩
theorem mf_X12_wordsOn : mF me_X12_wordsOn 1 := ⟨by decide +kernel, fun h => absurd h (by decide), w_1766, w_71, by decide, by decide, by decide +kernel⟩
theorem mf_X12_lastWord : mF me_X12_lastWord 2 := ⟨by decide +kernel, fun h => absurd h (by decide), w_2040, w_71, by decide, by decide, by decide +kernel⟩
theorem mf_X12_spellingOf : mF me_X12_spellingOf 1 := ⟨by decide +kernel, fun h => absurd h (by decide), w_1714, w_71, by decide, by decide, by decide +kernel⟩
theorem mf_X12_stateMany : mF me_X12_stateMany 1 := ⟨by decide +kernel, fun h => absurd h (by decide), w_1912, w_71, by decide, by decide, by decide +kernel⟩
theorem mf_X12_formsIn : mF me_X12_formsIn 3 := ⟨by decide +kernel, fun h => absurd h (by decide), w_1857, w_71, by decide, by decide, by decide +kernel⟩
theorem mf_X12_looseIn : mF me_X12_looseIn 2 := ⟨by decide +kernel, fun h => absurd h (by decide), w_2024, w_71, by decide, by decide, by decide +kernel⟩
theorem mf_X12_isUnlike : mF me_X12_isUnlike 2 := ⟨by decide +kernel, fun h => absurd h (by decide), w_2020, w_71, by decide, by decide, by decide +kernel⟩
theorem mf_X12_findUnlike : mF me_X12_findUnlike 1 := ⟨by decide +kernel, fun h => absurd h (by decide), w_2016, w_71, by decide, by decide, by decide +kernel⟩
theorem mf_X12_canPart : mF me_X12_canPart 1 := ⟨by decide +kernel, fun h => absurd h (by decide), w_2028, w_71, by decide, by decide, by decide +kernel⟩
theorem mf_X12_isWhole : mF me_X12_isWhole 2 := ⟨by decide +kernel, fun h => absurd h (by decide), w_1873, w_71, by decide, by decide, by decide +kernel⟩
theorem mf_X12_isUsed : mF me_X12_isUsed 1 := ⟨by decide +kernel, fun h => absurd h (by decide), w_1877, w_71, by decide, by decide, by decide +kernel⟩
theorem mf_X12_ordersOf : mF me_X12_ordersOf 1 := ⟨by decide +kernel, fun h => absurd h (by decide), w_1995, w_71, by decide, by decide, by decide +kernel⟩
theorem mf_X12_orders : mF me_X12_orders 1 := ⟨by decide +kernel, fun h => absurd h (by decide), w_1991, w_71, by decide, by decide, by decide +kernel⟩
theorem mf_X12_placeInForme : mF me_X12_placeInForme 2 := ⟨by decide +kernel, fun h => absurd h (by decide), w_1849, w_71, by decide, by decide, by decide +kernel⟩
theorem mf_X12_keeps : mF me_X12_keeps 2 := ⟨by decide +kernel, fun h => absurd h (by decide), w_1900, w_71, by decide, by decide, by decide +kernel⟩
theorem mf_X12_isHoliday : mF me_X12_isHoliday 1 := ⟨by decide +kernel, fun h => absurd h (by decide), w_1892, w_71, by decide, by decide, by decide +kernel⟩
theorem mf_X12_works : mF me_X12_works 1 := ⟨by decide +kernel, fun h => absurd h (by decide), w_1896, w_71, by decide, by decide, by decide +kernel⟩
theorem mf_X12_letter : mF me_X12_letter 2 := ⟨by decide +kernel, fun h => absurd h (by decide), w_1821, w_71, by decide, by decide, by decide +kernel⟩
theorem mf_X12_fills : mF me_X12_fills 4 := ⟨by decide +kernel, fun h => absurd h (by decide), w_1826, w_71, by decide, by decide, by decide +kernel⟩
theorem mf_X12_formOf : mF me_X12_formOf 4 := ⟨by decide +kernel, fun h => absurd h (by decide), w_1806, w_71, by decide, by decide, by decide +kernel⟩
theorem mf_X12_sameBehind : mF me_X12_sameBehind 3 := ⟨by decide +kernel, fun h => absurd h (by decide), w_1810, w_71, by decide, by decide, by decide +kernel⟩
theorem mf_X12_hasPart : mF me_X12_hasPart 2 := ⟨by decide +kernel, fun h => absurd h (by decide), w_1790, w_71, by decide, by decide, by decide +kernel⟩
theorem mf_X12_partFrom : mF me_X12_partFrom 2 := ⟨by decide +kernel, fun h => absurd h (by decide), w_1794, w_71, by decide, by decide, by decide +kernel⟩
theorem mf_X12_partTo : mF me_X12_partTo 2 := ⟨by decide +kernel, fun h => absurd h (by decide), w_1798, w_71, by decide, by decide, by decide +kernel⟩
theorem mf_X12_laysLines : mF me_X12_laysLines 6 := ⟨by decide +kernel, fun h => absurd h (by decide), w_1802, w_71, by decide, by decide, by decide +kernel⟩
theorem mf_X12_fillsOut : mF me_X12_fillsOut 3 := ⟨by decide +kernel, fun h => absurd h (by decide), w_1814, w_71, by decide, by decide, by decide +kernel⟩
theorem mf_X12_fillsPlaces : mF me_X12_fillsPlaces 3 := ⟨by decide +kernel, fun h => absurd h (by decide), w_1818, w_71, by decide, by decide, by decide +kernel⟩
theorem mf_X12_isSpelling : mF me_X12_isSpelling 0 := ⟨by decide +kernel, fun h => absurd h (by decide), w_1691, w_71, by decide, by decide, by decide +kernel⟩
theorem mf_X11_init : mF me_X11_init 0 := ⟨by decide +kernel, fun _ => rfl, w_92, w_66, by decide, by decide, by decide +kernel⟩
theorem mf_X12_init : mF me_X12_init 0 := ⟨by decide +kernel, fun _ => rfl, w_1407, w_71, by decide, by decide, by decide +kernel⟩
theorem mf_L_type : mF me_L_type 4 := ⟨by decide +kernel, fun h => absurd h (by decide), w_277, w_65, by decide, by decide, by decide +kernel⟩
theorem mf_X12_type : mF me_X12_type 2 := ⟨by decide +kernel, fun h => absurd h (by decide), w_1663, w_71, by decide, by decide, by decide +kernel⟩
theorem mf_X12_thrown : mF me_X12_thrown 0 := ⟨by decide +kernel, fun h => absurd h (by decide), w_1659, w_71, by decide, by decide, by decide +kernel⟩
theorem mf_X11_wipe : mF me_X11_wipe 0 := ⟨by decide +kernel, fun h => absurd h (by decide), w_259, w_66, by decide, by decide, by decide +kernel⟩
theorem mf_X12_wipe : mF me_X12_wipe 0 := ⟨by decide +kernel, fun h => absurd h (by decide), w_1675, w_71, by decide, by decide, by decide +kernel⟩
theorem mf_X11_fault : mF me_X11_fault 0 := ⟨by decide +kernel, fun h => absurd h (by decide), w_263, w_66, by decide, by decide, by decide +kernel⟩
theorem mf_X12_fault : mF me_X12_fault 0 := ⟨by decide +kernel, fun h => absurd h (by decide), w_1679, w_71, by decide, by decide, by decide +kernel⟩
theorem mf_L_spelling : mF me_L_spelling 2 := ⟨by decide +kernel, fun h => absurd h (by decide), w_388, w_65, by decide, by decide, by decide +kernel⟩
theorem mf_X12_spelling : mF me_X12_spelling 0 := ⟨by decide +kernel, fun h => absurd h (by decide), w_1687, w_71, by decide, by decide, by decide +kernel⟩
theorem mf_L_cast : mF me_L_cast 4 := ⟨by decide +kernel, fun h => absurd h (by decide), w_423, w_65, by decide, by decide, by decide +kernel⟩
theorem mf_X12_cast : mF me_X12_cast 2 := ⟨by decide +kernel, fun h => absurd h (by decide), w_1718, w_71, by decide, by decide, by decide +kernel⟩
theorem mf_L_wear : mF me_L_wear 3 := ⟨by decide +kernel, fun h => absurd h (by decide), w_441, w_65, by decide, by decide, by decide +kernel⟩
theorem mf_X12_wear : mF me_X12_wear 1 := ⟨by decide +kernel, fun h => absurd h (by decide), w_1726, w_71, by decide, by decide, by decide +kernel⟩
theorem mf_L_piece : mF me_L_piece 4 := ⟨by decide +kernel, fun h => absurd h (by decide), w_472, w_65, by decide, by decide, by decide +kernel⟩
theorem mf_X12_piece : mF me_X12_piece 2 := ⟨by decide +kernel, fun h => absurd h (by decide), w_1730, w_71, by decide, by decide, by decide +kernel⟩
theorem mf_L_box : mF me_L_box 4 := ⟨by decide +kernel, fun h => absurd h (by decide), w_479, w_65, by decide, by decide, by decide +kernel⟩
theorem mf_X12_box : mF me_X12_box 2 := ⟨by decide +kernel, fun h => absurd h (by decide), w_1734, w_71, by decide, by decide, by decide +kernel⟩
theorem mf_L_hand : mF me_L_hand 5 := ⟨by decide +kernel, fun h => absurd h (by decide), w_490, w_65, by decide, by decide, by decide +kernel⟩
theorem mf_X12_hand : mF me_X12_hand 3 := ⟨by decide +kernel, fun h => absurd h (by decide), w_1738, w_71, by decide, by decide, by decide +kernel⟩
theorem mf_L_book : mF me_L_book 7 := ⟨by decide +kernel, fun h => absurd h (by decide), w_523, w_65, by decide, by decide, by decide +kernel⟩
theorem mf_X12_book : mF me_X12_book 5 := ⟨by decide +kernel, fun h => absurd h (by decide), w_1742, w_71, by decide, by decide, by decide +kernel⟩
theorem mf_L_copy : mF me_L_copy 3 := ⟨by decide +kernel, fun h => absurd h (by decide), w_809, w_65, by decide, by decide, by decide +kernel⟩
theorem mf_X12_copy : mF me_X12_copy 1 := ⟨by decide +kernel, fun h => absurd h (by decide), w_1746, w_71, by decide, by decide, by decide +kernel⟩
theorem mf_L_follow : mF me_L_follow 4 := ⟨by decide +kernel, fun h => absurd h (by decide), w_836, w_65, by decide, by decide, by decide +kernel⟩
theorem mf_X12_follow : mF me_X12_follow 2 := ⟨by decide +kernel, fun h => absurd h (by decide), w_1762, w_71, by decide, by decide, by decide +kernel⟩
theorem mf_L_castOff : mF me_L_castOff 4 := ⟨by decide +kernel, fun h => absurd h (by decide), w_860, w_65, by decide, by decide, by decide +kernel⟩
theorem mf_X12_castOff : mF me_X12_castOff 2 := ⟨by decide +kernel, fun h => absurd h (by decide), w_1770, w_71, by decide, by decide, by decide +kernel⟩
theorem mf_L_set : mF me_L_set 5 := ⟨by decide +kernel, fun h => absurd h (by decide), w_879, w_65, by decide, by decide, by decide +kernel⟩
theorem mf_X12_set : mF me_X12_set 3 := ⟨by decide +kernel, fun h => absurd h (by decide), w_1778, w_71, by decide, by decide, by decide +kernel⟩
theorem mf_L_page : mF me_L_page 5 := ⟨by decide +kernel, fun h => absurd h (by decide), w_975, w_65, by decide, by decide, by decide +kernel⟩
theorem mf_X12_page : mF me_X12_page 3 := ⟨by decide +kernel, fun h => absurd h (by decide), w_1841, w_71, by decide, by decide, by decide +kernel⟩
theorem mf_L_line : mF me_L_line 6 := ⟨by decide +kernel, fun h => absurd h (by decide), w_996, w_65, by decide, by decide, by decide +kernel⟩
theorem mf_X12_line : mF me_X12_line 4 := ⟨by decide +kernel, fun h => absurd h (by decide), w_1853, w_71, by decide, by decide, by decide +kernel⟩
theorem mf_L_place : mF me_L_place 6 := ⟨by decide +kernel, fun h => absurd h (by decide), w_1013, w_65, by decide, by decide, by decide +kernel⟩
theorem mf_X12_place : mF me_X12_place 4 := ⟨by decide +kernel, fun h => absurd h (by decide), w_1861, w_71, by decide, by decide, by decide +kernel⟩
theorem mf_L_lock : mF me_L_lock 4 := ⟨by decide +kernel, fun h => absurd h (by decide), w_1020, w_65, by decide, by decide, by decide +kernel⟩
theorem mf_X12_lock : mF me_X12_lock 3 := ⟨by decide +kernel, fun h => absurd h (by decide), w_1865, w_71, by decide, by decide, by decide +kernel⟩
theorem mf_L_print : mF me_L_print 4 := ⟨by decide +kernel, fun h => absurd h (by decide), w_1048, w_65, by decide, by decide, by decide +kernel⟩
theorem mf_X12_print : mF me_X12_print 3 := ⟨by decide +kernel, fun h => absurd h (by decide), w_1881, w_71, by decide, by decide, by decide +kernel⟩
theorem mf_L_men : mF me_L_men 4 := ⟨by decide +kernel, fun h => absurd h (by decide), w_1072, w_65, by decide, by decide, by decide +kernel⟩
theorem mf_X12_men : mF me_X12_men 2 := ⟨by decide +kernel, fun h => absurd h (by decide), w_1885, w_71, by decide, by decide, by decide +kernel⟩
theorem mf_L_pass : mF me_L_pass 3 := ⟨by decide +kernel, fun h => absurd h (by decide), w_1079, w_65, by decide, by decide, by decide +kernel⟩
theorem mf_X12_pass : mF me_X12_pass 1 := ⟨by decide +kernel, fun h => absurd h (by decide), w_1889, w_71, by decide, by decide, by decide +kernel⟩
theorem mf_X11_hour : mF me_X11_hour 0 := ⟨by decide +kernel, fun h => absurd h (by decide), w_274, w_66, by decide, by decide, by decide +kernel⟩
theorem mf_X12_hour : mF me_X12_hour 0 := ⟨by decide +kernel, fun h => absurd h (by decide), w_1904, w_71, by decide, by decide, by decide +kernel⟩
theorem mf_L_forme : mF me_L_forme 5 := ⟨by decide +kernel, fun h => absurd h (by decide), w_1104, w_65, by decide, by decide, by decide +kernel⟩
theorem mf_X12_forme : mF me_X12_forme 3 := ⟨by decide +kernel, fun h => absurd h (by decide), w_1908, w_71, by decide, by decide, by decide +kernel⟩
theorem mf_L_correct : mF me_L_correct 5 := ⟨by decide +kernel, fun h => absurd h (by decide), w_1111, w_65, by decide, by decide, by decide +kernel⟩
theorem mf_X12_correct : mF me_X12_correct 3 := ⟨by decide +kernel, fun h => absurd h (by decide), w_1916, w_71, by decide, by decide, by decide +kernel⟩
theorem mf_L_putAway : mF me_L_putAway 5 := ⟨by decide +kernel, fun h => absurd h (by decide), w_1134, w_65, by decide, by decide, by decide +kernel⟩
theorem mf_X12_putAway : mF me_X12_putAway 3 := ⟨by decide +kernel, fun h => absurd h (by decide), w_1920, w_71, by decide, by decide, by decide +kernel⟩
theorem mf_L_paper : mF me_L_paper 3 := ⟨by decide +kernel, fun h => absurd h (by decide), w_1149, w_65, by decide, by decide, by decide +kernel⟩
theorem mf_X12_paper : mF me_X12_paper 1 := ⟨by decide +kernel, fun h => absurd h (by decide), w_1924, w_71, by decide, by decide, by decide +kernel⟩
theorem mf_L_lay : mF me_L_lay 4 := ⟨by decide +kernel, fun h => absurd h (by decide), w_1156, w_65, by decide, by decide, by decide +kernel⟩
theorem mf_X12_lay : mF me_X12_lay 3 := ⟨by decide +kernel, fun h => absurd h (by decide), w_1928, w_71, by decide, by decide, by decide +kernel⟩
theorem mf_L_bind : mF me_L_bind 3 := ⟨by decide +kernel, fun h => absurd h (by decide), w_1163, w_65, by decide, by decide, by decide +kernel⟩
theorem mf_X12_bind : mF me_X12_bind 1 := ⟨by decide +kernel, fun h => absurd h (by decide), w_1932, w_71, by decide, by decide, by decide +kernel⟩
theorem mf_L_exchange : mF me_L_exchange 5 := ⟨by decide +kernel, fun h => absurd h (by decide), w_1182, w_65, by decide, by decide, by decide +kernel⟩
theorem mf_X12_exchange : mF me_X12_exchange 4 := ⟨by decide +kernel, fun h => absurd h (by decide), w_1939, w_71, by decide, by decide, by decide +kernel⟩
theorem mf_L_cancel : mF me_L_cancel 5 := ⟨by decide +kernel, fun h => absurd h (by decide), w_1197, w_65, by decide, by decide, by decide +kernel⟩
theorem mf_X12_cancel : mF me_X12_cancel 3 := ⟨by decide +kernel, fun h => absurd h (by decide), w_1951, w_71, by decide, by decide, by decide +kernel⟩
theorem mf_L_state : mF me_L_state 5 := ⟨by decide +kernel, fun h => absurd h (by decide), w_1204, w_65, by decide, by decide, by decide +kernel⟩
theorem mf_X12_state : mF me_X12_state 3 := ⟨by decide +kernel, fun h => absurd h (by decide), w_1955, w_71, by decide, by decide, by decide +kernel⟩
theorem mf_L_mark : mF me_L_mark 5 := ⟨by decide +kernel, fun h => absurd h (by decide), w_1223, w_65, by decide, by decide, by decide +kernel⟩
theorem mf_X12_mark : mF me_X12_mark 3 := ⟨by decide +kernel, fun h => absurd h (by decide), w_1963, w_71, by decide, by decide, by decide +kernel⟩
theorem mf_L_character : mF me_L_character 7 := ⟨by decide +kernel, fun h => absurd h (by decide), w_1234, w_65, by decide, by decide, by decide +kernel⟩
theorem mf_X12_character : mF me_X12_character 5 := ⟨by decide +kernel, fun h => absurd h (by decide), w_1967, w_71, by decide, by decide, by decide +kernel⟩
theorem mf_L_alike : mF me_L_alike 4 := ⟨by decide +kernel, fun h => absurd h (by decide), w_1252, w_65, by decide, by decide, by decide +kernel⟩
theorem mf_X12_alike : mF me_X12_alike 2 := ⟨by decide +kernel, fun h => absurd h (by decide), w_1975, w_71, by decide, by decide, by decide +kernel⟩
theorem mf_L_madeUp : mF me_L_madeUp 4 := ⟨by decide +kernel, fun h => absurd h (by decide), w_1264, w_65, by decide, by decide, by decide +kernel⟩
theorem mf_X12_madeUp : mF me_X12_madeUp 2 := ⟨by decide +kernel, fun h => absurd h (by decide), w_1979, w_71, by decide, by decide, by decide +kernel⟩
theorem mf_L_shared : mF me_L_shared 5 := ⟨by decide +kernel, fun h => absurd h (by decide), w_1275, w_65, by decide, by decide, by decide +kernel⟩
theorem mf_X12_shared : mF me_X12_shared 3 := ⟨by decide +kernel, fun h => absurd h (by decide), w_1983, w_71, by decide, by decide, by decide +kernel⟩
theorem mf_L_orders : mF me_L_orders 3 := ⟨by decide +kernel, fun h => absurd h (by decide), w_1282, w_65, by decide, by decide, by decide +kernel⟩
theorem mf_L_ordersAnew : mF me_L_ordersAnew 3 := ⟨by decide +kernel, fun h => absurd h (by decide), w_1301, w_65, by decide, by decide, by decide +kernel⟩
theorem mf_X12_ordersAnew : mF me_X12_ordersAnew 1 := ⟨by decide +kernel, fun h => absurd h (by decide), w_2003, w_71, by decide, by decide, by decide +kernel⟩
theorem mf_L_ahead : mF me_L_ahead 5 := ⟨by decide +kernel, fun h => absurd h (by decide), w_1312, w_65, by decide, by decide, by decide +kernel⟩
theorem mf_X12_ahead : mF me_X12_ahead 3 := ⟨by decide +kernel, fun h => absurd h (by decide), w_2008, w_71, by decide, by decide, by decide +kernel⟩
theorem mf_L_hands : mF me_L_hands 3 := ⟨by decide +kernel, fun h => absurd h (by decide), w_1323, w_65, by decide, by decide, by decide +kernel⟩
theorem mf_X12_hands : mF me_X12_hands 1 := ⟨by decide +kernel, fun h => absurd h (by decide), w_2012, w_71, by decide, by decide, by decide +kernel⟩
theorem mf_L_presses : mF me_L_presses 3 := ⟨by decide +kernel, fun h => absurd h (by decide), w_1362, w_65, by decide, by decide, by decide +kernel⟩
theorem mf_X12_presses : mF me_X12_presses 1 := ⟨by decide +kernel, fun h => absurd h (by decide), w_2032, w_71, by decide, by decide, by decide +kernel⟩
theorem mf_L_follows : mF me_L_follows 4 := ⟨by decide +kernel, fun h => absurd h (by decide), w_1378, w_65, by decide, by decide, by decide +kernel⟩
theorem mf_X12_follows : mF me_X12_follows 2 := ⟨by decide +kernel, fun h => absurd h (by decide), w_2036, w_71, by decide, by decide, by decide +kernel⟩
theorem mf_L_account : mF me_L_account 4 := ⟨by decide +kernel, fun h => absurd h (by decide), w_1398, w_65, by decide, by decide, by decide +kernel⟩
theorem mf_X12_account : mF me_X12_account 2 := ⟨by decide +kernel, fun h => absurd h (by decide), w_2044, w_71, by decide, by decide, by decide +kernel⟩
theorem k_X11_requireArgument : SF me_X11_requireArgument 1 := ⟨mf_X11_requireArgument, rfl, w_285⟩
theorem k_X11_handAt : VF me_X11_handAt 1 11 := ⟨mf_X11_handAt, rfl, w_894, w_3, b8 rfl, rfl⟩
theorem k_X11_pressAt : VF me_X11_pressAt 1 11 := ⟨mf_X11_pressAt, rfl, w_1055, w_12, b8 rfl, rfl⟩
theorem k_X11_requireIndex : SF me_X11_requireIndex 1 := ⟨mf_X11_requireIndex, rfl, w_452⟩
theorem k_X11_account : VF me_X11_account 2 11 := ⟨mf_X11_account, rfl, w_1400, w_1401, b8 rfl, rfl⟩
theorem k_X7_readPiece : VF me_X7_readPiece 2 7 := ⟨mf_X7_readPiece, rfl, w_1293, w_14, b8 rfl, rfl⟩
theorem k_X11_bookAt : VF me_X11_bookAt 1 11 := ⟨mf_X11_bookAt, rfl, w_816, w_2, b8 rfl, rfl⟩
theorem k_X0_hasForme : VF me_X0_hasForme 1 0 := ⟨mf_X0_hasForme, rfl, w_1029, w_1030, b8 rfl, rfl⟩
theorem k_X7_readFormes : VF me_X7_readFormes 2 7 := ⟨mf_X7_readFormes, rfl, w_1288, w_1289, b8 rfl, rfl⟩
theorem k_X7_allAheadOf : VF me_X7_allAheadOf 2 7 := ⟨mf_X7_allAheadOf, rfl, w_1318, w_1319, b8 rfl, rfl⟩
theorem k_X11_ahead : VF me_X11_ahead 3 11 := ⟨mf_X11_ahead, rfl, w_1314, w_1315, b8 rfl, rfl⟩
theorem k_X0_formeOfPage : SF me_X0_formeOfPage 2 := ⟨mf_X0_formeOfPage, rfl, w_669⟩
theorem k_X2_stateOf : VF me_X2_stateOf 1 2 := ⟨mf_X2_stateOf, rfl, w_1218, w_1219, b8 rfl, rfl⟩
theorem k_X0_formeNumber : VF me_X0_formeNumber 1 0 := ⟨mf_X0_formeNumber, rfl, w_981, w_982, b8 rfl, rfl⟩
theorem k_X8_stateOn : VF me_X8_stateOn 2 8 := ⟨mf_X8_stateOn, rfl, w_1214, w_1215, b8 rfl, rfl⟩
theorem k_X0_stateIn : VF me_X0_stateIn 2 0 := ⟨mf_X0_stateIn, rfl, w_1210, w_1211, b8 rfl, rfl⟩
theorem k_X0_hasCopy : VF me_X0_hasCopy 1 0 := ⟨mf_X0_hasCopy, rfl, w_1188, w_1189, b8 rfl, rfl⟩
theorem k_X11_requireState : SF me_X11_requireState 1 := ⟨mf_X11_requireState, rfl, w_364⟩
theorem k_X0_hasSameStates : VF me_X0_hasSameStates 2 0 := ⟨mf_X0_hasSameStates, rfl, w_1258, w_1259, b8 rfl, rfl⟩
theorem k_X11_alike : VF me_X11_alike 2 11 := ⟨mf_X11_alike, rfl, w_1254, w_1255, b8 rfl, rfl⟩
theorem k_X2_wasDone : VF me_X2_wasDone 0 2 := ⟨mf_X2_wasDone, rfl, w_1173, w_1174, b8 rfl, rfl⟩
theorem k_X0_isPrinted : VF me_X0_isPrinted 0 0 := ⟨mf_X0_isPrinted, rfl, w_1169, w_1170, b8 rfl, rfl⟩
theorem k_X0_gather : VF me_X0_gather 0 0 := ⟨mf_X0_gather, rfl, w_1177, w_1178, b8 rfl, rfl⟩
theorem k_X11_bind : VF me_X11_bind 1 11 := ⟨mf_X11_bind, rfl, w_1165, w_1166, b8 rfl, rfl⟩
theorem k_X0_placeInForme : SF me_X0_placeInForme 2 := ⟨mf_X0_placeInForme, rfl, w_672⟩
theorem k_X5_init : IF me_X5_init 2 := ⟨mf_X5_init, rfl, rfl, rfl, w_574⟩
theorem k_X9_init : IF me_X9_init 0 := ⟨mf_X9_init, rfl, rfl, rfl, w_536⟩
theorem ne_4 : ("Leadchapel$Book", 11, (⟨"Leadchapel$Text", "<init>", "()V"⟩ : MethodName), "Leadchapel") ∈ nestL := List.mem_of_getElem? (i := 4) rfl
theorem k_X4_init : IF me_X4_init 3 := ⟨mf_X4_init, rfl, rfl, rfl, w_568⟩
theorem k_X0_pagesOf : SF me_X0_pagesOf 3 := ⟨mf_X0_pagesOf, rfl, w_666⟩
theorem k_X2_init : IF me_X2_init 2 := ⟨mf_X2_init, rfl, rfl, rfl, w_675⟩
theorem k_X8_init : IF me_X8_init 2 := ⟨mf_X8_init, rfl, rfl, rfl, w_733⟩
theorem k_X0_init : IF me_X0_init 5 := ⟨mf_X0_init, rfl, rfl, rfl, w_530⟩
theorem k_X11_book : VF me_X11_book 5 11 := ⟨mf_X11_book, rfl, w_525, w_526, b8 rfl, rfl⟩
theorem k_X11_isSort : SF me_X11_isSort 1 := ⟨mf_X11_isSort, rfl, w_429⟩
theorem k_X1_pieceUnder : VF me_X1_pieceUnder 2 1 := ⟨mf_X1_pieceUnder, rfl, w_485, w_486, b8 rfl, rfl⟩
theorem k_X11_box : VF me_X11_box 2 11 := ⟨mf_X11_box, rfl, w_481, w_482, b8 rfl, rfl⟩
theorem k_X0_hasLeaf : VF me_X0_hasLeaf 1 0 := ⟨mf_X0_hasLeaf, rfl, w_1192, w_1193, b8 rfl, rfl⟩
theorem k_X11_cancel : VF me_X11_cancel 3 11 := ⟨mf_X11_cancel, rfl, w_1199, w_1200, b8 rfl, rfl⟩
theorem k_X1_putOn : VF me_X1_putOn 2 1 := ⟨mf_X1_putOn, rfl, w_436, w_437, b8 rfl, rfl⟩
theorem k_X1_add : VF me_X1_add 1 1 := ⟨mf_X1_add, rfl, w_432, w_433, b8 rfl, rfl⟩
theorem k_X11_cast : VF me_X11_cast 2 11 := ⟨mf_X11_cast, rfl, w_425, w_426, b8 rfl, rfl⟩
theorem k_X4_isSet : VF me_X4_isSet 0 4 := ⟨mf_X4_isSet, rfl, w_826, w_827, b8 rfl, rfl⟩
theorem k_X11_letterAt : SF me_X11_letterAt 2 := ⟨mf_X11_letterAt, rfl, w_356⟩
theorem k_X11_letters : SF me_X11_letters 1 := ⟨mf_X11_letters, rfl, w_407⟩
theorem ne_5 : ("Leadchapel$Book", 110, (⟨"Leadchapel", "letters", "(J)I"⟩ : MethodName), "Leadchapel") ∈ nestL := List.mem_of_getElem? (i := 5) rfl
theorem k_X0_hasSetPage : VF me_X0_hasSetPage 0 0 := ⟨mf_X0_hasSetPage, rfl, w_822, w_823, b8 rfl, rfl⟩
theorem k_X0_partByUnits : VF me_X0_partByUnits 1 0 := ⟨mf_X0_partByUnits, rfl, w_866, w_867, b8 rfl, rfl⟩
theorem k_X0_firstWordOfPart : VF me_X0_firstWordOfPart 1 0 := ⟨mf_X0_firstWordOfPart, rfl, w_874, w_875, b8 rfl, rfl⟩
theorem k_X11_castOff : VF me_X11_castOff 2 11 := ⟨mf_X11_castOff, rfl, w_862, w_863, b8 rfl, rfl⟩
theorem k_X4_wordBehindLine : VF me_X4_wordBehindLine 1 4 := ⟨mf_X4_wordBehindLine, rfl, w_850, w_851, b8 rfl, rfl⟩
theorem k_X5_printed : VF me_X5_printed 2 5 := ⟨mf_X5_printed, rfl, w_1244, w_1245, b8 rfl, rfl⟩
theorem k_X4_signOf : SF me_X4_signOf 2 := ⟨mf_X4_signOf, rfl, w_1248⟩
theorem k_X0_hasPage : VF me_X0_hasPage 1 0 := ⟨mf_X0_hasPage, rfl, w_888, w_889, b8 rfl, rfl⟩
theorem k_X4_printedSign : VF me_X4_printedSign 3 4 := ⟨mf_X4_printedSign, rfl, w_1240, w_1241, b8 rfl, rfl⟩
theorem k_X11_character : VF me_X11_character 5 11 := ⟨mf_X11_character, rfl, w_1236, w_1237, b8 rfl, rfl⟩
theorem k_X11_isLetter : SF me_X11_isLetter 1 := ⟨mf_X11_isLetter, rfl, w_269⟩
theorem ne_3 : ("Leadchapel$Words", 33, (⟨"Leadchapel", "isLetter", "(I)Z"⟩ : MethodName), "Leadchapel") ∈ nestL := List.mem_of_getElem? (i := 3) rfl
theorem k_X10_faultPlace : VF me_X10_faultPlace 0 10 := ⟨mf_X10_faultPlace, rfl, w_265, w_266, b8 rfl, rfl⟩
theorem k_X10_spellingOf : VF me_X10_spellingOf 1 10 := ⟨mf_X10_spellingOf, rfl, w_410, w_411, b8 rfl, rfl⟩
theorem k_X10_isText : VF me_X10_isText 0 10 := ⟨mf_X10_isText, rfl, w_398, w_399, b8 rfl, rfl⟩
theorem k_X10_splitText : VF me_X10_splitText 0 10 := ⟨mf_X10_splitText, rfl, w_403, w_404, b8 rfl, rfl⟩
theorem k_X9_add : VF me_X9_add 3 9 := ⟨mf_X9_add, rfl, w_830, w_831, b8 rfl, rfl⟩
theorem k_X11_copy : VF me_X11_copy 1 11 := ⟨mf_X11_copy, rfl, w_811, w_812, b8 rfl, rfl⟩
theorem k_X5_beginState : VF me_X5_beginState 1 5 := ⟨mf_X5_beginState, rfl, w_1121, w_1122, b8 rfl, rfl⟩
theorem k_X1_take : VF me_X1_take 2 1 := ⟨mf_X1_take, rfl, w_967, w_968, b8 rfl, rfl⟩
theorem k_X11_pageOf : SF me_X11_pageOf 2 := ⟨mf_X11_pageOf, rfl, w_885⟩
theorem k_X2_beginStateIfPrinted : VF me_X2_beginStateIfPrinted 0 2 := ⟨mf_X2_beginStateIfPrinted, rfl, w_1117, w_1118, b8 rfl, rfl⟩
theorem k_X5_replace : VF me_X5_replace 4 5 := ⟨mf_X5_replace, rfl, w_1128, w_1129, b8 rfl, rfl⟩
theorem k_X11_correct : VF me_X11_correct 3 11 := ⟨mf_X11_correct, rfl, w_1113, w_1114, b8 rfl, rfl⟩
theorem k_X11_exchange : VF me_X11_exchange 4 11 := ⟨mf_X11_exchange, rfl, w_1184, w_1185, b8 rfl, rfl⟩
theorem k_X9_form : VF me_X9_form 2 9 := ⟨mf_X9_form, rfl, w_854, w_855, b8 rfl, rfl⟩
theorem k_X0_wordsOnPages : VF me_X0_wordsOnPages 0 0 := ⟨mf_X0_wordsOnPages, rfl, w_842, w_843, b8 rfl, rfl⟩
theorem k_X9_addPage : VF me_X9_addPage 3 9 := ⟨mf_X9_addPage, rfl, w_846, w_847, b8 rfl, rfl⟩
theorem k_X11_follow : VF me_X11_follow 2 11 := ⟨mf_X11_follow, rfl, w_838, w_839, b8 rfl, rfl⟩
theorem k_X4_lastWord : VF me_X4_lastWord 1 4 := ⟨mf_X4_lastWord, rfl, w_1003, w_1004, b8 rfl, rfl⟩
theorem k_X0_linesOnPages : VF me_X0_linesOnPages 0 0 := ⟨mf_X0_linesOnPages, rfl, w_1384, w_1385, b8 rfl, rfl⟩
theorem k_X0_lastWordOfLine : VF me_X0_lastWordOfLine 1 0 := ⟨mf_X0_lastWordOfLine, rfl, w_1388, w_1389, b8 rfl, rfl⟩
theorem k_X9_isLike : VF me_X9_isLike 3 9 := ⟨mf_X9_isLike, rfl, w_1393, w_1394, b8 rfl, rfl⟩
theorem k_X11_follows : VF me_X11_follows 2 11 := ⟨mf_X11_follows, rfl, w_1380, w_1381, b8 rfl, rfl⟩
theorem k_X11_formeOf : SF me_X11_formeOf 2 := ⟨mf_X11_formeOf, rfl, w_1026⟩
theorem k_X11_forme : VF me_X11_forme 3 11 := ⟨mf_X11_forme, rfl, w_1106, w_1107, b8 rfl, rfl⟩
theorem k_X3_init : IF me_X3_init 3 := ⟨mf_X3_init, rfl, rfl, rfl, w_497⟩
theorem k_X11_hand : VF me_X11_hand 3 11 := ⟨mf_X11_hand, rfl, w_492, w_493, b8 rfl, rfl⟩
theorem mg_X7_canPart (d : Nat) : mF (me_X7_canPart d) 5 := mf_X7_canPart
theorem kk_X7_canPart (d : Nat) : SF (me_X7_canPart d) 5 := ⟨mg_X7_canPart d, rfl, w_1357⟩
theorem fr_X7_canPart (d : Nat) : FR (me_X7_canPart (d + 1)) (me_X7_canPart d) = true := by
  unfold FR
  rw [Bool.and_eq_true]
  exact ⟨Nat.ble_eq_true_of_le (by show d + 1 + 1 ≤ d + 1 + 1; omega), Nat.ble_eq_true_of_le (by show 8 + (7 + 11) + (26 * d + 21) ≤ 26 * (d + 1) + 21; omega)⟩
theorem k_X4_isLoose : VF me_X4_isLoose 1 4 := ⟨mf_X4_isLoose, rfl, w_1342, w_1343, b8 rfl, rfl⟩
theorem k_X4_spellingsOf : VF me_X4_spellingsOf 3 4 := ⟨mf_X4_spellingsOf, rfl, w_1008, w_1009, b8 rfl, rfl⟩
theorem k_X4_looseSpellings : VF me_X4_looseSpellings 2 4 := ⟨mf_X4_looseSpellings, rfl, w_1338, w_1339, b8 rfl, rfl⟩
theorem k_J_bitCount : SF me_J_bitCount 1 := ⟨mf_J_bitCount, rfl, w_1351⟩
theorem k_X7_readPages : VF me_X7_readPages 1 7 := ⟨mf_X7_readPages, rfl, w_1334, w_15, b8 rfl, rfl⟩
theorem k_X7_tightPages : VF me_X7_tightPages 2 7 := ⟨mf_X7_tightPages, rfl, w_1348, w_16, b8 rfl, rfl⟩
theorem k_X7_fewestHands : VF me_X7_fewestHands 1 7 := ⟨mf_X7_fewestHands, rfl, w_1329, w_1330, b8 rfl, rfl⟩
theorem k_X11_hands : VF me_X11_hands 1 11 := ⟨mf_X11_hands, rfl, w_1325, w_1326, b8 rfl, rfl⟩
theorem k_X11_lay : VF me_X11_lay 3 11 := ⟨mf_X11_lay, rfl, w_1158, w_1159, b8 rfl, rfl⟩
theorem k_X11_line : VF me_X11_line 4 11 := ⟨mf_X11_line, rfl, w_998, w_999, b8 rfl, rfl⟩
theorem k_X0_holdsSkeleton : VF me_X0_holdsSkeleton 1 0 := ⟨mf_X0_holdsSkeleton, rfl, w_1043, w_1044, b8 rfl, rfl⟩
theorem k_X2_allPagesSet : VF me_X2_allPagesSet 0 2 := ⟨mf_X2_allPagesSet, rfl, w_1034, w_1035, b8 rfl, rfl⟩
theorem k_X11_isInUse : VF me_X11_isInUse 1 11 := ⟨mf_X11_isInUse, rfl, w_1040, w_11, b8 rfl, rfl⟩
theorem k_X11_lock : VF me_X11_lock 3 11 := ⟨mf_X11_lock, rfl, w_1022, w_1023, b8 rfl, rfl⟩
theorem k_X0_isMixed : VF me_X0_isMixed 2 0 := ⟨mf_X0_isMixed, rfl, w_1270, w_1271, b8 rfl, rfl⟩
theorem k_X11_madeUp : VF me_X11_madeUp 2 11 := ⟨mf_X11_madeUp, rfl, w_1266, w_1267, b8 rfl, rfl⟩
theorem k_X8_moldOf : VF me_X8_moldOf 1 8 := ⟨mf_X8_moldOf, rfl, w_1229, w_1230, b8 rfl, rfl⟩
theorem k_X11_mark : VF me_X11_mark 3 11 := ⟨mf_X11_mark, rfl, w_1225, w_1226, b8 rfl, rfl⟩
theorem k_X11_men : VF me_X11_men 2 11 := ⟨mf_X11_men, rfl, w_1074, w_1075, b8 rfl, rfl⟩
theorem k_X7_countByLast : VF me_X7_countByLast 1 7 := ⟨mf_X7_countByLast, rfl, w_1296, w_1297, b8 rfl, rfl⟩
theorem k_X11_orders : VF me_X11_orders 1 11 := ⟨mf_X11_orders, rfl, w_1284, w_1285, b8 rfl, rfl⟩
theorem k_X7_countByPlace : VF me_X7_countByPlace 1 7 := ⟨mf_X7_countByPlace, rfl, w_1307, w_1308, b8 rfl, rfl⟩
theorem k_X11_ordersAnew : VF me_X11_ordersAnew 1 11 := ⟨mf_X11_ordersAnew, rfl, w_1303, w_1304, b8 rfl, rfl⟩
theorem k_X4_told : VF me_X4_told 1 4 := ⟨mf_X4_told, rfl, w_990, w_991, b8 rfl, rfl⟩
theorem k_X0_runningTitle : VF me_X0_runningTitle 1 0 := ⟨mf_X0_runningTitle, rfl, w_985, w_986, b8 rfl, rfl⟩
theorem k_X11_page : VF me_X11_page 3 11 := ⟨mf_X11_page, rfl, w_977, w_978, b8 rfl, rfl⟩
theorem k_X11_paper : VF me_X11_paper 1 11 := ⟨mf_X11_paper, rfl, w_1151, w_1152, b8 rfl, rfl⟩
theorem k_X2_finish : VF me_X2_finish 2 2 := ⟨mf_X2_finish, rfl, w_1099, w_1100, b8 rfl, rfl⟩
theorem k_X11_isHoliday : SF me_X11_isHoliday 1 := ⟨mf_X11_isHoliday, rfl, w_1089⟩
theorem k_X6_work : VF me_X6_work 2 6 := ⟨mf_X6_work, rfl, w_1092, w_1093, b8 rfl, rfl⟩
theorem k_X11_workAnHour : VF me_X11_workAnHour 0 11 := ⟨mf_X11_workAnHour, rfl, w_1086, w_13, b8 rfl, rfl⟩
theorem k_X11_pass : VF me_X11_pass 1 11 := ⟨mf_X11_pass, rfl, w_1081, w_1082, b8 rfl, rfl⟩
theorem k_X1_has : VF me_X1_has 1 1 := ⟨mf_X1_has, rfl, w_448, w_449, b8 rfl, rfl⟩
theorem k_X11_piece : VF me_X11_piece 2 11 := ⟨mf_X11_piece, rfl, w_474, w_475, b8 rfl, rfl⟩
theorem k_X11_place : VF me_X11_place 4 11 := ⟨mf_X11_place, rfl, w_1015, w_1016, b8 rfl, rfl⟩
theorem k_X11_workingHoursAhead : SF me_X11_workingHoursAhead 1 := ⟨mf_X11_workingHoursAhead, rfl, w_1373⟩
theorem ne_9 : ("Leadchapel$Scholar", 110, (⟨"Leadchapel", "workingHoursAhead", "(I)I"⟩ : MethodName), "Leadchapel") ∈ nestL := List.mem_of_getElem? (i := 9) rfl
theorem k_X7_fewestPresses : SF me_X7_fewestPresses 1 := ⟨mf_X7_fewestPresses, rfl, w_1368⟩
theorem k_X11_presses : VF me_X11_presses 1 11 := ⟨mf_X11_presses, rfl, w_1364, w_1365, b8 rfl, rfl⟩
theorem k_X8_isOnPress : VF me_X8_isOnPress 0 8 := ⟨mf_X8_isOnPress, rfl, w_1059, w_1060, b8 rfl, rfl⟩
theorem k_X8_isWhite : VF me_X8_isWhite 0 8 := ⟨mf_X8_isWhite, rfl, w_1063, w_1064, b8 rfl, rfl⟩
theorem k_X8_takeHeap : VF me_X8_takeHeap 3 8 := ⟨mf_X8_takeHeap, rfl, w_1067, w_1068, b8 rfl, rfl⟩
theorem k_X11_print : VF me_X11_print 3 11 := ⟨mf_X11_print, rfl, w_1050, w_1051, b8 rfl, rfl⟩
theorem k_X3_boxForNext : VF me_X3_boxForNext 1 3 := ⟨mf_X3_boxForNext, rfl, w_1144, w_1145, b8 rfl, rfl⟩
theorem k_X5_clear : VF me_X5_clear 2 5 := ⟨mf_X5_clear, rfl, w_1140, w_1141, b8 rfl, rfl⟩
theorem k_X11_putAway : VF me_X11_putAway 3 11 := ⟨mf_X11_putAway, rfl, w_1136, w_1137, b8 rfl, rfl⟩
theorem ne_7 : ("Leadchapel$Text", 67, (⟨"Leadchapel", "letters", "(J)I"⟩ : MethodName), "Leadchapel") ∈ nestL := List.mem_of_getElem? (i := 7) rfl
theorem k_X9_growth : VF me_X9_growth 1 9 := ⟨mf_X9_growth, rfl, w_946, w_947, b8 rfl, rfl⟩
theorem k_X9_sameSoon : VF me_X9_sameSoon 2 9 := ⟨mf_X9_sameSoon, rfl, w_933, w_934, b8 rfl, rfl⟩
theorem k_X3_skipsNow : VF me_X3_skipsNow 0 3 := ⟨mf_X3_skipsNow, rfl, w_937, w_938, b8 rfl, rfl⟩
theorem k_X3_likesLong : VF me_X3_likesLong 1 3 := ⟨mf_X3_likesLong, rfl, w_919, w_920, b8 rfl, rfl⟩
theorem ne_6 : ("Leadchapel$Page", 120, (⟨"Leadchapel", "letters", "(J)I"⟩ : MethodName), "Leadchapel") ∈ nestL := List.mem_of_getElem? (i := 6) rfl
theorem k_X4_prefersLong : VF me_X4_prefersLong 4 4 := ⟨mf_X4_prefersLong, rfl, w_916, w_6, b8 rfl, rfl⟩
theorem k_X4_addWord : VF me_X4_addWord 2 4 := ⟨mf_X4_addWord, rfl, w_926, w_7, b8 rfl, rfl⟩
theorem k_X4_goOnBehind : VF me_X4_goOnBehind 3 4 := ⟨mf_X4_goOnBehind, rfl, w_930, w_8, b8 rfl, rfl⟩
theorem k_X4_takeLine : VF me_X4_takeLine 4 4 := ⟨mf_X4_takeLine, rfl, w_912, w_5, b8 rfl, rfl⟩
theorem k_X4_takeLines : VF me_X4_takeLines 4 4 := ⟨mf_X4_takeLines, rfl, w_908, w_4, b8 rfl, rfl⟩
theorem k_X4_fillOut : VF me_X4_fillOut 2 4 := ⟨mf_X4_fillOut, rfl, w_942, w_9, b8 rfl, rfl⟩
theorem k_X1_turnedBox : SF me_X1_turnedBox 1 := ⟨mf_X1_turnedBox, rfl, w_971⟩
theorem ne_8 : ("Leadchapel$Page", 155, (⟨"Leadchapel", "letterAt", "(JI)I"⟩ : MethodName), "Leadchapel") ∈ nestL := List.mem_of_getElem? (i := 8) rfl
theorem k_X4_joined : SF me_X4_joined 2 := ⟨mf_X4_joined, rfl, w_960⟩
theorem k_X5_fillNext : VF me_X5_fillNext 3 5 := ⟨mf_X5_fillNext, rfl, w_963, w_964, b8 rfl, rfl⟩
theorem k_X4_fillWord : VF me_X4_fillWord 3 4 := ⟨mf_X4_fillWord, rfl, w_956, w_10, b8 rfl, rfl⟩
theorem k_X0_wordBehindPart : VF me_X0_wordBehindPart 1 0 := ⟨mf_X0_wordBehindPart, rfl, w_899, w_900, b8 rfl, rfl⟩
theorem k_X4_compose : VF me_X4_compose 5 4 := ⟨mf_X4_compose, rfl, w_903, w_904, b8 rfl, rfl⟩
theorem k_X4_fillPlaces : VF me_X4_fillPlaces 3 4 := ⟨mf_X4_fillPlaces, rfl, w_951, w_952, b8 rfl, rfl⟩
theorem k_X11_set : VF me_X11_set 3 11 := ⟨mf_X11_set, rfl, w_881, w_882, b8 rfl, rfl⟩
theorem k_X11_shared : VF me_X11_shared 3 11 := ⟨mf_X11_shared, rfl, w_1277, w_1278, b8 rfl, rfl⟩
theorem k_X10_isPair : VF me_X10_isPair 0 10 := ⟨mf_X10_isPair, rfl, w_394, w_395, b8 rfl, rfl⟩
theorem k_X11_someBookHasCopy : VF me_X11_someBookHasCopy 0 11 := ⟨mf_X11_someBookHasCopy, rfl, w_415, w_1, b8 rfl, rfl⟩
theorem k_X10_addSpelling : VF me_X10_addSpelling 2 10 := ⟨mf_X10_addSpelling, rfl, w_418, w_419, b8 rfl, rfl⟩
theorem k_X11_spelling : VF me_X11_spelling 0 11 := ⟨mf_X11_spelling, rfl, w_390, w_391, b8 rfl, rfl⟩
theorem k_X11_state : VF me_X11_state 3 11 := ⟨mf_X11_state, rfl, w_1206, w_1207, b8 rfl, rfl⟩
theorem k_X11_isSign : SF me_X11_isSign 1 := ⟨mf_X11_isSign, rfl, w_360⟩
theorem k_X10_add : VF me_X10_add 1 10 := ⟨mf_X10_add, rfl, w_383, w_384, b8 rfl, rfl⟩
theorem k_X11_type : VF me_X11_type 2 11 := ⟨mf_X11_type, rfl, w_281, w_282, b8 rfl, rfl⟩
theorem k_X11_wear : VF me_X11_wear 1 11 := ⟨mf_X11_wear, rfl, w_444, w_445, b8 rfl, rfl⟩
theorem k_X10_init : IF me_X10_init 0 := ⟨mf_X10_init, rfl, rfl, rfl, w_99⟩
theorem ne_0 : ("Leadchapel", 9, (⟨"Leadchapel$Words", "<init>", "()V"⟩ : MethodName), "Leadchapel") ∈ nestL := List.mem_of_getElem? (i := 0) rfl
theorem k_X1_init : IF me_X1_init 0 := ⟨mf_X1_init, rfl, rfl, rfl, w_136⟩
theorem k_X6_init : IF me_X6_init 0 := ⟨mf_X6_init, rfl, rfl, rfl, w_177⟩
theorem ne_1 : ("Leadchapel", 41, (⟨"Leadchapel$Press", "<init>", "()V"⟩ : MethodName), "Leadchapel") ∈ nestL := List.mem_of_getElem? (i := 1) rfl
theorem k_X7_init : IF me_X7_init 0 := ⟨mf_X7_init, rfl, rfl, rfl, w_200⟩
theorem ne_2 : ("Leadchapel", 48, (⟨"Leadchapel$Scholar", "<init>", "()V"⟩ : MethodName), "Leadchapel") ∈ nestL := List.mem_of_getElem? (i := 2) rfl
theorem k_X12_isIn : SF me_X12_isIn 3 := ⟨mf_X12_isIn, rfl, w_1665⟩
theorem k_X12_isHand : VF me_X12_isHand 1 12 := ⟨mf_X12_isHand, rfl, w_1785, w_32, b8 rfl, rfl⟩
theorem k_X12_holds : VF me_X12_holds 1 12 := ⟨mf_X12_holds, rfl, w_1670, w_17, b8 rfl, rfl⟩
theorem k_X12_pagesOf : VF me_X12_pagesOf 1 12 := ⟨mf_X12_pagesOf, rfl, w_1757, w_28, b8 rfl, rfl⟩
theorem k_X12_formeOf : VF me_X12_formeOf 2 12 := ⟨mf_X12_formeOf, rfl, w_1844, w_44, b8 rfl, rfl⟩
theorem k_X12_seenIn : VF me_X12_seenIn 3 12 := ⟨mf_X12_seenIn, rfl, w_1986, w_57, b8 rfl, rfl⟩
theorem k_X12_isBook : VF me_X12_isBook 1 12 := ⟨mf_X12_isBook, rfl, w_1749, w_26, b8 rfl, rfl⟩
theorem k_X12_isForme : VF me_X12_isForme 2 12 := ⟨mf_X12_isForme, rfl, w_1868, w_47, b8 rfl, rfl⟩
theorem k_X12_findSure : VF me_X12_findSure 1 12 := ⟨mf_X12_findSure, rfl, w_1998, w_59, b8 rfl, rfl⟩
theorem k_X12_leafAt : SF me_X12_leafAt 3 := ⟨mf_X12_leafAt, rfl, w_1934⟩
theorem k_X12_isCopy : VF me_X12_isCopy 2 12 := ⟨mf_X12_isCopy, rfl, w_1942, w_53, b8 rfl, rfl⟩
theorem k_X12_stateIn : VF me_X12_stateIn 3 12 := ⟨mf_X12_stateIn, rfl, w_1958, w_55, b8 rfl, rfl⟩
theorem k_X12_isLeaf : VF me_X12_isLeaf 2 12 := ⟨mf_X12_isLeaf, rfl, w_1946, w_54, b8 rfl, rfl⟩
theorem k_X12_puts : VF me_X12_puts 2 12 := ⟨mf_X12_puts, rfl, w_1721, w_25, b8 rfl, rfl⟩
theorem k_X12_letters : SF me_X12_letters 1 := ⟨mf_X12_letters, rfl, w_1709⟩
theorem k_X12_hasSet : VF me_X12_hasSet 1 12 := ⟨mf_X12_hasSet, rfl, w_1753, w_27, b8 rfl, rfl⟩
theorem k_X12_castFrom : VF me_X12_castFrom 2 12 := ⟨mf_X12_castFrom, rfl, w_1773, w_30, b8 rfl, rfl⟩
theorem k_X12_isPage : VF me_X12_isPage 2 12 := ⟨mf_X12_isPage, rfl, w_1781, w_31, b8 rfl, rfl⟩
theorem k_X12_glyphIn : VF me_X12_glyphIn 2 12 := ⟨mf_X12_glyphIn, rfl, w_1970, w_56, b8 rfl, rfl⟩
theorem k_X12_tapeFrom : VF me_X12_tapeFrom 1 12 := ⟨mf_X12_tapeFrom, rfl, w_1702, w_22, b8 rfl, rfl⟩
theorem k_X12_tapeFault : VF me_X12_tapeFault 0 12 := ⟨mf_X12_tapeFault, rfl, w_1682, w_18, b8 rfl, rfl⟩
theorem k_X12_tapeWords : VF me_X12_tapeWords 0 12 := ⟨mf_X12_tapeWords, rfl, w_1694, w_20, b8 rfl, rfl⟩
theorem k_X12_tapeWord : VF me_X12_tapeWord 1 12 := ⟨mf_X12_tapeWord, rfl, w_1706, w_23, b8 rfl, rfl⟩
theorem k_X12_tapeEnds : VF me_X12_tapeEnds 1 12 := ⟨mf_X12_tapeEnds, rfl, w_1698, w_21, b8 rfl, rfl⟩
theorem k_X12_turnedOf : SF me_X12_turnedOf 1 := ⟨mf_X12_turnedOf, rfl, w_1832⟩
theorem k_X12_takes : VF me_X12_takes 1 12 := ⟨mf_X12_takes, rfl, w_1829, w_42, b8 rfl, rfl⟩
theorem k_X12_printOf : VF me_X12_printOf 3 12 := ⟨mf_X12_printOf, rfl, w_1836, w_43, b8 rfl, rfl⟩
theorem k_X12_wordsOn : VF me_X12_wordsOn 1 12 := ⟨mf_X12_wordsOn, rfl, w_1765, w_29, b8 rfl, rfl⟩
theorem k_X12_lastWord : VF me_X12_lastWord 2 12 := ⟨mf_X12_lastWord, rfl, w_2039, w_64, b8 rfl, rfl⟩
theorem k_X12_spellingOf : VF me_X12_spellingOf 1 12 := ⟨mf_X12_spellingOf, rfl, w_1713, w_24, b8 rfl, rfl⟩
theorem k_X12_stateMany : VF me_X12_stateMany 1 12 := ⟨mf_X12_stateMany, rfl, w_1911, w_52, b8 rfl, rfl⟩
theorem k_X12_formsIn : VF me_X12_formsIn 3 12 := ⟨mf_X12_formsIn, rfl, w_1856, w_46, b8 rfl, rfl⟩
theorem k_X12_looseIn : VF me_X12_looseIn 2 12 := ⟨mf_X12_looseIn, rfl, w_2023, w_62, b8 rfl, rfl⟩
theorem k_X12_isUnlike : VF me_X12_isUnlike 2 12 := ⟨mf_X12_isUnlike, rfl, w_2019, w_61, b8 rfl, rfl⟩
theorem k_X12_findUnlike : VF me_X12_findUnlike 1 12 := ⟨mf_X12_findUnlike, rfl, w_2015, w_60, b8 rfl, rfl⟩
theorem k_X12_canPart : VF me_X12_canPart 1 12 := ⟨mf_X12_canPart, rfl, w_2027, w_63, b8 rfl, rfl⟩
theorem k_X12_isWhole : VF me_X12_isWhole 2 12 := ⟨mf_X12_isWhole, rfl, w_1872, w_48, b8 rfl, rfl⟩
theorem k_X12_isUsed : VF me_X12_isUsed 1 12 := ⟨mf_X12_isUsed, rfl, w_1876, w_49, b8 rfl, rfl⟩
theorem k_X12_ordersOf : VF me_X12_ordersOf 1 12 := ⟨mf_X12_ordersOf, rfl, w_1994, w_58, b8 rfl, rfl⟩
theorem k_X12_orders : VF me_X12_orders 1 12 := ⟨mf_X12_orders, rfl, w_1989, w_1990, b8 rfl, rfl⟩
theorem k_X12_placeInForme : VF me_X12_placeInForme 2 12 := ⟨mf_X12_placeInForme, rfl, w_1848, w_45, b8 rfl, rfl⟩
theorem k_X12_keeps : VF me_X12_keeps 2 12 := ⟨mf_X12_keeps, rfl, w_1899, w_51, b8 rfl, rfl⟩
theorem k_X12_isHoliday : SF me_X12_isHoliday 1 := ⟨mf_X12_isHoliday, rfl, w_1891⟩
theorem k_X12_works : VF me_X12_works 1 12 := ⟨mf_X12_works, rfl, w_1895, w_50, b8 rfl, rfl⟩
theorem k_X12_letter : SF me_X12_letter 2 := ⟨mf_X12_letter, rfl, w_1820⟩
theorem k_X12_fills : VF me_X12_fills 4 12 := ⟨mf_X12_fills, rfl, w_1825, w_41, b8 rfl, rfl⟩
theorem k_X12_formOf : VF me_X12_formOf 4 12 := ⟨mf_X12_formOf, rfl, w_1805, w_37, b8 rfl, rfl⟩
theorem k_X12_sameBehind : VF me_X12_sameBehind 3 12 := ⟨mf_X12_sameBehind, rfl, w_1809, w_38, b8 rfl, rfl⟩
theorem k_X12_hasPart : VF me_X12_hasPart 2 12 := ⟨mf_X12_hasPart, rfl, w_1789, w_33, b8 rfl, rfl⟩
theorem k_X12_partFrom : VF me_X12_partFrom 2 12 := ⟨mf_X12_partFrom, rfl, w_1793, w_34, b8 rfl, rfl⟩
theorem k_X12_partTo : VF me_X12_partTo 2 12 := ⟨mf_X12_partTo, rfl, w_1797, w_35, b8 rfl, rfl⟩
theorem k_X12_laysLines : VF me_X12_laysLines 6 12 := ⟨mf_X12_laysLines, rfl, w_1801, w_36, b8 rfl, rfl⟩
theorem k_X12_fillsOut : VF me_X12_fillsOut 3 12 := ⟨mf_X12_fillsOut, rfl, w_1813, w_39, b8 rfl, rfl⟩
theorem k_X12_fillsPlaces : VF me_X12_fillsPlaces 3 12 := ⟨mf_X12_fillsPlaces, rfl, w_1817, w_40, b8 rfl, rfl⟩
theorem k_X12_isSpelling : VF me_X12_isSpelling 0 12 := ⟨mf_X12_isSpelling, rfl, w_1690, w_19, b8 rfl, rfl⟩
theorem k_X11_init : IF me_X11_init 0 := ⟨mf_X11_init, rfl, rfl, rfl, w_91⟩
theorem k_X12_init : IF me_X12_init 0 := ⟨mf_X12_init, rfl, rfl, rfl, w_1406⟩
theorem k_L_type : Cond.static yL_type ∈ GW := w_276
theorem k_X12_type : VF me_X12_type 2 12 := ⟨mf_X12_type, rfl, w_1661, w_1662, b8 rfl, rfl⟩
theorem k_X12_thrown : VF me_X12_thrown 0 12 := ⟨mf_X12_thrown, rfl, w_1657, w_1658, b8 rfl, rfl⟩
theorem k_X11_wipe : VF me_X11_wipe 0 11 := ⟨mf_X11_wipe, rfl, w_257, w_258, b8 rfl, rfl⟩
theorem k_X12_wipe : VF me_X12_wipe 0 12 := ⟨mf_X12_wipe, rfl, w_1673, w_1674, b8 rfl, rfl⟩
theorem k_X11_fault : VF me_X11_fault 0 11 := ⟨mf_X11_fault, rfl, w_261, w_262, b8 rfl, rfl⟩
theorem k_X12_fault : VF me_X12_fault 0 12 := ⟨mf_X12_fault, rfl, w_1677, w_1678, b8 rfl, rfl⟩
theorem k_L_spelling : Cond.static yL_spelling ∈ GW := w_387
theorem k_X12_spelling : VF me_X12_spelling 0 12 := ⟨mf_X12_spelling, rfl, w_1685, w_1686, b8 rfl, rfl⟩
theorem k_L_cast : Cond.static yL_cast ∈ GW := w_422
theorem k_X12_cast : VF me_X12_cast 2 12 := ⟨mf_X12_cast, rfl, w_1716, w_1717, b8 rfl, rfl⟩
theorem k_L_wear : Cond.static yL_wear ∈ GW := w_440
theorem k_X12_wear : VF me_X12_wear 1 12 := ⟨mf_X12_wear, rfl, w_1724, w_1725, b8 rfl, rfl⟩
theorem k_L_piece : Cond.static yL_piece ∈ GW := w_471
theorem k_X12_piece : VF me_X12_piece 2 12 := ⟨mf_X12_piece, rfl, w_1728, w_1729, b8 rfl, rfl⟩
theorem k_L_box : Cond.static yL_box ∈ GW := w_478
theorem k_X12_box : VF me_X12_box 2 12 := ⟨mf_X12_box, rfl, w_1732, w_1733, b8 rfl, rfl⟩
theorem k_L_hand : Cond.static yL_hand ∈ GW := w_489
theorem k_X12_hand : VF me_X12_hand 3 12 := ⟨mf_X12_hand, rfl, w_1736, w_1737, b8 rfl, rfl⟩
theorem k_L_book : Cond.static yL_book ∈ GW := w_522
theorem k_X12_book : VF me_X12_book 5 12 := ⟨mf_X12_book, rfl, w_1740, w_1741, b8 rfl, rfl⟩
theorem k_L_copy : Cond.static yL_copy ∈ GW := w_808
theorem k_X12_copy : VF me_X12_copy 1 12 := ⟨mf_X12_copy, rfl, w_1744, w_1745, b8 rfl, rfl⟩
theorem k_L_follow : Cond.static yL_follow ∈ GW := w_835
theorem k_X12_follow : VF me_X12_follow 2 12 := ⟨mf_X12_follow, rfl, w_1760, w_1761, b8 rfl, rfl⟩
theorem k_L_castOff : Cond.static yL_castOff ∈ GW := w_859
theorem k_X12_castOff : VF me_X12_castOff 2 12 := ⟨mf_X12_castOff, rfl, w_1768, w_1769, b8 rfl, rfl⟩
theorem k_L_set : Cond.static yL_set ∈ GW := w_878
theorem k_X12_set : VF me_X12_set 3 12 := ⟨mf_X12_set, rfl, w_1776, w_1777, b8 rfl, rfl⟩
theorem k_L_page : Cond.static yL_page ∈ GW := w_974
theorem k_X12_page : VF me_X12_page 3 12 := ⟨mf_X12_page, rfl, w_1839, w_1840, b8 rfl, rfl⟩
theorem k_L_line : Cond.static yL_line ∈ GW := w_995
theorem k_X12_line : VF me_X12_line 4 12 := ⟨mf_X12_line, rfl, w_1851, w_1852, b8 rfl, rfl⟩
theorem k_L_place : Cond.static yL_place ∈ GW := w_1012
theorem k_X12_place : VF me_X12_place 4 12 := ⟨mf_X12_place, rfl, w_1859, w_1860, b8 rfl, rfl⟩
theorem k_L_lock : Cond.static yL_lock ∈ GW := w_1019
theorem k_X12_lock : VF me_X12_lock 3 12 := ⟨mf_X12_lock, rfl, w_1863, w_1864, b8 rfl, rfl⟩
theorem k_L_print : Cond.static yL_print ∈ GW := w_1047
theorem k_X12_print : VF me_X12_print 3 12 := ⟨mf_X12_print, rfl, w_1879, w_1880, b8 rfl, rfl⟩
theorem k_L_men : Cond.static yL_men ∈ GW := w_1071
theorem k_X12_men : VF me_X12_men 2 12 := ⟨mf_X12_men, rfl, w_1883, w_1884, b8 rfl, rfl⟩
theorem k_L_pass : Cond.static yL_pass ∈ GW := w_1078
theorem k_X12_pass : VF me_X12_pass 1 12 := ⟨mf_X12_pass, rfl, w_1887, w_1888, b8 rfl, rfl⟩
theorem k_X11_hour : VF me_X11_hour 0 11 := ⟨mf_X11_hour, rfl, w_272, w_273, b8 rfl, rfl⟩
theorem k_X12_hour : VF me_X12_hour 0 12 := ⟨mf_X12_hour, rfl, w_1902, w_1903, b8 rfl, rfl⟩
theorem k_L_forme : Cond.static yL_forme ∈ GW := w_1103
theorem k_X12_forme : VF me_X12_forme 3 12 := ⟨mf_X12_forme, rfl, w_1906, w_1907, b8 rfl, rfl⟩
theorem k_L_correct : Cond.static yL_correct ∈ GW := w_1110
theorem k_X12_correct : VF me_X12_correct 3 12 := ⟨mf_X12_correct, rfl, w_1914, w_1915, b8 rfl, rfl⟩
theorem k_L_putAway : Cond.static yL_putAway ∈ GW := w_1133
theorem k_X12_putAway : VF me_X12_putAway 3 12 := ⟨mf_X12_putAway, rfl, w_1918, w_1919, b8 rfl, rfl⟩
theorem k_L_paper : Cond.static yL_paper ∈ GW := w_1148
theorem k_X12_paper : VF me_X12_paper 1 12 := ⟨mf_X12_paper, rfl, w_1922, w_1923, b8 rfl, rfl⟩
theorem k_L_lay : Cond.static yL_lay ∈ GW := w_1155
theorem k_X12_lay : VF me_X12_lay 3 12 := ⟨mf_X12_lay, rfl, w_1926, w_1927, b8 rfl, rfl⟩
theorem k_L_bind : Cond.static yL_bind ∈ GW := w_1162
theorem k_X12_bind : VF me_X12_bind 1 12 := ⟨mf_X12_bind, rfl, w_1930, w_1931, b8 rfl, rfl⟩
theorem k_L_exchange : Cond.static yL_exchange ∈ GW := w_1181
theorem k_X12_exchange : VF me_X12_exchange 4 12 := ⟨mf_X12_exchange, rfl, w_1937, w_1938, b8 rfl, rfl⟩
theorem k_L_cancel : Cond.static yL_cancel ∈ GW := w_1196
theorem k_X12_cancel : VF me_X12_cancel 3 12 := ⟨mf_X12_cancel, rfl, w_1949, w_1950, b8 rfl, rfl⟩
theorem k_L_state : Cond.static yL_state ∈ GW := w_1203
theorem k_X12_state : VF me_X12_state 3 12 := ⟨mf_X12_state, rfl, w_1953, w_1954, b8 rfl, rfl⟩
theorem k_L_mark : Cond.static yL_mark ∈ GW := w_1222
theorem k_X12_mark : VF me_X12_mark 3 12 := ⟨mf_X12_mark, rfl, w_1961, w_1962, b8 rfl, rfl⟩
theorem k_L_character : Cond.static yL_character ∈ GW := w_1233
theorem k_X12_character : VF me_X12_character 5 12 := ⟨mf_X12_character, rfl, w_1965, w_1966, b8 rfl, rfl⟩
theorem k_L_alike : Cond.static yL_alike ∈ GW := w_1251
theorem k_X12_alike : VF me_X12_alike 2 12 := ⟨mf_X12_alike, rfl, w_1973, w_1974, b8 rfl, rfl⟩
theorem k_L_madeUp : Cond.static yL_madeUp ∈ GW := w_1263
theorem k_X12_madeUp : VF me_X12_madeUp 2 12 := ⟨mf_X12_madeUp, rfl, w_1977, w_1978, b8 rfl, rfl⟩
theorem k_L_shared : Cond.static yL_shared ∈ GW := w_1274
theorem k_X12_shared : VF me_X12_shared 3 12 := ⟨mf_X12_shared, rfl, w_1981, w_1982, b8 rfl, rfl⟩
theorem k_L_orders : Cond.static yL_orders ∈ GW := w_1281
theorem k_L_ordersAnew : Cond.static yL_ordersAnew ∈ GW := w_1300
theorem k_X12_ordersAnew : VF me_X12_ordersAnew 1 12 := ⟨mf_X12_ordersAnew, rfl, w_2001, w_2002, b8 rfl, rfl⟩
theorem k_L_ahead : Cond.static yL_ahead ∈ GW := w_1311
theorem k_X12_ahead : VF me_X12_ahead 3 12 := ⟨mf_X12_ahead, rfl, w_2006, w_2007, b8 rfl, rfl⟩
theorem k_L_hands : Cond.static yL_hands ∈ GW := w_1322
theorem k_X12_hands : VF me_X12_hands 1 12 := ⟨mf_X12_hands, rfl, w_2010, w_2011, b8 rfl, rfl⟩
theorem k_L_presses : Cond.static yL_presses ∈ GW := w_1361
theorem k_X12_presses : VF me_X12_presses 1 12 := ⟨mf_X12_presses, rfl, w_2030, w_2031, b8 rfl, rfl⟩
theorem k_L_follows : Cond.static yL_follows ∈ GW := w_1377
theorem k_X12_follows : VF me_X12_follows 2 12 := ⟨mf_X12_follows, rfl, w_2034, w_2035, b8 rfl, rfl⟩
theorem k_L_account : Cond.static yL_account ∈ GW := w_1397
theorem k_X12_account : VF me_X12_account 2 12 := ⟨mf_X12_account, rfl, w_2042, w_2043, b8 rfl, rfl⟩
theorem wo_1 : Cond.instanceMethod Lib.objectInit ∈ GW := gwt tb_1 29 rfl rfl
theorem wo_2 : Cond.code Lib.objectInit ⟨#[0xb1]⟩ 1 none ∈ GW := gwt tb_1 30 rfl rfl
theorem wm_max1 : Cond.static Lib.Math.max.name ∈ GW := gwt tb_4 85 rfl rfl
theorem wm_max2 : Cond.code Lib.Math.max.name Lib.Math.max.code 2 (some .int) ∈ GW := gwt tb_4 86 rfl rfl
theorem wm_min1 : Cond.static Lib.Math.min.name ∈ GW := gwt tb_5 71 rfl rfl
theorem wm_min2 : Cond.code Lib.Math.min.name Lib.Math.min.code 2 (some .int) ∈ GW := gwt tb_5 72 rfl rfl
theorem wm_3 : Cond.initialized "java/lang/Math" ∈ GW := gwt tb_1 20 rfl rfl
theorem wa_1 : Cond.native arraycopyName ∈ GW := gwt tb_5 101 rfl rfl
theorem wa_2 : Cond.static arraycopyName ∈ GW := gwt tb_5 100 rfl rfl
theorem wa_3 : Cond.initialized "java/lang/System" ∈ GW := gwt tb_1 21 rfl rfl
theorem cf_0 : CF 0 := ⟨_, rfl, by decide +kernel, tyX0_ok, nmX0⟩
theorem cf_1 : CF 1 := ⟨_, rfl, by decide +kernel, tyX1_ok, nmX1⟩
theorem cf_2 : CF 2 := ⟨_, rfl, by decide +kernel, tyX2_ok, nmX2⟩
theorem cf_3 : CF 3 := ⟨_, rfl, by decide +kernel, tyX3_ok, nmX3⟩
theorem cf_4 : CF 4 := ⟨_, rfl, by decide +kernel, tyX4_ok, nmX4⟩
theorem cf_5 : CF 5 := ⟨_, rfl, by decide +kernel, tyX5_ok, nmX5⟩
theorem cf_6 : CF 6 := ⟨_, rfl, by decide +kernel, tyX6_ok, nmX6⟩
theorem cf_7 : CF 7 := ⟨_, rfl, by decide +kernel, tyX7_ok, nmX7⟩
theorem cf_8 : CF 8 := ⟨_, rfl, by decide +kernel, tyX8_ok, nmX8⟩
theorem cf_9 : CF 9 := ⟨_, rfl, by decide +kernel, tyX9_ok, nmX9⟩
theorem cf_10 : CF 10 := ⟨_, rfl, by decide +kernel, tyX10_ok, nmX10⟩
theorem cf_11 : CF 11 := ⟨_, rfl, by decide +kernel, tyX11_ok, nmX11⟩
theorem cf_12 : CF 12 := ⟨_, rfl, by decide +kernel, tyX12_ok, nmX12⟩
theorem cf : ∀ c, c < 13 → CF c := fun c hc => match c, hc with
  | 0, _ => cf_0
  | 1, _ => cf_1
  | 2, _ => cf_2
  | 3, _ => cf_3
  | 4, _ => cf_4
  | 5, _ => cf_5
  | 6, _ => cf_6
  | 7, _ => cf_7
  | 8, _ => cf_8
  | 9, _ => cf_9
  | 10, _ => cf_10
  | 11, _ => cf_11
  | 12, _ => cf_12
  | n + 13, h => absurd h (by omega)
