-- kinds of the abstract memory: 0 .. 12 the objects of a class, from 13 on the arrays made at one place
def KTl : List FieldType := [.object "Leadchapel$Page", .object "Leadchapel$Forme", .object "Leadchapel$Sheet", .int, .array .int, .int, .object "Leadchapel$Page", .int, .int, .int, .int, .int, .int, .int, .int, .boolean, .int, .int, .int, .int, .boolean, .int, .int, .boolean, .array .int, .int, .int, .int, .int, .int, .int, .int, .long, .long, .long, .int, .boolean, .int, .long, .boolean, .long, .long, .object "Leadchapel$Hand", .object "Leadchapel$Book", .object "Leadchapel$Press", .int, .int, .long, .long, .int, .int, .int, .int, .int, .int, .int, .int, .int, .int, .int, .int, .int, .int, .int, .int, .int, .boolean, .int, .long, .boolean, .boolean, .int, .int, .int, .int, .int, .int, .int, .int, .int, .int, .int, .int, .long, .int, .int, .int, .int, .int, .int, .int, .int, .int, .int, .int, .int, .int, .int, .int, .int, .int, .int, .boolean, .boolean, .boolean, .int, .int, .int, .int, .int, .int, .int, .int, .int, .int, .int, .int, .int, .long]
def KT (K : Nat) : FieldType := KTl.getD (K - 13) .int
theorem kt_13 : KT 13 = .object "Leadchapel$Page" := rfl -- X0_pages
theorem kt_14 : KT 14 = .object "Leadchapel$Forme" := rfl -- X0_formes
theorem kt_15 : KT 15 = .object "Leadchapel$Sheet" := rfl -- X0_sheets
theorem kt_16 : KT 16 = .int := rfl -- X0_partBegins
theorem kt_17 : KT 17 = .array .int := rfl -- X0_leaves
theorem kt_18 : KT 18 = .int := rfl -- X0_leaves_row
theorem kt_19 : KT 19 = .object "Leadchapel$Page" := rfl -- X0_pagesOf
theorem kt_20 : KT 20 = .int := rfl -- X1_sort
theorem kt_21 : KT 21 = .int := rfl -- X1_worn
theorem kt_22 : KT 22 = .int := rfl -- X1_where
theorem kt_23 : KT 23 = .int := rfl -- X1_under
theorem kt_24 : KT 24 = .int := rfl -- X1_top
theorem kt_25 : KT 25 = .int := rfl -- X2_seen
theorem kt_26 : KT 26 = .int := rfl -- X2_stateBegins
theorem kt_27 : KT 27 = .int := rfl -- X4_number
theorem kt_28 : KT 28 = .boolean := rfl -- X4_isFull
theorem kt_29 : KT 29 = .int := rfl -- X4_blanks
theorem kt_30 : KT 30 = .int := rfl -- X4_firstPlace
theorem kt_31 : KT 31 = .int := rfl -- X4_firstWord
theorem kt_32 : KT 32 = .int := rfl -- X4_missing
theorem kt_33 : KT 33 = .boolean := rfl -- X4_cut
theorem kt_34 : KT 34 = .int := rfl -- X5_wanted
theorem kt_35 : KT 35 = .int := rfl -- X5_piece
theorem kt_36 : KT 36 = .boolean := rfl -- X5_turned
theorem kt_37 : KT 37 = .array .int := rfl -- X5_prints
theorem kt_38 : KT 38 = .int := rfl -- X5_prints_row
theorem kt_39 : KT 39 = .int := rfl -- X7_surelyAhead
theorem kt_40 : KT 40 = .int := rfl -- X7_ways
theorem kt_41 : KT 41 = .int := rfl -- X7_unlike
theorem kt_42 : KT 42 = .int := rfl -- X7_brief
theorem kt_43 : KT 43 = .int := rfl -- X7_full
theorem kt_44 : KT 44 = .int := rfl -- X7_parts
theorem kt_45 : KT 45 = .long := rfl -- X9_told
theorem kt_46 : KT 46 = .long := rfl -- X9_brief
theorem kt_47 : KT 47 = .long := rfl -- X9_full
theorem kt_48 : KT 48 = .int := rfl -- X9_spelling
theorem kt_49 : KT 49 = .boolean := rfl -- X9_endsLine
theorem kt_50 : KT 50 = .int := rfl -- X10_tape
theorem kt_51 : KT 51 = .long := rfl -- X10_split
theorem kt_52 : KT 52 = .boolean := rfl -- X10_endsLine
theorem kt_53 : KT 53 = .long := rfl -- X10_brief
theorem kt_54 : KT 54 = .long := rfl -- X10_full
theorem kt_55 : KT 55 = .object "Leadchapel$Hand" := rfl -- X11_staff
theorem kt_56 : KT 56 = .object "Leadchapel$Book" := rfl -- X11_shelf
theorem kt_57 : KT 57 = .object "Leadchapel$Press" := rfl -- X11_pressRoom
theorem kt_58 : KT 58 = .int := rfl -- X11_sheetsTaken
theorem kt_59 : KT 59 = .int := rfl -- X12_tape
theorem kt_60 : KT 60 = .long := rfl -- X12_brief
theorem kt_61 : KT 61 = .long := rfl -- X12_ample
theorem kt_62 : KT 62 = .int := rfl -- X12_sort
theorem kt_63 : KT 63 = .int := rfl -- X12_worn
theorem kt_64 : KT 64 = .int := rfl -- X12_where
theorem kt_65 : KT 65 = .int := rfl -- X12_below
theorem kt_66 : KT 66 = .int := rfl -- X12_top
theorem kt_67 : KT 67 = .int := rfl -- X12_likes
theorem kt_68 : KT 68 = .int := rfl -- X12_drops
theorem kt_69 : KT 69 = .int := rfl -- X12_skips
theorem kt_70 : KT 70 = .int := rfl -- X12_chances
theorem kt_71 : KT 71 = .int := rfl -- X12_took
theorem kt_72 : KT 72 = .int := rfl -- X12_putBack
theorem kt_73 : KT 73 = .int := rfl -- X12_format
theorem kt_74 : KT 74 = .int := rfl -- X12_sheets
theorem kt_75 : KT 75 = .int := rfl -- X12_measure
theorem kt_76 : KT 76 = .int := rfl -- X12_lines
theorem kt_77 : KT 77 = .int := rfl -- X12_edition
theorem kt_78 : KT 78 = .int := rfl -- X12_percent
theorem kt_79 : KT 79 = .boolean := rfl -- X12_isBound
theorem kt_80 : KT 80 = .int := rfl -- X12_copyMany
theorem kt_81 : KT 81 = .long := rfl -- X12_copyWord
theorem kt_82 : KT 82 = .boolean := rfl -- X12_copyEnds
theorem kt_83 : KT 83 = .boolean := rfl -- X12_isSet
theorem kt_84 : KT 84 = .int := rfl -- X12_setBy
theorem kt_85 : KT 85 = .int := rfl -- X12_went
theorem kt_86 : KT 86 = .int := rfl -- X12_isCrowded
theorem kt_87 : KT 87 = .int := rfl -- X12_left
theorem kt_88 : KT 88 = .int := rfl -- X12_lineMany
theorem kt_89 : KT 89 = .int := rfl -- X12_wordMany
theorem kt_90 : KT 90 = .int := rfl -- X12_placeMany
theorem kt_91 : KT 91 = .int := rfl -- X12_lineFrom
theorem kt_92 : KT 92 = .int := rfl -- X12_lineWords
theorem kt_93 : KT 93 = .int := rfl -- X12_lineMissing
theorem kt_94 : KT 94 = .int := rfl -- X12_lineFilled
theorem kt_95 : KT 95 = .int := rfl -- X12_wordOf
theorem kt_96 : KT 96 = .long := rfl -- X12_wordSet
theorem kt_97 : KT 97 = .int := rfl -- X12_blanks
theorem kt_98 : KT 98 = .int := rfl -- X12_wordPlace
theorem kt_99 : KT 99 = .int := rfl -- X12_wanted
theorem kt_100 : KT 100 = .int := rfl -- X12_there
theorem kt_101 : KT 101 = .int := rfl -- X12_isTurned
theorem kt_102 : KT 102 = .int := rfl -- X12_glyph
theorem kt_103 : KT 103 = .int := rfl -- X12_donePiece
theorem kt_104 : KT 104 = .int := rfl -- X12_doneWorn
theorem kt_105 : KT 105 = .int := rfl -- X12_corrected
theorem kt_106 : KT 106 = .int := rfl -- X12_correctedState
theorem kt_107 : KT 107 = .int := rfl -- X12_correctedGlyph
theorem kt_108 : KT 108 = .int := rfl -- X12_state
theorem kt_109 : KT 109 = .int := rfl -- X12_skeleton
theorem kt_110 : KT 110 = .int := rfl -- X12_printed
theorem kt_111 : KT 111 = .int := rfl -- X12_states
theorem kt_112 : KT 112 = .int := rfl -- X12_stateFrom
theorem kt_113 : KT 113 = .int := rfl -- X12_wentHour
theorem kt_114 : KT 114 = .int := rfl -- X12_doneHour
theorem kt_115 : KT 115 = .boolean := rfl -- X12_isReady
theorem kt_116 : KT 116 = .boolean := rfl -- X12_isFirst
theorem kt_117 : KT 117 = .boolean := rfl -- X12_isTaken
theorem kt_118 : KT 118 = .int := rfl -- X12_heapStock
theorem kt_119 : KT 119 = .int := rfl -- X12_heapFrom
theorem kt_120 : KT 120 = .int := rfl -- X12_turn
theorem kt_121 : KT 121 = .int := rfl -- X12_men
theorem kt_122 : KT 122 = .int := rfl -- X12_pressForme
theorem kt_123 : KT 123 = .int := rfl -- X12_pressSheets
theorem kt_124 : KT 124 = .int := rfl -- X12_pressHours
theorem kt_125 : KT 125 = .int := rfl -- X12_stockTaken
theorem kt_126 : KT 126 = .int := rfl -- X12_leafSheet
theorem kt_127 : KT 127 = .int := rfl -- X12_sure
theorem kt_128 : KT 128 = .int := rfl -- X12_ways
theorem kt_129 : KT 129 = .int := rfl -- X12_unlike
theorem kt_130 : KT 130 = .int := rfl -- X12_hue
theorem kt_131 : KT 131 = .long := rfl -- L_law
def FTy : Nat → Nat → FieldType := fun c => match c with
  | 0 => tyX0
  | 1 => tyX1
  | 2 => tyX2
  | 3 => tyX3
  | 4 => tyX4
  | 5 => tyX5
  | 6 => tyX6
  | 7 => tyX7
  | 8 => tyX8
  | 9 => tyX9
  | 10 => tyX10
  | 11 => tyX11
  | _ => tyX12
