theorem tb1 {w : Cond} (h : w ∈ tables_1_1) (g : goodWord w = true) : w ∈ BW := List.mem_filter.mpr ⟨List.mem_append_right _ (show w ∈ tables_1 from List.mem_append_left _ h), g⟩
theorem tb2 {w : Cond} (h : w ∈ tables_1_2) (g : goodWord w = true) : w ∈ BW := List.mem_filter.mpr ⟨List.mem_append_right _ (show w ∈ tables_1 from List.mem_append_right _ (List.mem_append_left _ h)), g⟩
theorem tb3 {w : Cond} (h : w ∈ tables_1_3) (g : goodWord w = true) : w ∈ BW := List.mem_filter.mpr ⟨List.mem_append_right _ (show w ∈ tables_1 from List.mem_append_right _ (List.mem_append_right _ (List.mem_append_left _ h))), g⟩
theorem tb4 {w : Cond} (h : w ∈ tables_1_4) (g : goodWord w = true) : w ∈ BW := List.mem_filter.mpr ⟨List.mem_append_right _ (show w ∈ tables_1 from List.mem_append_right _ (List.mem_append_right _ (List.mem_append_right _ (List.mem_append_left _ h)))), g⟩
theorem tb5 {w : Cond} (h : w ∈ tables_1_5) (g : goodWord w = true) : w ∈ BW := List.mem_filter.mpr ⟨List.mem_append_right _ (show w ∈ tables_1 from List.mem_append_right _ (List.mem_append_right _ (List.mem_append_right _ (List.mem_append_right _ (List.mem_append_left _ h))))), g⟩
theorem tb6 {w : Cond} (h : w ∈ tables_1_6) (g : goodWord w = true) : w ∈ BW := List.mem_filter.mpr ⟨List.mem_append_right _ (show w ∈ tables_1 from List.mem_append_right _ (List.mem_append_right _ (List.mem_append_right _ (List.mem_append_right _ (List.mem_append_right _ (List.mem_append_left _ h)))))), g⟩
theorem tb7 {w : Cond} (h : w ∈ tables_1_7) (g : goodWord w = true) : w ∈ BW := List.mem_filter.mpr ⟨List.mem_append_right _ (show w ∈ tables_1 from List.mem_append_right _ (List.mem_append_right _ (List.mem_append_right _ (List.mem_append_right _ (List.mem_append_right _ (List.mem_append_right _ (h))))))), g⟩
abbrev mX0_init : MD := (0, yX0_init, cX0_init, 2, none)
abbrev mX0_gather : MD := (0, yX0_gather, cX0_gather, 4, none)
abbrev mX0_add : MD := (0, yX0_add, cX0_add, 3, none)
abbrev mX0_addSeen : MD := (0, yX0_addSeen, cX0_addSeen, 3, none)
abbrev mX0_addSpan : MD := (0, yX0_addSpan, cX0_addSpan, 4, none)
abbrev mX0_addWas : MD := (0, yX0_addWas, cX0_addWas, 4, none)
abbrev mX0_allows : MD := (0, yX0_allows, cX0_allows, 4, (some FieldType.boolean))
abbrev mX0_mayChoose : MD := (0, yX0_mayChoose, cX0_mayChoose, 3, (some FieldType.boolean))
abbrev mX0_flagsAfter : MD := (0, yX0_flagsAfter, cX0_flagsAfter, 5, (some FieldType.int))
abbrev mX0_costOf : MD := (0, yX0_costOf, cX0_costOf, 4, (some FieldType.int))
abbrev mX1_init : MD := (1, yX1_init, cX1_init, 1, none)
abbrev mX1_become : MD := (1, yX1_become, cX1_become, 2, none)
abbrev mX1_openAll : MD := (1, yX1_openAll, cX1_openAll, 1, none)
abbrev mX1_addSo : MD := (1, yX1_addSo, cX1_addSo, 4, none)
abbrev mX1_addAbove : MD := (1, yX1_addAbove, cX1_addAbove, 4, none)
abbrev mX1_isMet : MD := (1, yX1_isMet, cX1_isMet, 5, (some FieldType.boolean))
abbrev mX2_init : MD := (2, yX2_init, cX2_init, 4, none)
abbrev mX2_find : MD := (2, yX2_find, cX2_find, 6, (some FieldType.boolean))
abbrev mX2_sizeUp : MD := (2, yX2_sizeUp, cX2_sizeUp, 1, none)
abbrev mX2_keepBest : MD := (2, yX2_keepBest, cX2_keepBest, 5, none)
abbrev mX2_clearCosts : MD := (2, yX2_clearCosts, cX2_clearCosts, 3, none)
abbrev mX2_clearWays : MD := (2, yX2_clearWays, cX2_clearWays, 4, none)
abbrev mX2_dropUnkept : MD := (2, yX2_dropUnkept, cX2_dropUnkept, 4, none)
abbrev mX2_tally : MD := (2, yX2_tally, cX2_tally, 7, (some FieldType.int))
abbrev mX2_soOf : MD := (2, yX2_soOf, cX2_soOf, 3, (some FieldType.int))
abbrev mX2_surely : MD := (2, yX2_surely, cX2_surely, 3, (some FieldType.boolean))
abbrev mX2_layerOf : MD := (2, yX2_layerOf, cX2_layerOf, 1, (some FieldType.int))
abbrev mX2_walk : MD := (2, yX2_walk, cX2_walk, 8, none)
abbrev mX2_gatherLooks : MD := (2, yX2_gatherLooks, cX2_gatherLooks, 9, (some FieldType.int))
abbrev mX2_goesOnAsOne : MD := (2, yX2_goesOnAsOne, cX2_goesOnAsOne, 5, (some FieldType.boolean))
abbrev mX2_isReached : MD := (2, yX2_isReached, cX2_isReached, 4, (some FieldType.boolean))
abbrev mX2_meet : MD := (2, yX2_meet, cX2_meet, 14, none)
abbrev mX2_keep : MD := (2, yX2_keep, cX2_keep, 7, none)
abbrev mX2_addTally : MD := (2, yX2_addTally, cX2_addTally, 9, none)
abbrev mX3_init : MD := (3, yX3_init, cX3_init, 1, none)
abbrev mX3_become : MD := (3, yX3_become, cX3_become, 2, none)
abbrev mX3_clear : MD := (3, yX3_clear, cX3_clear, 1, none)
abbrev mX3_addEffect : MD := (3, yX3_addEffect, cX3_addEffect, 4, none)
abbrev mX4_init : MD := (4, yX4_init, cX4_init, 6, none)
abbrev mX4_binds : MD := (4, yX4_binds, cX4_binds, 3, (some FieldType.int))
abbrev mX4_tells : MD := (4, yX4_tells, cX4_tells, 3, (some FieldType.int))
abbrev mX5_init : MD := (5, yX5_init, cX5_init, 2, none)
abbrev mX5_read : MD := (5, yX5_read, cX5_read, 5, (some FieldType.int))
abbrev mX5_after : MD := (5, yX5_after, cX5_after, 3, (some FieldType.int))
abbrev mX5_afterAtomBegan : MD := (5, yX5_afterAtomBegan, cX5_afterAtomBegan, 2, (some FieldType.int))
abbrev mX5_afterName : MD := (5, yX5_afterName, cX5_afterName, 4, (some FieldType.int))
abbrev mX5_afterBound : MD := (5, yX5_afterBound, cX5_afterBound, 2, (some FieldType.int))
abbrev mX5_afterAtom : MD := (5, yX5_afterAtom, cX5_afterAtom, 2, (some FieldType.int))
abbrev mX5_closeAtom : MD := (5, yX5_closeAtom, cX5_closeAtom, 1, none)
abbrev mX5_afterEffectBegan : MD := (5, yX5_afterEffectBegan, cX5_afterEffectBegan, 2, (some FieldType.int))
abbrev mX5_afterKept : MD := (5, yX5_afterKept, cX5_afterKept, 4, (some FieldType.int))
abbrev mX5_afterStilled : MD := (5, yX5_afterStilled, cX5_afterStilled, 2, (some FieldType.int))
abbrev mX5_kindOf : MD := (5, yX5_kindOf, cX5_kindOf, 2, (some FieldType.int))
abbrev mX6_init : MD := (6, yX6_init, cX6_init, 5, none)
abbrev mX6_init_ : MD := (6, yX6_init_, cX6_init_, 8, none)
abbrev mX6_begin : MD := (6, yX6_begin, cX6_begin, 3, none)
abbrev mX6_tells : MD := (6, yX6_tells, cX6_tells, 3, (some FieldType.int))
abbrev mX6_binds : MD := (6, yX6_binds, cX6_binds, 3, (some FieldType.int))
abbrev mX6_weighs : MD := (6, yX6_weighs, cX6_weighs, 4, (some FieldType.int))
abbrev mX7_init : MD := (7, yX7_init, cX7_init, 1, none)
abbrev mX7_holdsRow : MD := (7, yX7_holdsRow, cX7_holdsRow, 1, (some FieldType.boolean))
abbrev mX7_holdsPiece : MD := (7, yX7_holdsPiece, cX7_holdsPiece, 1, (some FieldType.boolean))
abbrev mX7_takeRow : MD := (7, yX7_takeRow, cX7_takeRow, 3, none)
abbrev mX7_takePiece : MD := (7, yX7_takePiece, cX7_takePiece, 2, none)
abbrev mX7_has : MD := (7, yX7_has, cX7_has, 2, (some FieldType.boolean))
abbrev mX7_reaches : MD := (7, yX7_reaches, cX7_reaches, 3, (some FieldType.boolean))
abbrev mX7_put : MD := (7, yX7_put, cX7_put, 4, none)
abbrev mX7_cellAt : MD := (7, yX7_cellAt, cX7_cellAt, 2, (some FieldType.long))
abbrev mX7_intAt : MD := (7, yX7_intAt, cX7_intAt, 2, (some FieldType.int))
abbrev mX7_narrowed : MD := (7, yX7_narrowed, cX7_narrowed, 3, (some FieldType.long))
abbrev mX8_init : MD := (8, yX8_init, cX8_init, 6, none)
abbrev mX8_init_ : MD := (8, yX8_init_, cX8_init_, 7, none)
abbrev mX8_binds : MD := (8, yX8_binds, cX8_binds, 3, (some FieldType.int))
abbrev mX9_init : MD := (9, yX9_init, cX9_init, 7, none)
abbrev mX9_tells : MD := (9, yX9_tells, cX9_tells, 3, (some FieldType.int))
abbrev mX9_weighs : MD := (9, yX9_weighs, cX9_weighs, 3, (some FieldType.int))
abbrev mX10_init : MD := (10, yX10_init, cX10_init, 2, none)
abbrev mX10_become : MD := (10, yX10_become, cX10_become, 3, none)
abbrev mX10_countOf : MD := (10, yX10_countOf, cX10_countOf, 4, (some FieldType.int))
abbrev mX10_hasRoomFor : MD := (10, yX10_hasRoomFor, cX10_hasRoomFor, 2, (some FieldType.boolean))
abbrev mX10_mostOf : MD := (10, yX10_mostOf, cX10_mostOf, 1, (some FieldType.int))
abbrev mX10_addThing : MD := (10, yX10_addThing, cX10_addThing, 4, (some FieldType.int))
abbrev mX10_addHappening : MD := (10, yX10_addHappening, cX10_addHappening, 5, (some FieldType.int))
abbrev mX10_hasRoomForPiece : MD := (10, yX10_hasRoomForPiece, cX10_hasRoomForPiece, 5, (some FieldType.boolean))
abbrev mX10_addPiece : MD := (10, yX10_addPiece, cX10_addPiece, 8, (some FieldType.int))
abbrev mX10_pieceAt : MD := (10, yX10_pieceAt, cX10_pieceAt, 2, (some (FieldType.object "SoWhen$Seen")))
abbrev mX10_isPutBy : MD := (10, yX10_isPutBy, cX10_isPutBy, 2, (some FieldType.boolean))
abbrev mX10_inForce : MD := (10, yX10_inForce, cX10_inForce, 1, (some FieldType.int))
abbrev mX10_toldBy : MD := (10, yX10_toldBy, cX10_toldBy, 6, (some FieldType.int))
abbrev mX10_weightOf : MD := (10, yX10_weightOf, cX10_weightOf, 3, (some FieldType.int))
abbrev mX10_isSeenIn : MD := (10, yX10_isSeenIn, cX10_isSeenIn, 4, (some FieldType.boolean))
abbrev mX10_freeLooks : MD := (10, yX10_freeLooks, cX10_freeLooks, 1, (some FieldType.int))
abbrev mX10_lowStates : MD := (10, yX10_lowStates, cX10_lowStates, 1, (some FieldType.int))
abbrev mX10_fillTables : MD := (10, yX10_fillTables, cX10_fillTables, 13, none)
abbrev mX10_truthOf : MD := (10, yX10_truthOf, cX10_truthOf, 7, (some FieldType.int))
abbrev mX10_isThingSo : MD := (10, yX10_isThingSo, cX10_isThingSo, 6, (some FieldType.boolean))
abbrev mX10_nextOf : MD := (10, yX10_nextOf, cX10_nextOf, 10, (some FieldType.int))
abbrev mX11_init : MD := (11, yX11_init, cX11_init, 2, none)
abbrev mX11_row : MD := (11, yX11_row, cX11_row, 4, (some FieldType.int))
abbrev mX11_set : MD := (11, yX11_set, cX11_set, 6, (some FieldType.int))
abbrev mX11_copy : MD := (11, yX11_copy, cX11_copy, 8, (some FieldType.int))
abbrev mX11_element : MD := (11, yX11_element, cX11_element, 3, (some FieldType.long))
abbrev mX11_show : MD := (11, yX11_show, cX11_show, 3, (some FieldType.int))
abbrev mX11_holds : MD := (11, yX11_holds, cX11_holds, 2, (some FieldType.int))
abbrev mX11_says : MD := (11, yX11_says, cX11_says, 4, (some FieldType.int))
abbrev mX11_thing : MD := (11, yX11_thing, cX11_thing, 4, (some FieldType.int))
abbrev mX11_happening : MD := (11, yX11_happening, cX11_happening, 5, (some FieldType.int))
abbrev mX11_fault : MD := (11, yX11_fault, cX11_fault, 1, (some FieldType.int))
abbrev mX11_price : MD := (11, yX11_price, cX11_price, 4, (some FieldType.int))
abbrev mX11_weigh : MD := (11, yX11_weigh, cX11_weigh, 4, (some FieldType.int))
abbrev mX11_seen : MD := (11, yX11_seen, cX11_seen, 4, (some FieldType.int))
abbrev mX11_span : MD := (11, yX11_span, cX11_span, 6, (some FieldType.int))
abbrev mX11_was : MD := (11, yX11_was, cX11_was, 6, (some FieldType.int))
abbrev mX11_sheet : MD := (11, yX11_sheet, cX11_sheet, 8, (some FieldType.int))
abbrev mX11_by : MD := (11, yX11_by, cX11_by, 3, (some FieldType.int))
abbrev mX11_pieceOf : MD := (11, yX11_pieceOf, cX11_pieceOf, 4, (some FieldType.int))
abbrev mX11_least : MD := (11, yX11_least, cX11_least, 1, (some FieldType.int))
abbrev mX11_courses : MD := (11, yX11_courses, cX11_courses, 1, (some FieldType.long))
abbrev mX11_is : MD := (11, yX11_is, cX11_is, 3, (some FieldType.int))
abbrev mX11_value : MD := (11, yX11_value, cX11_value, 4, (some FieldType.int))
abbrev mX11_why : MD := (11, yX11_why, cX11_why, 7, (some FieldType.int))
abbrev mX11_quarrel : MD := (11, yX11_quarrel, cX11_quarrel, 4, (some FieldType.int))
abbrev mX11_out : MD := (11, yX11_out, cX11_out, 7, (some FieldType.int))
abbrev mX11_must : MD := (11, yX11_must, cX11_must, 4, (some FieldType.int))
abbrev mX11_could : MD := (11, yX11_could, cX11_could, 3, (some FieldType.int))
abbrev mX11_ever : MD := (11, yX11_ever, cX11_ever, 4, (some FieldType.int))
abbrev mX11_howLong : MD := (11, yX11_howLong, cX11_howLong, 5, (some FieldType.int))
abbrev mX11_since : MD := (11, yX11_since, cX11_since, 5, (some FieldType.int))
abbrev mX11_plan : MD := (11, yX11_plan, cX11_plan, 6, (some FieldType.int))
abbrev mX11_seemed : MD := (11, yX11_seemed, cX11_seemed, 5, (some FieldType.int))
abbrev mX11_act : MD := (11, yX11_act, cX11_act, 5, (some FieldType.int))
abbrev mX11_trace : MD := (11, yX11_trace, cX11_trace, 2, (some FieldType.int))
abbrev mX11_image : MD := (11, yX11_image, cX11_image, 1, (some FieldType.int))
abbrev mX11_restore : MD := (11, yX11_restore, cX11_restore, 2, (some FieldType.int))
abbrev mX11_status : MD := (11, yX11_status, cX11_status, 2, (some FieldType.int))
abbrev mX11_refuse : MD := (11, yX11_refuse, cX11_refuse, 3, (some FieldType.int))
abbrev mX11_isShelf : MD := (11, yX11_isShelf, cX11_isShelf, 1, (some FieldType.boolean))
abbrev mX11_isKind : MD := (11, yX11_isKind, cX11_isKind, 1, (some FieldType.boolean))
abbrev mX11_isMouth : MD := (11, yX11_isMouth, cX11_isMouth, 1, (some FieldType.boolean))
abbrev mX11_isHour : MD := (11, yX11_isHour, cX11_isHour, 1, (some FieldType.boolean))
abbrev mX11_areHours : MD := (11, yX11_areHours, cX11_areHours, 2, (some FieldType.boolean))
abbrev mX11_isNumber : MD := (11, yX11_isNumber, cX11_isNumber, 1, (some FieldType.boolean))
abbrev mX11_isThing : MD := (11, yX11_isThing, cX11_isThing, 2, (some FieldType.boolean))
abbrev mX11_isHappening : MD := (11, yX11_isHappening, cX11_isHappening, 2, (some FieldType.boolean))
abbrev mX11_isRunning : MD := (11, yX11_isRunning, cX11_isRunning, 2, (some FieldType.boolean))
abbrev mX11_canHave : MD := (11, yX11_canHave, cX11_canHave, 3, (some FieldType.boolean))
abbrev mX11_isOf : MD := (11, yX11_isOf, cX11_isOf, 2, (some FieldType.boolean))
abbrev mX11_rowTrouble : MD := (11, yX11_rowTrouble, cX11_rowTrouble, 2, (some FieldType.int))
abbrev mX11_readingTrouble : MD := (11, yX11_readingTrouble, cX11_readingTrouble, 3, (some FieldType.int))
abbrev mX11_tell : MD := (11, yX11_tell, cX11_tell, 7, (some FieldType.int))
abbrev mX11_tellFrom : MD := (11, yX11_tellFrom, cX11_tellFrom, 10, (some FieldType.boolean))
abbrev mX11_current : MD := (11, yX11_current, cX11_current, 1, (some (FieldType.object "SoWhen$Courses")))
abbrev mX11_freshenTruth : MD := (11, yX11_freshenTruth, cX11_freshenTruth, 1, none)
abbrev mX11_seems : MD := (11, yX11_seems, cX11_seems, 4, (some FieldType.int))
abbrev mX11_wouldBring : MD := (11, yX11_wouldBring, cX11_wouldBring, 5, (some FieldType.boolean))
abbrev mX11_inSome : MD := (11, yX11_inSome, cX11_inSome, 1, (some FieldType.int))
abbrev mX11_joined : MD := (11, yX11_joined, cX11_joined, 5, (some FieldType.int))
abbrev mX12_init : MD := (12, yX12_init, cX12_init, 2, none)
abbrev mX12_no : MD := (12, yX12_no, cX12_no, 2, (some FieldType.int))
abbrev mX12_isShelf : MD := (12, yX12_isShelf, cX12_isShelf, 2, (some FieldType.boolean))
abbrev mX12_isRow : MD := (12, yX12_isRow, cX12_isRow, 2, (some FieldType.boolean))
abbrev mX12_holdsPiece : MD := (12, yX12_holdsPiece, cX12_holdsPiece, 2, (some FieldType.boolean))
abbrev mX12_isThing : MD := (12, yX12_isThing, cX12_isThing, 2, (some FieldType.boolean))
abbrev mX12_isHappening : MD := (12, yX12_isHappening, cX12_isHappening, 2, (some FieldType.boolean))
abbrev mX12_isPiece : MD := (12, yX12_isPiece, cX12_isPiece, 2, (some FieldType.boolean))
abbrev mX12_isMouth : MD := (12, yX12_isMouth, cX12_isMouth, 2, (some FieldType.boolean))
abbrev mX12_isHour : MD := (12, yX12_isHour, cX12_isHour, 2, (some FieldType.boolean))
abbrev mX12_areHours : MD := (12, yX12_areHours, cX12_areHours, 3, (some FieldType.boolean))
abbrev mX12_row : MD := (12, yX12_row, cX12_row, 5, (some FieldType.int))
abbrev mX12_noRow : MD := (12, yX12_noRow, cX12_noRow, 2, (some FieldType.int))
abbrev mX12_set : MD := (12, yX12_set, cX12_set, 7, (some FieldType.int))
abbrev mX12_copy : MD := (12, yX12_copy, cX12_copy, 7, (some FieldType.int))
abbrev mX12_element : MD := (12, yX12_element, cX12_element, 3, (some FieldType.long))
abbrev mX12_show : MD := (12, yX12_show, cX12_show, 3, (some FieldType.int))
abbrev mX12_holds : MD := (12, yX12_holds, cX12_holds, 2, (some FieldType.int))
abbrev mX12_says : MD := (12, yX12_says, cX12_says, 4, (some FieldType.int))
abbrev mX12_letter : MD := (12, yX12_letter, cX12_letter, 3, (some FieldType.int))
abbrev mX12_isDigitOf : MD := (12, yX12_isDigitOf, cX12_isDigitOf, 4, (some FieldType.boolean))
abbrev mX12_overCondition : MD := (12, yX12_overCondition, cX12_overCondition, 3, (some FieldType.boolean))
abbrev mX12_conditionFault : MD := (12, yX12_conditionFault, cX12_conditionFault, 2, (some FieldType.int))
abbrev mX12_lawFault : MD := (12, yX12_lawFault, cX12_lawFault, 4, (some FieldType.int))
abbrev mX12_many : MD := (12, yX12_many, cX12_many, 4, (some FieldType.int))
abbrev mX12_thing : MD := (12, yX12_thing, cX12_thing, 5, (some FieldType.int))
abbrev mX12_happening : MD := (12, yX12_happening, cX12_happening, 6, (some FieldType.int))
abbrev mX12_fault : MD := (12, yX12_fault, cX12_fault, 1, (some FieldType.int))
abbrev mX12_price : MD := (12, yX12_price, cX12_price, 4, (some FieldType.int))
abbrev mX12_weigh : MD := (12, yX12_weigh, cX12_weigh, 4, (some FieldType.int))
abbrev mX12_piece : MD := (12, yX12_piece, cX12_piece, 7, (some FieldType.int))
abbrev mX12_spanPieces : MD := (12, yX12_spanPieces, cX12_spanPieces, 3, (some FieldType.int))
abbrev mX12_seen : MD := (12, yX12_seen, cX12_seen, 4, (some FieldType.int))
abbrev mX12_span : MD := (12, yX12_span, cX12_span, 6, (some FieldType.int))
abbrev mX12_isValue : MD := (12, yX12_isValue, cX12_isValue, 3, (some FieldType.boolean))
abbrev mX12_was : MD := (12, yX12_was, cX12_was, 6, (some FieldType.int))
abbrev mX12_sheet : MD := (12, yX12_sheet, cX12_sheet, 14, (some FieldType.int))
abbrev mX12_by : MD := (12, yX12_by, cX12_by, 4, (some FieldType.int))
abbrev mX12_pieceOf : MD := (12, yX12_pieceOf, cX12_pieceOf, 3, (some FieldType.int))
abbrev mX12_holds_ : MD := (12, yX12_holds_, cX12_holds_, 10, (some FieldType.boolean))
abbrev mX12_thenOf : MD := (12, yX12_thenOf, cX12_thenOf, 12, (some FieldType.int))
abbrev mX12_makeMoments : MD := (12, yX12_makeMoments, cX12_makeMoments, 11, none)
abbrev mX12_tell : MD := (12, yX12_tell, cX12_tell, 3, none)
abbrev mX12_gather : MD := (12, yX12_gather, cX12_gather, 6, none)
abbrev mX12_edgesOf : MD := (12, yX12_edgesOf, cX12_edgesOf, 9, none)
abbrev mX12_solve : MD := (12, yX12_solve, cX12_solve, 9, (some FieldType.boolean))
abbrev mX12_isLeast : MD := (12, yX12_isLeast, cX12_isLeast, 4, (some FieldType.boolean))
abbrev mX12_all : MD := (12, yX12_all, cX12_all, 3, (some FieldType.int))
abbrev mX12_least : MD := (12, yX12_least, cX12_least, 1, (some FieldType.int))
abbrev mX12_courses : MD := (12, yX12_courses, cX12_courses, 6, (some FieldType.long))
abbrev mX12_doIn : MD := (12, yX12_doIn, cX12_doIn, 6, (some FieldType.int))
abbrev mX12_isOf : MD := (12, yX12_isOf, cX12_isOf, 4, (some FieldType.int))
abbrev mX12_is : MD := (12, yX12_is, cX12_is, 3, (some FieldType.int))
abbrev mX12_value : MD := (12, yX12_value, cX12_value, 6, (some FieldType.int))
abbrev mX12_why : MD := (12, yX12_why, cX12_why, 7, (some FieldType.int))
abbrev mX12_quarrel : MD := (12, yX12_quarrel, cX12_quarrel, 4, (some FieldType.int))
abbrev mX12_out : MD := (12, yX12_out, cX12_out, 4, (some FieldType.int))
abbrev mX12_often : MD := (12, yX12_often, cX12_often, 10, (some FieldType.int))
abbrev mX12_told : MD := (12, yX12_told, cX12_told, 2, (some FieldType.int))
abbrev mX12_must : MD := (12, yX12_must, cX12_must, 4, (some FieldType.int))
abbrev mX12_could : MD := (12, yX12_could, cX12_could, 5, (some FieldType.int))
abbrev mX12_ever : MD := (12, yX12_ever, cX12_ever, 4, (some FieldType.int))
abbrev mX12_howLong : MD := (12, yX12_howLong, cX12_howLong, 4, (some FieldType.int))
abbrev mX12_since : MD := (12, yX12_since, cX12_since, 4, (some FieldType.int))
abbrev mX12_surelyMay : MD := (12, yX12_surelyMay, cX12_surelyMay, 5, (some FieldType.int))
abbrev mX12_plan : MD := (12, yX12_plan, cX12_plan, 6, (some FieldType.int))
abbrev mX12_seemed : MD := (12, yX12_seemed, cX12_seemed, 7, (some FieldType.int))
abbrev mX12_ran : MD := (12, yX12_ran, cX12_ran, 2, none)
abbrev mX12_tells : MD := (12, yX12_tells, cX12_tells, 4, (some FieldType.int))
abbrev mX12_binds : MD := (12, yX12_binds, cX12_binds, 4, (some FieldType.int))
abbrev mX12_weighs : MD := (12, yX12_weighs, cX12_weighs, 4, (some FieldType.int))
abbrev mX12_act : MD := (12, yX12_act, cX12_act, 4, (some FieldType.int))
abbrev mX12_trace : MD := (12, yX12_trace, cX12_trace, 2, (some FieldType.int))
abbrev mX12_pour : MD := (12, yX12_pour, cX12_pour, 7, none)
abbrev mX12_image : MD := (12, yX12_image, cX12_image, 1, (some FieldType.int))
abbrev mX12_restore : MD := (12, yX12_restore, cX12_restore, 2, (some FieldType.int))
abbrev mX12_status : MD := (12, yX12_status, cX12_status, 4, (some FieldType.int))
abbrev mJ6_bitCount_0f7a4 : MD := (14, yJ6_bitCount_0f7a4, cJ6_bitCount_0f7a4, 1, (some FieldType.int))
abbrev mJ7_fill_d0a16 : MD := (15, yJ7_fill_d0a16, cJ7_fill_d0a16, 5, none)
abbrev mJ7_fill_53178 : MD := (15, yJ7_fill_53178, cJ7_fill_53178, 4, none)
abbrev mL_law : MD := (13, yL_law, cL_law, 4, (some FieldType.boolean))
set_option maxRecDepth 20000 in
theorem kX0_init : Cond.code yX0_init cX0_init 2 none ∈ BW := tb1 (List.mem_of_getElem? (i := 190) rfl) rfl
set_option maxRecDepth 20000 in
theorem kX0_gather : Cond.code yX0_gather cX0_gather 4 none ∈ BW := tb4 (List.mem_of_getElem? (i := 64) rfl) rfl
set_option maxRecDepth 20000 in
theorem kX0_add : Cond.code yX0_add cX0_add 3 none ∈ BW := tb4 (List.mem_of_getElem? (i := 69) rfl) rfl
set_option maxRecDepth 20000 in
theorem kX0_addSeen : Cond.code yX0_addSeen cX0_addSeen 3 none ∈ BW := tb4 (List.mem_of_getElem? (i := 81) rfl) rfl
set_option maxRecDepth 20000 in
theorem kX0_addSpan : Cond.code yX0_addSpan cX0_addSpan 4 none ∈ BW := tb4 (List.mem_of_getElem? (i := 73) rfl) rfl
set_option maxRecDepth 20000 in
theorem kX0_addWas : Cond.code yX0_addWas cX0_addWas 4 none ∈ BW := tb4 (List.mem_of_getElem? (i := 77) rfl) rfl
set_option maxRecDepth 20000 in
theorem kX0_allows : Cond.code yX0_allows cX0_allows 4 (some FieldType.boolean) ∈ BW := tb4 (List.mem_of_getElem? (i := 110) rfl) rfl
set_option maxRecDepth 20000 in
theorem kX0_mayChoose : Cond.code yX0_mayChoose cX0_mayChoose 3 (some FieldType.boolean) ∈ BW := tb4 (List.mem_of_getElem? (i := 118) rfl) rfl
set_option maxRecDepth 20000 in
theorem kX0_flagsAfter : Cond.code yX0_flagsAfter cX0_flagsAfter 5 (some FieldType.int) ∈ BW := tb4 (List.mem_of_getElem? (i := 130) rfl) rfl
set_option maxRecDepth 20000 in
theorem kX0_costOf : Cond.code yX0_costOf cX0_costOf 4 (some FieldType.int) ∈ BW := tb4 (List.mem_of_getElem? (i := 122) rfl) rfl
set_option maxRecDepth 20000 in
theorem kX1_init : Cond.code yX1_init cX1_init 1 none ∈ BW := tb1 (List.mem_of_getElem? (i := 43) rfl) rfl
set_option maxRecDepth 20000 in
theorem kX1_become : Cond.code yX1_become cX1_become 2 none ∈ BW := tb3 (List.mem_of_getElem? (i := 59) rfl) rfl
set_option maxRecDepth 20000 in
theorem kX1_openAll : Cond.code yX1_openAll cX1_openAll 1 none ∈ BW := tb3 (List.mem_of_getElem? (i := 5) rfl) rfl
set_option maxRecDepth 20000 in
theorem kX1_addSo : Cond.code yX1_addSo cX1_addSo 4 none ∈ BW := tb3 (List.mem_of_getElem? (i := 9) rfl) rfl
set_option maxRecDepth 20000 in
theorem kX1_addAbove : Cond.code yX1_addAbove cX1_addAbove 4 none ∈ BW := tb3 (List.mem_of_getElem? (i := 13) rfl) rfl
set_option maxRecDepth 20000 in
theorem kX1_isMet : Cond.code yX1_isMet cX1_isMet 5 (some FieldType.boolean) ∈ BW := tb4 (List.mem_of_getElem? (i := 47) rfl) rfl
set_option maxRecDepth 20000 in
theorem kX2_init : Cond.code yX2_init cX2_init 4 none ∈ BW := tb1 (List.mem_of_getElem? (i := 184) rfl) rfl
set_option maxRecDepth 20000 in
theorem kX2_find : Cond.code yX2_find cX2_find 6 (some FieldType.boolean) ∈ BW := tb4 (List.mem_of_getElem? (i := 60) rfl) rfl
set_option maxRecDepth 20000 in
theorem kX2_sizeUp : Cond.code yX2_sizeUp cX2_sizeUp 1 none ∈ BW := tb4 (List.mem_of_getElem? (i := 86) rfl) rfl
set_option maxRecDepth 20000 in
theorem kX2_keepBest : Cond.code yX2_keepBest cX2_keepBest 5 none ∈ BW := tb4 (List.mem_of_getElem? (i := 150) rfl) rfl
set_option maxRecDepth 20000 in
theorem kX2_clearCosts : Cond.code yX2_clearCosts cX2_clearCosts 3 none ∈ BW := tb4 (List.mem_of_getElem? (i := 92) rfl) rfl
set_option maxRecDepth 20000 in
theorem kX2_clearWays : Cond.code yX2_clearWays cX2_clearWays 4 none ∈ BW := tb4 (List.mem_of_getElem? (i := 154) rfl) rfl
set_option maxRecDepth 20000 in
theorem kX2_dropUnkept : Cond.code yX2_dropUnkept cX2_dropUnkept 4 none ∈ BW := tb4 (List.mem_of_getElem? (i := 158) rfl) rfl
set_option maxRecDepth 20000 in
theorem kX2_tally : Cond.code yX2_tally cX2_tally 7 (some FieldType.int) ∈ BW := tb4 (List.mem_of_getElem? (i := 211) rfl) rfl
set_option maxRecDepth 20000 in
theorem kX2_soOf : Cond.code yX2_soOf cX2_soOf 3 (some FieldType.int) ∈ BW := tb4 (List.mem_of_getElem? (i := 170) rfl) rfl
set_option maxRecDepth 20000 in
theorem kX2_surely : Cond.code yX2_surely cX2_surely 3 (some FieldType.boolean) ∈ BW := tb4 (List.mem_of_getElem? (i := 174) rfl) rfl
set_option maxRecDepth 20000 in
theorem kX2_layerOf : Cond.code yX2_layerOf cX2_layerOf 1 (some FieldType.int) ∈ BW := tb4 (List.mem_of_getElem? (i := 138) rfl) rfl
set_option maxRecDepth 20000 in
theorem kX2_walk : Cond.code yX2_walk cX2_walk 8 none ∈ BW := tb4 (List.mem_of_getElem? (i := 97) rfl) rfl
set_option maxRecDepth 20000 in
theorem kX2_gatherLooks : Cond.code yX2_gatherLooks cX2_gatherLooks 9 (some FieldType.int) ∈ BW := tb4 (List.mem_of_getElem? (i := 101) rfl) rfl
set_option maxRecDepth 20000 in
theorem kX2_goesOnAsOne : Cond.code yX2_goesOnAsOne cX2_goesOnAsOne 5 (some FieldType.boolean) ∈ BW := tb4 (List.mem_of_getElem? (i := 114) rfl) rfl
set_option maxRecDepth 20000 in
theorem kX2_isReached : Cond.code yX2_isReached cX2_isReached 4 (some FieldType.boolean) ∈ BW := tb4 (List.mem_of_getElem? (i := 106) rfl) rfl
set_option maxRecDepth 20000 in
theorem kX2_meet : Cond.code yX2_meet cX2_meet 14 none ∈ BW := tb4 (List.mem_of_getElem? (i := 126) rfl) rfl
set_option maxRecDepth 20000 in
theorem kX2_keep : Cond.code yX2_keep cX2_keep 7 none ∈ BW := tb4 (List.mem_of_getElem? (i := 135) rfl) rfl
set_option maxRecDepth 20000 in
theorem kX2_addTally : Cond.code yX2_addTally cX2_addTally 9 none ∈ BW := tb4 (List.mem_of_getElem? (i := 146) rfl) rfl
set_option maxRecDepth 20000 in
theorem kX3_init : Cond.code yX3_init cX3_init 1 none ∈ BW := tb1 (List.mem_of_getElem? (i := 66) rfl) rfl
set_option maxRecDepth 20000 in
theorem kX3_become : Cond.code yX3_become cX3_become 2 none ∈ BW := tb3 (List.mem_of_getElem? (i := 75) rfl) rfl
set_option maxRecDepth 20000 in
theorem kX3_clear : Cond.code yX3_clear cX3_clear 1 none ∈ BW := tb2 (List.mem_of_getElem? (i := 212) rfl) rfl
set_option maxRecDepth 20000 in
theorem kX3_addEffect : Cond.code yX3_addEffect cX3_addEffect 4 none ∈ BW := tb3 (List.mem_of_getElem? (i := 31) rfl) rfl
set_option maxRecDepth 20000 in
theorem kX4_init : Cond.code yX4_init cX4_init 6 none ∈ BW := tb3 (List.mem_of_getElem? (i := 183) rfl) rfl
set_option maxRecDepth 20000 in
theorem kX4_binds : Cond.code yX4_binds cX4_binds 3 (some FieldType.int) ∈ BW := tb5 (List.mem_of_getElem? (i := 47) rfl) rfl
set_option maxRecDepth 20000 in
theorem kX4_tells : Cond.code yX4_tells cX4_tells 3 (some FieldType.int) ∈ BW := tb5 (List.mem_of_getElem? (i := 24) rfl) rfl
set_option maxRecDepth 20000 in
theorem kX5_init : Cond.code yX5_init cX5_init 2 none ∈ BW := tb1 (List.mem_of_getElem? (i := 153) rfl) rfl
set_option maxRecDepth 20000 in
theorem kX5_read : Cond.code yX5_read cX5_read 5 (some FieldType.int) ∈ BW := tb2 (List.mem_of_getElem? (i := 208) rfl) rfl
set_option maxRecDepth 20000 in
theorem kX5_after : Cond.code yX5_after cX5_after 3 (some FieldType.int) ∈ BW := tb2 (List.mem_of_getElem? (i := 221) rfl) rfl
set_option maxRecDepth 20000 in
theorem kX5_afterAtomBegan : Cond.code yX5_afterAtomBegan cX5_afterAtomBegan 2 (some FieldType.int) ∈ BW := tb2 (List.mem_of_getElem? (i := 225) rfl) rfl
set_option maxRecDepth 20000 in
theorem kX5_afterName : Cond.code yX5_afterName cX5_afterName 4 (some FieldType.int) ∈ BW := tb2 (List.mem_of_getElem? (i := 229) rfl) rfl
set_option maxRecDepth 20000 in
theorem kX5_afterBound : Cond.code yX5_afterBound cX5_afterBound 2 (some FieldType.int) ∈ BW := tb3 (List.mem_of_getElem? (i := 23) rfl) rfl
set_option maxRecDepth 20000 in
theorem kX5_afterAtom : Cond.code yX5_afterAtom cX5_afterAtom 2 (some FieldType.int) ∈ BW := tb2 (List.mem_of_getElem? (i := 237) rfl) rfl
set_option maxRecDepth 20000 in
theorem kX5_closeAtom : Cond.code yX5_closeAtom cX5_closeAtom 1 none ∈ BW := tb3 (List.mem_of_getElem? (i := 1) rfl) rfl
set_option maxRecDepth 20000 in
theorem kX5_afterEffectBegan : Cond.code yX5_afterEffectBegan cX5_afterEffectBegan 2 (some FieldType.int) ∈ BW := tb3 (List.mem_of_getElem? (i := 39) rfl) rfl
set_option maxRecDepth 20000 in
theorem kX5_afterKept : Cond.code yX5_afterKept cX5_afterKept 4 (some FieldType.int) ∈ BW := tb3 (List.mem_of_getElem? (i := 27) rfl) rfl
set_option maxRecDepth 20000 in
theorem kX5_afterStilled : Cond.code yX5_afterStilled cX5_afterStilled 2 (some FieldType.int) ∈ BW := tb3 (List.mem_of_getElem? (i := 35) rfl) rfl
set_option maxRecDepth 20000 in
theorem kX5_kindOf : Cond.code yX5_kindOf cX5_kindOf 2 (some FieldType.int) ∈ BW := tb2 (List.mem_of_getElem? (i := 233) rfl) rfl
set_option maxRecDepth 20000 in
theorem kX6_init : Cond.code yX6_init cX6_init 5 none ∈ BW := tb3 (List.mem_of_getElem? (i := 198) rfl) rfl
set_option maxRecDepth 20000 in
theorem kX6_init_ : Cond.code yX6_init_ cX6_init_ 8 none ∈ BW := tb3 (List.mem_of_getElem? (i := 122) rfl) rfl
set_option maxRecDepth 20000 in
theorem kX6_begin : Cond.code yX6_begin cX6_begin 3 none ∈ BW := tb5 (List.mem_of_getElem? (i := 28) rfl) rfl
set_option maxRecDepth 20000 in
theorem kX6_tells : Cond.code yX6_tells cX6_tells 3 (some FieldType.int) ∈ BW := tb5 (List.mem_of_getElem? (i := 39) rfl) rfl
set_option maxRecDepth 20000 in
theorem kX6_binds : Cond.code yX6_binds cX6_binds 3 (some FieldType.int) ∈ BW := tb5 (List.mem_of_getElem? (i := 56) rfl) rfl
set_option maxRecDepth 20000 in
theorem kX6_weighs : Cond.code yX6_weighs cX6_weighs 4 (some FieldType.int) ∈ BW := tb5 (List.mem_of_getElem? (i := 68) rfl) rfl
set_option maxRecDepth 20000 in
theorem kX7_init : Cond.code yX7_init cX7_init 1 none ∈ BW := tb2 (List.mem_of_getElem? (i := 44) rfl) rfl
set_option maxRecDepth 20000 in
theorem kX7_holdsRow : Cond.code yX7_holdsRow cX7_holdsRow 1 (some FieldType.boolean) ∈ BW := tb2 (List.mem_of_getElem? (i := 131) rfl) rfl
set_option maxRecDepth 20000 in
theorem kX7_holdsPiece : Cond.code yX7_holdsPiece cX7_holdsPiece 1 (some FieldType.boolean) ∈ BW := tb2 (List.mem_of_getElem? (i := 135) rfl) rfl
set_option maxRecDepth 20000 in
theorem kX7_takeRow : Cond.code yX7_takeRow cX7_takeRow 3 none ∈ BW := tb2 (List.mem_of_getElem? (i := 116) rfl) rfl
set_option maxRecDepth 20000 in
theorem kX7_takePiece : Cond.code yX7_takePiece cX7_takePiece 2 none ∈ BW := tb2 (List.mem_of_getElem? (i := 179) rfl) rfl
set_option maxRecDepth 20000 in
theorem kX7_has : Cond.code yX7_has cX7_has 2 (some FieldType.boolean) ∈ BW := tb2 (List.mem_of_getElem? (i := 139) rfl) rfl
set_option maxRecDepth 20000 in
theorem kX7_reaches : Cond.code yX7_reaches cX7_reaches 3 (some FieldType.boolean) ∈ BW := tb2 (List.mem_of_getElem? (i := 156) rfl) rfl
set_option maxRecDepth 20000 in
theorem kX7_put : Cond.code yX7_put cX7_put 4 none ∈ BW := tb2 (List.mem_of_getElem? (i := 143) rfl) rfl
set_option maxRecDepth 20000 in
theorem kX7_cellAt : Cond.code yX7_cellAt cX7_cellAt 2 (some FieldType.long) ∈ BW := tb2 (List.mem_of_getElem? (i := 167) rfl) rfl
set_option maxRecDepth 20000 in
theorem kX7_intAt : Cond.code yX7_intAt cX7_intAt 2 (some FieldType.int) ∈ BW := tb2 (List.mem_of_getElem? (i := 216) rfl) rfl
set_option maxRecDepth 20000 in
theorem kX7_narrowed : Cond.code yX7_narrowed cX7_narrowed 3 (some FieldType.long) ∈ BW := tb2 (List.mem_of_getElem? (i := 148) rfl) rfl
set_option maxRecDepth 20000 in
theorem kX8_init : Cond.code yX8_init cX8_init 6 none ∈ BW := tb3 (List.mem_of_getElem? (i := 119) rfl) rfl
set_option maxRecDepth 20000 in
theorem kX8_init_ : Cond.code yX8_init_ cX8_init_ 7 none ∈ BW := tb3 (List.mem_of_getElem? (i := 186) rfl) rfl
set_option maxRecDepth 20000 in
theorem kX8_binds : Cond.code yX8_binds cX8_binds 3 (some FieldType.int) ∈ BW := tb5 (List.mem_of_getElem? (i := 50) rfl) rfl
set_option maxRecDepth 20000 in
theorem kX9_init : Cond.code yX9_init cX9_init 7 none ∈ BW := tb3 (List.mem_of_getElem? (i := 169) rfl) rfl
set_option maxRecDepth 20000 in
theorem kX9_tells : Cond.code yX9_tells cX9_tells 3 (some FieldType.int) ∈ BW := tb5 (List.mem_of_getElem? (i := 35) rfl) rfl
set_option maxRecDepth 20000 in
theorem kX9_weighs : Cond.code yX9_weighs cX9_weighs 3 (some FieldType.int) ∈ BW := tb5 (List.mem_of_getElem? (i := 66) rfl) rfl
set_option maxRecDepth 20000 in
theorem kX10_init : Cond.code yX10_init cX10_init 2 none ∈ BW := tb1 (List.mem_of_getElem? (i := 32) rfl) rfl
set_option maxRecDepth 20000 in
theorem kX10_become : Cond.code yX10_become cX10_become 3 none ∈ BW := tb5 (List.mem_of_getElem? (i := 81) rfl) rfl
set_option maxRecDepth 20000 in
theorem kX10_countOf : Cond.code yX10_countOf cX10_countOf 4 (some FieldType.int) ∈ BW := tb3 (List.mem_of_getElem? (i := 47) rfl) rfl
set_option maxRecDepth 20000 in
theorem kX10_hasRoomFor : Cond.code yX10_hasRoomFor cX10_hasRoomFor 2 (some FieldType.boolean) ∈ BW := tb3 (List.mem_of_getElem? (i := 43) rfl) rfl
set_option maxRecDepth 20000 in
theorem kX10_mostOf : Cond.code yX10_mostOf cX10_mostOf 1 (some FieldType.int) ∈ BW := tb3 (List.mem_of_getElem? (i := 50) rfl) rfl
set_option maxRecDepth 20000 in
theorem kX10_addThing : Cond.code yX10_addThing cX10_addThing 4 (some FieldType.int) ∈ BW := tb3 (List.mem_of_getElem? (i := 54) rfl) rfl
set_option maxRecDepth 20000 in
theorem kX10_addHappening : Cond.code yX10_addHappening cX10_addHappening 5 (some FieldType.int) ∈ BW := tb3 (List.mem_of_getElem? (i := 71) rfl) rfl
set_option maxRecDepth 20000 in
theorem kX10_hasRoomForPiece : Cond.code yX10_hasRoomForPiece cX10_hasRoomForPiece 5 (some FieldType.boolean) ∈ BW := tb3 (List.mem_of_getElem? (i := 110) rfl) rfl
set_option maxRecDepth 20000 in
theorem kX10_addPiece : Cond.code yX10_addPiece cX10_addPiece 8 (some FieldType.int) ∈ BW := tb3 (List.mem_of_getElem? (i := 114) rfl) rfl
set_option maxRecDepth 20000 in
theorem kX10_pieceAt : Cond.code yX10_pieceAt cX10_pieceAt 2 (some (FieldType.object "SoWhen$Seen")) ∈ BW := tb2 (List.mem_of_getElem? (i := 175) rfl) rfl
set_option maxRecDepth 20000 in
theorem kX10_isPutBy : Cond.code yX10_isPutBy cX10_isPutBy 2 (some FieldType.boolean) ∈ BW := tb4 (List.mem_of_getElem? (i := 7) rfl) rfl
set_option maxRecDepth 20000 in
theorem kX10_inForce : Cond.code yX10_inForce cX10_inForce 1 (some FieldType.int) ∈ BW := tb4 (List.mem_of_getElem? (i := 56) rfl) rfl
set_option maxRecDepth 20000 in
theorem kX10_toldBy : Cond.code yX10_toldBy cX10_toldBy 6 (some FieldType.int) ∈ BW := tb5 (List.mem_of_getElem? (i := 12) rfl) rfl
set_option maxRecDepth 20000 in
theorem kX10_weightOf : Cond.code yX10_weightOf cX10_weightOf 3 (some FieldType.int) ∈ BW := tb4 (List.mem_of_getElem? (i := 202) rfl) rfl
set_option maxRecDepth 20000 in
theorem kX10_isSeenIn : Cond.code yX10_isSeenIn cX10_isSeenIn 4 (some FieldType.boolean) ∈ BW := tb5 (List.mem_of_getElem? (i := 2) rfl) rfl
set_option maxRecDepth 20000 in
theorem kX10_freeLooks : Cond.code yX10_freeLooks cX10_freeLooks 1 (some FieldType.int) ∈ BW := tb4 (List.mem_of_getElem? (i := 31) rfl) rfl
set_option maxRecDepth 20000 in
theorem kX10_lowStates : Cond.code yX10_lowStates cX10_lowStates 1 (some FieldType.int) ∈ BW := tb4 (List.mem_of_getElem? (i := 35) rfl) rfl
set_option maxRecDepth 20000 in
theorem kX10_fillTables : Cond.code yX10_fillTables cX10_fillTables 13 none ∈ BW := tb4 (List.mem_of_getElem? (i := 27) rfl) rfl
set_option maxRecDepth 20000 in
theorem kX10_truthOf : Cond.code yX10_truthOf cX10_truthOf 7 (some FieldType.int) ∈ BW := tb4 (List.mem_of_getElem? (i := 39) rfl) rfl
set_option maxRecDepth 20000 in
theorem kX10_isThingSo : Cond.code yX10_isThingSo cX10_isThingSo 6 (some FieldType.boolean) ∈ BW := tb4 (List.mem_of_getElem? (i := 43) rfl) rfl
set_option maxRecDepth 20000 in
theorem kX10_nextOf : Cond.code yX10_nextOf cX10_nextOf 10 (some FieldType.int) ∈ BW := tb4 (List.mem_of_getElem? (i := 52) rfl) rfl
set_option maxRecDepth 20000 in
theorem kX11_init : Cond.code yX11_init cX11_init 2 none ∈ BW := tb1 (List.mem_of_getElem? (i := 22) rfl) rfl
set_option maxRecDepth 20000 in
theorem kX11_row : Cond.code yX11_row cX11_row 4 (some FieldType.int) ∈ BW := tb2 (List.mem_of_getElem? (i := 105) rfl) rfl
set_option maxRecDepth 20000 in
theorem kX11_set : Cond.code yX11_set cX11_set 6 (some FieldType.int) ∈ BW := tb2 (List.mem_of_getElem? (i := 123) rfl) rfl
set_option maxRecDepth 20000 in
theorem kX11_copy : Cond.code yX11_copy cX11_copy 8 (some FieldType.int) ∈ BW := tb2 (List.mem_of_getElem? (i := 152) rfl) rfl
set_option maxRecDepth 20000 in
theorem kX11_element : Cond.code yX11_element cX11_element 3 (some FieldType.long) ∈ BW := tb2 (List.mem_of_getElem? (i := 163) rfl) rfl
set_option maxRecDepth 20000 in
theorem kX11_show : Cond.code yX11_show cX11_show 3 (some FieldType.int) ∈ BW := tb2 (List.mem_of_getElem? (i := 171) rfl) rfl
set_option maxRecDepth 20000 in
theorem kX11_holds : Cond.code yX11_holds cX11_holds 2 (some FieldType.int) ∈ BW := tb2 (List.mem_of_getElem? (i := 183) rfl) rfl
set_option maxRecDepth 20000 in
theorem kX11_says : Cond.code yX11_says cX11_says 4 (some FieldType.int) ∈ BW := tb2 (List.mem_of_getElem? (i := 187) rfl) rfl
set_option maxRecDepth 20000 in
theorem kX11_thing : Cond.code yX11_thing cX11_thing 4 (some FieldType.int) ∈ BW := tb2 (List.mem_of_getElem? (i := 200) rfl) rfl
set_option maxRecDepth 20000 in
theorem kX11_happening : Cond.code yX11_happening cX11_happening 5 (some FieldType.int) ∈ BW := tb3 (List.mem_of_getElem? (i := 64) rfl) rfl
set_option maxRecDepth 20000 in
theorem kX11_fault : Cond.code yX11_fault cX11_fault 1 (some FieldType.int) ∈ BW := tb3 (List.mem_of_getElem? (i := 80) rfl) rfl
set_option maxRecDepth 20000 in
theorem kX11_price : Cond.code yX11_price cX11_price 4 (some FieldType.int) ∈ BW := tb3 (List.mem_of_getElem? (i := 84) rfl) rfl
set_option maxRecDepth 20000 in
theorem kX11_weigh : Cond.code yX11_weigh cX11_weigh 4 (some FieldType.int) ∈ BW := tb3 (List.mem_of_getElem? (i := 92) rfl) rfl
set_option maxRecDepth 20000 in
theorem kX11_seen : Cond.code yX11_seen cX11_seen 4 (some FieldType.int) ∈ BW := tb3 (List.mem_of_getElem? (i := 99) rfl) rfl
set_option maxRecDepth 20000 in
theorem kX11_span : Cond.code yX11_span cX11_span 6 (some FieldType.int) ∈ BW := tb3 (List.mem_of_getElem? (i := 211) rfl) rfl
set_option maxRecDepth 20000 in
theorem kX11_was : Cond.code yX11_was cX11_was 6 (some FieldType.int) ∈ BW := tb3 (List.mem_of_getElem? (i := 218) rfl) rfl
set_option maxRecDepth 20000 in
theorem kX11_sheet : Cond.code yX11_sheet cX11_sheet 8 (some FieldType.int) ∈ BW := tb3 (List.mem_of_getElem? (i := 234) rfl) rfl
set_option maxRecDepth 20000 in
theorem kX11_by : Cond.code yX11_by cX11_by 3 (some FieldType.int) ∈ BW := tb4 (List.mem_of_getElem? (i := 3) rfl) rfl
set_option maxRecDepth 20000 in
theorem kX11_pieceOf : Cond.code yX11_pieceOf cX11_pieceOf 4 (some FieldType.int) ∈ BW := tb4 (List.mem_of_getElem? (i := 11) rfl) rfl
set_option maxRecDepth 20000 in
theorem kX11_least : Cond.code yX11_least cX11_least 1 (some FieldType.int) ∈ BW := tb4 (List.mem_of_getElem? (i := 15) rfl) rfl
set_option maxRecDepth 20000 in
theorem kX11_courses : Cond.code yX11_courses cX11_courses 1 (some FieldType.long) ∈ BW := tb4 (List.mem_of_getElem? (i := 162) rfl) rfl
set_option maxRecDepth 20000 in
theorem kX11_is : Cond.code yX11_is cX11_is 3 (some FieldType.int) ∈ BW := tb4 (List.mem_of_getElem? (i := 166) rfl) rfl
set_option maxRecDepth 20000 in
theorem kX11_value : Cond.code yX11_value cX11_value 4 (some FieldType.int) ∈ BW := tb4 (List.mem_of_getElem? (i := 178) rfl) rfl
set_option maxRecDepth 20000 in
theorem kX11_why : Cond.code yX11_why cX11_why 7 (some FieldType.int) ∈ BW := tb4 (List.mem_of_getElem? (i := 186) rfl) rfl
set_option maxRecDepth 20000 in
theorem kX11_quarrel : Cond.code yX11_quarrel cX11_quarrel 4 (some FieldType.int) ∈ BW := tb4 (List.mem_of_getElem? (i := 194) rfl) rfl
set_option maxRecDepth 20000 in
theorem kX11_out : Cond.code yX11_out cX11_out 7 (some FieldType.int) ∈ BW := tb4 (List.mem_of_getElem? (i := 198) rfl) rfl
set_option maxRecDepth 20000 in
theorem kX11_must : Cond.code yX11_must cX11_must 4 (some FieldType.int) ∈ BW := tb4 (List.mem_of_getElem? (i := 207) rfl) rfl
set_option maxRecDepth 20000 in
theorem kX11_could : Cond.code yX11_could cX11_could 3 (some FieldType.int) ∈ BW := tb4 (List.mem_of_getElem? (i := 218) rfl) rfl
set_option maxRecDepth 20000 in
theorem kX11_ever : Cond.code yX11_ever cX11_ever 4 (some FieldType.int) ∈ BW := tb4 (List.mem_of_getElem? (i := 222) rfl) rfl
set_option maxRecDepth 20000 in
theorem kX11_howLong : Cond.code yX11_howLong cX11_howLong 5 (some FieldType.int) ∈ BW := tb4 (List.mem_of_getElem? (i := 226) rfl) rfl
set_option maxRecDepth 20000 in
theorem kX11_since : Cond.code yX11_since cX11_since 5 (some FieldType.int) ∈ BW := tb4 (List.mem_of_getElem? (i := 230) rfl) rfl
set_option maxRecDepth 20000 in
theorem kX11_plan : Cond.code yX11_plan cX11_plan 6 (some FieldType.int) ∈ BW := tb4 (List.mem_of_getElem? (i := 234) rfl) rfl
set_option maxRecDepth 20000 in
theorem kX11_seemed : Cond.code yX11_seemed cX11_seemed 5 (some FieldType.int) ∈ BW := tb5 (List.mem_of_getElem? (i := 8) rfl) rfl
set_option maxRecDepth 20000 in
theorem kX11_act : Cond.code yX11_act cX11_act 5 (some FieldType.int) ∈ BW := tb5 (List.mem_of_getElem? (i := 17) rfl) rfl
set_option maxRecDepth 20000 in
theorem kX11_trace : Cond.code yX11_trace cX11_trace 2 (some FieldType.int) ∈ BW := tb5 (List.mem_of_getElem? (i := 73) rfl) rfl
set_option maxRecDepth 20000 in
theorem kX11_image : Cond.code yX11_image cX11_image 1 (some FieldType.int) ∈ BW := tb5 (List.mem_of_getElem? (i := 77) rfl) rfl
set_option maxRecDepth 20000 in
theorem kX11_restore : Cond.code yX11_restore cX11_restore 2 (some FieldType.int) ∈ BW := tb5 (List.mem_of_getElem? (i := 86) rfl) rfl
set_option maxRecDepth 20000 in
theorem kX11_status : Cond.code yX11_status cX11_status 2 (some FieldType.int) ∈ BW := tb5 (List.mem_of_getElem? (i := 90) rfl) rfl
set_option maxRecDepth 20000 in
theorem kX11_refuse : Cond.code yX11_refuse cX11_refuse 3 (some FieldType.int) ∈ BW := tb2 (List.mem_of_getElem? (i := 112) rfl) rfl
set_option maxRecDepth 20000 in
theorem kX11_isShelf : Cond.code yX11_isShelf cX11_isShelf 1 (some FieldType.boolean) ∈ BW := tb2 (List.mem_of_getElem? (i := 108) rfl) rfl
set_option maxRecDepth 20000 in
theorem kX11_isKind : Cond.code yX11_isKind cX11_isKind 1 (some FieldType.boolean) ∈ BW := tb2 (List.mem_of_getElem? (i := 190) rfl) rfl
set_option maxRecDepth 20000 in
theorem kX11_isMouth : Cond.code yX11_isMouth cX11_isMouth 1 (some FieldType.boolean) ∈ BW := tb3 (List.mem_of_getElem? (i := 95) rfl) rfl
set_option maxRecDepth 20000 in
theorem kX11_isHour : Cond.code yX11_isHour cX11_isHour 1 (some FieldType.boolean) ∈ BW := tb3 (List.mem_of_getElem? (i := 102) rfl) rfl
set_option maxRecDepth 20000 in
theorem kX11_areHours : Cond.code yX11_areHours cX11_areHours 2 (some FieldType.boolean) ∈ BW := tb3 (List.mem_of_getElem? (i := 214) rfl) rfl
set_option maxRecDepth 20000 in
theorem kX11_isNumber : Cond.code yX11_isNumber cX11_isNumber 1 (some FieldType.boolean) ∈ BW := tb3 (List.mem_of_getElem? (i := 67) rfl) rfl
set_option maxRecDepth 20000 in
theorem kX11_isThing : Cond.code yX11_isThing cX11_isThing 2 (some FieldType.boolean) ∈ BW := tb3 (List.mem_of_getElem? (i := 222) rfl) rfl
set_option maxRecDepth 20000 in
theorem kX11_isHappening : Cond.code yX11_isHappening cX11_isHappening 2 (some FieldType.boolean) ∈ BW := tb3 (List.mem_of_getElem? (i := 88) rfl) rfl
set_option maxRecDepth 20000 in
theorem kX11_isRunning : Cond.code yX11_isRunning cX11_isRunning 2 (some FieldType.boolean) ∈ BW := tb3 (List.mem_of_getElem? (i := 230) rfl) rfl
set_option maxRecDepth 20000 in
theorem kX11_canHave : Cond.code yX11_canHave cX11_canHave 3 (some FieldType.boolean) ∈ BW := tb3 (List.mem_of_getElem? (i := 226) rfl) rfl
set_option maxRecDepth 20000 in
theorem kX11_isOf : Cond.code yX11_isOf cX11_isOf 2 (some FieldType.boolean) ∈ BW := tb2 (List.mem_of_getElem? (i := 193) rfl) rfl
set_option maxRecDepth 20000 in
theorem kX11_rowTrouble : Cond.code yX11_rowTrouble cX11_rowTrouble 2 (some FieldType.int) ∈ BW := tb2 (List.mem_of_getElem? (i := 127) rfl) rfl
set_option maxRecDepth 20000 in
theorem kX11_readingTrouble : Cond.code yX11_readingTrouble cX11_readingTrouble 3 (some FieldType.int) ∈ BW := tb2 (List.mem_of_getElem? (i := 204) rfl) rfl
set_option maxRecDepth 20000 in
theorem kX11_tell : Cond.code yX11_tell cX11_tell 7 (some FieldType.int) ∈ BW := tb3 (List.mem_of_getElem? (i := 106) rfl) rfl
set_option maxRecDepth 20000 in
theorem kX11_tellFrom : Cond.code yX11_tellFrom cX11_tellFrom 10 (some FieldType.boolean) ∈ BW := tb3 (List.mem_of_getElem? (i := 238) rfl) rfl
set_option maxRecDepth 20000 in
theorem kX11_current : Cond.code yX11_current cX11_current 1 (some (FieldType.object "SoWhen$Courses")) ∈ BW := tb4 (List.mem_of_getElem? (i := 19) rfl) rfl
set_option maxRecDepth 20000 in
theorem kX11_freshenTruth : Cond.code yX11_freshenTruth cX11_freshenTruth 1 none ∈ BW := tb4 (List.mem_of_getElem? (i := 23) rfl) rfl
set_option maxRecDepth 20000 in
theorem kX11_seems : Cond.code yX11_seems cX11_seems 4 (some FieldType.int) ∈ BW := tb4 (List.mem_of_getElem? (i := 190) rfl) rfl
set_option maxRecDepth 20000 in
theorem kX11_wouldBring : Cond.code yX11_wouldBring cX11_wouldBring 5 (some FieldType.boolean) ∈ BW := tb4 (List.mem_of_getElem? (i := 238) rfl) rfl
set_option maxRecDepth 20000 in
theorem kX11_inSome : Cond.code yX11_inSome cX11_inSome 1 (some FieldType.int) ∈ BW := tb4 (List.mem_of_getElem? (i := 214) rfl) rfl
set_option maxRecDepth 20000 in
theorem kX11_joined : Cond.code yX11_joined cX11_joined 5 (some FieldType.int) ∈ BW := tb4 (List.mem_of_getElem? (i := 181) rfl) rfl
set_option maxRecDepth 20000 in
theorem kX12_init : Cond.code yX12_init cX12_init 2 none ∈ BW := tb5 (List.mem_of_getElem? (i := 101) rfl) rfl
set_option maxRecDepth 20000 in
theorem kX12_no : Cond.code yX12_no cX12_no 2 (some FieldType.int) ∈ BW := tb6 (List.mem_of_getElem? (i := 61) rfl) rfl
set_option maxRecDepth 20000 in
theorem kX12_isShelf : Cond.code yX12_isShelf cX12_isShelf 2 (some FieldType.boolean) ∈ BW := tb6 (List.mem_of_getElem? (i := 57) rfl) rfl
set_option maxRecDepth 20000 in
theorem kX12_isRow : Cond.code yX12_isRow cX12_isRow 2 (some FieldType.boolean) ∈ BW := tb6 (List.mem_of_getElem? (i := 73) rfl) rfl
set_option maxRecDepth 20000 in
theorem kX12_holdsPiece : Cond.code yX12_holdsPiece cX12_holdsPiece 2 (some FieldType.boolean) ∈ BW := tb6 (List.mem_of_getElem? (i := 81) rfl) rfl
set_option maxRecDepth 20000 in
theorem kX12_isThing : Cond.code yX12_isThing cX12_isThing 2 (some FieldType.boolean) ∈ BW := tb6 (List.mem_of_getElem? (i := 125) rfl) rfl
set_option maxRecDepth 20000 in
theorem kX12_isHappening : Cond.code yX12_isHappening cX12_isHappening 2 (some FieldType.boolean) ∈ BW := tb6 (List.mem_of_getElem? (i := 149) rfl) rfl
set_option maxRecDepth 20000 in
theorem kX12_isPiece : Cond.code yX12_isPiece cX12_isPiece 2 (some FieldType.boolean) ∈ BW := tb6 (List.mem_of_getElem? (i := 93) rfl) rfl
set_option maxRecDepth 20000 in
theorem kX12_isMouth : Cond.code yX12_isMouth cX12_isMouth 2 (some FieldType.boolean) ∈ BW := tb6 (List.mem_of_getElem? (i := 157) rfl) rfl
set_option maxRecDepth 20000 in
theorem kX12_isHour : Cond.code yX12_isHour cX12_isHour 2 (some FieldType.boolean) ∈ BW := tb6 (List.mem_of_getElem? (i := 165) rfl) rfl
set_option maxRecDepth 20000 in
theorem kX12_areHours : Cond.code yX12_areHours cX12_areHours 3 (some FieldType.boolean) ∈ BW := tb6 (List.mem_of_getElem? (i := 177) rfl) rfl
set_option maxRecDepth 20000 in
theorem kX12_row : Cond.code yX12_row cX12_row 5 (some FieldType.int) ∈ BW := tb6 (List.mem_of_getElem? (i := 53) rfl) rfl
set_option maxRecDepth 20000 in
theorem kX12_noRow : Cond.code yX12_noRow cX12_noRow 2 (some FieldType.int) ∈ BW := tb6 (List.mem_of_getElem? (i := 69) rfl) rfl
set_option maxRecDepth 20000 in
theorem kX12_set : Cond.code yX12_set cX12_set 7 (some FieldType.int) ∈ BW := tb6 (List.mem_of_getElem? (i := 65) rfl) rfl
set_option maxRecDepth 20000 in
theorem kX12_copy : Cond.code yX12_copy cX12_copy 7 (some FieldType.int) ∈ BW := tb6 (List.mem_of_getElem? (i := 77) rfl) rfl
set_option maxRecDepth 20000 in
theorem kX12_element : Cond.code yX12_element cX12_element 3 (some FieldType.long) ∈ BW := tb6 (List.mem_of_getElem? (i := 85) rfl) rfl
set_option maxRecDepth 20000 in
theorem kX12_show : Cond.code yX12_show cX12_show 3 (some FieldType.int) ∈ BW := tb6 (List.mem_of_getElem? (i := 89) rfl) rfl
set_option maxRecDepth 20000 in
theorem kX12_holds : Cond.code yX12_holds cX12_holds 2 (some FieldType.int) ∈ BW := tb6 (List.mem_of_getElem? (i := 97) rfl) rfl
set_option maxRecDepth 20000 in
theorem kX12_says : Cond.code yX12_says cX12_says 4 (some FieldType.int) ∈ BW := tb6 (List.mem_of_getElem? (i := 101) rfl) rfl
set_option maxRecDepth 20000 in
theorem kX12_letter : Cond.code yX12_letter cX12_letter 3 (some FieldType.int) ∈ BW := tb6 (List.mem_of_getElem? (i := 117) rfl) rfl
set_option maxRecDepth 20000 in
theorem kX12_isDigitOf : Cond.code yX12_isDigitOf cX12_isDigitOf 4 (some FieldType.boolean) ∈ BW := tb6 (List.mem_of_getElem? (i := 121) rfl) rfl
set_option maxRecDepth 20000 in
theorem kX12_overCondition : Cond.code yX12_overCondition cX12_overCondition 3 (some FieldType.boolean) ∈ BW := tb6 (List.mem_of_getElem? (i := 113) rfl) rfl
set_option maxRecDepth 20000 in
theorem kX12_conditionFault : Cond.code yX12_conditionFault cX12_conditionFault 2 (some FieldType.int) ∈ BW := tb6 (List.mem_of_getElem? (i := 109) rfl) rfl
set_option maxRecDepth 20000 in
theorem kX12_lawFault : Cond.code yX12_lawFault cX12_lawFault 4 (some FieldType.int) ∈ BW := tb6 (List.mem_of_getElem? (i := 137) rfl) rfl
set_option maxRecDepth 20000 in
theorem kX12_many : Cond.code yX12_many cX12_many 4 (some FieldType.int) ∈ BW := tb6 (List.mem_of_getElem? (i := 129) rfl) rfl
set_option maxRecDepth 20000 in
theorem kX12_thing : Cond.code yX12_thing cX12_thing 5 (some FieldType.int) ∈ BW := tb6 (List.mem_of_getElem? (i := 105) rfl) rfl
set_option maxRecDepth 20000 in
theorem kX12_happening : Cond.code yX12_happening cX12_happening 6 (some FieldType.int) ∈ BW := tb6 (List.mem_of_getElem? (i := 133) rfl) rfl
set_option maxRecDepth 20000 in
theorem kX12_fault : Cond.code yX12_fault cX12_fault 1 (some FieldType.int) ∈ BW := tb6 (List.mem_of_getElem? (i := 141) rfl) rfl
set_option maxRecDepth 20000 in
theorem kX12_price : Cond.code yX12_price cX12_price 4 (some FieldType.int) ∈ BW := tb6 (List.mem_of_getElem? (i := 145) rfl) rfl
set_option maxRecDepth 20000 in
theorem kX12_weigh : Cond.code yX12_weigh cX12_weigh 4 (some FieldType.int) ∈ BW := tb6 (List.mem_of_getElem? (i := 153) rfl) rfl
set_option maxRecDepth 20000 in
theorem kX12_piece : Cond.code yX12_piece cX12_piece 7 (some FieldType.int) ∈ BW := tb6 (List.mem_of_getElem? (i := 169) rfl) rfl
set_option maxRecDepth 20000 in
theorem kX12_spanPieces : Cond.code yX12_spanPieces cX12_spanPieces 3 (some FieldType.int) ∈ BW := tb6 (List.mem_of_getElem? (i := 181) rfl) rfl
set_option maxRecDepth 20000 in
theorem kX12_seen : Cond.code yX12_seen cX12_seen 4 (some FieldType.int) ∈ BW := tb6 (List.mem_of_getElem? (i := 161) rfl) rfl
set_option maxRecDepth 20000 in
theorem kX12_span : Cond.code yX12_span cX12_span 6 (some FieldType.int) ∈ BW := tb6 (List.mem_of_getElem? (i := 173) rfl) rfl
set_option maxRecDepth 20000 in
theorem kX12_isValue : Cond.code yX12_isValue cX12_isValue 3 (some FieldType.boolean) ∈ BW := tb6 (List.mem_of_getElem? (i := 189) rfl) rfl
set_option maxRecDepth 20000 in
theorem kX12_was : Cond.code yX12_was cX12_was 6 (some FieldType.int) ∈ BW := tb6 (List.mem_of_getElem? (i := 185) rfl) rfl
set_option maxRecDepth 20000 in
theorem kX12_sheet : Cond.code yX12_sheet cX12_sheet 14 (some FieldType.int) ∈ BW := tb6 (List.mem_of_getElem? (i := 193) rfl) rfl
set_option maxRecDepth 20000 in
theorem kX12_by : Cond.code yX12_by cX12_by 4 (some FieldType.int) ∈ BW := tb6 (List.mem_of_getElem? (i := 197) rfl) rfl
set_option maxRecDepth 20000 in
theorem kX12_pieceOf : Cond.code yX12_pieceOf cX12_pieceOf 3 (some FieldType.int) ∈ BW := tb6 (List.mem_of_getElem? (i := 201) rfl) rfl
set_option maxRecDepth 20000 in
theorem kX12_holds_ : Cond.code yX12_holds_ cX12_holds_ 10 (some FieldType.boolean) ∈ BW := tb6 (List.mem_of_getElem? (i := 221) rfl) rfl
set_option maxRecDepth 20000 in
theorem kX12_thenOf : Cond.code yX12_thenOf cX12_thenOf 12 (some FieldType.int) ∈ BW := tb6 (List.mem_of_getElem? (i := 225) rfl) rfl
set_option maxRecDepth 20000 in
theorem kX12_makeMoments : Cond.code yX12_makeMoments cX12_makeMoments 11 none ∈ BW := tb6 (List.mem_of_getElem? (i := 217) rfl) rfl
set_option maxRecDepth 20000 in
theorem kX12_tell : Cond.code yX12_tell cX12_tell 3 none ∈ BW := tb6 (List.mem_of_getElem? (i := 233) rfl) rfl
set_option maxRecDepth 20000 in
theorem kX12_gather : Cond.code yX12_gather cX12_gather 6 none ∈ BW := tb6 (List.mem_of_getElem? (i := 229) rfl) rfl
set_option maxRecDepth 20000 in
theorem kX12_edgesOf : Cond.code yX12_edgesOf cX12_edgesOf 9 none ∈ BW := tb6 (List.mem_of_getElem? (i := 238) rfl) rfl
set_option maxRecDepth 20000 in
theorem kX12_solve : Cond.code yX12_solve cX12_solve 9 (some FieldType.boolean) ∈ BW := tb6 (List.mem_of_getElem? (i := 213) rfl) rfl
set_option maxRecDepth 20000 in
theorem kX12_isLeast : Cond.code yX12_isLeast cX12_isLeast 4 (some FieldType.boolean) ∈ BW := tb7 (List.mem_of_getElem? (i := 8) rfl) rfl
set_option maxRecDepth 20000 in
theorem kX12_all : Cond.code yX12_all cX12_all 3 (some FieldType.int) ∈ BW := tb6 (List.mem_of_getElem? (i := 209) rfl) rfl
set_option maxRecDepth 20000 in
theorem kX12_least : Cond.code yX12_least cX12_least 1 (some FieldType.int) ∈ BW := tb6 (List.mem_of_getElem? (i := 205) rfl) rfl
set_option maxRecDepth 20000 in
theorem kX12_courses : Cond.code yX12_courses cX12_courses 6 (some FieldType.long) ∈ BW := tb7 (List.mem_of_getElem? (i := 3) rfl) rfl
set_option maxRecDepth 20000 in
theorem kX12_doIn : Cond.code yX12_doIn cX12_doIn 6 (some FieldType.int) ∈ BW := tb7 (List.mem_of_getElem? (i := 21) rfl) rfl
set_option maxRecDepth 20000 in
theorem kX12_isOf : Cond.code yX12_isOf cX12_isOf 4 (some FieldType.int) ∈ BW := tb7 (List.mem_of_getElem? (i := 17) rfl) rfl
set_option maxRecDepth 20000 in
theorem kX12_is : Cond.code yX12_is cX12_is 3 (some FieldType.int) ∈ BW := tb7 (List.mem_of_getElem? (i := 13) rfl) rfl
set_option maxRecDepth 20000 in
theorem kX12_value : Cond.code yX12_value cX12_value 6 (some FieldType.int) ∈ BW := tb7 (List.mem_of_getElem? (i := 25) rfl) rfl
set_option maxRecDepth 20000 in
theorem kX12_why : Cond.code yX12_why cX12_why 7 (some FieldType.int) ∈ BW := tb7 (List.mem_of_getElem? (i := 30) rfl) rfl
set_option maxRecDepth 20000 in
theorem kX12_quarrel : Cond.code yX12_quarrel cX12_quarrel 4 (some FieldType.int) ∈ BW := tb7 (List.mem_of_getElem? (i := 35) rfl) rfl
set_option maxRecDepth 20000 in
theorem kX12_out : Cond.code yX12_out cX12_out 4 (some FieldType.int) ∈ BW := tb7 (List.mem_of_getElem? (i := 39) rfl) rfl
set_option maxRecDepth 20000 in
theorem kX12_often : Cond.code yX12_often cX12_often 10 (some FieldType.int) ∈ BW := tb7 (List.mem_of_getElem? (i := 47) rfl) rfl
set_option maxRecDepth 20000 in
theorem kX12_told : Cond.code yX12_told cX12_told 2 (some FieldType.int) ∈ BW := tb7 (List.mem_of_getElem? (i := 51) rfl) rfl
set_option maxRecDepth 20000 in
theorem kX12_must : Cond.code yX12_must cX12_must 4 (some FieldType.int) ∈ BW := tb7 (List.mem_of_getElem? (i := 43) rfl) rfl
set_option maxRecDepth 20000 in
theorem kX12_could : Cond.code yX12_could cX12_could 5 (some FieldType.int) ∈ BW := tb7 (List.mem_of_getElem? (i := 55) rfl) rfl
set_option maxRecDepth 20000 in
theorem kX12_ever : Cond.code yX12_ever cX12_ever 4 (some FieldType.int) ∈ BW := tb7 (List.mem_of_getElem? (i := 59) rfl) rfl
set_option maxRecDepth 20000 in
theorem kX12_howLong : Cond.code yX12_howLong cX12_howLong 4 (some FieldType.int) ∈ BW := tb7 (List.mem_of_getElem? (i := 63) rfl) rfl
set_option maxRecDepth 20000 in
theorem kX12_since : Cond.code yX12_since cX12_since 4 (some FieldType.int) ∈ BW := tb7 (List.mem_of_getElem? (i := 67) rfl) rfl
set_option maxRecDepth 20000 in
theorem kX12_surelyMay : Cond.code yX12_surelyMay cX12_surelyMay 5 (some FieldType.int) ∈ BW := tb7 (List.mem_of_getElem? (i := 75) rfl) rfl
set_option maxRecDepth 20000 in
theorem kX12_plan : Cond.code yX12_plan cX12_plan 6 (some FieldType.int) ∈ BW := tb7 (List.mem_of_getElem? (i := 71) rfl) rfl
set_option maxRecDepth 20000 in
theorem kX12_seemed : Cond.code yX12_seemed cX12_seemed 7 (some FieldType.int) ∈ BW := tb7 (List.mem_of_getElem? (i := 79) rfl) rfl
set_option maxRecDepth 20000 in
theorem kX12_ran : Cond.code yX12_ran cX12_ran 2 none ∈ BW := tb7 (List.mem_of_getElem? (i := 91) rfl) rfl
set_option maxRecDepth 20000 in
theorem kX12_tells : Cond.code yX12_tells cX12_tells 4 (some FieldType.int) ∈ BW := tb7 (List.mem_of_getElem? (i := 87) rfl) rfl
set_option maxRecDepth 20000 in
theorem kX12_binds : Cond.code yX12_binds cX12_binds 4 (some FieldType.int) ∈ BW := tb7 (List.mem_of_getElem? (i := 95) rfl) rfl
set_option maxRecDepth 20000 in
theorem kX12_weighs : Cond.code yX12_weighs cX12_weighs 4 (some FieldType.int) ∈ BW := tb7 (List.mem_of_getElem? (i := 99) rfl) rfl
set_option maxRecDepth 20000 in
theorem kX12_act : Cond.code yX12_act cX12_act 4 (some FieldType.int) ∈ BW := tb7 (List.mem_of_getElem? (i := 83) rfl) rfl
set_option maxRecDepth 20000 in
theorem kX12_trace : Cond.code yX12_trace cX12_trace 2 (some FieldType.int) ∈ BW := tb7 (List.mem_of_getElem? (i := 103) rfl) rfl
set_option maxRecDepth 20000 in
theorem kX12_pour : Cond.code yX12_pour cX12_pour 7 none ∈ BW := tb7 (List.mem_of_getElem? (i := 111) rfl) rfl
set_option maxRecDepth 20000 in
theorem kX12_image : Cond.code yX12_image cX12_image 1 (some FieldType.int) ∈ BW := tb7 (List.mem_of_getElem? (i := 107) rfl) rfl
set_option maxRecDepth 20000 in
theorem kX12_restore : Cond.code yX12_restore cX12_restore 2 (some FieldType.int) ∈ BW := tb7 (List.mem_of_getElem? (i := 115) rfl) rfl
set_option maxRecDepth 20000 in
theorem kX12_status : Cond.code yX12_status cX12_status 4 (some FieldType.int) ∈ BW := tb7 (List.mem_of_getElem? (i := 119) rfl) rfl
set_option maxRecDepth 20000 in
theorem kJ6_bitCount_0f7a4 : Cond.code yJ6_bitCount_0f7a4 cJ6_bitCount_0f7a4 1 (some FieldType.int) ∈ BW := tb5 (List.mem_of_getElem? (i := 93) rfl) rfl
set_option maxRecDepth 20000 in
theorem kJ7_fill_d0a16 : Cond.code yJ7_fill_d0a16 cJ7_fill_d0a16 5 none ∈ BW := tb2 (List.mem_of_getElem? (i := 119) rfl) rfl
set_option maxRecDepth 20000 in
theorem kJ7_fill_53178 : Cond.code yJ7_fill_53178 cJ7_fill_53178 4 none ∈ BW := tb1 (List.mem_of_getElem? (i := 102) rfl) rfl
theorem f0_9 : FOK 0 9 1 RX0 [0] := fok_of (by decide +kernel)
theorem f0_15 : FOK 0 15 2 RX0 [0] := fok_of (by decide +kernel)
theorem f0_18 : FOK 0 18 3 RX0 [0] := fok_of (by decide +kernel)
theorem f0_21 : FOK 0 21 4 RX0 [0] := fok_of (by decide +kernel)
theorem f0_24 : FOK 0 24 5 RX0 [0] := fok_of (by decide +kernel)
theorem f0_27 : FOK 0 27 6 RX0 [0] := fok_of (by decide +kernel)
theorem f0_30 : FOK 0 30 7 RX0 [0] := fok_of (by decide +kernel)
theorem f0_33 : FOK 0 33 8 RX0 [0] := fok_of (by decide +kernel)
theorem f0_37 : FOK 0 37 0 RX0 [0] := fok_of (by decide +kernel)
theorem f0_47 : FOK 0 47 1 RX10 [10] := fok_of (by decide +kernel)
theorem f0_52 : FOK 0 52 2 RX10 [10] := fok_of (by decide +kernel)
theorem f0_55 : FOK 0 55 8 RX10 [10] := fok_of (by decide +kernel)
theorem f0_62 : FOK 0 62 1 RX6 [6, 4, 8, 9] := fok_of (by decide +kernel)
theorem f0_73 : FOK 0 73 3 RX6 [6, 4, 8, 9] := fok_of (by decide +kernel)
theorem f0_76 : FOK 0 76 4 RX6 [6, 4, 8, 9] := fok_of (by decide +kernel)
theorem f0_79 : FOK 0 79 2 RX6 [6, 4, 8, 9] := fok_of (by decide +kernel)
theorem f0_86 : FOK 0 86 4 RX10 [10] := fok_of (by decide +kernel)
theorem f0_89 : FOK 0 89 5 RX6 [6, 4, 8, 9] := fok_of (by decide +kernel)
theorem f0_92 : FOK 0 92 7 RX10 [10] := fok_of (by decide +kernel)
theorem f0_96 : FOK 0 96 4 RX3 [3] := fok_of (by decide +kernel)
theorem f1_9 : FOK 1 9 0 RX1 [1] := fok_of (by decide +kernel)
theorem f1_15 : FOK 1 15 1 RX1 [1] := fok_of (by decide +kernel)
theorem f1_19 : FOK 1 19 2 RX1 [1] := fok_of (by decide +kernel)
theorem f1_22 : FOK 1 22 3 RX1 [1] := fok_of (by decide +kernel)
theorem f1_25 : FOK 1 25 4 RX1 [1] := fok_of (by decide +kernel)
theorem f2_9 : FOK 2 9 4 RX2 [2] := fok_of (by decide +kernel)
theorem f2_15 : FOK 2 15 5 RX2 [2] := fok_of (by decide +kernel)
theorem f2_19 : FOK 2 19 6 RX2 [2] := fok_of (by decide +kernel)
theorem f2_22 : FOK 2 22 7 RX2 [2] := fok_of (by decide +kernel)
theorem f2_26 : FOK 2 26 8 RX2 [2] := fok_of (by decide +kernel)
theorem f2_29 : FOK 2 29 9 RX2 [2] := fok_of (by decide +kernel)
theorem f2_32 : FOK 2 32 10 RX2 [2] := fok_of (by decide +kernel)
theorem f2_35 : FOK 2 35 11 RX2 [2] := fok_of (by decide +kernel)
theorem f2_38 : FOK 2 38 12 RX2 [2] := fok_of (by decide +kernel)
theorem f2_41 : FOK 2 41 13 RX2 [2] := fok_of (by decide +kernel)
theorem f2_45 : FOK 2 45 14 RX2 [2] := fok_of (by decide +kernel)
theorem f2_48 : FOK 2 48 15 RX2 [2] := fok_of (by decide +kernel)
theorem f2_51 : FOK 2 51 16 RX2 [2] := fok_of (by decide +kernel)
theorem f2_54 : FOK 2 54 17 RX2 [2] := fok_of (by decide +kernel)
theorem f2_57 : FOK 2 57 0 RX2 [2] := fok_of (by decide +kernel)
theorem f2_61 : FOK 2 61 1 RX2 [2] := fok_of (by decide +kernel)
theorem f2_64 : FOK 2 64 2 RX2 [2] := fok_of (by decide +kernel)
theorem f2_72 : FOK 2 72 3 RX2 [2] := fok_of (by decide +kernel)
theorem f2_110 : FOK 2 110 8 RX0 [0] := fok_of (by decide +kernel)
theorem f3_10 : FOK 3 10 0 RX3 [3] := fok_of (by decide +kernel)
theorem f3_16 : FOK 3 16 1 RX3 [3] := fok_of (by decide +kernel)
theorem f3_20 : FOK 3 20 2 RX3 [3] := fok_of (by decide +kernel)
theorem f3_23 : FOK 3 23 3 RX3 [3] := fok_of (by decide +kernel)
theorem f3_27 : FOK 3 27 4 RX3 [3] := fok_of (by decide +kernel)
theorem f3_30 : FOK 3 30 5 RX3 [3] := fok_of (by decide +kernel)
theorem f3_37 : FOK 3 37 0 RX1 [1] := fok_of (by decide +kernel)
theorem f5_12 : FOK 5 12 1 RX5 [5] := fok_of (by decide +kernel)
theorem f5_18 : FOK 5 18 2 RX5 [5] := fok_of (by decide +kernel)
theorem f5_22 : FOK 5 22 3 RX5 [5] := fok_of (by decide +kernel)
theorem f5_25 : FOK 5 25 4 RX5 [5] := fok_of (by decide +kernel)
theorem f5_28 : FOK 5 28 5 RX5 [5] := fok_of (by decide +kernel)
theorem f5_32 : FOK 5 32 6 RX5 [5] := fok_of (by decide +kernel)
theorem f5_35 : FOK 5 35 0 RX5 [5] := fok_of (by decide +kernel)
theorem f5_42 : FOK 5 42 1 RX7 [7] := fok_of (by decide +kernel)
theorem f5_83 : FOK 5 83 0 RX3 [3] := fok_of (by decide +kernel)
theorem f5_99 : FOK 5 99 5 RX10 [10] := fok_of (by decide +kernel)
theorem f5_108 : FOK 5 108 3 RX3 [3] := fok_of (by decide +kernel)
theorem f5_111 : FOK 5 111 0 RX10 [10] := fok_of (by decide +kernel)
theorem f5_114 : FOK 5 114 4 RX10 [10] := fok_of (by decide +kernel)
theorem f6_14 : FOK 6 14 0 RX6 [6, 4, 8, 9] := fok_of (by decide +kernel)
theorem f6_18 : FOK 6 18 1 RX6 [6, 4, 8, 9] := fok_of (by decide +kernel)
theorem f6_21 : FOK 6 21 2 RX6 [6, 4, 8, 9] := fok_of (by decide +kernel)
theorem f6_24 : FOK 6 24 3 RX6 [6, 4, 8, 9] := fok_of (by decide +kernel)
theorem f6_27 : FOK 6 27 4 RX6 [6, 4, 8, 9] := fok_of (by decide +kernel)
theorem f6_30 : FOK 6 30 5 RX6 [6, 4, 8, 9] := fok_of (by decide +kernel)
theorem f6_33 : FOK 6 33 6 RX6 [6, 4, 8, 9] := fok_of (by decide +kernel)
theorem f7_9 : FOK 7 9 0 RX7 [7] := fok_of (by decide +kernel)
theorem f7_15 : FOK 7 15 1 RX7 [7] := fok_of (by decide +kernel)
theorem f7_18 : FOK 7 18 2 RX7 [7] := fok_of (by decide +kernel)
theorem f8_19 : FOK 8 19 0 RX8 [8, 4] := fok_of (by decide +kernel)
theorem f9_22 : FOK 9 22 3 RX9 [9] := fok_of (by decide +kernel)
theorem f10_9 : FOK 10 9 0 RX10 [10] := fok_of (by decide +kernel)
theorem f10_15 : FOK 10 15 1 RX10 [10] := fok_of (by decide +kernel)
theorem f10_18 : FOK 10 18 2 RX10 [10] := fok_of (by decide +kernel)
theorem f10_21 : FOK 10 21 3 RX10 [10] := fok_of (by decide +kernel)
theorem f10_24 : FOK 10 24 4 RX10 [10] := fok_of (by decide +kernel)
theorem f10_28 : FOK 10 28 5 RX10 [10] := fok_of (by decide +kernel)
theorem f10_33 : FOK 10 33 6 RX10 [10] := fok_of (by decide +kernel)
theorem f10_39 : FOK 10 39 7 RX10 [10] := fok_of (by decide +kernel)
theorem f10_45 : FOK 10 45 8 RX10 [10] := fok_of (by decide +kernel)
theorem f10_49 : FOK 10 49 9 RX10 [10] := fok_of (by decide +kernel)
theorem f10_84 : FOK 10 84 4 RX3 [3] := fok_of (by decide +kernel)
theorem f10_87 : FOK 10 87 5 RX3 [3] := fok_of (by decide +kernel)
theorem f10_91 : FOK 10 91 1 RX6 [6, 4, 8, 9] := fok_of (by decide +kernel)
theorem f10_110 : FOK 10 110 6 RX6 [6, 4, 8, 9] := fok_of (by decide +kernel)
theorem f10_113 : FOK 10 113 4 RX6 [6, 4, 8, 9] := fok_of (by decide +kernel)
theorem f10_124 : FOK 10 124 3 RX6 [6, 4, 8, 9] := fok_of (by decide +kernel)
theorem f10_153 : FOK 10 153 0 RX3 [3] := fok_of (by decide +kernel)
theorem f10_157 : FOK 10 157 2 RX3 [3] := fok_of (by decide +kernel)
theorem f10_160 : FOK 10 160 1 RX3 [3] := fok_of (by decide +kernel)
theorem f10_163 : FOK 10 163 3 RX3 [3] := fok_of (by decide +kernel)
theorem f11_11 : FOK 11 11 0 RX11 [11] := fok_of (by decide +kernel)
theorem f11_18 : FOK 11 18 1 RX11 [11] := fok_of (by decide +kernel)
theorem f11_22 : FOK 11 22 2 RX11 [11] := fok_of (by decide +kernel)
theorem f11_30 : FOK 11 30 3 RX11 [11] := fok_of (by decide +kernel)
theorem f11_34 : FOK 11 34 4 RX11 [11] := fok_of (by decide +kernel)
theorem f11_38 : FOK 11 38 5 RX11 [11] := fok_of (by decide +kernel)
theorem f11_46 : FOK 11 46 6 RX11 [11] := fok_of (by decide +kernel)
theorem f11_50 : FOK 11 50 7 RX11 [11] := fok_of (by decide +kernel)
theorem f11_53 : FOK 11 53 8 RX11 [11] := fok_of (by decide +kernel)
theorem f11_58 : FOK 11 58 9 RX11 [11] := fok_of (by decide +kernel)
theorem f11_61 : FOK 11 61 10 RX11 [11] := fok_of (by decide +kernel)
theorem f11_65 : FOK 11 65 11 RX11 [11] := fok_of (by decide +kernel)
theorem f11_68 : FOK 11 68 12 RX11 [11] := fok_of (by decide +kernel)
theorem f11_71 : FOK 11 71 13 RX11 [11] := fok_of (by decide +kernel)
theorem f11_105 : FOK 11 105 0 RX7 [7] := fok_of (by decide +kernel)
theorem f11_112 : FOK 11 112 2 RX7 [7] := fok_of (by decide +kernel)
theorem f11_141 : FOK 11 141 6 RX6 [6, 4, 8, 9] := fok_of (by decide +kernel)
theorem f11_144 : FOK 11 144 5 RX6 [6, 4, 8, 9] := fok_of (by decide +kernel)
theorem f11_147 : FOK 11 147 4 RX6 [6, 4, 8, 9] := fok_of (by decide +kernel)
theorem f11_157 : FOK 11 157 1 RX5 [5] := fok_of (by decide +kernel)
theorem f11_161 : FOK 11 161 0 RX3 [3] := fok_of (by decide +kernel)
theorem f11_174 : FOK 11 174 1 RX10 [10] := fok_of (by decide +kernel)
theorem f11_184 : FOK 11 184 7 RX10 [10] := fok_of (by decide +kernel)
theorem f11_188 : FOK 11 188 4 RX3 [3] := fok_of (by decide +kernel)
theorem f11_194 : FOK 11 194 9 RX10 [10] := fok_of (by decide +kernel)
theorem f11_220 : FOK 11 220 3 RX10 [10] := fok_of (by decide +kernel)
theorem f11_223 : FOK 11 223 1 RX6 [6, 4, 8, 9] := fok_of (by decide +kernel)
theorem f11_226 : FOK 11 226 2 RX6 [6, 4, 8, 9] := fok_of (by decide +kernel)
theorem f11_229 : FOK 11 229 3 RX6 [6, 4, 8, 9] := fok_of (by decide +kernel)
theorem f11_236 : FOK 11 236 12 RX2 [2] := fok_of (by decide +kernel)
theorem f11_239 : FOK 11 239 13 RX2 [2] := fok_of (by decide +kernel)
theorem f11_250 : FOK 11 250 17 RX2 [2] := fok_of (by decide +kernel)
theorem f11_260 : FOK 11 260 2 RX10 [10] := fok_of (by decide +kernel)
theorem f11_280 : FOK 11 280 16 RX2 [2] := fok_of (by decide +kernel)
theorem f11_303 : FOK 11 303 0 RX10 [10] := fok_of (by decide +kernel)
theorem f11_311 : FOK 11 311 4 RX10 [10] := fok_of (by decide +kernel)
theorem f12_7 : FOK 12 7 1 RX12 [12] := fok_of (by decide +kernel)
theorem f12_13 : FOK 12 13 2 RX12 [12] := fok_of (by decide +kernel)
theorem f12_16 : FOK 12 16 3 RX12 [12] := fok_of (by decide +kernel)
theorem f12_19 : FOK 12 19 5 RX12 [12] := fok_of (by decide +kernel)
theorem f12_22 : FOK 12 22 6 RX12 [12] := fok_of (by decide +kernel)
theorem f12_25 : FOK 12 25 7 RX12 [12] := fok_of (by decide +kernel)
theorem f12_28 : FOK 12 28 8 RX12 [12] := fok_of (by decide +kernel)
theorem f12_31 : FOK 12 31 10 RX12 [12] := fok_of (by decide +kernel)
theorem f12_34 : FOK 12 34 11 RX12 [12] := fok_of (by decide +kernel)
theorem f12_37 : FOK 12 37 12 RX12 [12] := fok_of (by decide +kernel)
theorem f12_40 : FOK 12 40 13 RX12 [12] := fok_of (by decide +kernel)
theorem f12_43 : FOK 12 43 14 RX12 [12] := fok_of (by decide +kernel)
theorem f12_46 : FOK 12 46 15 RX12 [12] := fok_of (by decide +kernel)
theorem f12_49 : FOK 12 49 16 RX12 [12] := fok_of (by decide +kernel)
theorem f12_52 : FOK 12 52 17 RX12 [12] := fok_of (by decide +kernel)
theorem f12_55 : FOK 12 55 18 RX12 [12] := fok_of (by decide +kernel)
theorem f12_58 : FOK 12 58 19 RX12 [12] := fok_of (by decide +kernel)
theorem f12_61 : FOK 12 61 20 RX12 [12] := fok_of (by decide +kernel)
theorem f12_65 : FOK 12 65 21 RX12 [12] := fok_of (by decide +kernel)
theorem f12_69 : FOK 12 69 23 RX12 [12] := fok_of (by decide +kernel)
theorem f12_72 : FOK 12 72 24 RX12 [12] := fok_of (by decide +kernel)
theorem f12_75 : FOK 12 75 25 RX12 [12] := fok_of (by decide +kernel)
theorem f12_78 : FOK 12 78 26 RX12 [12] := fok_of (by decide +kernel)
theorem f12_81 : FOK 12 81 30 RX12 [12] := fok_of (by decide +kernel)
theorem f12_84 : FOK 12 84 31 RX12 [12] := fok_of (by decide +kernel)
theorem f12_87 : FOK 12 87 32 RX12 [12] := fok_of (by decide +kernel)
theorem f12_90 : FOK 12 90 33 RX12 [12] := fok_of (by decide +kernel)
theorem f12_93 : FOK 12 93 34 RX12 [12] := fok_of (by decide +kernel)
theorem f12_96 : FOK 12 96 35 RX12 [12] := fok_of (by decide +kernel)
theorem f12_99 : FOK 12 99 37 RX12 [12] := fok_of (by decide +kernel)
theorem f12_102 : FOK 12 102 38 RX12 [12] := fok_of (by decide +kernel)
theorem f12_105 : FOK 12 105 41 RX12 [12] := fok_of (by decide +kernel)
theorem f12_108 : FOK 12 108 42 RX12 [12] := fok_of (by decide +kernel)
theorem f12_111 : FOK 12 111 43 RX12 [12] := fok_of (by decide +kernel)
theorem f12_114 : FOK 12 114 44 RX12 [12] := fok_of (by decide +kernel)
theorem f12_117 : FOK 12 117 45 RX12 [12] := fok_of (by decide +kernel)
theorem f12_120 : FOK 12 120 46 RX12 [12] := fok_of (by decide +kernel)
theorem f12_123 : FOK 12 123 47 RX12 [12] := fok_of (by decide +kernel)
theorem f12_126 : FOK 12 126 48 RX12 [12] := fok_of (by decide +kernel)
theorem f12_129 : FOK 12 129 49 RX12 [12] := fok_of (by decide +kernel)
theorem f12_132 : FOK 12 132 50 RX12 [12] := fok_of (by decide +kernel)
theorem f12_135 : FOK 12 135 51 RX12 [12] := fok_of (by decide +kernel)
theorem f12_138 : FOK 12 138 54 RX12 [12] := fok_of (by decide +kernel)
theorem f12_141 : FOK 12 141 55 RX12 [12] := fok_of (by decide +kernel)
theorem f12_144 : FOK 12 144 56 RX12 [12] := fok_of (by decide +kernel)
theorem f12_147 : FOK 12 147 57 RX12 [12] := fok_of (by decide +kernel)
theorem f12_150 : FOK 12 150 58 RX12 [12] := fok_of (by decide +kernel)
theorem f12_153 : FOK 12 153 59 RX12 [12] := fok_of (by decide +kernel)
theorem f12_156 : FOK 12 156 61 RX12 [12] := fok_of (by decide +kernel)
theorem f12_159 : FOK 12 159 0 RX12 [12] := fok_of (by decide +kernel)
theorem f12_162 : FOK 12 162 4 RX12 [12] := fok_of (by decide +kernel)
theorem f12_165 : FOK 12 165 9 RX12 [12] := fok_of (by decide +kernel)
theorem f12_194 : FOK 12 194 22 RX12 [12] := fok_of (by decide +kernel)
theorem f12_208 : FOK 12 208 60 RX12 [12] := fok_of (by decide +kernel)
theorem f12_240 : FOK 12 240 28 RX12 [12] := fok_of (by decide +kernel)
theorem f12_243 : FOK 12 243 29 RX12 [12] := fok_of (by decide +kernel)
theorem f12_246 : FOK 12 246 27 RX12 [12] := fok_of (by decide +kernel)
theorem f12_257 : FOK 12 257 36 RX12 [12] := fok_of (by decide +kernel)
theorem f12_264 : FOK 12 264 40 RX12 [12] := fok_of (by decide +kernel)
theorem f12_283 : FOK 12 283 39 RX12 [12] := fok_of (by decide +kernel)
theorem f12_323 : FOK 12 323 52 RX12 [12] := fok_of (by decide +kernel)
theorem f12_339 : FOK 12 339 53 RX12 [12] := fok_of (by decide +kernel)
theorem s0_41 : COKS 0 (.invokestatic 41) 2 mJ7_fill_53178 := cokS kJ7_fill_53178 (by decide +kernel) (by decide +kernel)
theorem s0_58_0 : COKV 0 (.invokevirtual 58) 0 1 mX0_add := cokV kX0_add (by decide +kernel) (by decide +kernel) rfl
theorem s0_67_0 : COKV 0 (.invokevirtual 67) 0 1 mX0_addSpan := cokV kX0_addSpan (by decide +kernel) (by decide +kernel) rfl
theorem s0_70_0 : COKV 0 (.invokevirtual 70) 0 1 mX0_addWas := cokV kX0_addWas (by decide +kernel) (by decide +kernel) rfl
theorem s0_82_0 : COKV 0 (.invokevirtual 82) 0 2 mX0_addSeen := cokV kX0_addSeen (by decide +kernel) (by decide +kernel) rfl
theorem s2_69_0 : COKV 2 (.invokespecial 69) 0 1 mX0_init := cokI kX0_init rfl (by decide +kernel) (by decide +kernel) rfl
theorem s2_113 : COKS 2 (.invokestatic 113) 1 mX2_layerOf := cokS kX2_layerOf (by decide +kernel) (by decide +kernel)
theorem s2_76_0 : COKV 2 (.invokevirtual 76) 0 1 mX0_gather := cokV kX0_gather (by decide +kernel) (by decide +kernel) rfl
theorem s2_80_0 : COKV 2 (.invokevirtual 80) 0 2 mX0_addSeen := cokV kX0_addSeen (by decide +kernel) (by decide +kernel) rfl
theorem s2_84_2 : COKV 2 (.invokevirtual 84) 2 0 mX2_sizeUp := cokV kX2_sizeUp (by decide +kernel) (by decide +kernel) rfl
theorem s2_87_2 : COKV 2 (.invokevirtual 87) 2 1 mX2_clearCosts := cokV kX2_clearCosts (by decide +kernel) (by decide +kernel) rfl
theorem s2_90_2 : COKV 2 (.invokevirtual 90) 2 2 mX2_walk := cokV kX2_walk (by decide +kernel) (by decide +kernel) rfl
theorem s2_100_10 : COKV 2 (.invokevirtual 100) 10 1 mX10_countOf := cokV kX10_countOf (by decide +kernel) (by decide +kernel) rfl
theorem s2_106_10 : COKV 2 (.invokevirtual 106) 10 0 mX10_lowStates := cokV kX10_lowStates (by decide +kernel) (by decide +kernel) rfl
theorem s2_116_2 : COKV 2 (.invokevirtual 116) 2 1 mX2_clearWays := cokV kX2_clearWays (by decide +kernel) (by decide +kernel) rfl
theorem s2_119_2 : COKV 2 (.invokevirtual 119) 2 1 mX2_dropUnkept := cokV kX2_dropUnkept (by decide +kernel) (by decide +kernel) rfl
theorem s2_127_2 : COKV 2 (.invokevirtual 127) 2 2 mX2_surely := cokV kX2_surely (by decide +kernel) (by decide +kernel) rfl
theorem s2_131_2 : COKV 2 (.invokevirtual 131) 2 2 mX2_gatherLooks := cokV kX2_gatherLooks (by decide +kernel) (by decide +kernel) rfl
theorem s2_134_0 : COKV 2 (.invokevirtual 134) 0 2 mX0_mayChoose := cokV kX0_mayChoose (by decide +kernel) (by decide +kernel) rfl
theorem s2_137_0 : COKV 2 (.invokevirtual 137) 0 2 mX0_costOf := cokV kX0_costOf (by decide +kernel) (by decide +kernel) rfl
theorem s2_140_2 : COKV 2 (.invokevirtual 140) 2 6 mX2_meet := cokV kX2_meet (by decide +kernel) (by decide +kernel) rfl
theorem s2_144_10 : COKV 2 (.invokevirtual 144) 10 0 mX10_freeLooks := cokV kX10_freeLooks (by decide +kernel) (by decide +kernel) rfl
theorem s2_147_2 : COKV 2 (.invokevirtual 147) 2 2 mX2_isReached := cokV kX2_isReached (by decide +kernel) (by decide +kernel) rfl
theorem s2_150_0 : COKV 2 (.invokevirtual 150) 0 3 mX0_allows := cokV kX0_allows (by decide +kernel) (by decide +kernel) rfl
theorem s2_154_2 : COKV 2 (.invokevirtual 154) 2 3 mX2_goesOnAsOne := cokV kX2_goesOnAsOne (by decide +kernel) (by decide +kernel) rfl
theorem s2_157_0 : COKV 2 (.invokevirtual 157) 0 3 mX0_flagsAfter := cokV kX0_flagsAfter (by decide +kernel) (by decide +kernel) rfl
theorem s2_161_2 : COKV 2 (.invokevirtual 161) 2 5 mX2_keep := cokV kX2_keep (by decide +kernel) (by decide +kernel) rfl
theorem s2_165_2 : COKV 2 (.invokevirtual 165) 2 5 mX2_addTally := cokV kX2_addTally (by decide +kernel) (by decide +kernel) rfl
theorem s3_9_1 : COKV 3 (.invokespecial 9) 1 0 mX1_init := cokIN kX1_init rfl (by decide +kernel) (by decide +kernel) (by decide +kernel) rfl
theorem s3_33_1 : COKV 3 (.invokevirtual 33) 1 1 mX1_become := cokV kX1_become (by decide +kernel) (by decide +kernel) rfl
theorem s4_3_8 : COKV 4 (.invokespecial 3) 8 6 mX8_init_ := cokI kX8_init_ rfl (by decide +kernel) (by decide +kernel) rfl
theorem s4_3_4 : COKV 4 (.invokespecial 3) 4 6 mX8_init_ := cokI kX8_init_ rfl (by decide +kernel) (by decide +kernel) rfl
theorem s4_15_4 : COKV 4 (.invokespecial 15) 4 2 mX8_binds := cokSU kX8_binds (by decide +kernel) (by decide +kernel) (by decide +kernel) rfl
theorem s5_11_3 : COKV 5 (.invokespecial 11) 3 0 mX3_init := cokIN kX3_init rfl (by decide +kernel) (by decide +kernel) (by decide +kernel) rfl
theorem s5_39_3 : COKV 5 (.invokevirtual 39) 3 0 mX3_clear := cokV kX3_clear (by decide +kernel) (by decide +kernel) rfl
theorem s5_47_7 : COKV 5 (.invokevirtual 47) 7 1 mX7_intAt := cokV kX7_intAt (by decide +kernel) (by decide +kernel) rfl
theorem s5_51_5 : COKV 5 (.invokevirtual 51) 5 2 mX5_after := cokV kX5_after (by decide +kernel) (by decide +kernel) rfl
theorem s5_55_5 : COKV 5 (.invokevirtual 55) 5 0 mX5_closeAtom := cokV kX5_closeAtom (by decide +kernel) (by decide +kernel) rfl
theorem s5_58_5 : COKV 5 (.invokevirtual 58) 5 1 mX5_afterAtomBegan := cokV kX5_afterAtomBegan (by decide +kernel) (by decide +kernel) rfl
theorem s5_61_5 : COKV 5 (.invokevirtual 61) 5 2 mX5_afterName := cokV kX5_afterName (by decide +kernel) (by decide +kernel) rfl
theorem s5_65_5 : COKV 5 (.invokevirtual 65) 5 1 mX5_kindOf := cokV kX5_kindOf (by decide +kernel) (by decide +kernel) rfl
theorem s5_68_5 : COKV 5 (.invokevirtual 68) 5 1 mX5_afterAtom := cokV kX5_afterAtom (by decide +kernel) (by decide +kernel) rfl
theorem s5_71_5 : COKV 5 (.invokevirtual 71) 5 1 mX5_afterBound := cokV kX5_afterBound (by decide +kernel) (by decide +kernel) rfl
theorem s5_74_5 : COKV 5 (.invokevirtual 74) 5 2 mX5_afterKept := cokV kX5_afterKept (by decide +kernel) (by decide +kernel) rfl
theorem s5_77_5 : COKV 5 (.invokevirtual 77) 5 1 mX5_afterStilled := cokV kX5_afterStilled (by decide +kernel) (by decide +kernel) rfl
theorem s5_80_5 : COKV 5 (.invokevirtual 80) 5 1 mX5_afterEffectBegan := cokV kX5_afterEffectBegan (by decide +kernel) (by decide +kernel) rfl
theorem s5_87_1 : COKV 5 (.invokevirtual 87) 1 0 mX1_openAll := cokV kX1_openAll (by decide +kernel) (by decide +kernel) rfl
theorem s5_92_1 : COKV 5 (.invokevirtual 92) 1 2 mX1_addSo := cokV kX1_addSo (by decide +kernel) (by decide +kernel) rfl
theorem s5_96_1 : COKV 5 (.invokevirtual 96) 1 2 mX1_addAbove := cokV kX1_addAbove (by decide +kernel) (by decide +kernel) rfl
theorem s5_105_3 : COKV 5 (.invokevirtual 105) 3 2 mX3_addEffect := cokV kX3_addEffect (by decide +kernel) (by decide +kernel) rfl
theorem s6_3_6 : COKV 6 (.invokespecial 3) 6 7 mX6_init_ := cokI kX6_init_ rfl (by decide +kernel) (by decide +kernel) rfl
theorem s6_3_4 : COKV 6 (.invokespecial 3) 4 7 mX6_init_ := cokI kX6_init_ rfl (by decide +kernel) (by decide +kernel) rfl
theorem s6_3_8 : COKV 6 (.invokespecial 3) 8 7 mX6_init_ := cokI kX6_init_ rfl (by decide +kernel) (by decide +kernel) rfl
theorem s6_3_9 : COKV 6 (.invokespecial 3) 9 7 mX6_init_ := cokI kX6_init_ rfl (by decide +kernel) (by decide +kernel) rfl
theorem s6_36 : COKS 6 (.invokestatic 36) 2 mX6_begin := cokS kX6_begin (by decide +kernel) (by decide +kernel)
theorem s6_40_6 : COKV 6 (.invokevirtual 40) 6 2 mX6_tells := cokV kX6_tells (by decide +kernel) (by decide +kernel) rfl
theorem s6_40_4 : COKV 6 (.invokevirtual 40) 4 2 mX4_tells := cokO (owner := RX6) (x := ⟨"SoWhen$Seen", "tells", "(I[I)I"⟩) kX4_tells kX6_tells (by decide +kernel) (by decide +kernel)
theorem s6_40_8 : COKV 6 (.invokevirtual 40) 8 2 mX6_tells := cokU (x := ⟨"SoWhen$Seen", "tells", "(I[I)I"⟩) kX6_tells (by decide +kernel) (by decide +kernel) rfl
theorem s6_40_9 : COKV 6 (.invokevirtual 40) 9 2 mX9_tells := cokO (owner := RX6) (x := ⟨"SoWhen$Seen", "tells", "(I[I)I"⟩) kX9_tells kX6_tells (by decide +kernel) (by decide +kernel)
theorem s6_44_6 : COKV 6 (.invokevirtual 44) 6 2 mX6_binds := cokV kX6_binds (by decide +kernel) (by decide +kernel) rfl
theorem s6_44_4 : COKV 6 (.invokevirtual 44) 4 2 mX4_binds := cokO (owner := RX6) (x := ⟨"SoWhen$Seen", "binds", "(I[I)I"⟩) kX4_binds kX6_binds (by decide +kernel) (by decide +kernel)
theorem s6_44_8 : COKV 6 (.invokevirtual 44) 8 2 mX8_binds := cokO (owner := RX6) (x := ⟨"SoWhen$Seen", "binds", "(I[I)I"⟩) kX8_binds kX6_binds (by decide +kernel) (by decide +kernel)
theorem s6_44_9 : COKV 6 (.invokevirtual 44) 9 2 mX6_binds := cokU (x := ⟨"SoWhen$Seen", "binds", "(I[I)I"⟩) kX6_binds (by decide +kernel) (by decide +kernel) rfl
theorem s7_22 : COKS 7 (.invokestatic 22) 2 mJ7_fill_d0a16 := cokS kJ7_fill_d0a16 (by decide +kernel) (by decide +kernel)
theorem s7_28_7 : COKV 7 (.invokevirtual 28) 7 1 mX7_has := cokV kX7_has (by decide +kernel) (by decide +kernel) rfl
theorem s7_32_7 : COKV 7 (.invokevirtual 32) 7 1 mX7_narrowed := cokV kX7_narrowed (by decide +kernel) (by decide +kernel) rfl
theorem s7_36_7 : COKV 7 (.invokevirtual 36) 7 1 mX7_cellAt := cokV kX7_cellAt (by decide +kernel) (by decide +kernel) rfl
theorem s8_3_6 : COKV 8 (.invokespecial 3) 6 7 mX6_init_ := cokI kX6_init_ rfl (by decide +kernel) (by decide +kernel) rfl
theorem s8_3_4 : COKV 8 (.invokespecial 3) 4 7 mX6_init_ := cokI kX6_init_ rfl (by decide +kernel) (by decide +kernel) rfl
theorem s8_3_8 : COKV 8 (.invokespecial 3) 8 7 mX6_init_ := cokI kX6_init_ rfl (by decide +kernel) (by decide +kernel) rfl
theorem s8_3_9 : COKV 8 (.invokespecial 3) 9 7 mX6_init_ := cokI kX6_init_ rfl (by decide +kernel) (by decide +kernel) rfl
theorem s8_15_8 : COKV 8 (.invokespecial 15) 8 2 mX6_binds := cokSU kX6_binds (by decide +kernel) (by decide +kernel) (by decide +kernel) rfl
theorem s8_15_4 : COKV 8 (.invokespecial 15) 4 2 mX6_binds := cokSU kX6_binds (by decide +kernel) (by decide +kernel) (by decide +kernel) rfl
theorem s9_3_6 : COKV 9 (.invokespecial 3) 6 7 mX6_init_ := cokI kX6_init_ rfl (by decide +kernel) (by decide +kernel) rfl
theorem s9_3_4 : COKV 9 (.invokespecial 3) 4 7 mX6_init_ := cokI kX6_init_ rfl (by decide +kernel) (by decide +kernel) rfl
theorem s9_3_8 : COKV 9 (.invokespecial 3) 8 7 mX6_init_ := cokI kX6_init_ rfl (by decide +kernel) (by decide +kernel) rfl
theorem s9_3_9 : COKV 9 (.invokespecial 3) 9 7 mX6_init_ := cokI kX6_init_ rfl (by decide +kernel) (by decide +kernel) rfl
theorem s9_15_9 : COKV 9 (.invokespecial 15) 9 2 mX6_tells := cokSU kX6_tells (by decide +kernel) (by decide +kernel) (by decide +kernel) rfl
theorem s9_19_9 : COKV 9 (.invokespecial 19) 9 2 mX6_weighs := cokSU kX6_weighs (by decide +kernel) (by decide +kernel) (by decide +kernel) rfl
theorem s10_52_1 : COKV 10 (.invokespecial 52) 1 0 mX1_init := cokIN kX1_init rfl (by decide +kernel) (by decide +kernel) (by decide +kernel) rfl
theorem s10_53_3 : COKV 10 (.invokespecial 53) 3 0 mX3_init := cokIN kX3_init rfl (by decide +kernel) (by decide +kernel) (by decide +kernel) rfl
theorem s10_96_8 : COKV 10 (.invokespecial 96) 8 5 mX8_init := cokI kX8_init rfl (by decide +kernel) (by decide +kernel) rfl
theorem s10_96_4 : COKV 10 (.invokespecial 96) 4 5 mX8_init := cokI kX8_init rfl (by decide +kernel) (by decide +kernel) rfl
theorem s10_101_9 : COKV 10 (.invokespecial 101) 9 6 mX9_init := cokI kX9_init rfl (by decide +kernel) (by decide +kernel) rfl
theorem s10_106_4 : COKV 10 (.invokespecial 106) 4 5 mX4_init := cokI kX4_init rfl (by decide +kernel) (by decide +kernel) rfl
theorem s10_107_6 : COKV 10 (.invokespecial 107) 6 4 mX6_init := cokI kX6_init rfl (by decide +kernel) (by decide +kernel) rfl
theorem s10_107_4 : COKV 10 (.invokespecial 107) 4 4 mX6_init := cokI kX6_init rfl (by decide +kernel) (by decide +kernel) rfl
theorem s10_107_8 : COKV 10 (.invokespecial 107) 8 4 mX6_init := cokI kX6_init rfl (by decide +kernel) (by decide +kernel) rfl
theorem s10_107_9 : COKV 10 (.invokespecial 107) 9 4 mX6_init := cokI kX6_init rfl (by decide +kernel) (by decide +kernel) rfl
theorem s10_54 : COKS 10 (.invokestatic 54) 2 mJ7_fill_53178 := cokS kJ7_fill_53178 (by decide +kernel) (by decide +kernel)
theorem s10_77 : COKS 10 (.invokestatic 77) 1 mX10_mostOf := cokS kX10_mostOf (by decide +kernel) (by decide +kernel)
theorem s10_60_1 : COKV 10 (.invokevirtual 60) 1 1 mX1_become := cokV kX1_become (by decide +kernel) (by decide +kernel) rfl
theorem s10_64_3 : COKV 10 (.invokevirtual 64) 3 1 mX3_become := cokV kX3_become (by decide +kernel) (by decide +kernel) rfl
theorem s10_73_10 : COKV 10 (.invokevirtual 73) 10 1 mX10_countOf := cokV kX10_countOf (by decide +kernel) (by decide +kernel) rfl
theorem s10_80_10 : COKV 10 (.invokevirtual 80) 10 1 mX10_hasRoomFor := cokV kX10_hasRoomFor (by decide +kernel) (by decide +kernel) rfl
theorem s10_116_10 : COKV 10 (.invokevirtual 116) 10 0 mX10_inForce := cokV kX10_inForce (by decide +kernel) (by decide +kernel) rfl
theorem s10_120_10 : COKV 10 (.invokevirtual 120) 10 1 mX10_pieceAt := cokV kX10_pieceAt (by decide +kernel) (by decide +kernel) rfl
theorem s10_127_10 : COKV 10 (.invokevirtual 127) 10 1 mX10_isPutBy := cokV kX10_isPutBy (by decide +kernel) (by decide +kernel) rfl
theorem s10_130_10 : COKV 10 (.invokevirtual 130) 10 0 mX10_freeLooks := cokV kX10_freeLooks (by decide +kernel) (by decide +kernel) rfl
theorem s10_133_10 : COKV 10 (.invokevirtual 133) 10 0 mX10_lowStates := cokV kX10_lowStates (by decide +kernel) (by decide +kernel) rfl
theorem s10_136_10 : COKV 10 (.invokevirtual 136) 10 3 mX10_truthOf := cokV kX10_truthOf (by decide +kernel) (by decide +kernel) rfl
theorem s10_140_10 : COKV 10 (.invokevirtual 140) 10 4 mX10_nextOf := cokV kX10_nextOf (by decide +kernel) (by decide +kernel) rfl
theorem s10_144_10 : COKV 10 (.invokevirtual 144) 10 5 mX10_isThingSo := cokV kX10_isThingSo (by decide +kernel) (by decide +kernel) rfl
theorem s10_148_1 : COKV 10 (.invokevirtual 148) 1 2 mX1_isMet := cokV kX1_isMet (by decide +kernel) (by decide +kernel) rfl
theorem s11_17_10 : COKV 11 (.invokespecial 17) 10 0 mX10_init := cokI kX10_init rfl (by decide +kernel) (by decide +kernel) rfl
theorem s11_27_5 : COKV 11 (.invokespecial 27) 5 1 mX5_init := cokI kX5_init rfl (by decide +kernel) (by decide +kernel) rfl
theorem s11_43_2 : COKV 11 (.invokespecial 43) 2 3 mX2_init := cokI kX2_init rfl (by decide +kernel) (by decide +kernel) rfl
theorem s11_75_7 : COKV 11 (.invokespecial 75) 7 0 mX7_init := cokIN kX7_init rfl (by decide +kernel) (by decide +kernel) (by decide +kernel) rfl
theorem s11_76 : COKS 11 (.invokestatic 76) 1 mX11_isShelf := cokS kX11_isShelf (by decide +kernel) (by decide +kernel)
theorem s11_134 : COKS 11 (.invokestatic 134) 1 mX11_isKind := cokS kX11_isKind (by decide +kernel) (by decide +kernel)
theorem s11_137 : COKS 11 (.invokestatic 137) 2 mX11_isOf := cokS kX11_isOf (by decide +kernel) (by decide +kernel)
theorem s11_171 : COKS 11 (.invokestatic 171) 1 mX11_isNumber := cokS kX11_isNumber (by decide +kernel) (by decide +kernel)
theorem s11_191 : COKS 11 (.invokestatic 191) 1 mX11_isMouth := cokS kX11_isMouth (by decide +kernel) (by decide +kernel)
theorem s11_197 : COKS 11 (.invokestatic 197) 1 mX11_isHour := cokS kX11_isHour (by decide +kernel) (by decide +kernel)
theorem s11_204 : COKS 11 (.invokestatic 204) 2 mX11_areHours := cokS kX11_areHours (by decide +kernel) (by decide +kernel)
theorem s11_253 : COKS 11 (.invokestatic 253) 2 mX11_joined := cokS kX11_joined (by decide +kernel) (by decide +kernel)
theorem s11_277 : COKS 11 (.invokestatic 277) 1 mX11_inSome := cokS kX11_inSome (by decide +kernel) (by decide +kernel)
theorem s11_306 : COKS 11 (.invokestatic 306) 1 mJ6_bitCount_0f7a4 := cokS kJ6_bitCount_0f7a4 (by decide +kernel) (by decide +kernel)
theorem s11_80_11 : COKV 11 (.invokevirtual 80) 11 1 mX11_refuse := cokV kX11_refuse (by decide +kernel) (by decide +kernel) rfl
theorem s11_84_7 : COKV 11 (.invokevirtual 84) 7 2 mX7_takeRow := cokV kX7_takeRow (by decide +kernel) (by decide +kernel) rfl
theorem s11_88_11 : COKV 11 (.invokevirtual 88) 11 1 mX11_rowTrouble := cokV kX11_rowTrouble (by decide +kernel) (by decide +kernel) rfl
theorem s11_91_7 : COKV 11 (.invokevirtual 91) 7 1 mX7_has := cokV kX7_has (by decide +kernel) (by decide +kernel) rfl
theorem s11_94_7 : COKV 11 (.invokevirtual 94) 7 2 mX7_put := cokV kX7_put (by decide +kernel) (by decide +kernel) rfl
theorem s11_98_7 : COKV 11 (.invokevirtual 98) 7 0 mX7_holdsPiece := cokV kX7_holdsPiece (by decide +kernel) (by decide +kernel) rfl
theorem s11_102_7 : COKV 11 (.invokevirtual 102) 7 0 mX7_holdsRow := cokV kX7_holdsRow (by decide +kernel) (by decide +kernel) rfl
theorem s11_108_7 : COKV 11 (.invokevirtual 108) 7 2 mX7_reaches := cokV kX7_reaches (by decide +kernel) (by decide +kernel) rfl
theorem s11_122_7 : COKV 11 (.invokevirtual 122) 7 1 mX7_cellAt := cokV kX7_cellAt (by decide +kernel) (by decide +kernel) rfl
theorem s11_126_10 : COKV 11 (.invokevirtual 126) 10 1 mX10_pieceAt := cokV kX10_pieceAt (by decide +kernel) (by decide +kernel) rfl
theorem s11_130_7 : COKV 11 (.invokevirtual 130) 7 1 mX7_takePiece := cokV kX7_takePiece (by decide +kernel) (by decide +kernel) rfl
theorem s11_150_11 : COKV 11 (.invokevirtual 150) 11 2 mX11_readingTrouble := cokV kX11_readingTrouble (by decide +kernel) (by decide +kernel) rfl
theorem s11_154_10 : COKV 11 (.invokevirtual 154) 10 1 mX10_hasRoomFor := cokV kX10_hasRoomFor (by decide +kernel) (by decide +kernel) rfl
theorem s11_167_10 : COKV 11 (.invokevirtual 167) 10 2 mX10_addThing := cokV kX10_addThing (by decide +kernel) (by decide +kernel) rfl
theorem s11_177_10 : COKV 11 (.invokevirtual 177) 10 3 mX10_addHappening := cokV kX10_addHappening (by decide +kernel) (by decide +kernel) rfl
theorem s11_181_11 : COKV 11 (.invokevirtual 181) 11 1 mX11_isHappening := cokV kX11_isHappening (by decide +kernel) (by decide +kernel) rfl
theorem s11_200_11 : COKV 11 (.invokevirtual 200) 11 6 mX11_tell := cokV kX11_tell (by decide +kernel) (by decide +kernel) rfl
theorem s11_207_11 : COKV 11 (.invokevirtual 207) 11 1 mX11_isThing := cokV kX11_isThing (by decide +kernel) (by decide +kernel) rfl
theorem s11_210_11 : COKV 11 (.invokevirtual 210) 11 2 mX11_canHave := cokV kX11_canHave (by decide +kernel) (by decide +kernel) rfl
theorem s11_213_11 : COKV 11 (.invokevirtual 213) 11 3 mX11_tellFrom := cokV kX11_tellFrom (by decide +kernel) (by decide +kernel) rfl
theorem s11_217_10 : COKV 11 (.invokevirtual 217) 10 1 mX10_isPutBy := cokV kX10_isPutBy (by decide +kernel) (by decide +kernel) rfl
theorem s11_232_11 : COKV 11 (.invokevirtual 232) 11 0 mX11_current := cokV kX11_current (by decide +kernel) (by decide +kernel) rfl
theorem s11_243_2 : COKV 11 (.invokevirtual 243) 2 2 mX2_soOf := cokV kX2_soOf (by decide +kernel) (by decide +kernel) rfl
theorem s11_247_11 : COKV 11 (.invokevirtual 247) 11 1 mX11_isRunning := cokV kX11_isRunning (by decide +kernel) (by decide +kernel) rfl
theorem s11_256_10 : COKV 11 (.invokevirtual 256) 10 0 mX10_inForce := cokV kX10_inForce (by decide +kernel) (by decide +kernel) rfl
theorem s11_263_11 : COKV 11 (.invokevirtual 263) 11 3 mX11_seems := cokV kX11_seems (by decide +kernel) (by decide +kernel) rfl
theorem s11_267_2 : COKV 11 (.invokevirtual 267) 2 3 mX2_find := cokV kX2_find (by decide +kernel) (by decide +kernel) rfl
theorem s11_271_10 : COKV 11 (.invokevirtual 271) 10 1 mX10_weightOf := cokV kX10_weightOf (by decide +kernel) (by decide +kernel) rfl
theorem s11_274_2 : COKV 11 (.invokevirtual 274) 2 3 mX2_tally := cokV kX2_tally (by decide +kernel) (by decide +kernel) rfl
theorem s11_283_11 : COKV 11 (.invokevirtual 283) 11 4 mX11_wouldBring := cokV kX11_wouldBring (by decide +kernel) (by decide +kernel) rfl
theorem s11_287_10 : COKV 11 (.invokevirtual 287) 10 2 mX10_toldBy := cokV kX10_toldBy (by decide +kernel) (by decide +kernel) rfl
theorem s11_290_6 : COKV 11 (.invokevirtual 290) 6 2 mX6_tells := cokV kX6_tells (by decide +kernel) (by decide +kernel) rfl
theorem s11_290_4 : COKV 11 (.invokevirtual 290) 4 2 mX4_tells := cokO (owner := RX6) (x := ⟨"SoWhen$Seen", "tells", "(I[I)I"⟩) kX4_tells kX6_tells (by decide +kernel) (by decide +kernel)
theorem s11_290_8 : COKV 11 (.invokevirtual 290) 8 2 mX6_tells := cokU (x := ⟨"SoWhen$Seen", "tells", "(I[I)I"⟩) kX6_tells (by decide +kernel) (by decide +kernel) rfl
theorem s11_290_9 : COKV 11 (.invokevirtual 290) 9 2 mX9_tells := cokO (owner := RX6) (x := ⟨"SoWhen$Seen", "tells", "(I[I)I"⟩) kX9_tells kX6_tells (by decide +kernel) (by decide +kernel)
theorem s11_294_6 : COKV 11 (.invokevirtual 294) 6 2 mX6_binds := cokV kX6_binds (by decide +kernel) (by decide +kernel) rfl
theorem s11_294_4 : COKV 11 (.invokevirtual 294) 4 2 mX4_binds := cokO (owner := RX6) (x := ⟨"SoWhen$Seen", "binds", "(I[I)I"⟩) kX4_binds kX6_binds (by decide +kernel) (by decide +kernel)
theorem s11_294_8 : COKV 11 (.invokevirtual 294) 8 2 mX8_binds := cokO (owner := RX6) (x := ⟨"SoWhen$Seen", "binds", "(I[I)I"⟩) kX8_binds kX6_binds (by decide +kernel) (by decide +kernel)
theorem s11_294_9 : COKV 11 (.invokevirtual 294) 9 2 mX6_binds := cokU (x := ⟨"SoWhen$Seen", "binds", "(I[I)I"⟩) kX6_binds (by decide +kernel) (by decide +kernel) rfl
theorem s11_297_6 : COKV 11 (.invokevirtual 297) 6 2 mX6_weighs := cokV kX6_weighs (by decide +kernel) (by decide +kernel) rfl
theorem s11_297_4 : COKV 11 (.invokevirtual 297) 4 2 mX6_weighs := cokU (x := ⟨"SoWhen$Seen", "weighs", "(I[I)I"⟩) kX6_weighs (by decide +kernel) (by decide +kernel) rfl
theorem s11_297_8 : COKV 11 (.invokevirtual 297) 8 2 mX6_weighs := cokU (x := ⟨"SoWhen$Seen", "weighs", "(I[I)I"⟩) kX6_weighs (by decide +kernel) (by decide +kernel) rfl
theorem s11_297_9 : COKV 11 (.invokevirtual 297) 9 2 mX9_weighs := cokO (owner := RX6) (x := ⟨"SoWhen$Seen", "weighs", "(I[I)I"⟩) kX9_weighs kX6_weighs (by decide +kernel) (by decide +kernel)
theorem s11_300_10 : COKV 11 (.invokevirtual 300) 10 1 mX10_become := cokV kX10_become (by decide +kernel) (by decide +kernel) rfl
theorem s11_320_5 : COKV 11 (.invokevirtual 320) 5 2 mX5_read := cokV kX5_read (by decide +kernel) (by decide +kernel) rfl
theorem s11_324_10 : COKV 11 (.invokevirtual 324) 10 1 mX10_hasRoomForPiece := cokV kX10_hasRoomForPiece (by decide +kernel) (by decide +kernel) rfl
theorem s11_327_10 : COKV 11 (.invokevirtual 327) 10 6 mX10_addPiece := cokV kX10_addPiece (by decide +kernel) (by decide +kernel) rfl
theorem s11_330_7 : COKV 11 (.invokevirtual 330) 7 1 mX7_intAt := cokV kX7_intAt (by decide +kernel) (by decide +kernel) rfl
theorem s11_333_11 : COKV 11 (.invokevirtual 333) 11 0 mX11_freshenTruth := cokV kX11_freshenTruth (by decide +kernel) (by decide +kernel) rfl
theorem s11_336_2 : COKV 11 (.invokevirtual 336) 2 1 mX2_keepBest := cokV kX2_keepBest (by decide +kernel) (by decide +kernel) rfl
theorem s11_339_10 : COKV 11 (.invokevirtual 339) 10 2 mX10_fillTables := cokV kX10_fillTables (by decide +kernel) (by decide +kernel) rfl
theorem s11_343_10 : COKV 11 (.invokevirtual 343) 10 1 mX10_isSeenIn := cokV kX10_isSeenIn (by decide +kernel) (by decide +kernel) rfl
theorem s11_346_2 : COKV 11 (.invokevirtual 346) 2 2 mX2_surely := cokV kX2_surely (by decide +kernel) (by decide +kernel) rfl
theorem s12_168_12 : COKV 12 (.invokevirtual 168) 12 1 mX12_isHour := cokV kX12_isHour (by decide +kernel) (by decide +kernel) rfl
theorem s12_172_12 : COKV 12 (.invokevirtual 172) 12 1 mX12_isShelf := cokV kX12_isShelf (by decide +kernel) (by decide +kernel) rfl
theorem s12_175_12 : COKV 12 (.invokevirtual 175) 12 1 mX12_no := cokV kX12_no (by decide +kernel) (by decide +kernel) rfl
theorem s12_179_12 : COKV 12 (.invokevirtual 179) 12 1 mX12_isRow := cokV kX12_isRow (by decide +kernel) (by decide +kernel) rfl
theorem s12_182_12 : COKV 12 (.invokevirtual 182) 12 1 mX12_noRow := cokV kX12_noRow (by decide +kernel) (by decide +kernel) rfl
theorem s12_185_12 : COKV 12 (.invokevirtual 185) 12 1 mX12_holdsPiece := cokV kX12_holdsPiece (by decide +kernel) (by decide +kernel) rfl
theorem s12_188_12 : COKV 12 (.invokevirtual 188) 12 1 mX12_isPiece := cokV kX12_isPiece (by decide +kernel) (by decide +kernel) rfl
theorem s12_191_12 : COKV 12 (.invokevirtual 191) 12 1 mX12_isThing := cokV kX12_isThing (by decide +kernel) (by decide +kernel) rfl
theorem s12_197_12 : COKV 12 (.invokevirtual 197) 12 2 mX12_letter := cokV kX12_letter (by decide +kernel) (by decide +kernel) rfl
theorem s12_201_12 : COKV 12 (.invokevirtual 201) 12 2 mX12_isDigitOf := cokV kX12_isDigitOf (by decide +kernel) (by decide +kernel) rfl
theorem s12_205_12 : COKV 12 (.invokevirtual 205) 12 1 mX12_overCondition := cokV kX12_overCondition (by decide +kernel) (by decide +kernel) rfl
theorem s12_211_12 : COKV 12 (.invokevirtual 211) 12 1 mX12_conditionFault := cokV kX12_conditionFault (by decide +kernel) (by decide +kernel) rfl
theorem s12_214_12 : COKV 12 (.invokevirtual 214) 12 1 mX12_many := cokV kX12_many (by decide +kernel) (by decide +kernel) rfl
theorem s12_217_12 : COKV 12 (.invokevirtual 217) 12 1 mX12_lawFault := cokV kX12_lawFault (by decide +kernel) (by decide +kernel) rfl
theorem s12_220_12 : COKV 12 (.invokevirtual 220) 12 1 mX12_isHappening := cokV kX12_isHappening (by decide +kernel) (by decide +kernel) rfl
theorem s12_223_12 : COKV 12 (.invokevirtual 223) 12 1 mX12_isMouth := cokV kX12_isMouth (by decide +kernel) (by decide +kernel) rfl
theorem s12_226_12 : COKV 12 (.invokevirtual 226) 12 6 mX12_piece := cokV kX12_piece (by decide +kernel) (by decide +kernel) rfl
theorem s12_230_12 : COKV 12 (.invokevirtual 230) 12 2 mX12_areHours := cokV kX12_areHours (by decide +kernel) (by decide +kernel) rfl
theorem s12_233_12 : COKV 12 (.invokevirtual 233) 12 0 mX12_spanPieces := cokV kX12_spanPieces (by decide +kernel) (by decide +kernel) rfl
theorem s12_237_12 : COKV 12 (.invokevirtual 237) 12 2 mX12_isValue := cokV kX12_isValue (by decide +kernel) (by decide +kernel) rfl
theorem s12_249_12 : COKV 12 (.invokevirtual 249) 12 3 mX12_holds_ := cokV kX12_holds_ (by decide +kernel) (by decide +kernel) rfl
theorem s12_253_12 : COKV 12 (.invokevirtual 253) 12 3 mX12_thenOf := cokV kX12_thenOf (by decide +kernel) (by decide +kernel) rfl
theorem s12_260_12 : COKV 12 (.invokevirtual 260) 12 2 mX12_tell := cokV kX12_tell (by decide +kernel) (by decide +kernel) rfl
theorem s12_267_12 : COKV 12 (.invokevirtual 267) 12 0 mX12_makeMoments := cokV kX12_makeMoments (by decide +kernel) (by decide +kernel) rfl
theorem s12_270_12 : COKV 12 (.invokevirtual 270) 12 3 mX12_gather := cokV kX12_gather (by decide +kernel) (by decide +kernel) rfl
theorem s12_275_12 : COKV 12 (.invokevirtual 275) 12 2 mX12_edgesOf := cokV kX12_edgesOf (by decide +kernel) (by decide +kernel) rfl
theorem s12_286_12 : COKV 12 (.invokevirtual 286) 12 0 mX12_all := cokV kX12_all (by decide +kernel) (by decide +kernel) rfl
theorem s12_289_12 : COKV 12 (.invokevirtual 289) 12 3 mX12_solve := cokV kX12_solve (by decide +kernel) (by decide +kernel) rfl
theorem s12_295_12 : COKV 12 (.invokevirtual 295) 12 3 mX12_isLeast := cokV kX12_isLeast (by decide +kernel) (by decide +kernel) rfl
theorem s12_301_12 : COKV 12 (.invokevirtual 301) 12 2 mX12_doIn := cokV kX12_doIn (by decide +kernel) (by decide +kernel) rfl
theorem s12_304_12 : COKV 12 (.invokevirtual 304) 12 2 mX12_isOf := cokV kX12_isOf (by decide +kernel) (by decide +kernel) rfl
theorem s12_310_12 : COKV 12 (.invokevirtual 310) 12 2 mX12_is := cokV kX12_is (by decide +kernel) (by decide +kernel) rfl
theorem s12_313_12 : COKV 12 (.invokevirtual 313) 12 4 mX12_often := cokV kX12_often (by decide +kernel) (by decide +kernel) rfl
theorem s12_317_12 : COKV 12 (.invokevirtual 317) 12 1 mX12_told := cokV kX12_told (by decide +kernel) (by decide +kernel) rfl
theorem s12_320_12 : COKV 12 (.invokevirtual 320) 12 1 mX12_surelyMay := cokV kX12_surelyMay (by decide +kernel) (by decide +kernel) rfl
theorem s12_326_12 : COKV 12 (.invokevirtual 326) 12 1 mX12_ran := cokV kX12_ran (by decide +kernel) (by decide +kernel) rfl
theorem s12_330_12 : COKV 12 (.invokevirtual 330) 12 2 mX12_tells := cokV kX12_tells (by decide +kernel) (by decide +kernel) rfl
theorem s12_333_12 : COKV 12 (.invokevirtual 333) 12 2 mX12_binds := cokV kX12_binds (by decide +kernel) (by decide +kernel) rfl
theorem s12_336_12 : COKV 12 (.invokevirtual 336) 12 2 mX12_weighs := cokV kX12_weighs (by decide +kernel) (by decide +kernel) rfl
theorem s12_343_12 : COKV 12 (.invokevirtual 343) 12 5 mX12_pour := cokV kX12_pour (by decide +kernel) (by decide +kernel) rfl
theorem s13_9_11 : COKV 13 (.invokespecial 9) 11 0 mX11_init := cokI kX11_init rfl (by decide +kernel) (by decide +kernel) rfl
theorem s13_12_12 : COKV 13 (.invokespecial 12) 12 0 mX12_init := cokI kX12_init rfl (by decide +kernel) (by decide +kernel) rfl
theorem s13_13_11 : COKV 13 (.invokevirtual 13) 11 3 mX11_row := cokV kX11_row (by decide +kernel) (by decide +kernel) rfl
theorem s13_17_12 : COKV 13 (.invokevirtual 17) 12 3 mX12_row := cokV kX12_row (by decide +kernel) (by decide +kernel) rfl
theorem s13_20_11 : COKV 13 (.invokevirtual 20) 11 3 mX11_set := cokV kX11_set (by decide +kernel) (by decide +kernel) rfl
theorem s13_24_12 : COKV 13 (.invokevirtual 24) 12 3 mX12_set := cokV kX12_set (by decide +kernel) (by decide +kernel) rfl
theorem s13_25_11 : COKV 13 (.invokevirtual 25) 11 5 mX11_copy := cokV kX11_copy (by decide +kernel) (by decide +kernel) rfl
theorem s13_29_12 : COKV 13 (.invokevirtual 29) 12 5 mX12_copy := cokV kX12_copy (by decide +kernel) (by decide +kernel) rfl
theorem s13_30_11 : COKV 13 (.invokevirtual 30) 11 2 mX11_element := cokV kX11_element (by decide +kernel) (by decide +kernel) rfl
theorem s13_34_12 : COKV 13 (.invokevirtual 34) 12 2 mX12_element := cokV kX12_element (by decide +kernel) (by decide +kernel) rfl
theorem s13_35_11 : COKV 13 (.invokevirtual 35) 11 2 mX11_show := cokV kX11_show (by decide +kernel) (by decide +kernel) rfl
theorem s13_39_12 : COKV 13 (.invokevirtual 39) 12 2 mX12_show := cokV kX12_show (by decide +kernel) (by decide +kernel) rfl
theorem s13_40_11 : COKV 13 (.invokevirtual 40) 11 1 mX11_holds := cokV kX11_holds (by decide +kernel) (by decide +kernel) rfl
theorem s13_44_12 : COKV 13 (.invokevirtual 44) 12 1 mX12_holds := cokV kX12_holds (by decide +kernel) (by decide +kernel) rfl
theorem s13_45_11 : COKV 13 (.invokevirtual 45) 11 2 mX11_says := cokV kX11_says (by decide +kernel) (by decide +kernel) rfl
theorem s13_48_12 : COKV 13 (.invokevirtual 48) 12 2 mX12_says := cokV kX12_says (by decide +kernel) (by decide +kernel) rfl
theorem s13_49_11 : COKV 13 (.invokevirtual 49) 11 2 mX11_thing := cokV kX11_thing (by decide +kernel) (by decide +kernel) rfl
theorem s13_52_12 : COKV 13 (.invokevirtual 52) 12 2 mX12_thing := cokV kX12_thing (by decide +kernel) (by decide +kernel) rfl
theorem s13_53_11 : COKV 13 (.invokevirtual 53) 11 3 mX11_happening := cokV kX11_happening (by decide +kernel) (by decide +kernel) rfl
theorem s13_57_12 : COKV 13 (.invokevirtual 57) 12 3 mX12_happening := cokV kX12_happening (by decide +kernel) (by decide +kernel) rfl
theorem s13_58_11 : COKV 13 (.invokevirtual 58) 11 0 mX11_fault := cokV kX11_fault (by decide +kernel) (by decide +kernel) rfl
theorem s13_62_12 : COKV 13 (.invokevirtual 62) 12 0 mX12_fault := cokV kX12_fault (by decide +kernel) (by decide +kernel) rfl
theorem s13_63_11 : COKV 13 (.invokevirtual 63) 11 2 mX11_price := cokV kX11_price (by decide +kernel) (by decide +kernel) rfl
theorem s13_66_12 : COKV 13 (.invokevirtual 66) 12 2 mX12_price := cokV kX12_price (by decide +kernel) (by decide +kernel) rfl
theorem s13_67_11 : COKV 13 (.invokevirtual 67) 11 2 mX11_weigh := cokV kX11_weigh (by decide +kernel) (by decide +kernel) rfl
theorem s13_70_12 : COKV 13 (.invokevirtual 70) 12 2 mX12_weigh := cokV kX12_weigh (by decide +kernel) (by decide +kernel) rfl
theorem s13_71_11 : COKV 13 (.invokevirtual 71) 11 3 mX11_seen := cokV kX11_seen (by decide +kernel) (by decide +kernel) rfl
theorem s13_74_12 : COKV 13 (.invokevirtual 74) 12 3 mX12_seen := cokV kX12_seen (by decide +kernel) (by decide +kernel) rfl
theorem s13_75_11 : COKV 13 (.invokevirtual 75) 11 5 mX11_span := cokV kX11_span (by decide +kernel) (by decide +kernel) rfl
theorem s13_79_12 : COKV 13 (.invokevirtual 79) 12 5 mX12_span := cokV kX12_span (by decide +kernel) (by decide +kernel) rfl
theorem s13_80_11 : COKV 13 (.invokevirtual 80) 11 5 mX11_was := cokV kX11_was (by decide +kernel) (by decide +kernel) rfl
theorem s13_83_12 : COKV 13 (.invokevirtual 83) 12 5 mX12_was := cokV kX12_was (by decide +kernel) (by decide +kernel) rfl
theorem s13_84_11 : COKV 13 (.invokevirtual 84) 11 4 mX11_sheet := cokV kX11_sheet (by decide +kernel) (by decide +kernel) rfl
theorem s13_88_12 : COKV 13 (.invokevirtual 88) 12 4 mX12_sheet := cokV kX12_sheet (by decide +kernel) (by decide +kernel) rfl
theorem s13_89_11 : COKV 13 (.invokevirtual 89) 11 2 mX11_by := cokV kX11_by (by decide +kernel) (by decide +kernel) rfl
theorem s13_93_12 : COKV 13 (.invokevirtual 93) 12 2 mX12_by := cokV kX12_by (by decide +kernel) (by decide +kernel) rfl
theorem s13_94_11 : COKV 13 (.invokevirtual 94) 11 2 mX11_pieceOf := cokV kX11_pieceOf (by decide +kernel) (by decide +kernel) rfl
theorem s13_97_12 : COKV 13 (.invokevirtual 97) 12 2 mX12_pieceOf := cokV kX12_pieceOf (by decide +kernel) (by decide +kernel) rfl
theorem s13_98_11 : COKV 13 (.invokevirtual 98) 11 0 mX11_least := cokV kX11_least (by decide +kernel) (by decide +kernel) rfl
theorem s13_101_12 : COKV 13 (.invokevirtual 101) 12 0 mX12_least := cokV kX12_least (by decide +kernel) (by decide +kernel) rfl
theorem s13_102_11 : COKV 13 (.invokevirtual 102) 11 0 mX11_courses := cokV kX11_courses (by decide +kernel) (by decide +kernel) rfl
theorem s13_106_12 : COKV 13 (.invokevirtual 106) 12 0 mX12_courses := cokV kX12_courses (by decide +kernel) (by decide +kernel) rfl
theorem s13_107_11 : COKV 13 (.invokevirtual 107) 11 2 mX11_is := cokV kX11_is (by decide +kernel) (by decide +kernel) rfl
theorem s13_110_12 : COKV 13 (.invokevirtual 110) 12 2 mX12_is := cokV kX12_is (by decide +kernel) (by decide +kernel) rfl
theorem s13_111_11 : COKV 13 (.invokevirtual 111) 11 2 mX11_value := cokV kX11_value (by decide +kernel) (by decide +kernel) rfl
theorem s13_114_12 : COKV 13 (.invokevirtual 114) 12 2 mX12_value := cokV kX12_value (by decide +kernel) (by decide +kernel) rfl
theorem s13_115_11 : COKV 13 (.invokevirtual 115) 11 2 mX11_why := cokV kX11_why (by decide +kernel) (by decide +kernel) rfl
theorem s13_118_12 : COKV 13 (.invokevirtual 118) 12 2 mX12_why := cokV kX12_why (by decide +kernel) (by decide +kernel) rfl
theorem s13_119_11 : COKV 13 (.invokevirtual 119) 11 0 mX11_quarrel := cokV kX11_quarrel (by decide +kernel) (by decide +kernel) rfl
theorem s13_122_12 : COKV 13 (.invokevirtual 122) 12 0 mX12_quarrel := cokV kX12_quarrel (by decide +kernel) (by decide +kernel) rfl
theorem s13_123_11 : COKV 13 (.invokevirtual 123) 11 0 mX11_out := cokV kX11_out (by decide +kernel) (by decide +kernel) rfl
theorem s13_126_12 : COKV 13 (.invokevirtual 126) 12 0 mX12_out := cokV kX12_out (by decide +kernel) (by decide +kernel) rfl
theorem s13_127_11 : COKV 13 (.invokevirtual 127) 11 3 mX11_must := cokV kX11_must (by decide +kernel) (by decide +kernel) rfl
theorem s13_130_12 : COKV 13 (.invokevirtual 130) 12 3 mX12_must := cokV kX12_must (by decide +kernel) (by decide +kernel) rfl
theorem s13_131_11 : COKV 13 (.invokevirtual 131) 11 1 mX11_could := cokV kX11_could (by decide +kernel) (by decide +kernel) rfl
theorem s13_134_12 : COKV 13 (.invokevirtual 134) 12 1 mX12_could := cokV kX12_could (by decide +kernel) (by decide +kernel) rfl
theorem s13_135_11 : COKV 13 (.invokevirtual 135) 11 3 mX11_ever := cokV kX11_ever (by decide +kernel) (by decide +kernel) rfl
theorem s13_138_12 : COKV 13 (.invokevirtual 138) 12 3 mX12_ever := cokV kX12_ever (by decide +kernel) (by decide +kernel) rfl
theorem s13_139_11 : COKV 13 (.invokevirtual 139) 11 3 mX11_howLong := cokV kX11_howLong (by decide +kernel) (by decide +kernel) rfl
theorem s13_142_12 : COKV 13 (.invokevirtual 142) 12 3 mX12_howLong := cokV kX12_howLong (by decide +kernel) (by decide +kernel) rfl
theorem s13_143_11 : COKV 13 (.invokevirtual 143) 11 2 mX11_since := cokV kX11_since (by decide +kernel) (by decide +kernel) rfl
theorem s13_146_12 : COKV 13 (.invokevirtual 146) 12 2 mX12_since := cokV kX12_since (by decide +kernel) (by decide +kernel) rfl
theorem s13_147_11 : COKV 13 (.invokevirtual 147) 11 3 mX11_plan := cokV kX11_plan (by decide +kernel) (by decide +kernel) rfl
theorem s13_150_12 : COKV 13 (.invokevirtual 150) 12 3 mX12_plan := cokV kX12_plan (by decide +kernel) (by decide +kernel) rfl
theorem s13_151_11 : COKV 13 (.invokevirtual 151) 11 4 mX11_seemed := cokV kX11_seemed (by decide +kernel) (by decide +kernel) rfl
theorem s13_154_12 : COKV 13 (.invokevirtual 154) 12 4 mX12_seemed := cokV kX12_seemed (by decide +kernel) (by decide +kernel) rfl
theorem s13_155_11 : COKV 13 (.invokevirtual 155) 11 3 mX11_act := cokV kX11_act (by decide +kernel) (by decide +kernel) rfl
theorem s13_158_12 : COKV 13 (.invokevirtual 158) 12 3 mX12_act := cokV kX12_act (by decide +kernel) (by decide +kernel) rfl
theorem s13_159_11 : COKV 13 (.invokevirtual 159) 11 1 mX11_trace := cokV kX11_trace (by decide +kernel) (by decide +kernel) rfl
theorem s13_162_12 : COKV 13 (.invokevirtual 162) 12 1 mX12_trace := cokV kX12_trace (by decide +kernel) (by decide +kernel) rfl
theorem s13_163_11 : COKV 13 (.invokevirtual 163) 11 0 mX11_image := cokV kX11_image (by decide +kernel) (by decide +kernel) rfl
theorem s13_166_12 : COKV 13 (.invokevirtual 166) 12 0 mX12_image := cokV kX12_image (by decide +kernel) (by decide +kernel) rfl
theorem s13_167_11 : COKV 13 (.invokevirtual 167) 11 0 mX11_restore := cokV kX11_restore (by decide +kernel) (by decide +kernel) rfl
theorem s13_170_12 : COKV 13 (.invokevirtual 170) 12 0 mX12_restore := cokV kX12_restore (by decide +kernel) (by decide +kernel) rfl
theorem s13_171_11 : COKV 13 (.invokevirtual 171) 11 1 mX11_status := cokV kX11_status (by decide +kernel) (by decide +kernel) rfl
theorem s13_174_12 : COKV 13 (.invokevirtual 174) 12 1 mX12_status := cokV kX12_status (by decide +kernel) (by decide +kernel) rfl
theorem l2_67 : Cond.classLink (clsN 2) 67 RX0 ∈ BW := inB_ok (by decide +kernel)
theorem l3_7 : Cond.classLink (clsN 3) 7 RX1 ∈ BW := inB_ok (by decide +kernel)
theorem l5_9 : Cond.classLink (clsN 5) 9 RX3 ∈ BW := inB_ok (by decide +kernel)
theorem l10_31 : Cond.classLink (clsN 10) 31 RX1 ∈ BW := inB_ok (by decide +kernel)
theorem l10_37 : Cond.classLink (clsN 10) 37 RX3 ∈ BW := inB_ok (by decide +kernel)
theorem l10_43 : Cond.classLink (clsN 10) 43 RX6 ∈ BW := inB_ok (by decide +kernel)
theorem l10_94 : Cond.classLink (clsN 10) 94 RX8 ∈ BW := inB_ok (by decide +kernel)
theorem l10_99 : Cond.classLink (clsN 10) 99 RX9 ∈ BW := inB_ok (by decide +kernel)
theorem l10_104 : Cond.classLink (clsN 10) 104 RX4 ∈ BW := inB_ok (by decide +kernel)
theorem l11_9 : Cond.classLink (clsN 11) 9 RX7 ∈ BW := inB_ok (by decide +kernel)
theorem l11_15 : Cond.classLink (clsN 11) 15 RX10 ∈ BW := inB_ok (by decide +kernel)
theorem l11_25 : Cond.classLink (clsN 11) 25 RX5 ∈ BW := inB_ok (by decide +kernel)
theorem l11_41 : Cond.classLink (clsN 11) 41 RX2 ∈ BW := inB_ok (by decide +kernel)
theorem l11_314 : Cond.classLink (clsN 11) 314 RX8 ∈ BW := inB_ok (by decide +kernel)
theorem l11_316 : Cond.classLink (clsN 11) 316 RX9 ∈ BW := inB_ok (by decide +kernel)
theorem l11_318 : Cond.classLink (clsN 11) 318 RX4 ∈ BW := inB_ok (by decide +kernel)
theorem l13_7 : Cond.classLink (clsN 13) 7 RX11 ∈ BW := inB_ok (by decide +kernel)
theorem l13_10 : Cond.classLink (clsN 13) 10 RX12 ∈ BW := inB_ok (by decide +kernel)
theorem q2_93 : Cond.constant (clsN 2) 93 (1048576) ∈ BW := inB_ok (by decide +kernel)
theorem q2_122 : Cond.constantLong (clsN 2) 122 (1000000000000000000) ∈ BW := inB_ok (by decide +kernel)
theorem q10_152 : Cond.constant (clsN 10) 152 (65536) ∈ BW := inB_ok (by decide +kernel)
theorem q12_274 : Cond.constant (clsN 12) 274 (100000000) ∈ BW := inB_ok (by decide +kernel)
theorem q12_293 : Cond.constantLong (clsN 12) 293 (1000000000000000000) ∈ BW := inB_ok (by decide +kernel)
theorem q13_18 : Cond.constantLong (clsN 13) 18 (4294967295) ∈ BW := inB_ok (by decide +kernel)
theorem q14_265 : Cond.constant (clsN 14) 265 (1431655765) ∈ BW := inB_ok (by decide +kernel)
theorem q14_266 : Cond.constant (clsN 14) 266 (858993459) ∈ BW := inB_ok (by decide +kernel)
theorem q14_267 : Cond.constant (clsN 14) 267 (252645135) ∈ BW := inB_ok (by decide +kernel)
theorem uX0 : ∀ w ∈ u_ws RX0 TX0 9, w ∈ BW := inBs_ok (by decide +kernel)
theorem uX1 : ∀ w ∈ u_ws RX1 TX1 5, w ∈ BW := inBs_ok (by decide +kernel)
theorem uX2 : ∀ w ∈ u_ws RX2 TX2 18, w ∈ BW := inBs_ok (by decide +kernel)
theorem uX3 : ∀ w ∈ u_ws RX3 TX3 6, w ∈ BW := inBs_ok (by decide +kernel)
theorem uX4 : ∀ w ∈ u_ws RX4 TX4 7, w ∈ BW := inBs_ok (by decide +kernel)
theorem uX5 : ∀ w ∈ u_ws RX5 TX5 7, w ∈ BW := inBs_ok (by decide +kernel)
theorem uX6 : ∀ w ∈ u_ws RX6 TX6 7, w ∈ BW := inBs_ok (by decide +kernel)
theorem uX7 : ∀ w ∈ u_ws RX7 TX7 3, w ∈ BW := inBs_ok (by decide +kernel)
theorem uX8 : ∀ w ∈ u_ws RX8 TX8 7, w ∈ BW := inBs_ok (by decide +kernel)
theorem uX9 : ∀ w ∈ u_ws RX9 TX9 7, w ∈ BW := inBs_ok (by decide +kernel)
theorem uX10 : ∀ w ∈ u_ws RX10 TX10 10, w ∈ BW := inBs_ok (by decide +kernel)
theorem uX11 : ∀ w ∈ u_ws RX11 TX11 14, w ∈ BW := inBs_ok (by decide +kernel)
theorem uX12 : ∀ w ∈ u_ws RX12 TX12 62, w ∈ BW := inBs_ok (by decide +kernel)
