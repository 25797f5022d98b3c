/-! the methods, their words, links, fields -/
abbrev MJxa1e45_init_da8c8 : zM := (yJxa1e45_init_da8c8, cJxa1e45_init_da8c8, 1, none, { frames := 1, cells := 0, slots := 0, locals := 12 }, [], none)
abbrev MJxc12de_init_da8c8 : zM := (yJxc12de_init_da8c8, cJxc12de_init_da8c8, 1, none, { frames := 2, cells := 0, slots := 0, locals := 50 }, [], none)
abbrev MJx4a65c_init_da8c8 : zM := (yJx4a65c_init_da8c8, cJx4a65c_init_da8c8, 1, none, { frames := 3, cells := 0, slots := 0, locals := 90 }, [], none)
abbrev MJ3_checkIndex_8e157 : zM := (yJ3_checkIndex_8e157, cJ3_checkIndex_8e157, 3, (some .int), { frames := 0, cells := 0, slots := 0, locals := 0 }, [], none)
abbrev MJ15_checkIndex_7cf53 : zM := (yJ15_checkIndex_7cf53, cJ15_checkIndex_7cf53, 2, (some .int), { frames := 1, cells := 0, slots := 0, locals := 40 }, [], none)
abbrev MJx4a65c_size_8abf5 : zM := (yJx4a65c_size_8abf5, cJx4a65c_size_8abf5, 1, (some .int), { frames := 0, cells := 0, slots := 0, locals := 0 }, [], none)
abbrev MJx4a65c_elementData_915e3 : zM := (yJx4a65c_elementData_915e3, cJx4a65c_elementData_915e3, 2, (some (.object "java/lang/Object")), { frames := 0, cells := 0, slots := 0, locals := 0 }, [], none)
abbrev MJx4a65c_get_915e3 : zM := (yJx4a65c_get_915e3, cJx4a65c_get_915e3, 2, (some (.object "java/lang/Object")), { frames := 2, cells := 0, slots := 0, locals := 80 }, [], none)
abbrev MJ8_newLength_cabcc : zM := (yJ8_newLength_cabcc, cJ8_newLength_cabcc, 4, (some .int), { frames := 1, cells := 0, slots := 0, locals := 30 }, [], none)
abbrev MJ7_copyOf_6403c : zM := (yJ7_copyOf_6403c, cJ7_copyOf_6403c, 4, (some (.array (.object "java/lang/Object"))), { frames := 1, cells := 1, slots := 40, locals := 60 }, [], none)
abbrev MJ7_copyOf_1904c : zM := (yJ7_copyOf_1904c, cJ7_copyOf_1904c, 2, (some (.array (.object "java/lang/Object"))), { frames := 2, cells := 1, slots := 40, locals := 100 }, [], none)
abbrev MJx4a65c_grow_92f84 : zM := (yJx4a65c_grow_92f84, cJx4a65c_grow_92f84, 4, (some (.array (.object "java/lang/Object"))), { frames := 3, cells := 1, slots := 40, locals := 140 }, [], none)
abbrev MJx4a65c_grow_d5877 : zM := (yJx4a65c_grow_d5877, cJx4a65c_grow_d5877, 1, (some (.array (.object "java/lang/Object"))), { frames := 4, cells := 1, slots := 40, locals := 180 }, [], none)
abbrev MJx4a65c_add_72be8 : zM := (yJx4a65c_add_72be8, cJx4a65c_add_72be8, 4, none, { frames := 5, cells := 1, slots := 40, locals := 220 }, [], none)
abbrev MJx4a65c_add_9ea2d : zM := (yJx4a65c_add_9ea2d, cJx4a65c_add_9ea2d, 2, (some .boolean), { frames := 6, cells := 1, slots := 40, locals := 260 }, [], none)
abbrev MJx4a65c_fastRemove_b59b0 : zM := (yJx4a65c_fastRemove_b59b0, cJx4a65c_fastRemove_b59b0, 4, none, { frames := 1, cells := 0, slots := 0, locals := 60 }, [], none)
abbrev MJx4a65c_remove_915e3 : zM := (yJx4a65c_remove_915e3, cJx4a65c_remove_915e3, 4, (some (.object "java/lang/Object")), { frames := 2, cells := 0, slots := 0, locals := 100 }, [], none)
abbrev MJx4a65c_clear_da8c8 : zM := (yJx4a65c_clear_da8c8, cJx4a65c_clear_da8c8, 4, none, { frames := 0, cells := 0, slots := 0, locals := 0 }, [], none)
abbrev MJ7_fill_53178 : zM := (yJ7_fill_53178, cJ7_fill_53178, 4, none, { frames := 0, cells := 0, slots := 0, locals := 0 }, [], none)
abbrev MJ0_isLatin1_aae02 : zM := (yJ0_isLatin1_aae02, cJ0_isLatin1_aae02, 1, (some .boolean), { frames := 0, cells := 0, slots := 0, locals := 0 }, [], none)
abbrev MJ0_checkIndex_df160 : zM := (yJ0_checkIndex_df160, cJ0_checkIndex_df160, 2, none, { frames := 1, cells := 0, slots := 0, locals := 40 }, [], none)
abbrev MJ1_charAt_3b067 : zM := (yJ1_charAt_3b067, cJ1_charAt_3b067, 2, (some .char), { frames := 2, cells := 0, slots := 0, locals := 80 }, [], none)
abbrev MJ0_charAt_5068e : zM := (yJ0_charAt_5068e, cJ0_charAt_5068e, 2, (some .char), { frames := 3, cells := 0, slots := 0, locals := 120 }, [], none)
abbrev ML_behind : zM := (yL_behind, cL_behind, 3, (some .int), { frames := 8, cells := 1, slots := 6, locals := 132 }, [(0, 5, 6, 26)], none)
abbrev ML_bid : zM := (yL_bid, cL_bid, 4, (some .int), { frames := 8, cells := 2, slots := 12, locals := 135 }, [(0, 6, 7, 26), (0, 6, 11, 29)], none)
abbrev ML_cell : zM := (yL_cell, cL_cell, 2, (some .int), { frames := 0, cells := 0, slots := 0, locals := 0 }, [], none)
abbrev ML_copy : zM := (yL_copy, cL_copy, 5, (some .int), { frames := 8, cells := 2, slots := 12, locals := 136 }, [(0, 7, 8, 26), (0, 7, 13, 29)], none)
abbrev ML_draw : zM := (yL_draw, cL_draw, 9, (some .int), { frames := 8, cells := 4, slots := 24, locals := 202 }, [(0, 15, 16, 26), (0, 15, 21, 29)], none)
abbrev ML_guesses : zM := (yL_guesses, cL_guesses, 3, (some .int), { frames := 8, cells := 1, slots := 6, locals := 146 }, [(0, 5, 6, 26)], none)
abbrev ML_host : zM := (yL_host, cL_host, 3, (some .int), { frames := 8, cells := 1, slots := 6, locals := 132 }, [(0, 5, 6, 26)], none)
abbrev ML_is : zM := (yL_is, cL_is, 7, (some .int), { frames := 8, cells := 17, slots := 136, locals := 306 }, [(0, 122, 123, 26), (0, 122, 128, 29), (0, 122, 133, 19)], none)
abbrev ML_join : zM := (yL_join, cL_join, 4, (some .int), { frames := 8, cells := 8, slots := 237, locals := 135 }, [(0, 6, 7, 26), (0, 6, 11, 29), (0, 6, 15, 19)], none)
abbrev ML_left : zM := (yL_left, cL_left, 3, (some .int), { frames := 8, cells := 2, slots := 12, locals := 133 }, [(0, 5, 6, 26), (0, 5, 10, 19)], none)
abbrev ML_money : zM := (yL_money, cL_money, 3, (some .int), { frames := 8, cells := 1, slots := 6, locals := 132 }, [(0, 5, 6, 26)], none)
abbrev ML_moveWindow : zM := (yL_moveWindow, cL_moveWindow, 6, (some .int), { frames := 8, cells := 4, slots := 24, locals := 198 }, [(0, 9, 10, 26), (0, 9, 15, 29)], none)
abbrev ML_next : zM := (yL_next, cL_next, 3, (some .int), { frames := 9, cells := 2, slots := 12, locals := 154 }, [(0, 5, 6, 26), (0, 5, 10, 68)], none)
abbrev ML_nextCost : zM := (yL_nextCost, cL_nextCost, 3, (some .int), { frames := 9, cells := 2, slots := 12, locals := 154 }, [(0, 5, 6, 26), (0, 5, 10, 68)], none)
abbrev ML_noted : zM := (yL_noted, cL_noted, 3, (some .int), { frames := 8, cells := 2, slots := 12, locals := 133 }, [(0, 5, 6, 26), (0, 5, 10, 68)], none)
abbrev ML_openSession : zM := (yL_openSession, cL_openSession, 2, (some .int), { frames := 7, cells := 10, slots := 242, locals := 151 }, [(0, 4, 5, 19)], none)
abbrev ML_openWindow : zM := (yL_openWindow, cL_openWindow, 7, (some .int), { frames := 9, cells := 6, slots := 164, locals := 329 }, [(0, 11, 12, 26), (0, 11, 17, 29), (0, 11, 22, 19)], none)
abbrev ML_paste : zM := (yL_paste, cL_paste, 4, (some .int), { frames := 8, cells := 5, slots := 30, locals := 135 }, [(0, 6, 7, 26), (0, 6, 11, 68), (0, 6, 15, 81)], none)
abbrev ML_picture : zM := (yL_picture, cL_picture, 5, (some .int), { frames := 8, cells := 2, slots := 12, locals := 135 }, [(0, 7, 8, 26)], none)
abbrev ML_played : zM := (yL_played, cL_played, 6, (some .int), { frames := 8, cells := 3, slots := 18, locals := 137 }, [(0, 9, 10, 26), (0, 9, 15, 68)], none)
abbrev ML_record : zM := (yL_record, cL_record, 3, (some .int), { frames := 8, cells := 7, slots := 11813, locals := 134 }, [(0, 5, 6, 26)], none)
abbrev ML_screen : zM := (yL_screen, cL_screen, 5, (some .int), { frames := 8, cells := 2, slots := 12, locals := 135 }, [(0, 7, 8, 26)], none)
abbrev ML_seen : zM := (yL_seen, cL_seen, 5, (some .int), { frames := 8, cells := 2, slots := 12, locals := 151 }, [(0, 7, 8, 26)], none)
abbrev ML_some : zM := (yL_some, cL_some, 3, (some .int), { frames := 1, cells := 0, slots := 0, locals := 21 }, [], none)
abbrev ML_tick : zM := (yL_tick, cL_tick, 3, (some .int), { frames := 9, cells := 1, slots := 6, locals := 242 }, [(0, 5, 6, 29)], none)
abbrev ML_told : zM := (yL_told, cL_told, 7, (some .boolean), { frames := 10, cells := 779, slots := 5826, locals := 176 }, [], none)
abbrev ML_type : zM := (yL_type, cL_type, 4, (some .int), { frames := 8, cells := 6, slots := 68, locals := 307 }, [(0, 6, 7, 26), (0, 6, 11, 29), (0, 6, 15, 81), (0, 6, 19, 19)], none)
abbrev MX0_apply : zM := (yX0_apply, cX0_apply, 4, none, { frames := 1, cells := 0, slots := 0, locals := 60 }, [], none)
abbrev MX0_colourAfter : zM := (yX0_colourAfter, cX0_colourAfter, 2, (some .int), { frames := 0, cells := 0, slots := 0, locals := 0 }, [], none)
abbrev MX0_consider : zM := (yX0_consider, cX0_consider, 7, none, { frames := 0, cells := 0, slots := 0, locals := 0 }, [], none)
abbrev MX0_find : zM := (yX0_find, cX0_find, 1, none, { frames := 3, cells := 0, slots := 0, locals := 80 }, [], none)
abbrev MX0_gainOf : zM := (yX0_gainOf, cX0_gainOf, 5, (some .int), { frames := 0, cells := 0, slots := 0, locals := 0 }, [], none)
abbrev MX0_init : zM := (yX0_init, cX0_init, 2, none, { frames := 1, cells := 3, slots := 201, locals := 12 }, [], none)
abbrev MX0_isBehind : zM := (yX0_isBehind, cX0_isBehind, 2, (some .boolean), { frames := 0, cells := 0, slots := 0, locals := 0 }, [], none)
abbrev MX0_tryCells : zM := (yX0_tryCells, cX0_tryCells, 3, none, { frames := 1, cells := 0, slots := 0, locals := 26 }, [], none)
abbrev MX0_tryCopies : zM := (yX0_tryCopies, cX0_tryCopies, 3, none, { frames := 2, cells := 0, slots := 0, locals := 58 }, [], none)
abbrev MX0_tryRectangles : zM := (yX0_tryRectangles, cX0_tryRectangles, 13, none, { frames := 1, cells := 0, slots := 0, locals := 26 }, [], none)
abbrev MX1_countBehind : zM := (yX1_countBehind, cX1_countBehind, 3, (some .int), { frames := 1, cells := 0, slots := 0, locals := 21 }, [], none)
abbrev MX1_endGuess : zM := (yX1_endGuess, cX1_endGuess, 2, none, { frames := 0, cells := 0, slots := 0, locals := 0 }, [], none)
abbrev MX1_init : zM := (yX1_init, cX1_init, 3, none, { frames := 2, cells := 4, slots := 212, locals := 33 }, [], none)
abbrev MX2_hold : zM := (yX2_hold, cX2_hold, 4, none, { frames := 0, cells := 0, slots := 0, locals := 0 }, [], none)
abbrev MX2_init : zM := (yX2_init, cX2_init, 1, none, { frames := 1, cells := 0, slots := 0, locals := 12 }, [], none)
abbrev MX3_init : zM := (yX3_init, cX3_init, 5, none, { frames := 1, cells := 0, slots := 0, locals := 12 }, [], none)
abbrev MX4_begin : zM := (yX4_begin, cX4_begin, 1, none, { frames := 1, cells := 0, slots := 0, locals := 23 }, [], none)
abbrev MX4_endTick : zM := (yX4_endTick, cX4_endTick, 1, none, { frames := 0, cells := 0, slots := 0, locals := 0 }, [], none)
abbrev MX4_init : zM := (yX4_init, cX4_init, 1, none, { frames := 1, cells := 5, slots := 11800, locals := 12 }, [], none)
abbrev MX4_isAsLookedAt : zM := (yX4_isAsLookedAt, cX4_isAsLookedAt, 2, (some .boolean), { frames := 2, cells := 0, slots := 0, locals := 46 }, [], none)
abbrev MX4_isFull : zM := (yX4_isFull, cX4_isFull, 1, (some .boolean), { frames := 0, cells := 0, slots := 0, locals := 0 }, [], none)
abbrev MX4_look : zM := (yX4_look, cX4_look, 3, none, { frames := 0, cells := 0, slots := 0, locals := 0 }, [], none)
abbrev MX4_play : zM := (yX4_play, cX4_play, 4, none, { frames := 1, cells := 0, slots := 0, locals := 23 }, [], none)
abbrev MX5_addWindow : zM := (yX5_addWindow, cX5_addWindow, 3, (some .int), { frames := 7, cells := 1, slots := 40, locals := 281 }, [], none)
abbrev MX5_advanceMove : zM := (yX5_advanceMove, cX5_advanceMove, 1, none, { frames := 3, cells := 0, slots := 0, locals := 82 }, [], none)
abbrev MX5_colourOfWindows : zM := (yX5_colourOfWindows, cX5_colourOfWindows, 5, (some .int), { frames := 4, cells := 0, slots := 0, locals := 125 }, [], none)
abbrev MX5_countKeysBy : zM := (yX5_countKeysBy, cX5_countKeysBy, 4, (some .int), { frames := 3, cells := 0, slots := 0, locals := 101 }, [], none)
abbrev MX5_countKeysOf : zM := (yX5_countKeysOf, cX5_countKeysOf, 4, (some .int), { frames := 3, cells := 0, slots := 0, locals := 101 }, [], none)
abbrev MX5_doKeys : zM := (yX5_doKeys, cX5_doKeys, 3, none, { frames := 6, cells := 0, slots := 0, locals := 172 }, [], none)
abbrev MX5_init : zM := (yX5_init, cX5_init, 1, none, { frames := 4, cells := 8, slots := 227, locals := 110 }, [], none)
abbrev MX5_isOnTop : zM := (yX5_isOnTop, cX5_isOnTop, 3, (some .boolean), { frames := 3, cells := 0, slots := 0, locals := 101 }, [], none)
abbrev MX5_isPainted : zM := (yX5_isPainted, cX5_isPainted, 2, (some .boolean), { frames := 5, cells := 0, slots := 0, locals := 149 }, [], none)
abbrev MX5_isRight : zM := (yX5_isRight, cX5_isRight, 3, (some .boolean), { frames := 3, cells := 0, slots := 0, locals := 66 }, [], none)
abbrev MX5_isTrue : zM := (yX5_isTrue, cX5_isTrue, 1, (some .boolean), { frames := 6, cells := 0, slots := 0, locals := 170 }, [], none)
abbrev MX5_lastGuessAt : zM := (yX5_lastGuessAt, cX5_lastGuessAt, 5, (some (.object "Remotepane$Key")), { frames := 3, cells := 0, slots := 0, locals := 101 }, [], none)
abbrev MX5_lookForRecording : zM := (yX5_lookForRecording, cX5_lookForRecording, 4, none, { frames := 4, cells := 0, slots := 0, locals := 125 }, [], none)
abbrev MX5_repaint : zM := (yX5_repaint, cX5_repaint, 4, (some .int), { frames := 5, cells := 0, slots := 0, locals := 149 }, [], none)
abbrev MX5_takeFromPile : zM := (yX5_takeFromPile, cX5_takeFromPile, 3, none, { frames := 3, cells := 0, slots := 0, locals := 123 }, [], none)
abbrev MX5_topShown : zM := (yX5_topShown, cX5_topShown, 3, (some (.object "Remotepane$Window")), { frames := 3, cells := 0, slots := 0, locals := 101 }, [], none)
abbrev MX5_topShownAt : zM := (yX5_topShownAt, cX5_topShownAt, 5, (some (.object "Remotepane$Window")), { frames := 3, cells := 0, slots := 0, locals := 101 }, [], none)
abbrev MX6_advance : zM := (yX6_advance, cX6_advance, 3, (some .boolean), { frames := 2, cells := 0, slots := 0, locals := 60 }, [], none)
abbrev MX6_begin : zM := (yX6_begin, cX6_begin, 2, none, { frames := 0, cells := 0, slots := 0, locals := 0 }, [], none)
abbrev MX6_countRowsLeft : zM := (yX6_countRowsLeft, cX6_countRowsLeft, 4, (some .int), { frames := 1, cells := 0, slots := 0, locals := 23 }, [], none)
abbrev MX6_init : zM := (yX6_init, cX6_init, 1, none, { frames := 1, cells := 2, slots := 104, locals := 12 }, [], none)
abbrev MX6_isOther : zM := (yX6_isOther, cX6_isOther, 4, (some .boolean), { frames := 0, cells := 0, slots := 0, locals := 0 }, [], none)
abbrev MX6_nextRow : zM := (yX6_nextRow, cX6_nextRow, 3, (some .int), { frames := 1, cells := 0, slots := 0, locals := 23 }, [], none)
abbrev MX7_cellAhead : zM := (yX7_cellAhead, cX7_cellAhead, 2, (some .int), { frames := 0, cells := 0, slots := 0, locals := 0 }, [], none)
abbrev MX7_colourAt : zM := (yX7_colourAt, cX7_colourAt, 3, (some .int), { frames := 0, cells := 0, slots := 0, locals := 0 }, [], none)
abbrev MX7_covers : zM := (yX7_covers, cX7_covers, 3, (some .boolean), { frames := 0, cells := 0, slots := 0, locals := 0 }, [], none)
abbrev MX7_fillPart : zM := (yX7_fillPart, cX7_fillPart, 12, (some .int), { frames := 1, cells := 0, slots := 0, locals := 21 }, [], none)
abbrev MX7_init : zM := (yX7_init, cX7_init, 5, none, { frames := 1, cells := 1, slots := 96, locals := 12 }, [], none)
abbrev MX7_placeOf : zM := (yX7_placeOf, cX7_placeOf, 4, (some .int), { frames := 2, cells := 0, slots := 0, locals := 43 }, [], none)
abbrev MX7_put : zM := (yX7_put, cX7_put, 2, none, { frames := 1, cells := 0, slots := 0, locals := 21 }, [], none)
abbrev MX8_allow : zM := (yX8_allow, cX8_allow, 7, (some .boolean), { frames := 6, cells := 2, slots := 12, locals := 90 }, [], none)
abbrev MX8_behind : zM := (yX8_behind, cX8_behind, 2, (some .int), { frames := 7, cells := 1, slots := 6, locals := 111 }, [], none)
abbrev MX8_bid : zM := (yX8_bid, cX8_bid, 5, (some .int), { frames := 7, cells := 2, slots := 12, locals := 111 }, [], none)
abbrev MX8_canPass : zM := (yX8_canPass, cX8_canPass, 5, (some .boolean), { frames := 1, cells := 0, slots := 0, locals := 22 }, [], none)
abbrev MX8_carried : zM := (yX8_carried, cX8_carried, 1, (some .long), { frames := 0, cells := 0, slots := 0, locals := 0 }, [], none)
abbrev MX8_clientAt : zM := (yX8_clientAt, cX8_clientAt, 2, (some (.object "Remotepane$Client")), { frames := 6, cells := 1, slots := 6, locals := 90 }, [], none)
abbrev MX8_closeWindow : zM := (yX8_closeWindow, cX8_closeWindow, 5, (some .boolean), { frames := 7, cells := 3, slots := 18, locals := 172 }, [], none)
abbrev MX8_copy : zM := (yX8_copy, cX8_copy, 6, (some .int), { frames := 7, cells := 2, slots := 12, locals := 111 }, [], none)
abbrev MX8_draw : zM := (yX8_draw, cX8_draw, 11, (some .int), { frames := 7, cells := 4, slots := 24, locals := 172 }, [], none)
abbrev MX8_guesses : zM := (yX8_guesses, cX8_guesses, 3, (some .int), { frames := 7, cells := 1, slots := 6, locals := 124 }, [], none)
abbrev MX8_host : zM := (yX8_host, cX8_host, 2, (some .int), { frames := 7, cells := 1, slots := 6, locals := 111 }, [], none)
abbrev MX8_init : zM := (yX8_init, cX8_init, 1, none, { frames := 1, cells := 3, slots := 58, locals := 12 }, [], none)
abbrev MX8_isConsistent : zM := (yX8_isConsistent, cX8_isConsistent, 5, (some .boolean), { frames := 7, cells := 0, slots := 0, locals := 190 }, [], none)
abbrev MX8_isScreenCell : zM := (yX8_isScreenCell, cX8_isScreenCell, 2, (some .boolean), { frames := 1, cells := 0, slots := 0, locals := 22 }, [], none)
abbrev MX8_isSession : zM := (yX8_isSession, cX8_isSession, 2, (some .boolean), { frames := 1, cells := 0, slots := 0, locals := 22 }, [], none)
abbrev MX8_isSize : zM := (yX8_isSize, cX8_isSize, 2, (some .boolean), { frames := 1, cells := 0, slots := 0, locals := 22 }, [], none)
abbrev MX8_isWindowPlace : zM := (yX8_isWindowPlace, cX8_isWindowPlace, 2, (some .boolean), { frames := 1, cells := 0, slots := 0, locals := 22 }, [], none)
abbrev MX8_isWithin : zM := (yX8_isWithin, cX8_isWithin, 3, (some .boolean), { frames := 0, cells := 0, slots := 0, locals := 0 }, [], none)
abbrev MX8_join : zM := (yX8_join, cX8_join, 5, (some .int), { frames := 7, cells := 8, slots := 237, locals := 111 }, [], none)
abbrev MX8_left : zM := (yX8_left, cX8_left, 3, (some .int), { frames := 7, cells := 2, slots := 12, locals := 111 }, [], none)
abbrev MX8_mark : zM := (yX8_mark, cX8_mark, 7, (some .boolean), { frames := 7, cells := 3, slots := 18, locals := 112 }, [], none)
abbrev MX8_money : zM := (yX8_money, cX8_money, 2, (some .int), { frames := 7, cells := 1, slots := 6, locals := 111 }, [], none)
abbrev MX8_move : zM := (yX8_move, cX8_move, 3, (some .boolean), { frames := 7, cells := 2, slots := 12, locals := 111 }, [], none)
abbrev MX8_moveWindow : zM := (yX8_moveWindow, cX8_moveWindow, 7, (some .int), { frames := 7, cells := 4, slots := 24, locals := 172 }, [], none)
abbrev MX8_next : zM := (yX8_next, cX8_next, 2, (some .char), { frames := 8, cells := 2, slots := 12, locals := 133 }, [], none)
abbrev MX8_nextChange : zM := (yX8_nextChange, cX8_nextChange, 3, (some (.object "Remotepane$Change")), { frames := 7, cells := 2, slots := 12, locals := 111 }, [], none)
abbrev MX8_nextCost : zM := (yX8_nextCost, cX8_nextCost, 2, (some .int), { frames := 8, cells := 2, slots := 12, locals := 133 }, [], none)
abbrev MX8_noted : zM := (yX8_noted, cX8_noted, 3, (some .int), { frames := 7, cells := 2, slots := 12, locals := 111 }, [], none)
abbrev MX8_openSession : zM := (yX8_openSession, cX8_openSession, 2, (some .int), { frames := 6, cells := 10, slots := 242, locals := 130 }, [], none)
abbrev MX8_openWindow : zM := (yX8_openWindow, cX8_openWindow, 7, (some .int), { frames := 8, cells := 6, slots := 164, locals := 303 }, [], none)
abbrev MX8_passTick : zM := (yX8_passTick, cX8_passTick, 6, (some .int), { frames := 7, cells := 0, slots := 0, locals := 194 }, [], none)
abbrev MX8_paste : zM := (yX8_paste, cX8_paste, 5, (some .int), { frames := 7, cells := 5, slots := 30, locals := 111 }, [], none)
abbrev MX8_picture : zM := (yX8_picture, cX8_picture, 5, (some .int), { frames := 7, cells := 2, slots := 12, locals := 111 }, [], none)
abbrev MX8_played : zM := (yX8_played, cX8_played, 7, (some .int), { frames := 7, cells := 3, slots := 18, locals := 111 }, [], none)
abbrev MX8_raise : zM := (yX8_raise, cX8_raise, 6, (some .boolean), { frames := 7, cells := 4, slots := 58, locals := 281 }, [], none)
abbrev MX8_record : zM := (yX8_record, cX8_record, 4, (some .int), { frames := 7, cells := 7, slots := 11813, locals := 111 }, [], none)
abbrev MX8_richestServed : zM := (yX8_richestServed, cX8_richestServed, 7, (some (.object "Remotepane$Client")), { frames := 0, cells := 0, slots := 0, locals := 0 }, [], none)
abbrev MX8_rightNumber : zM := (yX8_rightNumber, cX8_rightNumber, 3, (some .int), { frames := 0, cells := 0, slots := 0, locals := 0 }, [], none)
abbrev MX8_runLine : zM := (yX8_runLine, cX8_runLine, 5, (some .int), { frames := 4, cells := 0, slots := 0, locals := 100 }, [], none)
abbrev MX8_screen : zM := (yX8_screen, cX8_screen, 5, (some .int), { frames := 7, cells := 2, slots := 12, locals := 111 }, [], none)
abbrev MX8_screenCell : zM := (yX8_screenCell, cX8_screenCell, 2, (some .int), { frames := 6, cells := 1, slots := 6, locals := 90 }, [], none)
abbrev MX8_seen : zM := (yX8_seen, cX8_seen, 7, (some .int), { frames := 7, cells := 2, slots := 12, locals := 125 }, [], none)
abbrev MX8_sessionAt : zM := (yX8_sessionAt, cX8_sessionAt, 2, (some (.object "Remotepane$Session")), { frames := 6, cells := 1, slots := 6, locals := 90 }, [], none)
abbrev MX8_show : zM := (yX8_show, cX8_show, 7, (some .boolean), { frames := 7, cells := 3, slots := 18, locals := 172 }, [], none)
abbrev MX8_tick : zM := (yX8_tick, cX8_tick, 4, (some .int), { frames := 8, cells := 1, slots := 6, locals := 219 }, [], none)
abbrev MX8_type : zM := (yX8_type, cX8_type, 7, (some .int), { frames := 7, cells := 6, slots := 68, locals := 281 }, [], none)
abbrev MX8_windowAt : zM := (yX8_windowAt, cX8_windowAt, 3, (some (.object "Remotepane$Window")), { frames := 6, cells := 2, slots := 12, locals := 90 }, [], none)
theorem zTi {w : Cond} (i : Nat) (h : tables_1[i]? = some w) (h2 : goodWord w = true) : w ∈ zT := zTm (List.mem_append_right _ (List.mem_of_getElem? h)) h2
theorem moJxa1e45_init_da8c8 : zMok MJxa1e45_init_da8c8 0 := ⟨zTi 153 (by decide +kernel) rfl, zTi 3 (by decide +kernel) rfl, by decide, by decide, by decide +kernel⟩
theorem miJxa1e45_init_da8c8 : Cond.instanceMethod yJxa1e45_init_da8c8 ∈ zT := zTi 152 (by decide +kernel) rfl
theorem moJxc12de_init_da8c8 : zMok MJxc12de_init_da8c8 0 := ⟨zTi 150 (by decide +kernel) rfl, zTi 4 (by decide +kernel) rfl, by decide, by decide, by decide +kernel⟩
theorem miJxc12de_init_da8c8 : Cond.instanceMethod yJxc12de_init_da8c8 ∈ zT := zTi 149 (by decide +kernel) rfl
theorem moJx4a65c_init_da8c8 : zMok MJx4a65c_init_da8c8 0 := ⟨zTi 147 (by decide +kernel) rfl, zTi 5 (by decide +kernel) rfl, by decide, by decide, by decide +kernel⟩
theorem miJx4a65c_init_da8c8 : Cond.instanceMethod yJx4a65c_init_da8c8 ∈ zT := zTi 146 (by decide +kernel) rfl
theorem moJ3_checkIndex_8e157 : zMok MJ3_checkIndex_8e157 3 := ⟨zTi 94 (by decide +kernel) rfl, zTi 24 (by decide +kernel) rfl, by decide, by decide, by decide +kernel⟩
theorem msJ3_checkIndex_8e157 : Cond.static yJ3_checkIndex_8e157 ∈ zT := zTi 93 (by decide +kernel) rfl
theorem moJ15_checkIndex_7cf53 : zMok MJ15_checkIndex_7cf53 2 := ⟨zTi 91 (by decide +kernel) rfl, zTi 23 (by decide +kernel) rfl, by decide, by decide, by decide +kernel⟩
theorem msJ15_checkIndex_7cf53 : Cond.static yJ15_checkIndex_7cf53 ∈ zT := zTi 90 (by decide +kernel) rfl
theorem moJx4a65c_size_8abf5 : zMok MJx4a65c_size_8abf5 0 := ⟨zTi 84 (by decide +kernel) rfl, zTi 5 (by decide +kernel) rfl, by decide, by decide, by decide +kernel⟩
theorem mvJx4a65c_size_8abf5 : zVok MJx4a65c_size_8abf5 := ⟨zTi 82 (by decide +kernel) rfl, zTi 83 (by decide +kernel) rfl⟩
theorem moJx4a65c_elementData_915e3 : zMok MJx4a65c_elementData_915e3 1 := ⟨zTi 98 (by decide +kernel) rfl, zTi 5 (by decide +kernel) rfl, by decide, by decide, by decide +kernel⟩
theorem mvJx4a65c_elementData_915e3 : zVok MJx4a65c_elementData_915e3 := ⟨zTi 96 (by decide +kernel) rfl, zTi 97 (by decide +kernel) rfl⟩
theorem moJx4a65c_get_915e3 : zMok MJx4a65c_get_915e3 1 := ⟨zTi 88 (by decide +kernel) rfl, zTi 5 (by decide +kernel) rfl, by decide, by decide, by decide +kernel⟩
theorem mvJx4a65c_get_915e3 : zVok MJx4a65c_get_915e3 := ⟨zTi 86 (by decide +kernel) rfl, zTi 87 (by decide +kernel) rfl⟩
theorem moJ8_newLength_cabcc : zMok MJ8_newLength_cabcc 3 := ⟨zTi 463 (by decide +kernel) rfl, zTi 19 (by decide +kernel) rfl, by decide, by decide, by decide +kernel⟩
theorem msJ8_newLength_cabcc : Cond.static yJ8_newLength_cabcc ∈ zT := zTi 462 (by decide +kernel) rfl
theorem moJ7_copyOf_6403c : zMok MJ7_copyOf_6403c 3 := ⟨zTi 496 (by decide +kernel) rfl, zTi 21 (by decide +kernel) rfl, by decide, by decide, by decide +kernel⟩
theorem msJ7_copyOf_6403c : Cond.static yJ7_copyOf_6403c ∈ zT := zTi 495 (by decide +kernel) rfl
theorem moJ7_copyOf_1904c : zMok MJ7_copyOf_1904c 2 := ⟨zTi 473 (by decide +kernel) rfl, zTi 21 (by decide +kernel) rfl, by decide, by decide, by decide +kernel⟩
theorem msJ7_copyOf_1904c : Cond.static yJ7_copyOf_1904c ∈ zT := zTi 472 (by decide +kernel) rfl
theorem moJx4a65c_grow_92f84 : zMok MJx4a65c_grow_92f84 1 := ⟨zTi 460 (by decide +kernel) rfl, zTi 5 (by decide +kernel) rfl, by decide, by decide, by decide +kernel⟩
theorem mvJx4a65c_grow_92f84 : zVok MJx4a65c_grow_92f84 := ⟨zTi 459 (by decide +kernel) rfl, zTm (by decide +kernel) rfl⟩
theorem moJx4a65c_grow_d5877 : zMok MJx4a65c_grow_d5877 0 := ⟨zTi 456 (by decide +kernel) rfl, zTi 5 (by decide +kernel) rfl, by decide, by decide, by decide +kernel⟩
theorem mvJx4a65c_grow_d5877 : zVok MJx4a65c_grow_d5877 := ⟨zTi 455 (by decide +kernel) rfl, zTm (by decide +kernel) rfl⟩
theorem moJx4a65c_add_72be8 : zMok MJx4a65c_add_72be8 3 := ⟨zTi 452 (by decide +kernel) rfl, zTi 5 (by decide +kernel) rfl, by decide, by decide, by decide +kernel⟩
theorem mvJx4a65c_add_72be8 : zVok MJx4a65c_add_72be8 := ⟨zTi 451 (by decide +kernel) rfl, zTm (by decide +kernel) rfl⟩
theorem moJx4a65c_add_9ea2d : zMok MJx4a65c_add_9ea2d 1 := ⟨zTi 448 (by decide +kernel) rfl, zTi 5 (by decide +kernel) rfl, by decide, by decide, by decide +kernel⟩
theorem mvJx4a65c_add_9ea2d : zVok MJx4a65c_add_9ea2d := ⟨zTi 446 (by decide +kernel) rfl, zTi 447 (by decide +kernel) rfl⟩
theorem moJx4a65c_fastRemove_b59b0 : zMok MJx4a65c_fastRemove_b59b0 2 := ⟨zTi 1025 (by decide +kernel) rfl, zTi 5 (by decide +kernel) rfl, by decide, by decide, by decide +kernel⟩
theorem mvJx4a65c_fastRemove_b59b0 : zVok MJx4a65c_fastRemove_b59b0 := ⟨zTi 1024 (by decide +kernel) rfl, zTm (by decide +kernel) rfl⟩
theorem moJx4a65c_remove_915e3 : zMok MJx4a65c_remove_915e3 1 := ⟨zTi 1021 (by decide +kernel) rfl, zTi 5 (by decide +kernel) rfl, by decide, by decide, by decide +kernel⟩
theorem mvJx4a65c_remove_915e3 : zVok MJx4a65c_remove_915e3 := ⟨zTi 1019 (by decide +kernel) rfl, zTi 1020 (by decide +kernel) rfl⟩
theorem moJx4a65c_clear_da8c8 : zMok MJx4a65c_clear_da8c8 0 := ⟨zTi 797 (by decide +kernel) rfl, zTi 5 (by decide +kernel) rfl, by decide, by decide, by decide +kernel⟩
theorem mvJx4a65c_clear_da8c8 : zVok MJx4a65c_clear_da8c8 := ⟨zTi 795 (by decide +kernel) rfl, zTi 796 (by decide +kernel) rfl⟩
theorem moJ7_fill_53178 : zMok MJ7_fill_53178 2 := ⟨zTi 118 (by decide +kernel) rfl, zTi 21 (by decide +kernel) rfl, by decide, by decide, by decide +kernel⟩
theorem msJ7_fill_53178 : Cond.static yJ7_fill_53178 ∈ zT := zTi 117 (by decide +kernel) rfl
theorem moJ0_isLatin1_aae02 : zMok MJ0_isLatin1_aae02 0 := ⟨zTi 1086 (by decide +kernel) rfl, zTi 14 (by decide +kernel) rfl, by decide, by decide, by decide +kernel⟩
theorem mvJ0_isLatin1_aae02 : zVok MJ0_isLatin1_aae02 := ⟨zTi 1084 (by decide +kernel) rfl, zTi 1085 (by decide +kernel) rfl⟩
theorem moJ0_checkIndex_df160 : zMok MJ0_checkIndex_df160 2 := ⟨zTi 1094 (by decide +kernel) rfl, zTi 14 (by decide +kernel) rfl, by decide, by decide, by decide +kernel⟩
theorem msJ0_checkIndex_df160 : Cond.static yJ0_checkIndex_df160 ∈ zT := zTi 1093 (by decide +kernel) rfl
theorem moJ1_charAt_3b067 : zMok MJ1_charAt_3b067 2 := ⟨zTi 1091 (by decide +kernel) rfl, zTi 25 (by decide +kernel) rfl, by decide, by decide, by decide +kernel⟩
theorem msJ1_charAt_3b067 : Cond.static yJ1_charAt_3b067 ∈ zT := zTi 1090 (by decide +kernel) rfl
theorem moJ0_charAt_5068e : zMok MJ0_charAt_5068e 1 := ⟨zTi 1082 (by decide +kernel) rfl, zTi 14 (by decide +kernel) rfl, by decide, by decide, by decide +kernel⟩
theorem mvJ0_charAt_5068e : zVok MJ0_charAt_5068e := ⟨zTi 1080 (by decide +kernel) rfl, zTi 1081 (by decide +kernel) rfl⟩
theorem mwL_behind : Cond.codeWith yL_behind cL_behind 3 (some .int) [(0, 5, 6, 26)] ∈ zT ∧ Cond.static yL_behind ∈ zT ∧ Cond.initialized RL ∈ zT := ⟨zTi 681 (by decide +kernel) rfl, zTi 680 (by decide +kernel) rfl, zTi 0 (by decide +kernel) rfl⟩
theorem mwL_bid : Cond.codeWith yL_bid cL_bid 4 (some .int) [(0, 6, 7, 26), (0, 6, 11, 29)] ∈ zT ∧ Cond.static yL_bid ∈ zT ∧ Cond.initialized RL ∈ zT := ⟨zTi 638 (by decide +kernel) rfl, zTi 637 (by decide +kernel) rfl, zTi 0 (by decide +kernel) rfl⟩
theorem moL_cell : zMok ML_cell 2 := ⟨zTi 128 (by decide +kernel) rfl, zTi 0 (by decide +kernel) rfl, by decide, by decide, by decide +kernel⟩
theorem msL_cell : Cond.static yL_cell ∈ zT := zTi 127 (by decide +kernel) rfl
theorem mwL_copy : Cond.codeWith yL_copy cL_copy 5 (some .int) [(0, 7, 8, 26), (0, 7, 13, 29)] ∈ zT ∧ Cond.static yL_copy ∈ zT ∧ Cond.initialized RL ∈ zT := ⟨zTi 889 (by decide +kernel) rfl, zTi 888 (by decide +kernel) rfl, zTi 0 (by decide +kernel) rfl⟩
theorem mwL_draw : Cond.codeWith yL_draw cL_draw 9 (some .int) [(0, 15, 16, 26), (0, 15, 21, 29)] ∈ zT ∧ Cond.static yL_draw ∈ zT ∧ Cond.initialized RL ∈ zT := ⟨zTi 529 (by decide +kernel) rfl, zTi 528 (by decide +kernel) rfl, zTi 0 (by decide +kernel) rfl⟩
theorem mwL_guesses : Cond.codeWith yL_guesses cL_guesses 3 (some .int) [(0, 5, 6, 26)] ∈ zT ∧ Cond.static yL_guesses ∈ zT ∧ Cond.initialized RL ∈ zT := ⟨zTi 878 (by decide +kernel) rfl, zTi 877 (by decide +kernel) rfl, zTi 0 (by decide +kernel) rfl⟩
theorem mwL_host : Cond.codeWith yL_host cL_host 3 (some .int) [(0, 5, 6, 26)] ∈ zT ∧ Cond.static yL_host ∈ zT ∧ Cond.initialized RL ∈ zT := ⟨zTi 943 (by decide +kernel) rfl, zTi 942 (by decide +kernel) rfl, zTi 0 (by decide +kernel) rfl⟩
theorem mwL_is : Cond.codeWith yL_is cL_is 7 (some .int) [(0, 122, 123, 26), (0, 122, 128, 29), (0, 122, 133, 19)] ∈ zT ∧ Cond.static yL_is ∈ zT ∧ Cond.initialized RL ∈ zT := ⟨zTi 1009 (by decide +kernel) rfl, zTi 1008 (by decide +kernel) rfl, zTi 0 (by decide +kernel) rfl⟩
theorem mwL_join : Cond.codeWith yL_join cL_join 4 (some .int) [(0, 6, 7, 26), (0, 6, 11, 29), (0, 6, 15, 19)] ∈ zT ∧ Cond.static yL_join ∈ zT ∧ Cond.initialized RL ∈ zT := ⟨zTi 555 (by decide +kernel) rfl, zTi 554 (by decide +kernel) rfl, zTi 0 (by decide +kernel) rfl⟩
theorem mwL_left : Cond.codeWith yL_left cL_left 3 (some .int) [(0, 5, 6, 26), (0, 5, 10, 19)] ∈ zT ∧ Cond.static yL_left ∈ zT ∧ Cond.initialized RL ∈ zT := ⟨zTi 934 (by decide +kernel) rfl, zTi 933 (by decide +kernel) rfl, zTi 0 (by decide +kernel) rfl⟩
theorem mwL_money : Cond.codeWith yL_money cL_money 3 (some .int) [(0, 5, 6, 26)] ∈ zT ∧ Cond.static yL_money ∈ zT ∧ Cond.initialized RL ∈ zT := ⟨zTi 650 (by decide +kernel) rfl, zTi 649 (by decide +kernel) rfl, zTi 0 (by decide +kernel) rfl⟩
theorem mwL_moveWindow : Cond.codeWith yL_moveWindow cL_moveWindow 6 (some .int) [(0, 9, 10, 26), (0, 9, 15, 29)] ∈ zT ∧ Cond.static yL_moveWindow ∈ zT ∧ Cond.initialized RL ∈ zT := ⟨zTi 516 (by decide +kernel) rfl, zTi 515 (by decide +kernel) rfl, zTi 0 (by decide +kernel) rfl⟩
theorem mwL_next : Cond.codeWith yL_next cL_next 3 (some .int) [(0, 5, 6, 26), (0, 5, 10, 68)] ∈ zT ∧ Cond.static yL_next ∈ zT ∧ Cond.initialized RL ∈ zT := ⟨zTi 1062 (by decide +kernel) rfl, zTi 1061 (by decide +kernel) rfl, zTi 0 (by decide +kernel) rfl⟩
theorem mwL_nextCost : Cond.codeWith yL_nextCost cL_nextCost 3 (some .int) [(0, 5, 6, 26), (0, 5, 10, 68)] ∈ zT ∧ Cond.static yL_nextCost ∈ zT ∧ Cond.initialized RL ∈ zT := ⟨zTi 1074 (by decide +kernel) rfl, zTi 1073 (by decide +kernel) rfl, zTi 0 (by decide +kernel) rfl⟩
theorem mwL_noted : Cond.codeWith yL_noted cL_noted 3 (some .int) [(0, 5, 6, 26), (0, 5, 10, 68)] ∈ zT ∧ Cond.static yL_noted ∈ zT ∧ Cond.initialized RL ∈ zT := ⟨zTi 1001 (by decide +kernel) rfl, zTi 1000 (by decide +kernel) rfl, zTi 0 (by decide +kernel) rfl⟩
theorem mwL_openSession : Cond.codeWith yL_openSession cL_openSession 2 (some .int) [(0, 4, 5, 19)] ∈ zT ∧ Cond.static yL_openSession ∈ zT ∧ Cond.initialized RL ∈ zT := ⟨zTi 131 (by decide +kernel) rfl, zTi 130 (by decide +kernel) rfl, zTi 0 (by decide +kernel) rfl⟩
theorem mwL_openWindow : Cond.codeWith yL_openWindow cL_openWindow 7 (some .int) [(0, 11, 12, 26), (0, 11, 17, 29), (0, 11, 22, 19)] ∈ zT ∧ Cond.static yL_openWindow ∈ zT ∧ Cond.initialized RL ∈ zT := ⟨zTi 322 (by decide +kernel) rfl, zTi 321 (by decide +kernel) rfl, zTi 0 (by decide +kernel) rfl⟩
theorem mwL_paste : Cond.codeWith yL_paste cL_paste 4 (some .int) [(0, 6, 7, 26), (0, 6, 11, 68), (0, 6, 15, 81)] ∈ zT ∧ Cond.static yL_paste ∈ zT ∧ Cond.initialized RL ∈ zT := ⟨zTi 900 (by decide +kernel) rfl, zTi 899 (by decide +kernel) rfl, zTi 0 (by decide +kernel) rfl⟩
theorem mwL_picture : Cond.codeWith yL_picture cL_picture 5 (some .int) [(0, 7, 8, 26)] ∈ zT ∧ Cond.static yL_picture ∈ zT ∧ Cond.initialized RL ∈ zT := ⟨zTi 657 (by decide +kernel) rfl, zTi 656 (by decide +kernel) rfl, zTi 0 (by decide +kernel) rfl⟩
theorem mwL_played : Cond.codeWith yL_played cL_played 6 (some .int) [(0, 9, 10, 26), (0, 9, 15, 68)] ∈ zT ∧ Cond.static yL_played ∈ zT ∧ Cond.initialized RL ∈ zT := ⟨zTi 992 (by decide +kernel) rfl, zTi 991 (by decide +kernel) rfl, zTi 0 (by decide +kernel) rfl⟩
theorem mwL_record : Cond.codeWith yL_record cL_record 3 (some .int) [(0, 5, 6, 26)] ∈ zT ∧ Cond.static yL_record ∈ zT ∧ Cond.initialized RL ∈ zT := ⟨zTi 950 (by decide +kernel) rfl, zTi 949 (by decide +kernel) rfl, zTi 0 (by decide +kernel) rfl⟩
theorem mwL_screen : Cond.codeWith yL_screen cL_screen 5 (some .int) [(0, 7, 8, 26)] ∈ zT ∧ Cond.static yL_screen ∈ zT ∧ Cond.initialized RL ∈ zT := ⟨zTi 544 (by decide +kernel) rfl, zTi 543 (by decide +kernel) rfl, zTi 0 (by decide +kernel) rfl⟩
theorem mwL_seen : Cond.codeWith yL_seen cL_seen 5 (some .int) [(0, 7, 8, 26)] ∈ zT ∧ Cond.static yL_seen ∈ zT ∧ Cond.initialized RL ∈ zT := ⟨zTi 664 (by decide +kernel) rfl, zTi 663 (by decide +kernel) rfl, zTi 0 (by decide +kernel) rfl⟩
theorem moL_some : zMok ML_some 3 := ⟨zTi 125 (by decide +kernel) rfl, zTi 0 (by decide +kernel) rfl, by decide, by decide, by decide +kernel⟩
theorem msL_some : Cond.static yL_some ∈ zT := zTi 124 (by decide +kernel) rfl
theorem mwL_tick : Cond.codeWith yL_tick cL_tick 3 (some .int) [(0, 5, 6, 29)] ∈ zT ∧ Cond.static yL_tick ∈ zT ∧ Cond.initialized RL ∈ zT := ⟨zTi 696 (by decide +kernel) rfl, zTi 695 (by decide +kernel) rfl, zTi 0 (by decide +kernel) rfl⟩
theorem moL_told : zMok ML_told 3 := ⟨zTi 1059 (by decide +kernel) rfl, zTi 0 (by decide +kernel) rfl, by decide, by decide, by decide +kernel⟩
theorem msL_told : Cond.static yL_told ∈ zT := zTi 1058 (by decide +kernel) rfl
theorem mwL_type : Cond.codeWith yL_type cL_type 4 (some .int) [(0, 6, 7, 26), (0, 6, 11, 29), (0, 6, 15, 81), (0, 6, 19, 19)] ∈ zT ∧ Cond.static yL_type ∈ zT ∧ Cond.initialized RL ∈ zT := ⟨zTi 816 (by decide +kernel) rfl, zTi 815 (by decide +kernel) rfl, zTi 0 (by decide +kernel) rfl⟩
theorem moX0_apply : zMok MX0_apply 0 := ⟨zTi 768 (by decide +kernel) rfl, zTi 17 (by decide +kernel) rfl, by decide, by decide, by decide +kernel⟩
theorem mvX0_apply : zVok MX0_apply := ⟨zTi 766 (by decide +kernel) rfl, zTi 767 (by decide +kernel) rfl⟩
theorem moX0_colourAfter : zMok MX0_colourAfter 1 := ⟨zTi 773 (by decide +kernel) rfl, zTi 17 (by decide +kernel) rfl, by decide, by decide, by decide +kernel⟩
theorem mvX0_colourAfter : zVok MX0_colourAfter := ⟨zTi 771 (by decide +kernel) rfl, zTi 772 (by decide +kernel) rfl⟩
theorem moX0_consider : zMok MX0_consider 6 := ⟨zTi 755 (by decide +kernel) rfl, zTi 17 (by decide +kernel) rfl, by decide, by decide, by decide +kernel⟩
theorem mvX0_consider : zVok MX0_consider := ⟨zTi 753 (by decide +kernel) rfl, zTi 754 (by decide +kernel) rfl⟩
theorem moX0_find : zMok MX0_find 0 := ⟨zTi 735 (by decide +kernel) rfl, zTi 17 (by decide +kernel) rfl, by decide, by decide, by decide +kernel⟩
theorem mvX0_find : zVok MX0_find := ⟨zTi 733 (by decide +kernel) rfl, zTi 734 (by decide +kernel) rfl⟩
theorem moX0_gainOf : zMok MX0_gainOf 2 := ⟨zTi 751 (by decide +kernel) rfl, zTi 17 (by decide +kernel) rfl, by decide, by decide, by decide +kernel⟩
theorem mvX0_gainOf : zVok MX0_gainOf := ⟨zTi 749 (by decide +kernel) rfl, zTi 750 (by decide +kernel) rfl⟩
theorem moX0_init : zMok MX0_init 1 := ⟨zTi 570 (by decide +kernel) rfl, zTi 17 (by decide +kernel) rfl, by decide, by decide, by decide +kernel⟩
theorem miX0_init : Cond.instanceMethod yX0_init ∈ zT := zTi 569 (by decide +kernel) rfl
theorem moX0_isBehind : zMok MX0_isBehind 1 := ⟨zTi 693 (by decide +kernel) rfl, zTi 17 (by decide +kernel) rfl, by decide, by decide, by decide +kernel⟩
theorem mvX0_isBehind : zVok MX0_isBehind := ⟨zTi 691 (by decide +kernel) rfl, zTi 692 (by decide +kernel) rfl⟩
theorem moX0_tryCells : zMok MX0_tryCells 0 := ⟨zTi 759 (by decide +kernel) rfl, zTi 17 (by decide +kernel) rfl, by decide, by decide, by decide +kernel⟩
theorem mvX0_tryCells : zVok MX0_tryCells := ⟨zTi 757 (by decide +kernel) rfl, zTi 758 (by decide +kernel) rfl⟩
theorem moX0_tryCopies : zMok MX0_tryCopies 0 := ⟨zTi 740 (by decide +kernel) rfl, zTi 17 (by decide +kernel) rfl, by decide, by decide, by decide +kernel⟩
theorem mvX0_tryCopies : zVok MX0_tryCopies := ⟨zTi 738 (by decide +kernel) rfl, zTi 739 (by decide +kernel) rfl⟩
theorem moX0_tryRectangles : zMok MX0_tryRectangles 2 := ⟨zTi 744 (by decide +kernel) rfl, zTi 17 (by decide +kernel) rfl, by decide, by decide, by decide +kernel⟩
theorem mvX0_tryRectangles : zVok MX0_tryRectangles := ⟨zTi 742 (by decide +kernel) rfl, zTi 743 (by decide +kernel) rfl⟩
theorem moX1_countBehind : zMok MX1_countBehind 0 := ⟨zTi 689 (by decide +kernel) rfl, zTi 16 (by decide +kernel) rfl, by decide, by decide, by decide +kernel⟩
theorem mvX1_countBehind : zVok MX1_countBehind := ⟨zTi 687 (by decide +kernel) rfl, zTi 688 (by decide +kernel) rfl⟩
theorem moX1_endGuess : zMok MX1_endGuess 1 := ⟨zTi 793 (by decide +kernel) rfl, zTi 16 (by decide +kernel) rfl, by decide, by decide, by decide +kernel⟩
theorem mvX1_endGuess : zVok MX1_endGuess := ⟨zTi 791 (by decide +kernel) rfl, zTi 792 (by decide +kernel) rfl⟩
theorem moX1_init : zMok MX1_init 2 := ⟨zTi 564 (by decide +kernel) rfl, zTi 16 (by decide +kernel) rfl, by decide, by decide, by decide +kernel⟩
theorem miX1_init : Cond.instanceMethod yX1_init ∈ zT := zTi 563 (by decide +kernel) rfl
theorem moX2_hold : zMok MX2_hold 3 := ⟨zTi 897 (by decide +kernel) rfl, zTi 6 (by decide +kernel) rfl, by decide, by decide, by decide +kernel⟩
theorem mvX2_hold : zVok MX2_hold := ⟨zTi 895 (by decide +kernel) rfl, zTi 896 (by decide +kernel) rfl⟩
theorem moX2_init : zMok MX2_init 0 := ⟨zTi 173 (by decide +kernel) rfl, zTi 6 (by decide +kernel) rfl, by decide, by decide, by decide +kernel⟩
theorem miX2_init : Cond.instanceMethod yX2_init ∈ zT := zTi 172 (by decide +kernel) rfl
theorem moX3_init : zMok MX3_init 4 := ⟨zTi 854 (by decide +kernel) rfl, zTi 28 (by decide +kernel) rfl, by decide, by decide, by decide +kernel⟩
theorem miX3_init : Cond.instanceMethod yX3_init ∈ zT := zTi 853 (by decide +kernel) rfl
theorem moX4_begin : zMok MX4_begin 0 := ⟨zTi 989 (by decide +kernel) rfl, zTi 29 (by decide +kernel) rfl, by decide, by decide, by decide +kernel⟩
theorem mvX4_begin : zVok MX4_begin := ⟨zTi 987 (by decide +kernel) rfl, zTi 988 (by decide +kernel) rfl⟩
theorem moX4_endTick : zMok MX4_endTick 0 := ⟨zTi 813 (by decide +kernel) rfl, zTi 29 (by decide +kernel) rfl, by decide, by decide, by decide +kernel⟩
theorem mvX4_endTick : zVok MX4_endTick := ⟨zTi 811 (by decide +kernel) rfl, zTi 812 (by decide +kernel) rfl⟩
theorem moX4_init : zMok MX4_init 0 := ⟨zTi 959 (by decide +kernel) rfl, zTi 29 (by decide +kernel) rfl, by decide, by decide, by decide +kernel⟩
theorem miX4_init : Cond.instanceMethod yX4_init ∈ zT := zTi 958 (by decide +kernel) rfl
theorem moX4_isAsLookedAt : zMok MX4_isAsLookedAt 0 := ⟨zTi 111 (by decide +kernel) rfl, zTi 29 (by decide +kernel) rfl, by decide, by decide, by decide +kernel⟩
theorem mvX4_isAsLookedAt : zVok MX4_isAsLookedAt := ⟨zTi 109 (by decide +kernel) rfl, zTi 110 (by decide +kernel) rfl⟩
theorem moX4_isFull : zMok MX4_isFull 0 := ⟨zTi 805 (by decide +kernel) rfl, zTi 29 (by decide +kernel) rfl, by decide, by decide, by decide +kernel⟩
theorem mvX4_isFull : zVok MX4_isFull := ⟨zTi 803 (by decide +kernel) rfl, zTi 804 (by decide +kernel) rfl⟩
theorem moX4_look : zMok MX4_look 2 := ⟨zTi 809 (by decide +kernel) rfl, zTi 29 (by decide +kernel) rfl, by decide, by decide, by decide +kernel⟩
theorem mvX4_look : zVok MX4_look := ⟨zTi 807 (by decide +kernel) rfl, zTi 808 (by decide +kernel) rfl⟩
theorem moX4_play : zMok MX4_play 1 := ⟨zTi 115 (by decide +kernel) rfl, zTi 29 (by decide +kernel) rfl, by decide, by decide, by decide +kernel⟩
theorem mvX4_play : zVok MX4_play := ⟨zTi 113 (by decide +kernel) rfl, zTi 114 (by decide +kernel) rfl⟩
theorem moX5_addWindow : zMok MX5_addWindow 1 := ⟨zTi 444 (by decide +kernel) rfl, zTi 2 (by decide +kernel) rfl, by decide, by decide, by decide +kernel⟩
theorem mvX5_addWindow : zVok MX5_addWindow := ⟨zTi 442 (by decide +kernel) rfl, zTi 443 (by decide +kernel) rfl⟩
theorem moX5_advanceMove : zMok MX5_advanceMove 0 := ⟨zTi 709 (by decide +kernel) rfl, zTi 2 (by decide +kernel) rfl, by decide, by decide, by decide +kernel⟩
theorem mvX5_advanceMove : zVok MX5_advanceMove := ⟨zTi 707 (by decide +kernel) rfl, zTi 708 (by decide +kernel) rfl⟩
theorem moX5_colourOfWindows : zMok MX5_colourOfWindows 1 := ⟨zTi 76 (by decide +kernel) rfl, zTi 2 (by decide +kernel) rfl, by decide, by decide, by decide +kernel⟩
theorem mvX5_colourOfWindows : zVok MX5_colourOfWindows := ⟨zTi 74 (by decide +kernel) rfl, zTi 75 (by decide +kernel) rfl⟩
theorem moX5_countKeysBy : zMok MX5_countKeysBy 1 := ⟨zTi 886 (by decide +kernel) rfl, zTi 2 (by decide +kernel) rfl, by decide, by decide, by decide +kernel⟩
theorem mvX5_countKeysBy : zVok MX5_countKeysBy := ⟨zTi 884 (by decide +kernel) rfl, zTi 885 (by decide +kernel) rfl⟩
theorem moX5_countKeysOf : zMok MX5_countKeysOf 1 := ⟨zTi 848 (by decide +kernel) rfl, zTi 2 (by decide +kernel) rfl, by decide, by decide, by decide +kernel⟩
theorem mvX5_countKeysOf : zVok MX5_countKeysOf := ⟨zTi 846 (by decide +kernel) rfl, zTi 847 (by decide +kernel) rfl⟩
theorem moX5_doKeys : zMok MX5_doKeys 0 := ⟨zTi 777 (by decide +kernel) rfl, zTi 2 (by decide +kernel) rfl, by decide, by decide, by decide +kernel⟩
theorem mvX5_doKeys : zVok MX5_doKeys := ⟨zTi 775 (by decide +kernel) rfl, zTi 776 (by decide +kernel) rfl⟩
theorem moX5_init : zMok MX5_init 0 := ⟨zTi 140 (by decide +kernel) rfl, zTi 2 (by decide +kernel) rfl, by decide, by decide, by decide +kernel⟩
theorem miX5_init : Cond.instanceMethod yX5_init ∈ zT := zTi 139 (by decide +kernel) rfl
theorem moX5_isOnTop : zMok MX5_isOnTop 1 := ⟨zTi 1034 (by decide +kernel) rfl, zTi 2 (by decide +kernel) rfl, by decide, by decide, by decide +kernel⟩
theorem mvX5_isOnTop : zVok MX5_isOnTop := ⟨zTi 1032 (by decide +kernel) rfl, zTi 1033 (by decide +kernel) rfl⟩
theorem moX5_isPainted : zMok MX5_isPainted 0 := ⟨zTi 72 (by decide +kernel) rfl, zTi 2 (by decide +kernel) rfl, by decide, by decide, by decide +kernel⟩
theorem mvX5_isPainted : zVok MX5_isPainted := ⟨zTi 70 (by decide +kernel) rfl, zTi 71 (by decide +kernel) rfl⟩
theorem moX5_isRight : zMok MX5_isRight 1 := ⟨zTi 789 (by decide +kernel) rfl, zTi 2 (by decide +kernel) rfl, by decide, by decide, by decide +kernel⟩
theorem mvX5_isRight : zVok MX5_isRight := ⟨zTi 787 (by decide +kernel) rfl, zTi 788 (by decide +kernel) rfl⟩
theorem moX5_isTrue : zMok MX5_isTrue 0 := ⟨zTi 68 (by decide +kernel) rfl, zTi 2 (by decide +kernel) rfl, by decide, by decide, by decide +kernel⟩
theorem mvX5_isTrue : zVok MX5_isTrue := ⟨zTi 66 (by decide +kernel) rfl, zTi 67 (by decide +kernel) rfl⟩
theorem moX5_lastGuessAt : zMok MX5_lastGuessAt 2 := ⟨zTi 672 (by decide +kernel) rfl, zTi 2 (by decide +kernel) rfl, by decide, by decide, by decide +kernel⟩
theorem mvX5_lastGuessAt : zVok MX5_lastGuessAt := ⟨zTi 670 (by decide +kernel) rfl, zTi 671 (by decide +kernel) rfl⟩
theorem moX5_lookForRecording : zMok MX5_lookForRecording 0 := ⟨zTi 801 (by decide +kernel) rfl, zTi 2 (by decide +kernel) rfl, by decide, by decide, by decide +kernel⟩
theorem mvX5_lookForRecording : zVok MX5_lookForRecording := ⟨zTi 799 (by decide +kernel) rfl, zTi 800 (by decide +kernel) rfl⟩
theorem moX5_repaint : zMok MX5_repaint 0 := ⟨zTi 511 (by decide +kernel) rfl, zTi 2 (by decide +kernel) rfl, by decide, by decide, by decide +kernel⟩
theorem mvX5_repaint : zVok MX5_repaint := ⟨zTi 509 (by decide +kernel) rfl, zTi 510 (by decide +kernel) rfl⟩
theorem moX5_takeFromPile : zMok MX5_takeFromPile 1 := ⟨zTi 1017 (by decide +kernel) rfl, zTi 2 (by decide +kernel) rfl, by decide, by decide, by decide +kernel⟩
theorem mvX5_takeFromPile : zVok MX5_takeFromPile := ⟨zTi 1015 (by decide +kernel) rfl, zTi 1016 (by decide +kernel) rfl⟩
theorem moX5_topShown : zMok MX5_topShown 0 := ⟨zTi 826 (by decide +kernel) rfl, zTi 2 (by decide +kernel) rfl, by decide, by decide, by decide +kernel⟩
theorem mvX5_topShown : zVok MX5_topShown := ⟨zTi 824 (by decide +kernel) rfl, zTi 825 (by decide +kernel) rfl⟩
theorem moX5_topShownAt : zMok MX5_topShownAt 2 := ⟨zTi 80 (by decide +kernel) rfl, zTi 2 (by decide +kernel) rfl, by decide, by decide, by decide +kernel⟩
theorem mvX5_topShownAt : zVok MX5_topShownAt := ⟨zTi 78 (by decide +kernel) rfl, zTi 79 (by decide +kernel) rfl⟩
theorem moX6_advance : zMok MX6_advance 1 := ⟨zTi 713 (by decide +kernel) rfl, zTi 7 (by decide +kernel) rfl, by decide, by decide, by decide +kernel⟩
theorem mvX6_advance : zVok MX6_advance := ⟨zTi 711 (by decide +kernel) rfl, zTi 712 (by decide +kernel) rfl⟩
theorem moX6_begin : zMok MX6_begin 0 := ⟨zTi 1056 (by decide +kernel) rfl, zTi 7 (by decide +kernel) rfl, by decide, by decide, by decide +kernel⟩
theorem mvX6_begin : zVok MX6_begin := ⟨zTi 1054 (by decide +kernel) rfl, zTi 1055 (by decide +kernel) rfl⟩
theorem moX6_countRowsLeft : zMok MX6_countRowsLeft 1 := ⟨zTi 717 (by decide +kernel) rfl, zTi 7 (by decide +kernel) rfl, by decide, by decide, by decide +kernel⟩
theorem mvX6_countRowsLeft : zVok MX6_countRowsLeft := ⟨zTi 715 (by decide +kernel) rfl, zTi 716 (by decide +kernel) rfl⟩
theorem moX6_init : zMok MX6_init 0 := ⟨zTi 193 (by decide +kernel) rfl, zTi 7 (by decide +kernel) rfl, by decide, by decide, by decide +kernel⟩
theorem miX6_init : Cond.instanceMethod yX6_init ∈ zT := zTi 192 (by decide +kernel) rfl
theorem moX6_isOther : zMok MX6_isOther 2 := ⟨zTi 721 (by decide +kernel) rfl, zTi 7 (by decide +kernel) rfl, by decide, by decide, by decide +kernel⟩
theorem mvX6_isOther : zVok MX6_isOther := ⟨zTi 719 (by decide +kernel) rfl, zTi 720 (by decide +kernel) rfl⟩
theorem moX6_nextRow : zMok MX6_nextRow 1 := ⟨zTi 725 (by decide +kernel) rfl, zTi 7 (by decide +kernel) rfl, by decide, by decide, by decide +kernel⟩
theorem mvX6_nextRow : zVok MX6_nextRow := ⟨zTi 723 (by decide +kernel) rfl, zTi 724 (by decide +kernel) rfl⟩
theorem moX7_cellAhead : zMok MX7_cellAhead 1 := ⟨zTi 785 (by decide +kernel) rfl, zTi 18 (by decide +kernel) rfl, by decide, by decide, by decide +kernel⟩
theorem mvX7_cellAhead : zVok MX7_cellAhead := ⟨zTi 783 (by decide +kernel) rfl, zTi 784 (by decide +kernel) rfl⟩
theorem moX7_colourAt : zMok MX7_colourAt 2 := ⟨zTi 107 (by decide +kernel) rfl, zTi 18 (by decide +kernel) rfl, by decide, by decide, by decide +kernel⟩
theorem mvX7_colourAt : zVok MX7_colourAt := ⟨zTi 105 (by decide +kernel) rfl, zTi 106 (by decide +kernel) rfl⟩
theorem moX7_covers : zMok MX7_covers 2 := ⟨zTi 103 (by decide +kernel) rfl, zTi 18 (by decide +kernel) rfl, by decide, by decide, by decide +kernel⟩
theorem mvX7_covers : zVok MX7_covers := ⟨zTi 101 (by decide +kernel) rfl, zTi 102 (by decide +kernel) rfl⟩
theorem moX7_fillPart : zMok MX7_fillPart 5 := ⟨zTi 540 (by decide +kernel) rfl, zTi 18 (by decide +kernel) rfl, by decide, by decide, by decide +kernel⟩
theorem mvX7_fillPart : zVok MX7_fillPart := ⟨zTi 538 (by decide +kernel) rfl, zTi 539 (by decide +kernel) rfl⟩
theorem moX7_init : zMok MX7_init 4 := ⟨zTi 400 (by decide +kernel) rfl, zTi 18 (by decide +kernel) rfl, by decide, by decide, by decide +kernel⟩
theorem miX7_init : Cond.instanceMethod yX7_init ∈ zT := zTi 399 (by decide +kernel) rfl
theorem moX7_placeOf : zMok MX7_placeOf 1 := ⟨zTi 677 (by decide +kernel) rfl, zTi 18 (by decide +kernel) rfl, by decide, by decide, by decide +kernel⟩
theorem mvX7_placeOf : zVok MX7_placeOf := ⟨zTi 675 (by decide +kernel) rfl, zTi 676 (by decide +kernel) rfl⟩
theorem moX7_put : zMok MX7_put 1 := ⟨zTi 781 (by decide +kernel) rfl, zTi 18 (by decide +kernel) rfl, by decide, by decide, by decide +kernel⟩
theorem mvX7_put : zVok MX7_put := ⟨zTi 779 (by decide +kernel) rfl, zTi 780 (by decide +kernel) rfl⟩
theorem moX8_allow : zMok MX8_allow 4 := ⟨zTi 1046 (by decide +kernel) rfl, zTi 1 (by decide +kernel) rfl, by decide, by decide, by decide +kernel⟩
theorem mvX8_allow : zVok MX8_allow := ⟨zTi 1044 (by decide +kernel) rfl, zTi 1045 (by decide +kernel) rfl⟩
theorem moX8_behind : zMok MX8_behind 1 := ⟨zTi 685 (by decide +kernel) rfl, zTi 1 (by decide +kernel) rfl, by decide, by decide, by decide +kernel⟩
theorem mvX8_behind : zVok MX8_behind := ⟨zTi 683 (by decide +kernel) rfl, zTi 684 (by decide +kernel) rfl⟩
theorem moX8_bid : zMok MX8_bid 2 := ⟨zTi 642 (by decide +kernel) rfl, zTi 1 (by decide +kernel) rfl, by decide, by decide, by decide +kernel⟩
theorem mvX8_bid : zVok MX8_bid := ⟨zTi 640 (by decide +kernel) rfl, zTi 641 (by decide +kernel) rfl⟩
theorem moX8_canPass : zMok MX8_canPass 2 := ⟨zTi 926 (by decide +kernel) rfl, zTi 1 (by decide +kernel) rfl, by decide, by decide, by decide +kernel⟩
theorem mvX8_canPass : zVok MX8_canPass := ⟨zTi 925 (by decide +kernel) rfl, zTm (by decide +kernel) rfl⟩
theorem moX8_carried : zMok MX8_carried 0 := ⟨zTi 60 (by decide +kernel) rfl, zTi 1 (by decide +kernel) rfl, by decide, by decide, by decide +kernel⟩
theorem mvX8_carried : zVok MX8_carried := ⟨zTi 58 (by decide +kernel) rfl, zTi 59 (by decide +kernel) rfl⟩
theorem moX8_clientAt : zMok MX8_clientAt 1 := ⟨zTi 646 (by decide +kernel) rfl, zTi 1 (by decide +kernel) rfl, by decide, by decide, by decide +kernel⟩
theorem mvX8_clientAt : zVok MX8_clientAt := ⟨zTi 645 (by decide +kernel) rfl, zTm (by decide +kernel) rfl⟩
theorem moX8_closeWindow : zMok MX8_closeWindow 2 := ⟨zTi 1013 (by decide +kernel) rfl, zTi 1 (by decide +kernel) rfl, by decide, by decide, by decide +kernel⟩
theorem mvX8_closeWindow : zVok MX8_closeWindow := ⟨zTi 1011 (by decide +kernel) rfl, zTi 1012 (by decide +kernel) rfl⟩
theorem moX8_copy : zMok MX8_copy 3 := ⟨zTi 893 (by decide +kernel) rfl, zTi 1 (by decide +kernel) rfl, by decide, by decide, by decide +kernel⟩
theorem mvX8_copy : zVok MX8_copy := ⟨zTi 891 (by decide +kernel) rfl, zTi 892 (by decide +kernel) rfl⟩
theorem moX8_draw : zMok MX8_draw 7 := ⟨zTi 533 (by decide +kernel) rfl, zTi 1 (by decide +kernel) rfl, by decide, by decide, by decide +kernel⟩
theorem mvX8_draw : zVok MX8_draw := ⟨zTi 531 (by decide +kernel) rfl, zTi 532 (by decide +kernel) rfl⟩
theorem moX8_guesses : zMok MX8_guesses 1 := ⟨zTi 882 (by decide +kernel) rfl, zTi 1 (by decide +kernel) rfl, by decide, by decide, by decide +kernel⟩
theorem mvX8_guesses : zVok MX8_guesses := ⟨zTi 880 (by decide +kernel) rfl, zTi 881 (by decide +kernel) rfl⟩
theorem moX8_host : zMok MX8_host 1 := ⟨zTi 947 (by decide +kernel) rfl, zTi 1 (by decide +kernel) rfl, by decide, by decide, by decide +kernel⟩
theorem mvX8_host : zVok MX8_host := ⟨zTi 945 (by decide +kernel) rfl, zTi 946 (by decide +kernel) rfl⟩
theorem moX8_init : zMok MX8_init 0 := ⟨zTi 35 (by decide +kernel) rfl, zTi 1 (by decide +kernel) rfl, by decide, by decide, by decide +kernel⟩
theorem miX8_init : Cond.instanceMethod yX8_init ∈ zT := zTi 34 (by decide +kernel) rfl
theorem moX8_isConsistent : zMok MX8_isConsistent 0 := ⟨zTi 64 (by decide +kernel) rfl, zTi 1 (by decide +kernel) rfl, by decide, by decide, by decide +kernel⟩
theorem mvX8_isConsistent : zVok MX8_isConsistent := ⟨zTi 62 (by decide +kernel) rfl, zTi 63 (by decide +kernel) rfl⟩
theorem moX8_isScreenCell : zMok MX8_isScreenCell 2 := ⟨zTi 536 (by decide +kernel) rfl, zTi 1 (by decide +kernel) rfl, by decide, by decide, by decide +kernel⟩
theorem msX8_isScreenCell : Cond.static yX8_isScreenCell ∈ zT := zTi 535 (by decide +kernel) rfl
theorem moX8_isSession : zMok MX8_isSession 1 := ⟨zTi 359 (by decide +kernel) rfl, zTi 1 (by decide +kernel) rfl, by decide, by decide, by decide +kernel⟩
theorem mvX8_isSession : zVok MX8_isSession := ⟨zTi 358 (by decide +kernel) rfl, zTm (by decide +kernel) rfl⟩
theorem moX8_isSize : zMok MX8_isSize 2 := ⟨zTi 378 (by decide +kernel) rfl, zTi 1 (by decide +kernel) rfl, by decide, by decide, by decide +kernel⟩
theorem msX8_isSize : Cond.static yX8_isSize ∈ zT := zTi 377 (by decide +kernel) rfl
theorem moX8_isWindowPlace : zMok MX8_isWindowPlace 2 := ⟨zTi 375 (by decide +kernel) rfl, zTi 1 (by decide +kernel) rfl, by decide, by decide, by decide +kernel⟩
theorem msX8_isWindowPlace : Cond.static yX8_isWindowPlace ∈ zT := zTi 374 (by decide +kernel) rfl
theorem moX8_isWithin : zMok MX8_isWithin 3 := ⟨zTi 121 (by decide +kernel) rfl, zTi 1 (by decide +kernel) rfl, by decide, by decide, by decide +kernel⟩
theorem msX8_isWithin : Cond.static yX8_isWithin ∈ zT := zTi 120 (by decide +kernel) rfl
theorem moX8_join : zMok MX8_join 2 := ⟨zTi 559 (by decide +kernel) rfl, zTi 1 (by decide +kernel) rfl, by decide, by decide, by decide +kernel⟩
theorem mvX8_join : zVok MX8_join := ⟨zTi 557 (by decide +kernel) rfl, zTi 558 (by decide +kernel) rfl⟩
theorem moX8_left : zMok MX8_left 1 := ⟨zTi 938 (by decide +kernel) rfl, zTi 1 (by decide +kernel) rfl, by decide, by decide, by decide +kernel⟩
theorem mvX8_left : zVok MX8_left := ⟨zTi 936 (by decide +kernel) rfl, zTi 937 (by decide +kernel) rfl⟩
theorem moX8_mark : zMok MX8_mark 4 := ⟨zTi 1042 (by decide +kernel) rfl, zTi 1 (by decide +kernel) rfl, by decide, by decide, by decide +kernel⟩
theorem mvX8_mark : zVok MX8_mark := ⟨zTi 1040 (by decide +kernel) rfl, zTi 1041 (by decide +kernel) rfl⟩
theorem moX8_money : zMok MX8_money 1 := ⟨zTi 654 (by decide +kernel) rfl, zTi 1 (by decide +kernel) rfl, by decide, by decide, by decide +kernel⟩
theorem mvX8_money : zVok MX8_money := ⟨zTi 652 (by decide +kernel) rfl, zTi 653 (by decide +kernel) rfl⟩
theorem moX8_move : zMok MX8_move 1 := ⟨zTi 1051 (by decide +kernel) rfl, zTi 1 (by decide +kernel) rfl, by decide, by decide, by decide +kernel⟩
theorem mvX8_move : zVok MX8_move := ⟨zTi 1049 (by decide +kernel) rfl, zTi 1050 (by decide +kernel) rfl⟩
theorem moX8_moveWindow : zMok MX8_moveWindow 4 := ⟨zTi 520 (by decide +kernel) rfl, zTi 1 (by decide +kernel) rfl, by decide, by decide, by decide +kernel⟩
theorem mvX8_moveWindow : zVok MX8_moveWindow := ⟨zTi 518 (by decide +kernel) rfl, zTi 519 (by decide +kernel) rfl⟩
theorem moX8_next : zMok MX8_next 1 := ⟨zTi 1066 (by decide +kernel) rfl, zTi 1 (by decide +kernel) rfl, by decide, by decide, by decide +kernel⟩
theorem mvX8_next : zVok MX8_next := ⟨zTi 1064 (by decide +kernel) rfl, zTi 1065 (by decide +kernel) rfl⟩
theorem moX8_nextChange : zMok MX8_nextChange 1 := ⟨zTi 1070 (by decide +kernel) rfl, zTi 1 (by decide +kernel) rfl, by decide, by decide, by decide +kernel⟩
theorem mvX8_nextChange : zVok MX8_nextChange := ⟨zTi 1069 (by decide +kernel) rfl, zTm (by decide +kernel) rfl⟩
theorem moX8_nextCost : zMok MX8_nextCost 1 := ⟨zTi 1078 (by decide +kernel) rfl, zTi 1 (by decide +kernel) rfl, by decide, by decide, by decide +kernel⟩
theorem mvX8_nextCost : zVok MX8_nextCost := ⟨zTi 1076 (by decide +kernel) rfl, zTi 1077 (by decide +kernel) rfl⟩
theorem moX8_noted : zMok MX8_noted 1 := ⟨zTi 1005 (by decide +kernel) rfl, zTi 1 (by decide +kernel) rfl, by decide, by decide, by decide +kernel⟩
theorem mvX8_noted : zVok MX8_noted := ⟨zTi 1003 (by decide +kernel) rfl, zTi 1004 (by decide +kernel) rfl⟩
theorem moX8_openSession : zMok MX8_openSession 0 := ⟨zTi 136 (by decide +kernel) rfl, zTi 1 (by decide +kernel) rfl, by decide, by decide, by decide +kernel⟩
theorem mvX8_openSession : zVok MX8_openSession := ⟨zTi 134 (by decide +kernel) rfl, zTi 135 (by decide +kernel) rfl⟩
theorem moX8_openWindow : zMok MX8_openWindow 5 := ⟨zTi 351 (by decide +kernel) rfl, zTi 1 (by decide +kernel) rfl, by decide, by decide, by decide +kernel⟩
theorem mvX8_openWindow : zVok MX8_openWindow := ⟨zTi 349 (by decide +kernel) rfl, zTi 350 (by decide +kernel) rfl⟩
theorem moX8_passTick : zMok MX8_passTick 0 := ⟨zTi 705 (by decide +kernel) rfl, zTi 1 (by decide +kernel) rfl, by decide, by decide, by decide +kernel⟩
theorem mvX8_passTick : zVok MX8_passTick := ⟨zTi 704 (by decide +kernel) rfl, zTm (by decide +kernel) rfl⟩
theorem moX8_paste : zMok MX8_paste 2 := ⟨zTi 905 (by decide +kernel) rfl, zTi 1 (by decide +kernel) rfl, by decide, by decide, by decide +kernel⟩
theorem mvX8_paste : zVok MX8_paste := ⟨zTi 903 (by decide +kernel) rfl, zTi 904 (by decide +kernel) rfl⟩
theorem moX8_picture : zMok MX8_picture 3 := ⟨zTi 661 (by decide +kernel) rfl, zTi 1 (by decide +kernel) rfl, by decide, by decide, by decide +kernel⟩
theorem mvX8_picture : zVok MX8_picture := ⟨zTi 659 (by decide +kernel) rfl, zTi 660 (by decide +kernel) rfl⟩
theorem moX8_played : zMok MX8_played 4 := ⟨zTi 996 (by decide +kernel) rfl, zTi 1 (by decide +kernel) rfl, by decide, by decide, by decide +kernel⟩
theorem mvX8_played : zVok MX8_played := ⟨zTi 994 (by decide +kernel) rfl, zTi 995 (by decide +kernel) rfl⟩
theorem moX8_raise : zMok MX8_raise 2 := ⟨zTi 1030 (by decide +kernel) rfl, zTi 1 (by decide +kernel) rfl, by decide, by decide, by decide +kernel⟩
theorem mvX8_raise : zVok MX8_raise := ⟨zTi 1028 (by decide +kernel) rfl, zTi 1029 (by decide +kernel) rfl⟩
theorem moX8_record : zMok MX8_record 1 := ⟨zTi 954 (by decide +kernel) rfl, zTi 1 (by decide +kernel) rfl, by decide, by decide, by decide +kernel⟩
theorem mvX8_record : zVok MX8_record := ⟨zTi 952 (by decide +kernel) rfl, zTi 953 (by decide +kernel) rfl⟩
theorem moX8_richestServed : zMok MX8_richestServed 1 := ⟨zTi 763 (by decide +kernel) rfl, zTi 1 (by decide +kernel) rfl, by decide, by decide, by decide +kernel⟩
theorem mvX8_richestServed : zVok MX8_richestServed := ⟨zTi 762 (by decide +kernel) rfl, zTm (by decide +kernel) rfl⟩
theorem moX8_rightNumber : zMok MX8_rightNumber 3 := ⟨zTi 929 (by decide +kernel) rfl, zTi 1 (by decide +kernel) rfl, by decide, by decide, by decide +kernel⟩
theorem msX8_rightNumber : Cond.static yX8_rightNumber ∈ zT := zTi 928 (by decide +kernel) rfl
theorem moX8_runLine : zMok MX8_runLine 0 := ⟨zTi 730 (by decide +kernel) rfl, zTi 1 (by decide +kernel) rfl, by decide, by decide, by decide +kernel⟩
theorem mvX8_runLine : zVok MX8_runLine := ⟨zTi 729 (by decide +kernel) rfl, zTm (by decide +kernel) rfl⟩
theorem moX8_screen : zMok MX8_screen 3 := ⟨zTi 548 (by decide +kernel) rfl, zTi 1 (by decide +kernel) rfl, by decide, by decide, by decide +kernel⟩
theorem mvX8_screen : zVok MX8_screen := ⟨zTi 546 (by decide +kernel) rfl, zTi 547 (by decide +kernel) rfl⟩
theorem moX8_screenCell : zMok MX8_screenCell 2 := ⟨zTi 551 (by decide +kernel) rfl, zTi 1 (by decide +kernel) rfl, by decide, by decide, by decide +kernel⟩
theorem msX8_screenCell : Cond.static yX8_screenCell ∈ zT := zTi 550 (by decide +kernel) rfl
theorem moX8_seen : zMok MX8_seen 3 := ⟨zTi 668 (by decide +kernel) rfl, zTi 1 (by decide +kernel) rfl, by decide, by decide, by decide +kernel⟩
theorem mvX8_seen : zVok MX8_seen := ⟨zTi 666 (by decide +kernel) rfl, zTi 667 (by decide +kernel) rfl⟩
theorem moX8_sessionAt : zMok MX8_sessionAt 1 := ⟨zTi 355 (by decide +kernel) rfl, zTi 1 (by decide +kernel) rfl, by decide, by decide, by decide +kernel⟩
theorem mvX8_sessionAt : zVok MX8_sessionAt := ⟨zTi 354 (by decide +kernel) rfl, zTm (by decide +kernel) rfl⟩
theorem moX8_show : zMok MX8_show 3 := ⟨zTi 1038 (by decide +kernel) rfl, zTi 1 (by decide +kernel) rfl, by decide, by decide, by decide +kernel⟩
theorem mvX8_show : zVok MX8_show := ⟨zTi 1036 (by decide +kernel) rfl, zTi 1037 (by decide +kernel) rfl⟩
theorem moX8_tick : zMok MX8_tick 1 := ⟨zTi 700 (by decide +kernel) rfl, zTi 1 (by decide +kernel) rfl, by decide, by decide, by decide +kernel⟩
theorem mvX8_tick : zVok MX8_tick := ⟨zTi 698 (by decide +kernel) rfl, zTi 699 (by decide +kernel) rfl⟩
theorem moX8_type : zMok MX8_type 2 := ⟨zTi 821 (by decide +kernel) rfl, zTi 1 (by decide +kernel) rfl, by decide, by decide, by decide +kernel⟩
theorem mvX8_type : zVok MX8_type := ⟨zTi 819 (by decide +kernel) rfl, zTi 820 (by decide +kernel) rfl⟩
theorem moX8_windowAt : zMok MX8_windowAt 2 := ⟨zTi 523 (by decide +kernel) rfl, zTi 1 (by decide +kernel) rfl, by decide, by decide, by decide +kernel⟩
theorem msX8_windowAt : Cond.static yX8_windowAt ∈ zT := zTi 522 (by decide +kernel) rfl
