/-! the methods, their words, links, fields -/
abbrev MJxa1e45_init_da8c8 : zM := (yJxa1e45_init_da8c8, cJxa1e45_init_da8c8, 1, none, { frames := 1, cells := 0, slots := 0, locals := 12 }, [], none)
abbrev MJxc12de_init_da8c8 : zM := (yJxc12de_init_da8c8, cJxc12de_init_da8c8, 1, none, { frames := 2, cells := 0, slots := 0, locals := 50 }, [], none)
abbrev MJx4a65c_init_da8c8 : zM := (yJx4a65c_init_da8c8, cJx4a65c_init_da8c8, 1, none, { frames := 3, cells := 0, slots := 0, locals := 90 }, [], none)
abbrev MJ3_checkIndex_8e157 : zM := (yJ3_checkIndex_8e157, cJ3_checkIndex_8e157, 3, (some .int), { frames := 0, cells := 0, slots := 0, locals := 0 }, [], none)
abbrev MJ15_checkIndex_7cf53 : zM := (yJ15_checkIndex_7cf53, cJ15_checkIndex_7cf53, 2, (some .int), { frames := 1, cells := 0, slots := 0, locals := 40 }, [], none)
abbrev MJx4a65c_size_8abf5 : zM := (yJx4a65c_size_8abf5, cJx4a65c_size_8abf5, 1, (some .int), { frames := 0, cells := 0, slots := 0, locals := 0 }, [], none)
abbrev MJx4a65c_elementData_915e3 : zM := (yJx4a65c_elementData_915e3, cJx4a65c_elementData_915e3, 2, (some (.object "java/lang/Object")), { frames := 0, cells := 0, slots := 0, locals := 0 }, [], none)
abbrev MJx4a65c_get_915e3 : zM := (yJx4a65c_get_915e3, cJx4a65c_get_915e3, 2, (some (.object "java/lang/Object")), { frames := 2, cells := 0, slots := 0, locals := 80 }, [], none)
abbrev MJ8_newLength_cabcc : zM := (yJ8_newLength_cabcc, cJ8_newLength_cabcc, 4, (some .int), { frames := 1, cells := 0, slots := 0, locals := 30 }, [], none)
abbrev MJ7_copyOf_6403c : zM := (yJ7_copyOf_6403c, cJ7_copyOf_6403c, 4, (some (.array (.object "java/lang/Object"))), { frames := 1, cells := 1, slots := 40, locals := 60 }, [], none)
abbrev MJ7_copyOf_1904c : zM := (yJ7_copyOf_1904c, cJ7_copyOf_1904c, 2, (some (.array (.object "java/lang/Object"))), { frames := 2, cells := 1, slots := 40, locals := 100 }, [], none)
abbrev MJx4a65c_grow_92f84 : zM := (yJx4a65c_grow_92f84, cJx4a65c_grow_92f84, 4, (some (.array (.object "java/lang/Object"))), { frames := 3, cells := 1, slots := 40, locals := 140 }, [], none)
abbrev MJx4a65c_grow_d5877 : zM := (yJx4a65c_grow_d5877, cJx4a65c_grow_d5877, 1, (some (.array (.object "java/lang/Object"))), { frames := 4, cells := 1, slots := 40, locals := 180 }, [], none)
abbrev MJx4a65c_add_72be8 : zM := (yJx4a65c_add_72be8, cJx4a65c_add_72be8, 4, none, { frames := 5, cells := 1, slots := 40, locals := 220 }, [], none)
abbrev MJx4a65c_add_9ea2d : zM := (yJx4a65c_add_9ea2d, cJx4a65c_add_9ea2d, 2, (some .boolean), { frames := 6, cells := 1, slots := 40, locals := 260 }, [], none)
abbrev MJx4a65c_fastRemove_b59b0 : zM := (yJx4a65c_fastRemove_b59b0, cJx4a65c_fastRemove_b59b0, 4, none, { frames := 1, cells := 0, slots := 0, locals := 60 }, [], none)
abbrev MJx4a65c_remove_915e3 : zM := (yJx4a65c_remove_915e3, cJx4a65c_remove_915e3, 4, (some (.object "java/lang/Object")), { frames := 2, cells := 0, slots := 0, locals := 100 }, [], none)
abbrev MJx4a65c_clear_da8c8 : zM := (yJx4a65c_clear_da8c8, cJx4a65c_clear_da8c8, 4, none, { frames := 0, cells := 0, slots := 0, locals := 0 }, [], none)
abbrev MJ7_fill_53178 : zM := (yJ7_fill_53178, cJ7_fill_53178, 4, none, { frames := 0, cells := 0, slots := 0, locals := 0 }, [], none)
abbrev ML_allow : zM := (yL_allow, cL_allow, 7, (some .int), { frames := 7, cells := 2, slots := 12, locals := 116 }, [(0, 21, 24, 19), (0, 21, 28, 21)], none)
abbrev ML_behind : zM := (yL_behind, cL_behind, 4, (some .int), { frames := 8, cells := 1, slots := 6, locals := 132 }, [(0, 9, 12, 19)], none)
abbrev ML_bid : zM := (yL_bid, cL_bid, 5, (some .int), { frames := 8, cells := 2, slots := 12, locals := 135 }, [(0, 10, 13, 19), (0, 10, 17, 21)], none)
abbrev ML_closeWindow : zM := (yL_closeWindow, cL_closeWindow, 5, (some .int), { frames := 8, cells := 3, slots := 18, locals := 196 }, [(0, 17, 20, 19)], none)
abbrev ML_copy : zM := (yL_copy, cL_copy, 6, (some .int), { frames := 8, cells := 2, slots := 12, locals := 136 }, [(0, 12, 15, 19), (0, 12, 19, 21)], none)
abbrev ML_draw : zM := (yL_draw, cL_draw, 10, (some .int), { frames := 8, cells := 4, slots := 24, locals := 202 }, [(0, 20, 23, 19), (0, 20, 27, 21)], none)
abbrev ML_guesses : zM := (yL_guesses, cL_guesses, 4, (some .int), { frames := 8, cells := 1, slots := 6, locals := 146 }, [(0, 9, 12, 19)], none)
abbrev ML_host : zM := (yL_host, cL_host, 4, (some .int), { frames := 8, cells := 1, slots := 6, locals := 132 }, [(0, 9, 12, 19)], none)
abbrev ML_join : zM := (yL_join, cL_join, 5, (some .int), { frames := 8, cells := 8, slots := 237, locals := 135 }, [(0, 10, 13, 19), (0, 10, 17, 21), (0, 10, 21, 13)], none)
abbrev ML_left : zM := (yL_left, cL_left, 4, (some .int), { frames := 8, cells := 2, slots := 12, locals := 133 }, [(0, 9, 12, 19), (0, 9, 15, 13)], none)
abbrev ML_mark : zM := (yL_mark, cL_mark, 7, (some .int), { frames := 8, cells := 3, slots := 18, locals := 138 }, [(0, 21, 24, 19)], none)
abbrev ML_meanBehind : zM := (yL_meanBehind, cL_meanBehind, 3, (some .int), { frames := 7, cells := 1, slots := 6, locals := 116 }, [(0, 7, 10, 95)], none)
abbrev ML_money : zM := (yL_money, cL_money, 4, (some .int), { frames := 8, cells := 1, slots := 6, locals := 132 }, [(0, 9, 12, 19)], none)
abbrev ML_move : zM := (yL_move, cL_move, 4, (some .int), { frames := 8, cells := 2, slots := 12, locals := 133 }, [(0, 16, 19, 19), (0, 16, 22, 13)], none)
abbrev ML_moveWindow : zM := (yL_moveWindow, cL_moveWindow, 7, (some .int), { frames := 8, cells := 4, slots := 24, locals := 198 }, [(0, 14, 17, 19), (0, 14, 21, 21)], none)
abbrev ML_next : zM := (yL_next, cL_next, 4, (some .int), { frames := 9, cells := 2, slots := 12, locals := 154 }, [(0, 9, 12, 19), (0, 9, 15, 74)], none)
abbrev ML_nextCost : zM := (yL_nextCost, cL_nextCost, 4, (some .int), { frames := 9, cells := 2, slots := 12, locals := 154 }, [(0, 9, 12, 19), (0, 9, 15, 74)], none)
abbrev ML_noted : zM := (yL_noted, cL_noted, 4, (some .int), { frames := 8, cells := 2, slots := 12, locals := 133 }, [(0, 9, 12, 19), (0, 9, 15, 74)], none)
abbrev ML_openSession : zM := (yL_openSession, cL_openSession, 3, (some .int), { frames := 7, cells := 10, slots := 242, locals := 151 }, [(0, 8, 11, 13)], none)
abbrev ML_openWindow : zM := (yL_openWindow, cL_openWindow, 8, (some .int), { frames := 9, cells := 6, slots := 164, locals := 329 }, [(0, 16, 19, 19), (0, 16, 23, 21), (0, 16, 27, 13)], none)
abbrev ML_paste : zM := (yL_paste, cL_paste, 5, (some .int), { frames := 8, cells := 5, slots := 30, locals := 135 }, [(0, 10, 13, 19), (0, 10, 17, 74), (0, 10, 21, 86)], none)
abbrev ML_picture : zM := (yL_picture, cL_picture, 6, (some .int), { frames := 8, cells := 2, slots := 12, locals := 135 }, [(0, 12, 15, 19)], none)
abbrev ML_played : zM := (yL_played, cL_played, 7, (some .int), { frames := 8, cells := 3, slots := 18, locals := 137 }, [(0, 14, 17, 19), (0, 14, 21, 74)], none)
abbrev ML_raise : zM := (yL_raise, cL_raise, 5, (some .int), { frames := 8, cells := 4, slots := 58, locals := 306 }, [(0, 17, 20, 19)], none)
abbrev ML_record : zM := (yL_record, cL_record, 4, (some .int), { frames := 8, cells := 7, slots := 11813, locals := 134 }, [(0, 9, 12, 19)], none)
abbrev ML_rightShare : zM := (yL_rightShare, cL_rightShare, 4, (some .int), { frames := 8, cells := 2, slots := 12, locals := 133 }, [(0, 9, 12, 19), (0, 9, 15, 95)], none)
abbrev ML_screen : zM := (yL_screen, cL_screen, 6, (some .int), { frames := 8, cells := 2, slots := 12, locals := 135 }, [(0, 12, 15, 19)], none)
abbrev ML_seen : zM := (yL_seen, cL_seen, 6, (some .int), { frames := 8, cells := 2, slots := 12, locals := 151 }, [(0, 12, 15, 19)], none)
abbrev ML_show : zM := (yL_show, cL_show, 6, (some .int), { frames := 8, cells := 3, slots := 18, locals := 198 }, [(0, 19, 22, 19)], none)
abbrev ML_tick : zM := (yL_tick, cL_tick, 4, (some .int), { frames := 9, cells := 1, slots := 6, locals := 242 }, [(0, 9, 12, 21)], none)
abbrev ML_type : zM := (yL_type, cL_type, 5, (some .int), { frames := 8, cells := 6, slots := 68, locals := 307 }, [(0, 10, 13, 19), (0, 10, 17, 21), (0, 10, 21, 86), (0, 10, 25, 13)], none)
abbrev MX0_apply : zM := (yX0_apply, cX0_apply, 4, none, { frames := 1, cells := 0, slots := 0, locals := 60 }, [], none)
abbrev MX0_colourAfter : zM := (yX0_colourAfter, cX0_colourAfter, 2, (some .int), { frames := 0, cells := 0, slots := 0, locals := 0 }, [], none)
abbrev MX0_consider : zM := (yX0_consider, cX0_consider, 7, none, { frames := 0, cells := 0, slots := 0, locals := 0 }, [], none)
abbrev MX0_find : zM := (yX0_find, cX0_find, 1, none, { frames := 3, cells := 0, slots := 0, locals := 80 }, [], none)
abbrev MX0_gainOf : zM := (yX0_gainOf, cX0_gainOf, 5, (some .int), { frames := 0, cells := 0, slots := 0, locals := 0 }, [], none)
abbrev MX0_init : zM := (yX0_init, cX0_init, 2, none, { frames := 1, cells := 3, slots := 201, locals := 12 }, [], none)
abbrev MX0_isBehind : zM := (yX0_isBehind, cX0_isBehind, 2, (some .boolean), { frames := 0, cells := 0, slots := 0, locals := 0 }, [], none)
abbrev MX0_tryCells : zM := (yX0_tryCells, cX0_tryCells, 3, none, { frames := 1, cells := 0, slots := 0, locals := 26 }, [], none)
abbrev MX0_tryCopies : zM := (yX0_tryCopies, cX0_tryCopies, 3, none, { frames := 2, cells := 0, slots := 0, locals := 58 }, [], none)
abbrev MX0_tryRectangles : zM := (yX0_tryRectangles, cX0_tryRectangles, 13, none, { frames := 1, cells := 0, slots := 0, locals := 26 }, [], none)
abbrev MX1_countBehind : zM := (yX1_countBehind, cX1_countBehind, 3, (some .int), { frames := 1, cells := 0, slots := 0, locals := 21 }, [], none)
abbrev MX1_endGuess : zM := (yX1_endGuess, cX1_endGuess, 2, none, { frames := 0, cells := 0, slots := 0, locals := 0 }, [], none)
abbrev MX1_init : zM := (yX1_init, cX1_init, 3, none, { frames := 2, cells := 4, slots := 212, locals := 33 }, [], none)
abbrev MX2_hold : zM := (yX2_hold, cX2_hold, 4, none, { frames := 0, cells := 0, slots := 0, locals := 0 }, [], none)
abbrev MX2_init : zM := (yX2_init, cX2_init, 1, none, { frames := 1, cells := 0, slots := 0, locals := 12 }, [], none)
abbrev MX3_init : zM := (yX3_init, cX3_init, 5, none, { frames := 1, cells := 0, slots := 0, locals := 12 }, [], none)
abbrev MX4_begin : zM := (yX4_begin, cX4_begin, 1, none, { frames := 1, cells := 0, slots := 0, locals := 23 }, [], none)
abbrev MX4_endTick : zM := (yX4_endTick, cX4_endTick, 1, none, { frames := 0, cells := 0, slots := 0, locals := 0 }, [], none)
abbrev MX4_init : zM := (yX4_init, cX4_init, 1, none, { frames := 1, cells := 5, slots := 11800, locals := 12 }, [], none)
abbrev MX4_isAsLookedAt : zM := (yX4_isAsLookedAt, cX4_isAsLookedAt, 2, (some .boolean), { frames := 2, cells := 0, slots := 0, locals := 46 }, [], none)
abbrev MX4_isFull : zM := (yX4_isFull, cX4_isFull, 1, (some .boolean), { frames := 0, cells := 0, slots := 0, locals := 0 }, [], none)
abbrev MX4_look : zM := (yX4_look, cX4_look, 3, none, { frames := 0, cells := 0, slots := 0, locals := 0 }, [], none)
abbrev MX4_play : zM := (yX4_play, cX4_play, 4, none, { frames := 1, cells := 0, slots := 0, locals := 23 }, [], none)
abbrev MX5_addWindow : zM := (yX5_addWindow, cX5_addWindow, 3, (some .int), { frames := 7, cells := 1, slots := 40, locals := 281 }, [], none)
abbrev MX5_advanceMove : zM := (yX5_advanceMove, cX5_advanceMove, 1, none, { frames := 3, cells := 0, slots := 0, locals := 82 }, [], none)
abbrev MX5_colourOfWindows : zM := (yX5_colourOfWindows, cX5_colourOfWindows, 5, (some .int), { frames := 4, cells := 0, slots := 0, locals := 125 }, [], none)
abbrev MX5_countKeysBy : zM := (yX5_countKeysBy, cX5_countKeysBy, 4, (some .int), { frames := 3, cells := 0, slots := 0, locals := 101 }, [], none)
abbrev MX5_countKeysOf : zM := (yX5_countKeysOf, cX5_countKeysOf, 4, (some .int), { frames := 3, cells := 0, slots := 0, locals := 101 }, [], none)
abbrev MX5_doKeys : zM := (yX5_doKeys, cX5_doKeys, 3, none, { frames := 6, cells := 0, slots := 0, locals := 172 }, [], none)
abbrev MX5_init : zM := (yX5_init, cX5_init, 1, none, { frames := 4, cells := 8, slots := 227, locals := 110 }, [], none)
abbrev MX5_isOnTop : zM := (yX5_isOnTop, cX5_isOnTop, 3, (some .boolean), { frames := 3, cells := 0, slots := 0, locals := 101 }, [], none)
abbrev MX5_isPainted : zM := (yX5_isPainted, cX5_isPainted, 2, (some .boolean), { frames := 5, cells := 0, slots := 0, locals := 149 }, [], none)
abbrev MX5_isRight : zM := (yX5_isRight, cX5_isRight, 3, (some .boolean), { frames := 3, cells := 0, slots := 0, locals := 66 }, [], none)
abbrev MX5_isTrue : zM := (yX5_isTrue, cX5_isTrue, 1, (some .boolean), { frames := 6, cells := 0, slots := 0, locals := 170 }, [], none)
abbrev MX5_lastGuessAt : zM := (yX5_lastGuessAt, cX5_lastGuessAt, 5, (some (.object "Remotepane$Key")), { frames := 3, cells := 0, slots := 0, locals := 101 }, [], none)
abbrev MX5_lookForRecording : zM := (yX5_lookForRecording, cX5_lookForRecording, 4, none, { frames := 4, cells := 0, slots := 0, locals := 125 }, [], none)
abbrev MX5_repaint : zM := (yX5_repaint, cX5_repaint, 4, (some .int), { frames := 5, cells := 0, slots := 0, locals := 149 }, [], none)
abbrev MX5_takeFromPile : zM := (yX5_takeFromPile, cX5_takeFromPile, 3, none, { frames := 3, cells := 0, slots := 0, locals := 123 }, [], none)
abbrev MX5_topShown : zM := (yX5_topShown, cX5_topShown, 3, (some (.object "Remotepane$Window")), { frames := 3, cells := 0, slots := 0, locals := 101 }, [], none)
abbrev MX5_topShownAt : zM := (yX5_topShownAt, cX5_topShownAt, 5, (some (.object "Remotepane$Window")), { frames := 3, cells := 0, slots := 0, locals := 101 }, [], none)
abbrev MX6_advance : zM := (yX6_advance, cX6_advance, 3, (some .boolean), { frames := 2, cells := 0, slots := 0, locals := 60 }, [], none)
abbrev MX6_begin : zM := (yX6_begin, cX6_begin, 2, none, { frames := 0, cells := 0, slots := 0, locals := 0 }, [], none)
abbrev MX6_countRowsLeft : zM := (yX6_countRowsLeft, cX6_countRowsLeft, 4, (some .int), { frames := 1, cells := 0, slots := 0, locals := 23 }, [], none)
abbrev MX6_init : zM := (yX6_init, cX6_init, 1, none, { frames := 1, cells := 2, slots := 104, locals := 12 }, [], none)
abbrev MX6_isOther : zM := (yX6_isOther, cX6_isOther, 4, (some .boolean), { frames := 0, cells := 0, slots := 0, locals := 0 }, [], none)
abbrev MX6_nextRow : zM := (yX6_nextRow, cX6_nextRow, 3, (some .int), { frames := 1, cells := 0, slots := 0, locals := 23 }, [], none)
abbrev MX7_cellAhead : zM := (yX7_cellAhead, cX7_cellAhead, 2, (some .int), { frames := 0, cells := 0, slots := 0, locals := 0 }, [], none)
abbrev MX7_colourAt : zM := (yX7_colourAt, cX7_colourAt, 3, (some .int), { frames := 0, cells := 0, slots := 0, locals := 0 }, [], none)
abbrev MX7_covers : zM := (yX7_covers, cX7_covers, 3, (some .boolean), { frames := 0, cells := 0, slots := 0, locals := 0 }, [], none)
abbrev MX7_fillPart : zM := (yX7_fillPart, cX7_fillPart, 12, (some .int), { frames := 1, cells := 0, slots := 0, locals := 21 }, [], none)
abbrev MX7_init : zM := (yX7_init, cX7_init, 5, none, { frames := 1, cells := 1, slots := 96, locals := 12 }, [], none)
abbrev MX7_placeOf : zM := (yX7_placeOf, cX7_placeOf, 4, (some .int), { frames := 2, cells := 0, slots := 0, locals := 43 }, [], none)
abbrev MX7_put : zM := (yX7_put, cX7_put, 2, none, { frames := 1, cells := 0, slots := 0, locals := 21 }, [], none)
abbrev MX8_allow : zM := (yX8_allow, cX8_allow, 7, (some .boolean), { frames := 6, cells := 2, slots := 12, locals := 90 }, [], none)
abbrev MX8_behind : zM := (yX8_behind, cX8_behind, 2, (some .int), { frames := 7, cells := 1, slots := 6, locals := 111 }, [], none)
abbrev MX8_bid : zM := (yX8_bid, cX8_bid, 5, (some .int), { frames := 7, cells := 2, slots := 12, locals := 111 }, [], none)
abbrev MX8_canPass : zM := (yX8_canPass, cX8_canPass, 5, (some .boolean), { frames := 1, cells := 0, slots := 0, locals := 22 }, [], none)
abbrev MX8_carried : zM := (yX8_carried, cX8_carried, 1, (some .long), { frames := 0, cells := 0, slots := 0, locals := 0 }, [], none)
abbrev MX8_clientAt : zM := (yX8_clientAt, cX8_clientAt, 2, (some (.object "Remotepane$Client")), { frames := 6, cells := 1, slots := 6, locals := 90 }, [], none)
abbrev MX8_closeWindow : zM := (yX8_closeWindow, cX8_closeWindow, 5, (some .boolean), { frames := 7, cells := 3, slots := 18, locals := 172 }, [], none)
abbrev MX8_copy : zM := (yX8_copy, cX8_copy, 6, (some .int), { frames := 7, cells := 2, slots := 12, locals := 111 }, [], none)
abbrev MX8_draw : zM := (yX8_draw, cX8_draw, 11, (some .int), { frames := 7, cells := 4, slots := 24, locals := 172 }, [], none)
abbrev MX8_guesses : zM := (yX8_guesses, cX8_guesses, 3, (some .int), { frames := 7, cells := 1, slots := 6, locals := 124 }, [], none)
abbrev MX8_host : zM := (yX8_host, cX8_host, 2, (some .int), { frames := 7, cells := 1, slots := 6, locals := 111 }, [], none)
abbrev MX8_init : zM := (yX8_init, cX8_init, 1, none, { frames := 1, cells := 3, slots := 58, locals := 12 }, [], none)
abbrev MX8_isConsistent : zM := (yX8_isConsistent, cX8_isConsistent, 5, (some .boolean), { frames := 7, cells := 0, slots := 0, locals := 190 }, [], none)
abbrev MX8_isScreenCell : zM := (yX8_isScreenCell, cX8_isScreenCell, 2, (some .boolean), { frames := 1, cells := 0, slots := 0, locals := 22 }, [], none)
abbrev MX8_isSession : zM := (yX8_isSession, cX8_isSession, 2, (some .boolean), { frames := 1, cells := 0, slots := 0, locals := 22 }, [], none)
abbrev MX8_isSize : zM := (yX8_isSize, cX8_isSize, 2, (some .boolean), { frames := 1, cells := 0, slots := 0, locals := 22 }, [], none)
abbrev MX8_isWindowPlace : zM := (yX8_isWindowPlace, cX8_isWindowPlace, 2, (some .boolean), { frames := 1, cells := 0, slots := 0, locals := 22 }, [], none)
abbrev MX8_isWithin : zM := (yX8_isWithin, cX8_isWithin, 3, (some .boolean), { frames := 0, cells := 0, slots := 0, locals := 0 }, [], none)
abbrev MX8_join : zM := (yX8_join, cX8_join, 5, (some .int), { frames := 7, cells := 8, slots := 237, locals := 111 }, [], none)
abbrev MX8_left : zM := (yX8_left, cX8_left, 3, (some .int), { frames := 7, cells := 2, slots := 12, locals := 111 }, [], none)
abbrev MX8_mark : zM := (yX8_mark, cX8_mark, 7, (some .boolean), { frames := 7, cells := 3, slots := 18, locals := 112 }, [], none)
abbrev MX8_meanBehind : zM := (yX8_meanBehind, cX8_meanBehind, 7, (some .double), { frames := 6, cells := 1, slots := 6, locals := 90 }, [], none)
abbrev MX8_money : zM := (yX8_money, cX8_money, 2, (some .int), { frames := 7, cells := 1, slots := 6, locals := 111 }, [], none)
abbrev MX8_move : zM := (yX8_move, cX8_move, 3, (some .boolean), { frames := 7, cells := 2, slots := 12, locals := 111 }, [], none)
abbrev MX8_moveWindow : zM := (yX8_moveWindow, cX8_moveWindow, 7, (some .int), { frames := 7, cells := 4, slots := 24, locals := 172 }, [], none)
abbrev MX8_next : zM := (yX8_next, cX8_next, 2, (some .char), { frames := 8, cells := 2, slots := 12, locals := 133 }, [], none)
abbrev MX8_nextChange : zM := (yX8_nextChange, cX8_nextChange, 3, (some (.object "Remotepane$Change")), { frames := 7, cells := 2, slots := 12, locals := 111 }, [], none)
abbrev MX8_nextCost : zM := (yX8_nextCost, cX8_nextCost, 2, (some .int), { frames := 8, cells := 2, slots := 12, locals := 133 }, [], none)
abbrev MX8_noted : zM := (yX8_noted, cX8_noted, 3, (some .int), { frames := 7, cells := 2, slots := 12, locals := 111 }, [], none)
abbrev MX8_openSession : zM := (yX8_openSession, cX8_openSession, 2, (some .int), { frames := 6, cells := 10, slots := 242, locals := 130 }, [], none)
abbrev MX8_openWindow : zM := (yX8_openWindow, cX8_openWindow, 7, (some .int), { frames := 8, cells := 6, slots := 164, locals := 303 }, [], none)
abbrev MX8_passTick : zM := (yX8_passTick, cX8_passTick, 6, (some .int), { frames := 7, cells := 0, slots := 0, locals := 194 }, [], none)
abbrev MX8_paste : zM := (yX8_paste, cX8_paste, 5, (some .int), { frames := 7, cells := 5, slots := 30, locals := 111 }, [], none)
abbrev MX8_picture : zM := (yX8_picture, cX8_picture, 5, (some .int), { frames := 7, cells := 2, slots := 12, locals := 111 }, [], none)
abbrev MX8_played : zM := (yX8_played, cX8_played, 7, (some .int), { frames := 7, cells := 3, slots := 18, locals := 111 }, [], none)
abbrev MX8_raise : zM := (yX8_raise, cX8_raise, 6, (some .boolean), { frames := 7, cells := 4, slots := 58, locals := 281 }, [], none)
abbrev MX8_record : zM := (yX8_record, cX8_record, 4, (some .int), { frames := 7, cells := 7, slots := 11813, locals := 111 }, [], none)
abbrev MX8_richestServed : zM := (yX8_richestServed, cX8_richestServed, 7, (some (.object "Remotepane$Client")), { frames := 0, cells := 0, slots := 0, locals := 0 }, [], none)
abbrev MX8_rightNumber : zM := (yX8_rightNumber, cX8_rightNumber, 3, (some .int), { frames := 0, cells := 0, slots := 0, locals := 0 }, [], none)
abbrev MX8_rightShare : zM := (yX8_rightShare, cX8_rightShare, 3, (some .float), { frames := 7, cells := 2, slots := 12, locals := 111 }, [], none)
abbrev MX8_runLine : zM := (yX8_runLine, cX8_runLine, 5, (some .int), { frames := 4, cells := 0, slots := 0, locals := 100 }, [], none)
abbrev MX8_screen : zM := (yX8_screen, cX8_screen, 5, (some .int), { frames := 7, cells := 2, slots := 12, locals := 111 }, [], none)
abbrev MX8_screenCell : zM := (yX8_screenCell, cX8_screenCell, 2, (some .int), { frames := 6, cells := 1, slots := 6, locals := 90 }, [], none)
abbrev MX8_seen : zM := (yX8_seen, cX8_seen, 7, (some .int), { frames := 7, cells := 2, slots := 12, locals := 125 }, [], none)
abbrev MX8_sessionAt : zM := (yX8_sessionAt, cX8_sessionAt, 2, (some (.object "Remotepane$Session")), { frames := 6, cells := 1, slots := 6, locals := 90 }, [], none)
abbrev MX8_show : zM := (yX8_show, cX8_show, 7, (some .boolean), { frames := 7, cells := 3, slots := 18, locals := 172 }, [], none)
abbrev MX8_tick : zM := (yX8_tick, cX8_tick, 4, (some .int), { frames := 8, cells := 1, slots := 6, locals := 219 }, [], none)
abbrev MX8_type : zM := (yX8_type, cX8_type, 7, (some .int), { frames := 7, cells := 6, slots := 68, locals := 281 }, [], none)
abbrev MX8_windowAt : zM := (yX8_windowAt, cX8_windowAt, 3, (some (.object "Remotepane$Window")), { frames := 6, cells := 2, slots := 12, locals := 90 }, [], none)
abbrev MX9_allow : zM := (yX9_allow, cX9_allow, 6, (some .boolean), { frames := 2, cells := 0, slots := 0, locals := 43 }, [], none)
abbrev MX9_behind : zM := (yX9_behind, cX9_behind, 2, (some .int), { frames := 5, cells := 0, slots := 0, locals := 115 }, [], none)
abbrev MX9_bid : zM := (yX9_bid, cX9_bid, 4, (some .int), { frames := 3, cells := 0, slots := 0, locals := 64 }, [], none)
abbrev MX9_carried : zM := (yX9_carried, cX9_carried, 1, (some .long), { frames := 0, cells := 0, slots := 0, locals := 0 }, [], none)
abbrev MX9_cellAt : zM := (yX9_cellAt, cX9_cellAt, 5, (some .int), { frames := 1, cells := 0, slots := 0, locals := 22 }, [], none)
abbrev MX9_changes : zM := (yX9_changes, cX9_changes, 4, none, { frames := 0, cells := 0, slots := 0, locals := 0 }, [], none)
abbrev MX9_closeWindow : zM := (yX9_closeWindow, cX9_closeWindow, 4, (some .boolean), { frames := 3, cells := 0, slots := 0, locals := 65 }, [], none)
abbrev MX9_copy : zM := (yX9_copy, cX9_copy, 6, (some .int), { frames := 3, cells := 0, slots := 0, locals := 64 }, [], none)
abbrev MX9_copyRows : zM := (yX9_copyRows, cX9_copyRows, 5, none, { frames := 6, cells := 0, slots := 0, locals := 140 }, [], none)
abbrev MX9_countBehind : zM := (yX9_countBehind, cX9_countBehind, 4, (some .int), { frames := 4, cells := 0, slots := 0, locals := 92 }, [], none)
abbrev MX9_countLeft : zM := (yX9_countLeft, cX9_countLeft, 4, (some .int), { frames := 5, cells := 0, slots := 0, locals := 117 }, [], none)
abbrev MX9_doKeys : zM := (yX9_doKeys, cX9_doKeys, 5, none, { frames := 4, cells := 0, slots := 0, locals := 92 }, [], none)
abbrev MX9_draw : zM := (yX9_draw, cX9_draw, 12, (some .int), { frames := 3, cells := 0, slots := 0, locals := 65 }, [], none)
abbrev MX9_fails : zM := (yX9_fails, cX9_fails, 2, (some .boolean), { frames := 0, cells := 0, slots := 0, locals := 0 }, [], none)
abbrev MX9_failsClient : zM := (yX9_failsClient, cX9_failsClient, 2, (some .boolean), { frames := 2, cells := 0, slots := 0, locals := 43 }, [], none)
abbrev MX9_failsNext : zM := (yX9_failsNext, cX9_failsNext, 2, (some .boolean), { frames := 6, cells := 0, slots := 0, locals := 137 }, [], none)
abbrev MX9_failsSession : zM := (yX9_failsSession, cX9_failsSession, 2, (some .boolean), { frames := 2, cells := 0, slots := 0, locals := 43 }, [], none)
abbrev MX9_failsWindow : zM := (yX9_failsWindow, cX9_failsWindow, 3, (some .boolean), { frames := 2, cells := 0, slots := 0, locals := 43 }, [], none)
abbrev MX9_finds : zM := (yX9_finds, cX9_finds, 4, (some .boolean), { frames := 5, cells := 0, slots := 0, locals := 114 }, [], none)
abbrev MX9_gain : zM := (yX9_gain, cX9_gain, 6, (some .int), { frames := 0, cells := 0, slots := 0, locals := 0 }, [], none)
abbrev MX9_guesses : zM := (yX9_guesses, cX9_guesses, 5, (some .int), { frames := 3, cells := 0, slots := 0, locals := 64 }, [], none)
abbrev MX9_host : zM := (yX9_host, cX9_host, 2, (some .int), { frames := 3, cells := 0, slots := 0, locals := 64 }, [], none)
abbrev MX9_in : zM := (yX9_in, cX9_in, 3, (some .boolean), { frames := 0, cells := 0, slots := 0, locals := 0 }, [], none)
abbrev MX9_init : zM := (yX9_init, cX9_init, 1, none, { frames := 1, cells := 39, slots := 30000, locals := 12 }, [], none)
abbrev MX9_isCell : zM := (yX9_isCell, cX9_isCell, 2, (some .boolean), { frames := 1, cells := 0, slots := 0, locals := 22 }, [], none)
abbrev MX9_isClient : zM := (yX9_isClient, cX9_isClient, 2, (some .boolean), { frames := 1, cells := 0, slots := 0, locals := 22 }, [], none)
abbrev MX9_isConsistent : zM := (yX9_isConsistent, cX9_isConsistent, 1, (some .boolean), { frames := 0, cells := 0, slots := 0, locals := 0 }, [], none)
abbrev MX9_isLeft : zM := (yX9_isLeft, cX9_isLeft, 6, (some .boolean), { frames := 4, cells := 0, slots := 0, locals := 92 }, [], none)
abbrev MX9_isSession : zM := (yX9_isSession, cX9_isSession, 2, (some .boolean), { frames := 1, cells := 0, slots := 0, locals := 22 }, [], none)
abbrev MX9_isWithin : zM := (yX9_isWithin, cX9_isWithin, 4, (some .boolean), { frames := 0, cells := 0, slots := 0, locals := 0 }, [], none)
abbrev MX9_join : zM := (yX9_join, cX9_join, 3, (some .int), { frames := 3, cells := 0, slots := 0, locals := 64 }, [], none)
abbrev MX9_left : zM := (yX9_left, cX9_left, 2, (some .int), { frames := 6, cells := 0, slots := 0, locals := 140 }, [], none)
abbrev MX9_line : zM := (yX9_line, cX9_line, 6, (some .int), { frames := 6, cells := 0, slots := 0, locals := 137 }, [], none)
abbrev MX9_lookAt : zM := (yX9_lookAt, cX9_lookAt, 3, none, { frames := 4, cells := 0, slots := 0, locals := 92 }, [], none)
abbrev MX9_lookOf : zM := (yX9_lookOf, cX9_lookOf, 4, (some .int), { frames := 0, cells := 0, slots := 0, locals := 0 }, [], none)
abbrev MX9_mark : zM := (yX9_mark, cX9_mark, 7, (some .boolean), { frames := 3, cells := 0, slots := 0, locals := 65 }, [], none)
abbrev MX9_meanBehind : zM := (yX9_meanBehind, cX9_meanBehind, 3, (some .double), { frames := 5, cells := 0, slots := 0, locals := 115 }, [], none)
abbrev MX9_money : zM := (yX9_money, cX9_money, 2, (some .int), { frames := 3, cells := 0, slots := 0, locals := 64 }, [], none)
abbrev MX9_move : zM := (yX9_move, cX9_move, 3, (some .boolean), { frames := 3, cells := 0, slots := 0, locals := 64 }, [], none)
abbrev MX9_moveWindow : zM := (yX9_moveWindow, cX9_moveWindow, 7, (some .int), { frames := 5, cells := 0, slots := 0, locals := 114 }, [], none)
abbrev MX9_next : zM := (yX9_next, cX9_next, 2, (some .char), { frames := 7, cells := 0, slots := 0, locals := 158 }, [], none)
abbrev MX9_nextCost : zM := (yX9_nextCost, cX9_nextCost, 2, (some .int), { frames := 7, cells := 0, slots := 0, locals := 158 }, [], none)
abbrev MX9_noted : zM := (yX9_noted, cX9_noted, 2, (some .int), { frames := 3, cells := 0, slots := 0, locals := 64 }, [], none)
abbrev MX9_openSession : zM := (yX9_openSession, cX9_openSession, 1, (some .int), { frames := 1, cells := 0, slots := 0, locals := 21 }, [], none)
abbrev MX9_openWindow : zM := (yX9_openWindow, cX9_openWindow, 8, (some .int), { frames := 3, cells := 0, slots := 0, locals := 64 }, [], none)
abbrev MX9_paste : zM := (yX9_paste, cX9_paste, 5, (some .int), { frames := 2, cells := 0, slots := 0, locals := 43 }, [], none)
abbrev MX9_picture : zM := (yX9_picture, cX9_picture, 4, (some .int), { frames := 2, cells := 0, slots := 0, locals := 43 }, [], none)
abbrev MX9_placeOf : zM := (yX9_placeOf, cX9_placeOf, 5, (some .int), { frames := 1, cells := 0, slots := 0, locals := 22 }, [], none)
abbrev MX9_played : zM := (yX9_played, cX9_played, 5, (some .int), { frames := 2, cells := 0, slots := 0, locals := 43 }, [], none)
abbrev MX9_raise : zM := (yX9_raise, cX9_raise, 5, (some .boolean), { frames := 3, cells := 0, slots := 0, locals := 65 }, [], none)
abbrev MX9_record : zM := (yX9_record, cX9_record, 3, (some .int), { frames := 3, cells := 0, slots := 0, locals := 64 }, [], none)
abbrev MX9_recordLook : zM := (yX9_recordLook, cX9_recordLook, 6, none, { frames := 4, cells := 0, slots := 0, locals := 92 }, [], none)
abbrev MX9_right : zM := (yX9_right, cX9_right, 3, (some .int), { frames := 0, cells := 0, slots := 0, locals := 0 }, [], none)
abbrev MX9_rightShare : zM := (yX9_rightShare, cX9_rightShare, 2, (some .float), { frames := 3, cells := 0, slots := 0, locals := 64 }, [], none)
abbrev MX9_screen : zM := (yX9_screen, cX9_screen, 4, (some .int), { frames := 4, cells := 0, slots := 0, locals := 92 }, [], none)
abbrev MX9_screenAt : zM := (yX9_screenAt, cX9_screenAt, 4, (some .int), { frames := 3, cells := 0, slots := 0, locals := 69 }, [], none)
abbrev MX9_seen : zM := (yX9_seen, cX9_seen, 8, (some .int), { frames := 2, cells := 0, slots := 0, locals := 46 }, [], none)
abbrev MX9_show : zM := (yX9_show, cX9_show, 5, (some .boolean), { frames := 3, cells := 0, slots := 0, locals := 65 }, [], none)
abbrev MX9_takeOut : zM := (yX9_takeOut, cX9_takeOut, 5, none, { frames := 0, cells := 0, slots := 0, locals := 0 }, [], none)
abbrev MX9_thrown : zM := (yX9_thrown, cX9_thrown, 1, (some .int), { frames := 0, cells := 0, slots := 0, locals := 0 }, [], none)
abbrev MX9_tick : zM := (yX9_tick, cX9_tick, 5, (some .int), { frames := 7, cells := 0, slots := 0, locals := 164 }, [], none)
abbrev MX9_topAt : zM := (yX9_topAt, cX9_topAt, 4, (some .int), { frames := 2, cells := 0, slots := 0, locals := 46 }, [], none)
abbrev MX9_topOf : zM := (yX9_topOf, cX9_topOf, 3, (some .int), { frames := 0, cells := 0, slots := 0, locals := 0 }, [], none)
abbrev MX9_tries : zM := (yX9_tries, cX9_tries, 7, none, { frames := 0, cells := 0, slots := 0, locals := 0 }, [], none)
abbrev MX9_triesCopies : zM := (yX9_triesCopies, cX9_triesCopies, 12, none, { frames := 1, cells := 0, slots := 0, locals := 26 }, [], none)
abbrev MX9_triesFills : zM := (yX9_triesFills, cX9_triesFills, 7, none, { frames := 1, cells := 0, slots := 0, locals := 26 }, [], none)
abbrev MX9_type : zM := (yX9_type, cX9_type, 7, (some .int), { frames := 3, cells := 0, slots := 0, locals := 64 }, [], none)
theorem zTi {w : Cond} (i : Nat) (h : tables_1[i]? = some w) (h2 : goodWord w = true) : w ∈ zT := zTm (List.mem_append_right _ (List.mem_of_getElem? h)) h2
theorem moJxa1e45_init_da8c8 : zMok MJxa1e45_init_da8c8 0 := ⟨zTi 147 (by decide +kernel) rfl, zTi 4 (by decide +kernel) rfl, by decide, by decide, by decide +kernel⟩
theorem miJxa1e45_init_da8c8 : Cond.instanceMethod yJxa1e45_init_da8c8 ∈ zT := zTi 146 (by decide +kernel) rfl
theorem moJxc12de_init_da8c8 : zMok MJxc12de_init_da8c8 0 := ⟨zTi 144 (by decide +kernel) rfl, zTi 5 (by decide +kernel) rfl, by decide, by decide, by decide +kernel⟩
theorem miJxc12de_init_da8c8 : Cond.instanceMethod yJxc12de_init_da8c8 ∈ zT := zTi 143 (by decide +kernel) rfl
theorem moJx4a65c_init_da8c8 : zMok MJx4a65c_init_da8c8 0 := ⟨zTi 141 (by decide +kernel) rfl, zTi 6 (by decide +kernel) rfl, by decide, by decide, by decide +kernel⟩
theorem miJx4a65c_init_da8c8 : Cond.instanceMethod yJx4a65c_init_da8c8 ∈ zT := zTi 140 (by decide +kernel) rfl
theorem moJ3_checkIndex_8e157 : zMok MJ3_checkIndex_8e157 3 := ⟨zTi 94 (by decide +kernel) rfl, zTi 23 (by decide +kernel) rfl, by decide, by decide, by decide +kernel⟩
theorem msJ3_checkIndex_8e157 : Cond.static yJ3_checkIndex_8e157 ∈ zT := zTi 93 (by decide +kernel) rfl
theorem moJ15_checkIndex_7cf53 : zMok MJ15_checkIndex_7cf53 2 := ⟨zTi 91 (by decide +kernel) rfl, zTi 22 (by decide +kernel) rfl, by decide, by decide, by decide +kernel⟩
theorem msJ15_checkIndex_7cf53 : Cond.static yJ15_checkIndex_7cf53 ∈ zT := zTi 90 (by decide +kernel) rfl
theorem moJx4a65c_size_8abf5 : zMok MJx4a65c_size_8abf5 0 := ⟨zTi 84 (by decide +kernel) rfl, zTi 6 (by decide +kernel) rfl, by decide, by decide, by decide +kernel⟩
theorem mvJx4a65c_size_8abf5 : zVok MJx4a65c_size_8abf5 := ⟨zTi 82 (by decide +kernel) rfl, zTi 83 (by decide +kernel) rfl⟩
theorem moJx4a65c_elementData_915e3 : zMok MJx4a65c_elementData_915e3 1 := ⟨zTi 98 (by decide +kernel) rfl, zTi 6 (by decide +kernel) rfl, by decide, by decide, by decide +kernel⟩
theorem mvJx4a65c_elementData_915e3 : zVok MJx4a65c_elementData_915e3 := ⟨zTi 96 (by decide +kernel) rfl, zTi 97 (by decide +kernel) rfl⟩
theorem moJx4a65c_get_915e3 : zMok MJx4a65c_get_915e3 1 := ⟨zTi 88 (by decide +kernel) rfl, zTi 6 (by decide +kernel) rfl, by decide, by decide, by decide +kernel⟩
theorem mvJx4a65c_get_915e3 : zVok MJx4a65c_get_915e3 := ⟨zTi 86 (by decide +kernel) rfl, zTi 87 (by decide +kernel) rfl⟩
theorem moJ8_newLength_cabcc : zMok MJ8_newLength_cabcc 3 := ⟨zTi 457 (by decide +kernel) rfl, zTi 18 (by decide +kernel) rfl, by decide, by decide, by decide +kernel⟩
theorem msJ8_newLength_cabcc : Cond.static yJ8_newLength_cabcc ∈ zT := zTi 456 (by decide +kernel) rfl
theorem moJ7_copyOf_6403c : zMok MJ7_copyOf_6403c 3 := ⟨zTi 492 (by decide +kernel) rfl, zTi 20 (by decide +kernel) rfl, by decide, by decide, by decide +kernel⟩
theorem msJ7_copyOf_6403c : Cond.static yJ7_copyOf_6403c ∈ zT := zTi 491 (by decide +kernel) rfl
theorem moJ7_copyOf_1904c : zMok MJ7_copyOf_1904c 2 := ⟨zTi 467 (by decide +kernel) rfl, zTi 20 (by decide +kernel) rfl, by decide, by decide, by decide +kernel⟩
theorem msJ7_copyOf_1904c : Cond.static yJ7_copyOf_1904c ∈ zT := zTi 466 (by decide +kernel) rfl
theorem moJx4a65c_grow_92f84 : zMok MJx4a65c_grow_92f84 1 := ⟨zTi 454 (by decide +kernel) rfl, zTi 6 (by decide +kernel) rfl, by decide, by decide, by decide +kernel⟩
theorem mvJx4a65c_grow_92f84 : zVok MJx4a65c_grow_92f84 := ⟨zTi 453 (by decide +kernel) rfl, zTm (by decide +kernel) rfl⟩
theorem moJx4a65c_grow_d5877 : zMok MJx4a65c_grow_d5877 0 := ⟨zTi 450 (by decide +kernel) rfl, zTi 6 (by decide +kernel) rfl, by decide, by decide, by decide +kernel⟩
theorem mvJx4a65c_grow_d5877 : zVok MJx4a65c_grow_d5877 := ⟨zTi 449 (by decide +kernel) rfl, zTm (by decide +kernel) rfl⟩
theorem moJx4a65c_add_72be8 : zMok MJx4a65c_add_72be8 3 := ⟨zTi 446 (by decide +kernel) rfl, zTi 6 (by decide +kernel) rfl, by decide, by decide, by decide +kernel⟩
theorem mvJx4a65c_add_72be8 : zVok MJx4a65c_add_72be8 := ⟨zTi 445 (by decide +kernel) rfl, zTm (by decide +kernel) rfl⟩
theorem moJx4a65c_add_9ea2d : zMok MJx4a65c_add_9ea2d 1 := ⟨zTi 442 (by decide +kernel) rfl, zTi 6 (by decide +kernel) rfl, by decide, by decide, by decide +kernel⟩
theorem mvJx4a65c_add_9ea2d : zVok MJx4a65c_add_9ea2d := ⟨zTi 440 (by decide +kernel) rfl, zTi 441 (by decide +kernel) rfl⟩
theorem moJx4a65c_fastRemove_b59b0 : zMok MJx4a65c_fastRemove_b59b0 2 := ⟨zTi 531 (by decide +kernel) rfl, zTi 6 (by decide +kernel) rfl, by decide, by decide, by decide +kernel⟩
theorem mvJx4a65c_fastRemove_b59b0 : zVok MJx4a65c_fastRemove_b59b0 := ⟨zTi 530 (by decide +kernel) rfl, zTm (by decide +kernel) rfl⟩
theorem moJx4a65c_remove_915e3 : zMok MJx4a65c_remove_915e3 1 := ⟨zTi 527 (by decide +kernel) rfl, zTi 6 (by decide +kernel) rfl, by decide, by decide, by decide +kernel⟩
theorem mvJx4a65c_remove_915e3 : zVok MJx4a65c_remove_915e3 := ⟨zTi 525 (by decide +kernel) rfl, zTi 526 (by decide +kernel) rfl⟩
theorem moJx4a65c_clear_da8c8 : zMok MJx4a65c_clear_da8c8 0 := ⟨zTi 874 (by decide +kernel) rfl, zTi 6 (by decide +kernel) rfl, by decide, by decide, by decide +kernel⟩
theorem mvJx4a65c_clear_da8c8 : zVok MJx4a65c_clear_da8c8 := ⟨zTi 872 (by decide +kernel) rfl, zTi 873 (by decide +kernel) rfl⟩
theorem moJ7_fill_53178 : zMok MJ7_fill_53178 2 := ⟨zTi 118 (by decide +kernel) rfl, zTi 20 (by decide +kernel) rfl, by decide, by decide, by decide +kernel⟩
theorem msJ7_fill_53178 : Cond.static yJ7_fill_53178 ∈ zT := zTi 117 (by decide +kernel) rfl
theorem mwL_allow : Cond.codeWith yL_allow cL_allow 7 (some .int) [(0, 21, 24, 19), (0, 21, 28, 21)] ∈ zT ∧ Cond.static yL_allow ∈ zT ∧ Cond.initialized RL ∈ zT := ⟨zTi 999 (by decide +kernel) rfl, zTi 998 (by decide +kernel) rfl, zTi 0 (by decide +kernel) rfl⟩
theorem mwL_behind : Cond.codeWith yL_behind cL_behind 4 (some .int) [(0, 9, 12, 19)] ∈ zT ∧ Cond.static yL_behind ∈ zT ∧ Cond.initialized RL ∈ zT := ⟨zTi 723 (by decide +kernel) rfl, zTi 722 (by decide +kernel) rfl, zTi 0 (by decide +kernel) rfl⟩
theorem mwL_bid : Cond.codeWith yL_bid cL_bid 5 (some .int) [(0, 10, 13, 19), (0, 10, 17, 21)] ∈ zT ∧ Cond.static yL_bid ∈ zT ∧ Cond.initialized RL ∈ zT := ⟨zTi 680 (by decide +kernel) rfl, zTi 679 (by decide +kernel) rfl, zTi 0 (by decide +kernel) rfl⟩
theorem mwL_closeWindow : Cond.codeWith yL_closeWindow cL_closeWindow 5 (some .int) [(0, 17, 20, 19)] ∈ zT ∧ Cond.static yL_closeWindow ∈ zT ∧ Cond.initialized RL ∈ zT := ⟨zTi 510 (by decide +kernel) rfl, zTi 509 (by decide +kernel) rfl, zTi 0 (by decide +kernel) rfl⟩
theorem mwL_copy : Cond.codeWith yL_copy cL_copy 6 (some .int) [(0, 12, 15, 19), (0, 12, 19, 21)] ∈ zT ∧ Cond.static yL_copy ∈ zT ∧ Cond.initialized RL ∈ zT := ⟨zTi 988 (by decide +kernel) rfl, zTi 987 (by decide +kernel) rfl, zTi 0 (by decide +kernel) rfl⟩
theorem mwL_draw : Cond.codeWith yL_draw cL_draw 10 (some .int) [(0, 20, 23, 19), (0, 20, 27, 21)] ∈ zT ∧ Cond.static yL_draw ∈ zT ∧ Cond.initialized RL ∈ zT := ⟨zTi 569 (by decide +kernel) rfl, zTi 568 (by decide +kernel) rfl, zTi 0 (by decide +kernel) rfl⟩
theorem mwL_guesses : Cond.codeWith yL_guesses cL_guesses 4 (some .int) [(0, 9, 12, 19)] ∈ zT ∧ Cond.static yL_guesses ∈ zT ∧ Cond.initialized RL ∈ zT := ⟨zTi 953 (by decide +kernel) rfl, zTi 952 (by decide +kernel) rfl, zTi 0 (by decide +kernel) rfl⟩
theorem mwL_host : Cond.codeWith yL_host cL_host 4 (some .int) [(0, 9, 12, 19)] ∈ zT ∧ Cond.static yL_host ∈ zT ∧ Cond.initialized RL ∈ zT := ⟨zTi 1045 (by decide +kernel) rfl, zTi 1044 (by decide +kernel) rfl, zTi 0 (by decide +kernel) rfl⟩
theorem mwL_join : Cond.codeWith yL_join cL_join 5 (some .int) [(0, 10, 13, 19), (0, 10, 17, 21), (0, 10, 21, 13)] ∈ zT ∧ Cond.static yL_join ∈ zT ∧ Cond.initialized RL ∈ zT := ⟨zTi 595 (by decide +kernel) rfl, zTi 594 (by decide +kernel) rfl, zTi 0 (by decide +kernel) rfl⟩
theorem mwL_left : Cond.codeWith yL_left cL_left 4 (some .int) [(0, 9, 12, 19), (0, 9, 15, 13)] ∈ zT ∧ Cond.static yL_left ∈ zT ∧ Cond.initialized RL ∈ zT := ⟨zTi 1036 (by decide +kernel) rfl, zTi 1035 (by decide +kernel) rfl, zTi 0 (by decide +kernel) rfl⟩
theorem mwL_mark : Cond.codeWith yL_mark cL_mark 7 (some .int) [(0, 21, 24, 19)] ∈ zT ∧ Cond.static yL_mark ∈ zT ∧ Cond.initialized RL ∈ zT := ⟨zTi 562 (by decide +kernel) rfl, zTi 561 (by decide +kernel) rfl, zTi 0 (by decide +kernel) rfl⟩
theorem mwL_meanBehind : Cond.codeWith yL_meanBehind cL_meanBehind 3 (some .int) [(0, 7, 10, 95)] ∈ zT ∧ Cond.static yL_meanBehind ∈ zT ∧ Cond.initialized RL ∈ zT := ⟨zTi 1111 (by decide +kernel) rfl, zTi 1110 (by decide +kernel) rfl, zTi 0 (by decide +kernel) rfl⟩
theorem mwL_money : Cond.codeWith yL_money cL_money 4 (some .int) [(0, 9, 12, 19)] ∈ zT ∧ Cond.static yL_money ∈ zT ∧ Cond.initialized RL ∈ zT := ⟨zTi 692 (by decide +kernel) rfl, zTi 691 (by decide +kernel) rfl, zTi 0 (by decide +kernel) rfl⟩
theorem mwL_move : Cond.codeWith yL_move cL_move 4 (some .int) [(0, 16, 19, 19), (0, 16, 22, 13)] ∈ zT ∧ Cond.static yL_move ∈ zT ∧ Cond.initialized RL ∈ zT := ⟨zTi 1024 (by decide +kernel) rfl, zTi 1023 (by decide +kernel) rfl, zTi 0 (by decide +kernel) rfl⟩
theorem mwL_moveWindow : Cond.codeWith yL_moveWindow cL_moveWindow 7 (some .int) [(0, 14, 17, 19), (0, 14, 21, 21)] ∈ zT ∧ Cond.static yL_moveWindow ∈ zT ∧ Cond.initialized RL ∈ zT := ⟨zTi 536 (by decide +kernel) rfl, zTi 535 (by decide +kernel) rfl, zTi 0 (by decide +kernel) rfl⟩
theorem mwL_next : Cond.codeWith yL_next cL_next 4 (some .int) [(0, 9, 12, 19), (0, 9, 15, 74)] ∈ zT ∧ Cond.static yL_next ∈ zT ∧ Cond.initialized RL ∈ zT := ⟨zTi 738 (by decide +kernel) rfl, zTi 737 (by decide +kernel) rfl, zTi 0 (by decide +kernel) rfl⟩
theorem mwL_nextCost : Cond.codeWith yL_nextCost cL_nextCost 4 (some .int) [(0, 9, 12, 19), (0, 9, 15, 74)] ∈ zT ∧ Cond.static yL_nextCost ∈ zT ∧ Cond.initialized RL ∈ zT := ⟨zTi 794 (by decide +kernel) rfl, zTi 793 (by decide +kernel) rfl, zTi 0 (by decide +kernel) rfl⟩
theorem mwL_noted : Cond.codeWith yL_noted cL_noted 4 (some .int) [(0, 9, 12, 19), (0, 9, 15, 74)] ∈ zT ∧ Cond.static yL_noted ∈ zT ∧ Cond.initialized RL ∈ zT := ⟨zTi 1103 (by decide +kernel) rfl, zTi 1102 (by decide +kernel) rfl, zTi 0 (by decide +kernel) rfl⟩
theorem mwL_openSession : Cond.codeWith yL_openSession cL_openSession 3 (some .int) [(0, 8, 11, 13)] ∈ zT ∧ Cond.static yL_openSession ∈ zT ∧ Cond.initialized RL ∈ zT := ⟨zTi 125 (by decide +kernel) rfl, zTi 124 (by decide +kernel) rfl, zTi 0 (by decide +kernel) rfl⟩
theorem mwL_openWindow : Cond.codeWith yL_openWindow cL_openWindow 8 (some .int) [(0, 16, 19, 19), (0, 16, 23, 21), (0, 16, 27, 13)] ∈ zT ∧ Cond.static yL_openWindow ∈ zT ∧ Cond.initialized RL ∈ zT := ⟨zTi 316 (by decide +kernel) rfl, zTi 315 (by decide +kernel) rfl, zTi 0 (by decide +kernel) rfl⟩
theorem mwL_paste : Cond.codeWith yL_paste cL_paste 5 (some .int) [(0, 10, 13, 19), (0, 10, 17, 74), (0, 10, 21, 86)] ∈ zT ∧ Cond.static yL_paste ∈ zT ∧ Cond.initialized RL ∈ zT := ⟨zTi 1010 (by decide +kernel) rfl, zTi 1009 (by decide +kernel) rfl, zTi 0 (by decide +kernel) rfl⟩
theorem mwL_picture : Cond.codeWith yL_picture cL_picture 6 (some .int) [(0, 12, 15, 19)] ∈ zT ∧ Cond.static yL_picture ∈ zT ∧ Cond.initialized RL ∈ zT := ⟨zTi 699 (by decide +kernel) rfl, zTi 698 (by decide +kernel) rfl, zTi 0 (by decide +kernel) rfl⟩
theorem mwL_played : Cond.codeWith yL_played cL_played 7 (some .int) [(0, 14, 17, 19), (0, 14, 21, 74)] ∈ zT ∧ Cond.static yL_played ∈ zT ∧ Cond.initialized RL ∈ zT := ⟨zTi 1094 (by decide +kernel) rfl, zTi 1093 (by decide +kernel) rfl, zTi 0 (by decide +kernel) rfl⟩
theorem mwL_raise : Cond.codeWith yL_raise cL_raise 5 (some .int) [(0, 17, 20, 19)] ∈ zT ∧ Cond.static yL_raise ∈ zT ∧ Cond.initialized RL ∈ zT := ⟨zTi 543 (by decide +kernel) rfl, zTi 542 (by decide +kernel) rfl, zTi 0 (by decide +kernel) rfl⟩
theorem mwL_record : Cond.codeWith yL_record cL_record 4 (some .int) [(0, 9, 12, 19)] ∈ zT ∧ Cond.static yL_record ∈ zT ∧ Cond.initialized RL ∈ zT := ⟨zTi 1052 (by decide +kernel) rfl, zTi 1051 (by decide +kernel) rfl, zTi 0 (by decide +kernel) rfl⟩
theorem mwL_rightShare : Cond.codeWith yL_rightShare cL_rightShare 4 (some .int) [(0, 9, 12, 19), (0, 9, 15, 95)] ∈ zT ∧ Cond.static yL_rightShare ∈ zT ∧ Cond.initialized RL ∈ zT := ⟨zTi 964 (by decide +kernel) rfl, zTi 963 (by decide +kernel) rfl, zTi 0 (by decide +kernel) rfl⟩
theorem mwL_screen : Cond.codeWith yL_screen cL_screen 6 (some .int) [(0, 12, 15, 19)] ∈ zT ∧ Cond.static yL_screen ∈ zT ∧ Cond.initialized RL ∈ zT := ⟨zTi 584 (by decide +kernel) rfl, zTi 583 (by decide +kernel) rfl, zTi 0 (by decide +kernel) rfl⟩
theorem mwL_seen : Cond.codeWith yL_seen cL_seen 6 (some .int) [(0, 12, 15, 19)] ∈ zT ∧ Cond.static yL_seen ∈ zT ∧ Cond.initialized RL ∈ zT := ⟨zTi 706 (by decide +kernel) rfl, zTi 705 (by decide +kernel) rfl, zTi 0 (by decide +kernel) rfl⟩
theorem mwL_show : Cond.codeWith yL_show cL_show 6 (some .int) [(0, 19, 22, 19)] ∈ zT ∧ Cond.static yL_show ∈ zT ∧ Cond.initialized RL ∈ zT := ⟨zTi 555 (by decide +kernel) rfl, zTi 554 (by decide +kernel) rfl, zTi 0 (by decide +kernel) rfl⟩
theorem mwL_tick : Cond.codeWith yL_tick cL_tick 4 (some .int) [(0, 9, 12, 21)] ∈ zT ∧ Cond.static yL_tick ∈ zT ∧ Cond.initialized RL ∈ zT := ⟨zTi 801 (by decide +kernel) rfl, zTi 800 (by decide +kernel) rfl, zTi 0 (by decide +kernel) rfl⟩
theorem mwL_type : Cond.codeWith yL_type cL_type 5 (some .int) [(0, 10, 13, 19), (0, 10, 17, 21), (0, 10, 21, 86), (0, 10, 25, 13)] ∈ zT ∧ Cond.static yL_type ∈ zT ∧ Cond.initialized RL ∈ zT := ⟨zTi 893 (by decide +kernel) rfl, zTi 892 (by decide +kernel) rfl, zTi 0 (by decide +kernel) rfl⟩
theorem moX0_apply : zMok MX0_apply 0 := ⟨zTi 845 (by decide +kernel) rfl, zTi 25 (by decide +kernel) rfl, by decide, by decide, by decide +kernel⟩
theorem mvX0_apply : zVok MX0_apply := ⟨zTi 843 (by decide +kernel) rfl, zTi 844 (by decide +kernel) rfl⟩
theorem moX0_colourAfter : zMok MX0_colourAfter 1 := ⟨zTi 850 (by decide +kernel) rfl, zTi 25 (by decide +kernel) rfl, by decide, by decide, by decide +kernel⟩
theorem mvX0_colourAfter : zVok MX0_colourAfter := ⟨zTi 848 (by decide +kernel) rfl, zTi 849 (by decide +kernel) rfl⟩
theorem moX0_consider : zMok MX0_consider 6 := ⟨zTi 771 (by decide +kernel) rfl, zTi 25 (by decide +kernel) rfl, by decide, by decide, by decide +kernel⟩
theorem mvX0_consider : zVok MX0_consider := ⟨zTi 769 (by decide +kernel) rfl, zTi 770 (by decide +kernel) rfl⟩
theorem moX0_find : zMok MX0_find 0 := ⟨zTi 751 (by decide +kernel) rfl, zTi 25 (by decide +kernel) rfl, by decide, by decide, by decide +kernel⟩
theorem mvX0_find : zVok MX0_find := ⟨zTi 749 (by decide +kernel) rfl, zTi 750 (by decide +kernel) rfl⟩
theorem moX0_gainOf : zMok MX0_gainOf 2 := ⟨zTi 767 (by decide +kernel) rfl, zTi 25 (by decide +kernel) rfl, by decide, by decide, by decide +kernel⟩
theorem mvX0_gainOf : zVok MX0_gainOf := ⟨zTi 765 (by decide +kernel) rfl, zTi 766 (by decide +kernel) rfl⟩
theorem moX0_init : zMok MX0_init 1 := ⟨zTi 610 (by decide +kernel) rfl, zTi 25 (by decide +kernel) rfl, by decide, by decide, by decide +kernel⟩
theorem miX0_init : Cond.instanceMethod yX0_init ∈ zT := zTi 609 (by decide +kernel) rfl
theorem moX0_isBehind : zMok MX0_isBehind 1 := ⟨zTi 735 (by decide +kernel) rfl, zTi 25 (by decide +kernel) rfl, by decide, by decide, by decide +kernel⟩
theorem mvX0_isBehind : zVok MX0_isBehind := ⟨zTi 733 (by decide +kernel) rfl, zTi 734 (by decide +kernel) rfl⟩
theorem moX0_tryCells : zMok MX0_tryCells 0 := ⟨zTi 775 (by decide +kernel) rfl, zTi 25 (by decide +kernel) rfl, by decide, by decide, by decide +kernel⟩
theorem mvX0_tryCells : zVok MX0_tryCells := ⟨zTi 773 (by decide +kernel) rfl, zTi 774 (by decide +kernel) rfl⟩
theorem moX0_tryCopies : zMok MX0_tryCopies 0 := ⟨zTi 756 (by decide +kernel) rfl, zTi 25 (by decide +kernel) rfl, by decide, by decide, by decide +kernel⟩
theorem mvX0_tryCopies : zVok MX0_tryCopies := ⟨zTi 754 (by decide +kernel) rfl, zTi 755 (by decide +kernel) rfl⟩
theorem moX0_tryRectangles : zMok MX0_tryRectangles 2 := ⟨zTi 760 (by decide +kernel) rfl, zTi 25 (by decide +kernel) rfl, by decide, by decide, by decide +kernel⟩
theorem mvX0_tryRectangles : zVok MX0_tryRectangles := ⟨zTi 758 (by decide +kernel) rfl, zTi 759 (by decide +kernel) rfl⟩
theorem moX1_countBehind : zMok MX1_countBehind 0 := ⟨zTi 731 (by decide +kernel) rfl, zTi 24 (by decide +kernel) rfl, by decide, by decide, by decide +kernel⟩
theorem mvX1_countBehind : zVok MX1_countBehind := ⟨zTi 729 (by decide +kernel) rfl, zTi 730 (by decide +kernel) rfl⟩
theorem moX1_endGuess : zMok MX1_endGuess 1 := ⟨zTi 870 (by decide +kernel) rfl, zTi 24 (by decide +kernel) rfl, by decide, by decide, by decide +kernel⟩
theorem mvX1_endGuess : zVok MX1_endGuess := ⟨zTi 868 (by decide +kernel) rfl, zTi 869 (by decide +kernel) rfl⟩
theorem moX1_init : zMok MX1_init 2 := ⟨zTi 604 (by decide +kernel) rfl, zTi 24 (by decide +kernel) rfl, by decide, by decide, by decide +kernel⟩
theorem miX1_init : Cond.instanceMethod yX1_init ∈ zT := zTi 603 (by decide +kernel) rfl
theorem moX2_hold : zMok MX2_hold 3 := ⟨zTi 996 (by decide +kernel) rfl, zTi 7 (by decide +kernel) rfl, by decide, by decide, by decide +kernel⟩
theorem mvX2_hold : zVok MX2_hold := ⟨zTi 994 (by decide +kernel) rfl, zTi 995 (by decide +kernel) rfl⟩
theorem moX2_init : zMok MX2_init 0 := ⟨zTi 167 (by decide +kernel) rfl, zTi 7 (by decide +kernel) rfl, by decide, by decide, by decide +kernel⟩
theorem miX2_init : Cond.instanceMethod yX2_init ∈ zT := zTi 166 (by decide +kernel) rfl
theorem moX3_init : zMok MX3_init 4 := ⟨zTi 931 (by decide +kernel) rfl, zTi 28 (by decide +kernel) rfl, by decide, by decide, by decide +kernel⟩
theorem miX3_init : Cond.instanceMethod yX3_init ∈ zT := zTi 930 (by decide +kernel) rfl
theorem moX4_begin : zMok MX4_begin 0 := ⟨zTi 1091 (by decide +kernel) rfl, zTi 30 (by decide +kernel) rfl, by decide, by decide, by decide +kernel⟩
theorem mvX4_begin : zVok MX4_begin := ⟨zTi 1089 (by decide +kernel) rfl, zTi 1090 (by decide +kernel) rfl⟩
theorem moX4_endTick : zMok MX4_endTick 0 := ⟨zTi 890 (by decide +kernel) rfl, zTi 30 (by decide +kernel) rfl, by decide, by decide, by decide +kernel⟩
theorem mvX4_endTick : zVok MX4_endTick := ⟨zTi 888 (by decide +kernel) rfl, zTi 889 (by decide +kernel) rfl⟩
theorem moX4_init : zMok MX4_init 0 := ⟨zTi 1061 (by decide +kernel) rfl, zTi 30 (by decide +kernel) rfl, by decide, by decide, by decide +kernel⟩
theorem miX4_init : Cond.instanceMethod yX4_init ∈ zT := zTi 1060 (by decide +kernel) rfl
theorem moX4_isAsLookedAt : zMok MX4_isAsLookedAt 0 := ⟨zTi 111 (by decide +kernel) rfl, zTi 30 (by decide +kernel) rfl, by decide, by decide, by decide +kernel⟩
theorem mvX4_isAsLookedAt : zVok MX4_isAsLookedAt := ⟨zTi 109 (by decide +kernel) rfl, zTi 110 (by decide +kernel) rfl⟩
theorem moX4_isFull : zMok MX4_isFull 0 := ⟨zTi 882 (by decide +kernel) rfl, zTi 30 (by decide +kernel) rfl, by decide, by decide, by decide +kernel⟩
theorem mvX4_isFull : zVok MX4_isFull := ⟨zTi 880 (by decide +kernel) rfl, zTi 881 (by decide +kernel) rfl⟩
theorem moX4_look : zMok MX4_look 2 := ⟨zTi 886 (by decide +kernel) rfl, zTi 30 (by decide +kernel) rfl, by decide, by decide, by decide +kernel⟩
theorem mvX4_look : zVok MX4_look := ⟨zTi 884 (by decide +kernel) rfl, zTi 885 (by decide +kernel) rfl⟩
theorem moX4_play : zMok MX4_play 1 := ⟨zTi 115 (by decide +kernel) rfl, zTi 30 (by decide +kernel) rfl, by decide, by decide, by decide +kernel⟩
theorem mvX4_play : zVok MX4_play := ⟨zTi 113 (by decide +kernel) rfl, zTi 114 (by decide +kernel) rfl⟩
theorem moX5_addWindow : zMok MX5_addWindow 1 := ⟨zTi 438 (by decide +kernel) rfl, zTi 3 (by decide +kernel) rfl, by decide, by decide, by decide +kernel⟩
theorem mvX5_addWindow : zVok MX5_addWindow := ⟨zTi 436 (by decide +kernel) rfl, zTi 437 (by decide +kernel) rfl⟩
theorem moX5_advanceMove : zMok MX5_advanceMove 0 := ⟨zTi 814 (by decide +kernel) rfl, zTi 3 (by decide +kernel) rfl, by decide, by decide, by decide +kernel⟩
theorem mvX5_advanceMove : zVok MX5_advanceMove := ⟨zTi 812 (by decide +kernel) rfl, zTi 813 (by decide +kernel) rfl⟩
theorem moX5_colourOfWindows : zMok MX5_colourOfWindows 1 := ⟨zTi 76 (by decide +kernel) rfl, zTi 3 (by decide +kernel) rfl, by decide, by decide, by decide +kernel⟩
theorem mvX5_colourOfWindows : zVok MX5_colourOfWindows := ⟨zTi 74 (by decide +kernel) rfl, zTi 75 (by decide +kernel) rfl⟩
theorem moX5_countKeysBy : zMok MX5_countKeysBy 1 := ⟨zTi 961 (by decide +kernel) rfl, zTi 3 (by decide +kernel) rfl, by decide, by decide, by decide +kernel⟩
theorem mvX5_countKeysBy : zVok MX5_countKeysBy := ⟨zTi 959 (by decide +kernel) rfl, zTi 960 (by decide +kernel) rfl⟩
theorem moX5_countKeysOf : zMok MX5_countKeysOf 1 := ⟨zTi 925 (by decide +kernel) rfl, zTi 3 (by decide +kernel) rfl, by decide, by decide, by decide +kernel⟩
theorem mvX5_countKeysOf : zVok MX5_countKeysOf := ⟨zTi 923 (by decide +kernel) rfl, zTi 924 (by decide +kernel) rfl⟩
theorem moX5_doKeys : zMok MX5_doKeys 0 := ⟨zTi 854 (by decide +kernel) rfl, zTi 3 (by decide +kernel) rfl, by decide, by decide, by decide +kernel⟩
theorem mvX5_doKeys : zVok MX5_doKeys := ⟨zTi 852 (by decide +kernel) rfl, zTi 853 (by decide +kernel) rfl⟩
theorem moX5_init : zMok MX5_init 0 := ⟨zTi 134 (by decide +kernel) rfl, zTi 3 (by decide +kernel) rfl, by decide, by decide, by decide +kernel⟩
theorem miX5_init : Cond.instanceMethod yX5_init ∈ zT := zTi 133 (by decide +kernel) rfl
theorem moX5_isOnTop : zMok MX5_isOnTop 1 := ⟨zTi 551 (by decide +kernel) rfl, zTi 3 (by decide +kernel) rfl, by decide, by decide, by decide +kernel⟩
theorem mvX5_isOnTop : zVok MX5_isOnTop := ⟨zTi 549 (by decide +kernel) rfl, zTi 550 (by decide +kernel) rfl⟩
theorem moX5_isPainted : zMok MX5_isPainted 0 := ⟨zTi 72 (by decide +kernel) rfl, zTi 3 (by decide +kernel) rfl, by decide, by decide, by decide +kernel⟩
theorem mvX5_isPainted : zVok MX5_isPainted := ⟨zTi 70 (by decide +kernel) rfl, zTi 71 (by decide +kernel) rfl⟩
theorem moX5_isRight : zMok MX5_isRight 1 := ⟨zTi 866 (by decide +kernel) rfl, zTi 3 (by decide +kernel) rfl, by decide, by decide, by decide +kernel⟩
theorem mvX5_isRight : zVok MX5_isRight := ⟨zTi 864 (by decide +kernel) rfl, zTi 865 (by decide +kernel) rfl⟩
theorem moX5_isTrue : zMok MX5_isTrue 0 := ⟨zTi 68 (by decide +kernel) rfl, zTi 3 (by decide +kernel) rfl, by decide, by decide, by decide +kernel⟩
theorem mvX5_isTrue : zVok MX5_isTrue := ⟨zTi 66 (by decide +kernel) rfl, zTi 67 (by decide +kernel) rfl⟩
theorem moX5_lastGuessAt : zMok MX5_lastGuessAt 2 := ⟨zTi 714 (by decide +kernel) rfl, zTi 3 (by decide +kernel) rfl, by decide, by decide, by decide +kernel⟩
theorem mvX5_lastGuessAt : zVok MX5_lastGuessAt := ⟨zTi 712 (by decide +kernel) rfl, zTi 713 (by decide +kernel) rfl⟩
theorem moX5_lookForRecording : zMok MX5_lookForRecording 0 := ⟨zTi 878 (by decide +kernel) rfl, zTi 3 (by decide +kernel) rfl, by decide, by decide, by decide +kernel⟩
theorem mvX5_lookForRecording : zVok MX5_lookForRecording := ⟨zTi 876 (by decide +kernel) rfl, zTi 877 (by decide +kernel) rfl⟩
theorem moX5_repaint : zMok MX5_repaint 0 := ⟨zTi 507 (by decide +kernel) rfl, zTi 3 (by decide +kernel) rfl, by decide, by decide, by decide +kernel⟩
theorem mvX5_repaint : zVok MX5_repaint := ⟨zTi 505 (by decide +kernel) rfl, zTi 506 (by decide +kernel) rfl⟩
theorem moX5_takeFromPile : zMok MX5_takeFromPile 1 := ⟨zTi 523 (by decide +kernel) rfl, zTi 3 (by decide +kernel) rfl, by decide, by decide, by decide +kernel⟩
theorem mvX5_takeFromPile : zVok MX5_takeFromPile := ⟨zTi 521 (by decide +kernel) rfl, zTi 522 (by decide +kernel) rfl⟩
theorem moX5_topShown : zMok MX5_topShown 0 := ⟨zTi 903 (by decide +kernel) rfl, zTi 3 (by decide +kernel) rfl, by decide, by decide, by decide +kernel⟩
theorem mvX5_topShown : zVok MX5_topShown := ⟨zTi 901 (by decide +kernel) rfl, zTi 902 (by decide +kernel) rfl⟩
theorem moX5_topShownAt : zMok MX5_topShownAt 2 := ⟨zTi 80 (by decide +kernel) rfl, zTi 3 (by decide +kernel) rfl, by decide, by decide, by decide +kernel⟩
theorem mvX5_topShownAt : zVok MX5_topShownAt := ⟨zTi 78 (by decide +kernel) rfl, zTi 79 (by decide +kernel) rfl⟩
theorem moX6_advance : zMok MX6_advance 1 := ⟨zTi 818 (by decide +kernel) rfl, zTi 8 (by decide +kernel) rfl, by decide, by decide, by decide +kernel⟩
theorem mvX6_advance : zVok MX6_advance := ⟨zTi 816 (by decide +kernel) rfl, zTi 817 (by decide +kernel) rfl⟩
theorem moX6_begin : zMok MX6_begin 0 := ⟨zTi 1033 (by decide +kernel) rfl, zTi 8 (by decide +kernel) rfl, by decide, by decide, by decide +kernel⟩
theorem mvX6_begin : zVok MX6_begin := ⟨zTi 1031 (by decide +kernel) rfl, zTi 1032 (by decide +kernel) rfl⟩
theorem moX6_countRowsLeft : zMok MX6_countRowsLeft 1 := ⟨zTi 822 (by decide +kernel) rfl, zTi 8 (by decide +kernel) rfl, by decide, by decide, by decide +kernel⟩
theorem mvX6_countRowsLeft : zVok MX6_countRowsLeft := ⟨zTi 820 (by decide +kernel) rfl, zTi 821 (by decide +kernel) rfl⟩
theorem moX6_init : zMok MX6_init 0 := ⟨zTi 187 (by decide +kernel) rfl, zTi 8 (by decide +kernel) rfl, by decide, by decide, by decide +kernel⟩
theorem miX6_init : Cond.instanceMethod yX6_init ∈ zT := zTi 186 (by decide +kernel) rfl
theorem moX6_isOther : zMok MX6_isOther 2 := ⟨zTi 826 (by decide +kernel) rfl, zTi 8 (by decide +kernel) rfl, by decide, by decide, by decide +kernel⟩
theorem mvX6_isOther : zVok MX6_isOther := ⟨zTi 824 (by decide +kernel) rfl, zTi 825 (by decide +kernel) rfl⟩
theorem moX6_nextRow : zMok MX6_nextRow 1 := ⟨zTi 830 (by decide +kernel) rfl, zTi 8 (by decide +kernel) rfl, by decide, by decide, by decide +kernel⟩
theorem mvX6_nextRow : zVok MX6_nextRow := ⟨zTi 828 (by decide +kernel) rfl, zTi 829 (by decide +kernel) rfl⟩
theorem moX7_cellAhead : zMok MX7_cellAhead 1 := ⟨zTi 862 (by decide +kernel) rfl, zTi 17 (by decide +kernel) rfl, by decide, by decide, by decide +kernel⟩
theorem mvX7_cellAhead : zVok MX7_cellAhead := ⟨zTi 860 (by decide +kernel) rfl, zTi 861 (by decide +kernel) rfl⟩
theorem moX7_colourAt : zMok MX7_colourAt 2 := ⟨zTi 107 (by decide +kernel) rfl, zTi 17 (by decide +kernel) rfl, by decide, by decide, by decide +kernel⟩
theorem mvX7_colourAt : zVok MX7_colourAt := ⟨zTi 105 (by decide +kernel) rfl, zTi 106 (by decide +kernel) rfl⟩
theorem moX7_covers : zMok MX7_covers 2 := ⟨zTi 103 (by decide +kernel) rfl, zTi 17 (by decide +kernel) rfl, by decide, by decide, by decide +kernel⟩
theorem mvX7_covers : zVok MX7_covers := ⟨zTi 101 (by decide +kernel) rfl, zTi 102 (by decide +kernel) rfl⟩
theorem moX7_fillPart : zMok MX7_fillPart 5 := ⟨zTi 580 (by decide +kernel) rfl, zTi 17 (by decide +kernel) rfl, by decide, by decide, by decide +kernel⟩
theorem mvX7_fillPart : zVok MX7_fillPart := ⟨zTi 578 (by decide +kernel) rfl, zTi 579 (by decide +kernel) rfl⟩
theorem moX7_init : zMok MX7_init 4 := ⟨zTi 394 (by decide +kernel) rfl, zTi 17 (by decide +kernel) rfl, by decide, by decide, by decide +kernel⟩
theorem miX7_init : Cond.instanceMethod yX7_init ∈ zT := zTi 393 (by decide +kernel) rfl
theorem moX7_placeOf : zMok MX7_placeOf 1 := ⟨zTi 719 (by decide +kernel) rfl, zTi 17 (by decide +kernel) rfl, by decide, by decide, by decide +kernel⟩
theorem mvX7_placeOf : zVok MX7_placeOf := ⟨zTi 717 (by decide +kernel) rfl, zTi 718 (by decide +kernel) rfl⟩
theorem moX7_put : zMok MX7_put 1 := ⟨zTi 858 (by decide +kernel) rfl, zTi 17 (by decide +kernel) rfl, by decide, by decide, by decide +kernel⟩
theorem mvX7_put : zVok MX7_put := ⟨zTi 856 (by decide +kernel) rfl, zTi 857 (by decide +kernel) rfl⟩
theorem moX8_allow : zMok MX8_allow 4 := ⟨zTi 1003 (by decide +kernel) rfl, zTi 1 (by decide +kernel) rfl, by decide, by decide, by decide +kernel⟩
theorem mvX8_allow : zVok MX8_allow := ⟨zTi 1001 (by decide +kernel) rfl, zTi 1002 (by decide +kernel) rfl⟩
theorem moX8_behind : zMok MX8_behind 1 := ⟨zTi 727 (by decide +kernel) rfl, zTi 1 (by decide +kernel) rfl, by decide, by decide, by decide +kernel⟩
theorem mvX8_behind : zVok MX8_behind := ⟨zTi 725 (by decide +kernel) rfl, zTi 726 (by decide +kernel) rfl⟩
theorem moX8_bid : zMok MX8_bid 2 := ⟨zTi 684 (by decide +kernel) rfl, zTi 1 (by decide +kernel) rfl, by decide, by decide, by decide +kernel⟩
theorem mvX8_bid : zVok MX8_bid := ⟨zTi 682 (by decide +kernel) rfl, zTi 683 (by decide +kernel) rfl⟩
theorem moX8_canPass : zMok MX8_canPass 2 := ⟨zTi 1020 (by decide +kernel) rfl, zTi 1 (by decide +kernel) rfl, by decide, by decide, by decide +kernel⟩
theorem mvX8_canPass : zVok MX8_canPass := ⟨zTi 1019 (by decide +kernel) rfl, zTm (by decide +kernel) rfl⟩
theorem moX8_carried : zMok MX8_carried 0 := ⟨zTi 60 (by decide +kernel) rfl, zTi 1 (by decide +kernel) rfl, by decide, by decide, by decide +kernel⟩
theorem mvX8_carried : zVok MX8_carried := ⟨zTi 58 (by decide +kernel) rfl, zTi 59 (by decide +kernel) rfl⟩
theorem moX8_clientAt : zMok MX8_clientAt 1 := ⟨zTi 688 (by decide +kernel) rfl, zTi 1 (by decide +kernel) rfl, by decide, by decide, by decide +kernel⟩
theorem mvX8_clientAt : zVok MX8_clientAt := ⟨zTi 687 (by decide +kernel) rfl, zTm (by decide +kernel) rfl⟩
theorem moX8_closeWindow : zMok MX8_closeWindow 2 := ⟨zTi 514 (by decide +kernel) rfl, zTi 1 (by decide +kernel) rfl, by decide, by decide, by decide +kernel⟩
theorem mvX8_closeWindow : zVok MX8_closeWindow := ⟨zTi 512 (by decide +kernel) rfl, zTi 513 (by decide +kernel) rfl⟩
theorem moX8_copy : zMok MX8_copy 3 := ⟨zTi 992 (by decide +kernel) rfl, zTi 1 (by decide +kernel) rfl, by decide, by decide, by decide +kernel⟩
theorem mvX8_copy : zVok MX8_copy := ⟨zTi 990 (by decide +kernel) rfl, zTi 991 (by decide +kernel) rfl⟩
theorem moX8_draw : zMok MX8_draw 7 := ⟨zTi 573 (by decide +kernel) rfl, zTi 1 (by decide +kernel) rfl, by decide, by decide, by decide +kernel⟩
theorem mvX8_draw : zVok MX8_draw := ⟨zTi 571 (by decide +kernel) rfl, zTi 572 (by decide +kernel) rfl⟩
theorem moX8_guesses : zMok MX8_guesses 1 := ⟨zTi 957 (by decide +kernel) rfl, zTi 1 (by decide +kernel) rfl, by decide, by decide, by decide +kernel⟩
theorem mvX8_guesses : zVok MX8_guesses := ⟨zTi 955 (by decide +kernel) rfl, zTi 956 (by decide +kernel) rfl⟩
theorem moX8_host : zMok MX8_host 1 := ⟨zTi 1049 (by decide +kernel) rfl, zTi 1 (by decide +kernel) rfl, by decide, by decide, by decide +kernel⟩
theorem mvX8_host : zVok MX8_host := ⟨zTi 1047 (by decide +kernel) rfl, zTi 1048 (by decide +kernel) rfl⟩
theorem moX8_init : zMok MX8_init 0 := ⟨zTi 35 (by decide +kernel) rfl, zTi 1 (by decide +kernel) rfl, by decide, by decide, by decide +kernel⟩
theorem miX8_init : Cond.instanceMethod yX8_init ∈ zT := zTi 34 (by decide +kernel) rfl
theorem moX8_isConsistent : zMok MX8_isConsistent 0 := ⟨zTi 64 (by decide +kernel) rfl, zTi 1 (by decide +kernel) rfl, by decide, by decide, by decide +kernel⟩
theorem mvX8_isConsistent : zVok MX8_isConsistent := ⟨zTi 62 (by decide +kernel) rfl, zTi 63 (by decide +kernel) rfl⟩
theorem moX8_isScreenCell : zMok MX8_isScreenCell 2 := ⟨zTi 576 (by decide +kernel) rfl, zTi 1 (by decide +kernel) rfl, by decide, by decide, by decide +kernel⟩
theorem msX8_isScreenCell : Cond.static yX8_isScreenCell ∈ zT := zTi 575 (by decide +kernel) rfl
theorem moX8_isSession : zMok MX8_isSession 1 := ⟨zTi 353 (by decide +kernel) rfl, zTi 1 (by decide +kernel) rfl, by decide, by decide, by decide +kernel⟩
theorem mvX8_isSession : zVok MX8_isSession := ⟨zTi 352 (by decide +kernel) rfl, zTm (by decide +kernel) rfl⟩
theorem moX8_isSize : zMok MX8_isSize 2 := ⟨zTi 372 (by decide +kernel) rfl, zTi 1 (by decide +kernel) rfl, by decide, by decide, by decide +kernel⟩
theorem msX8_isSize : Cond.static yX8_isSize ∈ zT := zTi 371 (by decide +kernel) rfl
theorem moX8_isWindowPlace : zMok MX8_isWindowPlace 2 := ⟨zTi 369 (by decide +kernel) rfl, zTi 1 (by decide +kernel) rfl, by decide, by decide, by decide +kernel⟩
theorem msX8_isWindowPlace : Cond.static yX8_isWindowPlace ∈ zT := zTi 368 (by decide +kernel) rfl
theorem moX8_isWithin : zMok MX8_isWithin 3 := ⟨zTi 121 (by decide +kernel) rfl, zTi 1 (by decide +kernel) rfl, by decide, by decide, by decide +kernel⟩
theorem msX8_isWithin : Cond.static yX8_isWithin ∈ zT := zTi 120 (by decide +kernel) rfl
theorem moX8_join : zMok MX8_join 2 := ⟨zTi 599 (by decide +kernel) rfl, zTi 1 (by decide +kernel) rfl, by decide, by decide, by decide +kernel⟩
theorem mvX8_join : zVok MX8_join := ⟨zTi 597 (by decide +kernel) rfl, zTi 598 (by decide +kernel) rfl⟩
theorem moX8_left : zMok MX8_left 1 := ⟨zTi 1040 (by decide +kernel) rfl, zTi 1 (by decide +kernel) rfl, by decide, by decide, by decide +kernel⟩
theorem mvX8_left : zVok MX8_left := ⟨zTi 1038 (by decide +kernel) rfl, zTi 1039 (by decide +kernel) rfl⟩
theorem moX8_mark : zMok MX8_mark 4 := ⟨zTi 566 (by decide +kernel) rfl, zTi 1 (by decide +kernel) rfl, by decide, by decide, by decide +kernel⟩
theorem mvX8_mark : zVok MX8_mark := ⟨zTi 564 (by decide +kernel) rfl, zTi 565 (by decide +kernel) rfl⟩
theorem moX8_meanBehind : zMok MX8_meanBehind 0 := ⟨zTi 1115 (by decide +kernel) rfl, zTi 1 (by decide +kernel) rfl, by decide, by decide, by decide +kernel⟩
theorem mvX8_meanBehind : zVok MX8_meanBehind := ⟨zTi 1113 (by decide +kernel) rfl, zTi 1114 (by decide +kernel) rfl⟩
theorem moX8_money : zMok MX8_money 1 := ⟨zTi 696 (by decide +kernel) rfl, zTi 1 (by decide +kernel) rfl, by decide, by decide, by decide +kernel⟩
theorem mvX8_money : zVok MX8_money := ⟨zTi 694 (by decide +kernel) rfl, zTi 695 (by decide +kernel) rfl⟩
theorem moX8_move : zMok MX8_move 1 := ⟨zTi 1028 (by decide +kernel) rfl, zTi 1 (by decide +kernel) rfl, by decide, by decide, by decide +kernel⟩
theorem mvX8_move : zVok MX8_move := ⟨zTi 1026 (by decide +kernel) rfl, zTi 1027 (by decide +kernel) rfl⟩
theorem moX8_moveWindow : zMok MX8_moveWindow 4 := ⟨zTi 540 (by decide +kernel) rfl, zTi 1 (by decide +kernel) rfl, by decide, by decide, by decide +kernel⟩
theorem mvX8_moveWindow : zVok MX8_moveWindow := ⟨zTi 538 (by decide +kernel) rfl, zTi 539 (by decide +kernel) rfl⟩
theorem moX8_next : zMok MX8_next 1 := ⟨zTi 743 (by decide +kernel) rfl, zTi 1 (by decide +kernel) rfl, by decide, by decide, by decide +kernel⟩
theorem mvX8_next : zVok MX8_next := ⟨zTi 741 (by decide +kernel) rfl, zTi 742 (by decide +kernel) rfl⟩
theorem moX8_nextChange : zMok MX8_nextChange 1 := ⟨zTi 747 (by decide +kernel) rfl, zTi 1 (by decide +kernel) rfl, by decide, by decide, by decide +kernel⟩
theorem mvX8_nextChange : zVok MX8_nextChange := ⟨zTi 746 (by decide +kernel) rfl, zTm (by decide +kernel) rfl⟩
theorem moX8_nextCost : zMok MX8_nextCost 1 := ⟨zTi 798 (by decide +kernel) rfl, zTi 1 (by decide +kernel) rfl, by decide, by decide, by decide +kernel⟩
theorem mvX8_nextCost : zVok MX8_nextCost := ⟨zTi 796 (by decide +kernel) rfl, zTi 797 (by decide +kernel) rfl⟩
theorem moX8_noted : zMok MX8_noted 1 := ⟨zTi 1107 (by decide +kernel) rfl, zTi 1 (by decide +kernel) rfl, by decide, by decide, by decide +kernel⟩
theorem mvX8_noted : zVok MX8_noted := ⟨zTi 1105 (by decide +kernel) rfl, zTi 1106 (by decide +kernel) rfl⟩
theorem moX8_openSession : zMok MX8_openSession 0 := ⟨zTi 130 (by decide +kernel) rfl, zTi 1 (by decide +kernel) rfl, by decide, by decide, by decide +kernel⟩
theorem mvX8_openSession : zVok MX8_openSession := ⟨zTi 128 (by decide +kernel) rfl, zTi 129 (by decide +kernel) rfl⟩
theorem moX8_openWindow : zMok MX8_openWindow 5 := ⟨zTi 345 (by decide +kernel) rfl, zTi 1 (by decide +kernel) rfl, by decide, by decide, by decide +kernel⟩
theorem mvX8_openWindow : zVok MX8_openWindow := ⟨zTi 343 (by decide +kernel) rfl, zTi 344 (by decide +kernel) rfl⟩
theorem moX8_passTick : zMok MX8_passTick 0 := ⟨zTi 810 (by decide +kernel) rfl, zTi 1 (by decide +kernel) rfl, by decide, by decide, by decide +kernel⟩
theorem mvX8_passTick : zVok MX8_passTick := ⟨zTi 809 (by decide +kernel) rfl, zTm (by decide +kernel) rfl⟩
theorem moX8_paste : zMok MX8_paste 2 := ⟨zTi 1014 (by decide +kernel) rfl, zTi 1 (by decide +kernel) rfl, by decide, by decide, by decide +kernel⟩
theorem mvX8_paste : zVok MX8_paste := ⟨zTi 1012 (by decide +kernel) rfl, zTi 1013 (by decide +kernel) rfl⟩
theorem moX8_picture : zMok MX8_picture 3 := ⟨zTi 703 (by decide +kernel) rfl, zTi 1 (by decide +kernel) rfl, by decide, by decide, by decide +kernel⟩
theorem mvX8_picture : zVok MX8_picture := ⟨zTi 701 (by decide +kernel) rfl, zTi 702 (by decide +kernel) rfl⟩
theorem moX8_played : zMok MX8_played 4 := ⟨zTi 1098 (by decide +kernel) rfl, zTi 1 (by decide +kernel) rfl, by decide, by decide, by decide +kernel⟩
theorem mvX8_played : zVok MX8_played := ⟨zTi 1096 (by decide +kernel) rfl, zTi 1097 (by decide +kernel) rfl⟩
theorem moX8_raise : zMok MX8_raise 2 := ⟨zTi 547 (by decide +kernel) rfl, zTi 1 (by decide +kernel) rfl, by decide, by decide, by decide +kernel⟩
theorem mvX8_raise : zVok MX8_raise := ⟨zTi 545 (by decide +kernel) rfl, zTi 546 (by decide +kernel) rfl⟩
theorem moX8_record : zMok MX8_record 1 := ⟨zTi 1056 (by decide +kernel) rfl, zTi 1 (by decide +kernel) rfl, by decide, by decide, by decide +kernel⟩
theorem mvX8_record : zVok MX8_record := ⟨zTi 1054 (by decide +kernel) rfl, zTi 1055 (by decide +kernel) rfl⟩
theorem moX8_richestServed : zMok MX8_richestServed 1 := ⟨zTi 840 (by decide +kernel) rfl, zTi 1 (by decide +kernel) rfl, by decide, by decide, by decide +kernel⟩
theorem mvX8_richestServed : zVok MX8_richestServed := ⟨zTi 839 (by decide +kernel) rfl, zTm (by decide +kernel) rfl⟩
theorem moX8_rightNumber : zMok MX8_rightNumber 3 := ⟨zTi 1007 (by decide +kernel) rfl, zTi 1 (by decide +kernel) rfl, by decide, by decide, by decide +kernel⟩
theorem msX8_rightNumber : Cond.static yX8_rightNumber ∈ zT := zTi 1006 (by decide +kernel) rfl
theorem moX8_rightShare : zMok MX8_rightShare 1 := ⟨zTi 982 (by decide +kernel) rfl, zTi 1 (by decide +kernel) rfl, by decide, by decide, by decide +kernel⟩
theorem mvX8_rightShare : zVok MX8_rightShare := ⟨zTi 980 (by decide +kernel) rfl, zTi 981 (by decide +kernel) rfl⟩
theorem moX8_runLine : zMok MX8_runLine 0 := ⟨zTi 835 (by decide +kernel) rfl, zTi 1 (by decide +kernel) rfl, by decide, by decide, by decide +kernel⟩
theorem mvX8_runLine : zVok MX8_runLine := ⟨zTi 834 (by decide +kernel) rfl, zTm (by decide +kernel) rfl⟩
theorem moX8_screen : zMok MX8_screen 3 := ⟨zTi 588 (by decide +kernel) rfl, zTi 1 (by decide +kernel) rfl, by decide, by decide, by decide +kernel⟩
theorem mvX8_screen : zVok MX8_screen := ⟨zTi 586 (by decide +kernel) rfl, zTi 587 (by decide +kernel) rfl⟩
theorem moX8_screenCell : zMok MX8_screenCell 2 := ⟨zTi 591 (by decide +kernel) rfl, zTi 1 (by decide +kernel) rfl, by decide, by decide, by decide +kernel⟩
theorem msX8_screenCell : Cond.static yX8_screenCell ∈ zT := zTi 590 (by decide +kernel) rfl
theorem moX8_seen : zMok MX8_seen 3 := ⟨zTi 710 (by decide +kernel) rfl, zTi 1 (by decide +kernel) rfl, by decide, by decide, by decide +kernel⟩
theorem mvX8_seen : zVok MX8_seen := ⟨zTi 708 (by decide +kernel) rfl, zTi 709 (by decide +kernel) rfl⟩
theorem moX8_sessionAt : zMok MX8_sessionAt 1 := ⟨zTi 349 (by decide +kernel) rfl, zTi 1 (by decide +kernel) rfl, by decide, by decide, by decide +kernel⟩
theorem mvX8_sessionAt : zVok MX8_sessionAt := ⟨zTi 348 (by decide +kernel) rfl, zTm (by decide +kernel) rfl⟩
theorem moX8_show : zMok MX8_show 3 := ⟨zTi 559 (by decide +kernel) rfl, zTi 1 (by decide +kernel) rfl, by decide, by decide, by decide +kernel⟩
theorem mvX8_show : zVok MX8_show := ⟨zTi 557 (by decide +kernel) rfl, zTi 558 (by decide +kernel) rfl⟩
theorem moX8_tick : zMok MX8_tick 1 := ⟨zTi 805 (by decide +kernel) rfl, zTi 1 (by decide +kernel) rfl, by decide, by decide, by decide +kernel⟩
theorem mvX8_tick : zVok MX8_tick := ⟨zTi 803 (by decide +kernel) rfl, zTi 804 (by decide +kernel) rfl⟩
theorem moX8_type : zMok MX8_type 2 := ⟨zTi 898 (by decide +kernel) rfl, zTi 1 (by decide +kernel) rfl, by decide, by decide, by decide +kernel⟩
theorem mvX8_type : zVok MX8_type := ⟨zTi 896 (by decide +kernel) rfl, zTi 897 (by decide +kernel) rfl⟩
theorem moX8_windowAt : zMok MX8_windowAt 2 := ⟨zTi 517 (by decide +kernel) rfl, zTi 1 (by decide +kernel) rfl, by decide, by decide, by decide +kernel⟩
theorem msX8_windowAt : Cond.static yX8_windowAt ∈ zT := zTi 516 (by decide +kernel) rfl
theorem moX9_allow : zMok MX9_allow 4 := ⟨zTi 1494 (by decide +kernel) rfl, zTi 2 (by decide +kernel) rfl, by decide, by decide, by decide +kernel⟩
theorem mvX9_allow : zVok MX9_allow := ⟨zTi 1492 (by decide +kernel) rfl, zTi 1493 (by decide +kernel) rfl⟩
theorem moX9_behind : zMok MX9_behind 1 := ⟨zTi 1391 (by decide +kernel) rfl, zTi 2 (by decide +kernel) rfl, by decide, by decide, by decide +kernel⟩
theorem mvX9_behind : zVok MX9_behind := ⟨zTi 1389 (by decide +kernel) rfl, zTi 1390 (by decide +kernel) rfl⟩
theorem moX9_bid : zMok MX9_bid 2 := ⟨zTi 1363 (by decide +kernel) rfl, zTi 2 (by decide +kernel) rfl, by decide, by decide, by decide +kernel⟩
theorem mvX9_bid : zVok MX9_bid := ⟨zTi 1361 (by decide +kernel) rfl, zTi 1362 (by decide +kernel) rfl⟩
theorem moX9_carried : zMok MX9_carried 0 := ⟨zTi 1470 (by decide +kernel) rfl, zTi 2 (by decide +kernel) rfl, by decide, by decide, by decide +kernel⟩
theorem mvX9_carried : zVok MX9_carried := ⟨zTi 1468 (by decide +kernel) rfl, zTi 1469 (by decide +kernel) rfl⟩
theorem moX9_cellAt : zMok MX9_cellAt 2 := ⟨zTi 1332 (by decide +kernel) rfl, zTi 2 (by decide +kernel) rfl, by decide, by decide, by decide +kernel⟩
theorem mvX9_cellAt : zVok MX9_cellAt := ⟨zTi 1331 (by decide +kernel) rfl, zTm (by decide +kernel) rfl⟩
theorem moX9_changes : zMok MX9_changes 1 := ⟨zTi 1454 (by decide +kernel) rfl, zTi 2 (by decide +kernel) rfl, by decide, by decide, by decide +kernel⟩
theorem mvX9_changes : zVok MX9_changes := ⟨zTi 1453 (by decide +kernel) rfl, zTm (by decide +kernel) rfl⟩
theorem moX9_closeWindow : zMok MX9_closeWindow 2 := ⟨zTi 1304 (by decide +kernel) rfl, zTi 2 (by decide +kernel) rfl, by decide, by decide, by decide +kernel⟩
theorem mvX9_closeWindow : zVok MX9_closeWindow := ⟨zTi 1302 (by decide +kernel) rfl, zTi 1303 (by decide +kernel) rfl⟩
theorem moX9_copy : zMok MX9_copy 3 := ⟨zTi 1490 (by decide +kernel) rfl, zTi 2 (by decide +kernel) rfl, by decide, by decide, by decide +kernel⟩
theorem mvX9_copy : zVok MX9_copy := ⟨zTi 1488 (by decide +kernel) rfl, zTi 1489 (by decide +kernel) rfl⟩
theorem moX9_copyRows : zMok MX9_copyRows 1 := ⟨zTi 1438 (by decide +kernel) rfl, zTi 2 (by decide +kernel) rfl, by decide, by decide, by decide +kernel⟩
theorem mvX9_copyRows : zVok MX9_copyRows := ⟨zTi 1437 (by decide +kernel) rfl, zTm (by decide +kernel) rfl⟩
theorem moX9_countBehind : zMok MX9_countBehind 1 := ⟨zTi 1395 (by decide +kernel) rfl, zTi 2 (by decide +kernel) rfl, by decide, by decide, by decide +kernel⟩
theorem mvX9_countBehind : zVok MX9_countBehind := ⟨zTi 1394 (by decide +kernel) rfl, zTm (by decide +kernel) rfl⟩
theorem moX9_countLeft : zMok MX9_countLeft 1 := ⟨zTi 1442 (by decide +kernel) rfl, zTi 2 (by decide +kernel) rfl, by decide, by decide, by decide +kernel⟩
theorem mvX9_countLeft : zVok MX9_countLeft := ⟨zTi 1441 (by decide +kernel) rfl, zTm (by decide +kernel) rfl⟩
theorem moX9_doKeys : zMok MX9_doKeys 1 := ⟨zTi 1458 (by decide +kernel) rfl, zTi 2 (by decide +kernel) rfl, by decide, by decide, by decide +kernel⟩
theorem mvX9_doKeys : zVok MX9_doKeys := ⟨zTi 1457 (by decide +kernel) rfl, zTm (by decide +kernel) rfl⟩
theorem moX9_draw : zMok MX9_draw 7 := ⟨zTi 1348 (by decide +kernel) rfl, zTi 2 (by decide +kernel) rfl, by decide, by decide, by decide +kernel⟩
theorem mvX9_draw : zVok MX9_draw := ⟨zTi 1346 (by decide +kernel) rfl, zTi 1347 (by decide +kernel) rfl⟩
theorem moX9_fails : zMok MX9_fails 1 := ⟨zTi 1285 (by decide +kernel) rfl, zTi 2 (by decide +kernel) rfl, by decide, by decide, by decide +kernel⟩
theorem mvX9_fails : zVok MX9_fails := ⟨zTi 1284 (by decide +kernel) rfl, zTm (by decide +kernel) rfl⟩
theorem moX9_failsClient : zMok MX9_failsClient 1 := ⟨zTi 1367 (by decide +kernel) rfl, zTi 2 (by decide +kernel) rfl, by decide, by decide, by decide +kernel⟩
theorem mvX9_failsClient : zVok MX9_failsClient := ⟨zTi 1366 (by decide +kernel) rfl, zTm (by decide +kernel) rfl⟩
theorem moX9_failsNext : zMok MX9_failsNext 1 := ⟨zTi 1403 (by decide +kernel) rfl, zTi 2 (by decide +kernel) rfl, by decide, by decide, by decide +kernel⟩
theorem mvX9_failsNext : zVok MX9_failsNext := ⟨zTi 1402 (by decide +kernel) rfl, zTm (by decide +kernel) rfl⟩
theorem moX9_failsSession : zMok MX9_failsSession 1 := ⟨zTi 1293 (by decide +kernel) rfl, zTi 2 (by decide +kernel) rfl, by decide, by decide, by decide +kernel⟩
theorem mvX9_failsSession : zVok MX9_failsSession := ⟨zTi 1292 (by decide +kernel) rfl, zTm (by decide +kernel) rfl⟩
theorem moX9_failsWindow : zMok MX9_failsWindow 2 := ⟨zTi 1308 (by decide +kernel) rfl, zTi 2 (by decide +kernel) rfl, by decide, by decide, by decide +kernel⟩
theorem mvX9_failsWindow : zVok MX9_failsWindow := ⟨zTi 1307 (by decide +kernel) rfl, zTm (by decide +kernel) rfl⟩
theorem moX9_finds : zMok MX9_finds 1 := ⟨zTi 1407 (by decide +kernel) rfl, zTi 2 (by decide +kernel) rfl, by decide, by decide, by decide +kernel⟩
theorem mvX9_finds : zVok MX9_finds := ⟨zTi 1406 (by decide +kernel) rfl, zTm (by decide +kernel) rfl⟩
theorem moX9_gain : zMok MX9_gain 3 := ⟨zTi 1418 (by decide +kernel) rfl, zTi 2 (by decide +kernel) rfl, by decide, by decide, by decide +kernel⟩
theorem mvX9_gain : zVok MX9_gain := ⟨zTi 1417 (by decide +kernel) rfl, zTm (by decide +kernel) rfl⟩
theorem moX9_guesses : zMok MX9_guesses 1 := ⟨zTi 1482 (by decide +kernel) rfl, zTi 2 (by decide +kernel) rfl, by decide, by decide, by decide +kernel⟩
theorem mvX9_guesses : zVok MX9_guesses := ⟨zTi 1480 (by decide +kernel) rfl, zTi 1481 (by decide +kernel) rfl⟩
theorem moX9_host : zMok MX9_host 1 := ⟨zTi 1513 (by decide +kernel) rfl, zTi 2 (by decide +kernel) rfl, by decide, by decide, by decide +kernel⟩
theorem mvX9_host : zVok MX9_host := ⟨zTi 1511 (by decide +kernel) rfl, zTi 1512 (by decide +kernel) rfl⟩
theorem moX9_in : zMok MX9_in 3 := ⟨zTi 1300 (by decide +kernel) rfl, zTi 2 (by decide +kernel) rfl, by decide, by decide, by decide +kernel⟩
theorem msX9_in : Cond.static yX9_in ∈ zT := zTi 1299 (by decide +kernel) rfl
theorem moX9_init : zMok MX9_init 0 := ⟨zTi 1121 (by decide +kernel) rfl, zTi 2 (by decide +kernel) rfl, by decide, by decide, by decide +kernel⟩
theorem miX9_init : Cond.instanceMethod yX9_init ∈ zT := zTi 1120 (by decide +kernel) rfl
theorem moX9_isCell : zMok MX9_isCell 2 := ⟨zTi 1355 (by decide +kernel) rfl, zTi 2 (by decide +kernel) rfl, by decide, by decide, by decide +kernel⟩
theorem msX9_isCell : Cond.static yX9_isCell ∈ zT := zTi 1354 (by decide +kernel) rfl
theorem moX9_isClient : zMok MX9_isClient 1 := ⟨zTi 1371 (by decide +kernel) rfl, zTi 2 (by decide +kernel) rfl, by decide, by decide, by decide +kernel⟩
theorem mvX9_isClient : zVok MX9_isClient := ⟨zTi 1370 (by decide +kernel) rfl, zTm (by decide +kernel) rfl⟩
theorem moX9_isConsistent : zMok MX9_isConsistent 0 := ⟨zTi 1533 (by decide +kernel) rfl, zTi 2 (by decide +kernel) rfl, by decide, by decide, by decide +kernel⟩
theorem mvX9_isConsistent : zVok MX9_isConsistent := ⟨zTi 1531 (by decide +kernel) rfl, zTi 1532 (by decide +kernel) rfl⟩
theorem moX9_isLeft : zMok MX9_isLeft 2 := ⟨zTi 1446 (by decide +kernel) rfl, zTi 2 (by decide +kernel) rfl, by decide, by decide, by decide +kernel⟩
theorem mvX9_isLeft : zVok MX9_isLeft := ⟨zTi 1445 (by decide +kernel) rfl, zTm (by decide +kernel) rfl⟩
theorem moX9_isSession : zMok MX9_isSession 1 := ⟨zTi 1297 (by decide +kernel) rfl, zTi 2 (by decide +kernel) rfl, by decide, by decide, by decide +kernel⟩
theorem mvX9_isSession : zVok MX9_isSession := ⟨zTi 1296 (by decide +kernel) rfl, zTm (by decide +kernel) rfl⟩
theorem moX9_isWithin : zMok MX9_isWithin 4 := ⟨zTi 1414 (by decide +kernel) rfl, zTi 2 (by decide +kernel) rfl, by decide, by decide, by decide +kernel⟩
theorem msX9_isWithin : Cond.static yX9_isWithin ∈ zT := zTi 1413 (by decide +kernel) rfl
theorem moX9_join : zMok MX9_join 2 := ⟨zTi 1359 (by decide +kernel) rfl, zTi 2 (by decide +kernel) rfl, by decide, by decide, by decide +kernel⟩
theorem mvX9_join : zVok MX9_join := ⟨zTi 1357 (by decide +kernel) rfl, zTi 1358 (by decide +kernel) rfl⟩
theorem moX9_left : zMok MX9_left 1 := ⟨zTi 1509 (by decide +kernel) rfl, zTi 2 (by decide +kernel) rfl, by decide, by decide, by decide +kernel⟩
theorem mvX9_left : zVok MX9_left := ⟨zTi 1507 (by decide +kernel) rfl, zTi 1508 (by decide +kernel) rfl⟩
theorem moX9_line : zMok MX9_line 0 := ⟨zTi 1450 (by decide +kernel) rfl, zTi 2 (by decide +kernel) rfl, by decide, by decide, by decide +kernel⟩
theorem mvX9_line : zVok MX9_line := ⟨zTi 1449 (by decide +kernel) rfl, zTm (by decide +kernel) rfl⟩
theorem moX9_lookAt : zMok MX9_lookAt 1 := ⟨zTi 1320 (by decide +kernel) rfl, zTi 2 (by decide +kernel) rfl, by decide, by decide, by decide +kernel⟩
theorem mvX9_lookAt : zVok MX9_lookAt := ⟨zTi 1319 (by decide +kernel) rfl, zTm (by decide +kernel) rfl⟩
theorem moX9_lookOf : zMok MX9_lookOf 3 := ⟨zTi 1466 (by decide +kernel) rfl, zTi 2 (by decide +kernel) rfl, by decide, by decide, by decide +kernel⟩
theorem mvX9_lookOf : zVok MX9_lookOf := ⟨zTi 1465 (by decide +kernel) rfl, zTm (by decide +kernel) rfl⟩
theorem moX9_mark : zMok MX9_mark 4 := ⟨zTi 1344 (by decide +kernel) rfl, zTi 2 (by decide +kernel) rfl, by decide, by decide, by decide +kernel⟩
theorem mvX9_mark : zVok MX9_mark := ⟨zTi 1342 (by decide +kernel) rfl, zTi 1343 (by decide +kernel) rfl⟩
theorem moX9_meanBehind : zMok MX9_meanBehind 0 := ⟨zTi 1529 (by decide +kernel) rfl, zTi 2 (by decide +kernel) rfl, by decide, by decide, by decide +kernel⟩
theorem mvX9_meanBehind : zVok MX9_meanBehind := ⟨zTi 1527 (by decide +kernel) rfl, zTi 1528 (by decide +kernel) rfl⟩
theorem moX9_money : zMok MX9_money 1 := ⟨zTi 1375 (by decide +kernel) rfl, zTi 2 (by decide +kernel) rfl, by decide, by decide, by decide +kernel⟩
theorem mvX9_money : zVok MX9_money := ⟨zTi 1373 (by decide +kernel) rfl, zTi 1374 (by decide +kernel) rfl⟩
theorem moX9_move : zMok MX9_move 1 := ⟨zTi 1505 (by decide +kernel) rfl, zTi 2 (by decide +kernel) rfl, by decide, by decide, by decide +kernel⟩
theorem mvX9_move : zVok MX9_move := ⟨zTi 1503 (by decide +kernel) rfl, zTi 1504 (by decide +kernel) rfl⟩
theorem moX9_moveWindow : zMok MX9_moveWindow 4 := ⟨zTi 1316 (by decide +kernel) rfl, zTi 2 (by decide +kernel) rfl, by decide, by decide, by decide +kernel⟩
theorem mvX9_moveWindow : zVok MX9_moveWindow := ⟨zTi 1314 (by decide +kernel) rfl, zTi 1315 (by decide +kernel) rfl⟩
theorem moX9_next : zMok MX9_next 1 := ⟨zTi 1399 (by decide +kernel) rfl, zTi 2 (by decide +kernel) rfl, by decide, by decide, by decide +kernel⟩
theorem mvX9_next : zVok MX9_next := ⟨zTi 1397 (by decide +kernel) rfl, zTi 1398 (by decide +kernel) rfl⟩
theorem moX9_nextCost : zMok MX9_nextCost 1 := ⟨zTi 1430 (by decide +kernel) rfl, zTi 2 (by decide +kernel) rfl, by decide, by decide, by decide +kernel⟩
theorem mvX9_nextCost : zVok MX9_nextCost := ⟨zTi 1428 (by decide +kernel) rfl, zTi 1429 (by decide +kernel) rfl⟩
theorem moX9_noted : zMok MX9_noted 1 := ⟨zTi 1525 (by decide +kernel) rfl, zTi 2 (by decide +kernel) rfl, by decide, by decide, by decide +kernel⟩
theorem mvX9_noted : zVok MX9_noted := ⟨zTi 1523 (by decide +kernel) rfl, zTi 1524 (by decide +kernel) rfl⟩
theorem moX9_openSession : zMok MX9_openSession 0 := ⟨zTi 1281 (by decide +kernel) rfl, zTi 2 (by decide +kernel) rfl, by decide, by decide, by decide +kernel⟩
theorem mvX9_openSession : zVok MX9_openSession := ⟨zTi 1279 (by decide +kernel) rfl, zTi 1280 (by decide +kernel) rfl⟩
theorem moX9_openWindow : zMok MX9_openWindow 5 := ⟨zTi 1289 (by decide +kernel) rfl, zTi 2 (by decide +kernel) rfl, by decide, by decide, by decide +kernel⟩
theorem mvX9_openWindow : zVok MX9_openWindow := ⟨zTi 1287 (by decide +kernel) rfl, zTi 1288 (by decide +kernel) rfl⟩
theorem moX9_paste : zMok MX9_paste 2 := ⟨zTi 1501 (by decide +kernel) rfl, zTi 2 (by decide +kernel) rfl, by decide, by decide, by decide +kernel⟩
theorem mvX9_paste : zVok MX9_paste := ⟨zTi 1499 (by decide +kernel) rfl, zTi 1500 (by decide +kernel) rfl⟩
theorem moX9_picture : zMok MX9_picture 3 := ⟨zTi 1379 (by decide +kernel) rfl, zTi 2 (by decide +kernel) rfl, by decide, by decide, by decide +kernel⟩
theorem mvX9_picture : zVok MX9_picture := ⟨zTi 1377 (by decide +kernel) rfl, zTi 1378 (by decide +kernel) rfl⟩
theorem moX9_placeOf : zMok MX9_placeOf 2 := ⟨zTi 1387 (by decide +kernel) rfl, zTi 2 (by decide +kernel) rfl, by decide, by decide, by decide +kernel⟩
theorem mvX9_placeOf : zVok MX9_placeOf := ⟨zTi 1386 (by decide +kernel) rfl, zTm (by decide +kernel) rfl⟩
theorem moX9_played : zMok MX9_played 4 := ⟨zTi 1521 (by decide +kernel) rfl, zTi 2 (by decide +kernel) rfl, by decide, by decide, by decide +kernel⟩
theorem mvX9_played : zVok MX9_played := ⟨zTi 1519 (by decide +kernel) rfl, zTi 1520 (by decide +kernel) rfl⟩
theorem moX9_raise : zMok MX9_raise 2 := ⟨zTi 1336 (by decide +kernel) rfl, zTi 2 (by decide +kernel) rfl, by decide, by decide, by decide +kernel⟩
theorem mvX9_raise : zVok MX9_raise := ⟨zTi 1334 (by decide +kernel) rfl, zTi 1335 (by decide +kernel) rfl⟩
theorem moX9_record : zMok MX9_record 1 := ⟨zTi 1517 (by decide +kernel) rfl, zTi 2 (by decide +kernel) rfl, by decide, by decide, by decide +kernel⟩
theorem mvX9_record : zVok MX9_record := ⟨zTi 1515 (by decide +kernel) rfl, zTi 1516 (by decide +kernel) rfl⟩
theorem moX9_recordLook : zMok MX9_recordLook 1 := ⟨zTi 1462 (by decide +kernel) rfl, zTi 2 (by decide +kernel) rfl, by decide, by decide, by decide +kernel⟩
theorem mvX9_recordLook : zVok MX9_recordLook := ⟨zTi 1461 (by decide +kernel) rfl, zTm (by decide +kernel) rfl⟩
theorem moX9_right : zMok MX9_right 3 := ⟨zTi 1497 (by decide +kernel) rfl, zTi 2 (by decide +kernel) rfl, by decide, by decide, by decide +kernel⟩
theorem msX9_right : Cond.static yX9_right ∈ zT := zTi 1496 (by decide +kernel) rfl
theorem moX9_rightShare : zMok MX9_rightShare 1 := ⟨zTi 1486 (by decide +kernel) rfl, zTi 2 (by decide +kernel) rfl, by decide, by decide, by decide +kernel⟩
theorem mvX9_rightShare : zVok MX9_rightShare := ⟨zTi 1484 (by decide +kernel) rfl, zTi 1485 (by decide +kernel) rfl⟩
theorem moX9_screen : zMok MX9_screen 3 := ⟨zTi 1352 (by decide +kernel) rfl, zTi 2 (by decide +kernel) rfl, by decide, by decide, by decide +kernel⟩
theorem mvX9_screen : zVok MX9_screen := ⟨zTi 1350 (by decide +kernel) rfl, zTi 1351 (by decide +kernel) rfl⟩
theorem moX9_screenAt : zMok MX9_screenAt 2 := ⟨zTi 1324 (by decide +kernel) rfl, zTi 2 (by decide +kernel) rfl, by decide, by decide, by decide +kernel⟩
theorem mvX9_screenAt : zVok MX9_screenAt := ⟨zTi 1323 (by decide +kernel) rfl, zTm (by decide +kernel) rfl⟩
theorem moX9_seen : zMok MX9_seen 3 := ⟨zTi 1383 (by decide +kernel) rfl, zTi 2 (by decide +kernel) rfl, by decide, by decide, by decide +kernel⟩
theorem mvX9_seen : zVok MX9_seen := ⟨zTi 1381 (by decide +kernel) rfl, zTi 1382 (by decide +kernel) rfl⟩
theorem moX9_show : zMok MX9_show 3 := ⟨zTi 1340 (by decide +kernel) rfl, zTi 2 (by decide +kernel) rfl, by decide, by decide, by decide +kernel⟩
theorem mvX9_show : zVok MX9_show := ⟨zTi 1338 (by decide +kernel) rfl, zTi 1339 (by decide +kernel) rfl⟩
theorem moX9_takeOut : zMok MX9_takeOut 2 := ⟨zTi 1312 (by decide +kernel) rfl, zTi 2 (by decide +kernel) rfl, by decide, by decide, by decide +kernel⟩
theorem mvX9_takeOut : zVok MX9_takeOut := ⟨zTi 1311 (by decide +kernel) rfl, zTm (by decide +kernel) rfl⟩
theorem moX9_thrown : zMok MX9_thrown 0 := ⟨zTi 1277 (by decide +kernel) rfl, zTi 2 (by decide +kernel) rfl, by decide, by decide, by decide +kernel⟩
theorem mvX9_thrown : zVok MX9_thrown := ⟨zTi 1275 (by decide +kernel) rfl, zTi 1276 (by decide +kernel) rfl⟩
theorem moX9_tick : zMok MX9_tick 1 := ⟨zTi 1434 (by decide +kernel) rfl, zTi 2 (by decide +kernel) rfl, by decide, by decide, by decide +kernel⟩
theorem mvX9_tick : zVok MX9_tick := ⟨zTi 1432 (by decide +kernel) rfl, zTi 1433 (by decide +kernel) rfl⟩
theorem moX9_topAt : zMok MX9_topAt 2 := ⟨zTi 1328 (by decide +kernel) rfl, zTi 2 (by decide +kernel) rfl, by decide, by decide, by decide +kernel⟩
theorem mvX9_topAt : zVok MX9_topAt := ⟨zTi 1327 (by decide +kernel) rfl, zTm (by decide +kernel) rfl⟩
theorem moX9_topOf : zMok MX9_topOf 1 := ⟨zTi 1478 (by decide +kernel) rfl, zTi 2 (by decide +kernel) rfl, by decide, by decide, by decide +kernel⟩
theorem mvX9_topOf : zVok MX9_topOf := ⟨zTi 1477 (by decide +kernel) rfl, zTm (by decide +kernel) rfl⟩
theorem moX9_tries : zMok MX9_tries 6 := ⟨zTi 1422 (by decide +kernel) rfl, zTi 2 (by decide +kernel) rfl, by decide, by decide, by decide +kernel⟩
theorem mvX9_tries : zVok MX9_tries := ⟨zTi 1421 (by decide +kernel) rfl, zTm (by decide +kernel) rfl⟩
theorem moX9_triesCopies : zMok MX9_triesCopies 2 := ⟨zTi 1411 (by decide +kernel) rfl, zTi 2 (by decide +kernel) rfl, by decide, by decide, by decide +kernel⟩
theorem mvX9_triesCopies : zVok MX9_triesCopies := ⟨zTi 1410 (by decide +kernel) rfl, zTm (by decide +kernel) rfl⟩
theorem moX9_triesFills : zMok MX9_triesFills 2 := ⟨zTi 1426 (by decide +kernel) rfl, zTi 2 (by decide +kernel) rfl, by decide, by decide, by decide +kernel⟩
theorem mvX9_triesFills : zVok MX9_triesFills := ⟨zTi 1425 (by decide +kernel) rfl, zTm (by decide +kernel) rfl⟩
theorem moX9_type : zMok MX9_type 2 := ⟨zTi 1474 (by decide +kernel) rfl, zTi 2 (by decide +kernel) rfl, by decide, by decide, by decide +kernel⟩
theorem mvX9_type : zVok MX9_type := ⟨zTi 1472 (by decide +kernel) rfl, zTi 1473 (by decide +kernel) rfl⟩
