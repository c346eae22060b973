/-! ===== tables of the abstract machine (by program: wip/whole/gen2.py) ===== -/
/-- a method: name, code, maxLocals, answer, number of its class, constructor, holds longs, room of frames, room of locals, words it takes -/
abbrev zM : Type := MethodName × ByteArray × Nat × Option FieldType × Nat × Bool × Bool × Nat × Nat × Nat
def zmt_0 : List zM := [(yX0_init, cX0_init, 1, none, 0, true, false, 1, 40, 1),
  (yX0_clear, cX0_clear, 2, none, 0, false, false, 0, 0, 1),
  (yX0_copyFrom, cX0_copyFrom, 2, none, 0, false, false, 1, 40, 2),
  (yX0_isOver, cX0_isOver, 1, some .boolean, 0, false, false, 0, 0, 1),
  (yX0_latchOn, cX0_latchOn, 4, some .boolean, 0, false, false, 0, 0, 2),
  (yX0_pageOf, cX0_pageOf, 3, some .int, 0, false, false, 1, 21, 2),
  (yX0_segmentOf, cX0_segmentOf, 2, some .int, 0, false, false, 0, 0, 2),
  (yX0_levelBy, cX0_levelBy, 8, some .int, 0, false, false, 1, 22, 3),
  (yX0_advance, cX0_advance, 7, none, 0, false, false, 3, 73, 5),
  (yX0_settle, cX0_settle, 7, none, 0, false, false, 2, 47, 5),
  (yX0_behindEnd, cX0_behindEnd, 5, some .int, 0, false, false, 1, 23, 3),
  (yX0_turnIsLast, cX0_turnIsLast, 3, some .boolean, 0, false, false, 0, 0, 3),
  (yX0_latchOff, cX0_latchOff, 4, some .boolean, 0, false, false, 0, 0, 2),
  (yX1_init, cX1_init, 1, none, 1, true, false, 1, 40, 1),
  (yX1_drawInto, cX1_drawInto, 6, none, 1, false, false, 4, 95, 4),
  (yX1_got, cX1_got, 3, some .int, 1, false, false, 0, 0, 2),
  (yX1_drawSegments, cX1_drawSegments, 5, none, 1, false, false, 3, 71, 2),
  (yX1_isEnough, cX1_isEnough, 1, some .boolean, 1, false, false, 0, 0, 1),
  (yX1_drawItem, cX1_drawItem, 3, none, 1, false, false, 3, 66, 3),
  (yX1_drawOpening, cX1_drawOpening, 3, none, 1, false, false, 2, 44, 3),
  (yX2_init, cX2_init, 1, none, 2, true, false, 1, 40, 1),
  (yX2_clear, cX2_clear, 1, none, 2, false, false, 0, 0, 1),
  (yX2_copyFrom, cX2_copyFrom, 2, none, 2, false, false, 1, 40, 2),
  (yX2_add, cX2_add, 4, none, 2, false, false, 1, 22, 3),
  (yX2_held, cX2_held, 1, some .int, 2, false, false, 1, 21, 1),
  (yX2_spotOf, cX2_spotOf, 2, some .int, 2, false, false, 2, 41, 2),
  (yX3_init, cX3_init, 1, none, 3, true, false, 1, 40, 1),
  (yX3_clear, cX3_clear, 1, none, 3, false, false, 0, 0, 1),
  (yX3_copyFrom, cX3_copyFrom, 2, none, 3, false, false, 1, 40, 2),
  (yX3_use, cX3_use, 4, some .boolean, 3, false, false, 1, 23, 2),
  (yX3_dropTo, cX3_dropTo, 4, none, 3, false, false, 0, 0, 2),
  (yX3_bringIn, cX3_bringIn, 5, none, 3, false, false, 2, 45, 3),
  (yX3_addToCache, cX3_addToCache, 3, none, 3, false, false, 1, 23, 3),
  (yX3_askFor, cX3_askFor, 4, none, 3, false, false, 1, 23, 3),
  (yX3_spotOf, cX3_spotOf, 4, some .int, 3, false, false, 0, 0, 3),
  (yX4_init, cX4_init, 1, none, 4, true, false, 2, 60, 1),
  (yX4_begin, cX4_begin, 2, none, 4, false, false, 3, 73, 2),
  (yX4_copyFrom, cX4_copyFrom, 2, none, 4, false, false, 2, 61, 2),
  (yX4_valueOf, cX4_valueOf, 2, some .int, 4, false, false, 1, 20, 2),
  (yX4_step, cX4_step, 2, none, 4, false, false, 5, 122, 2)]
def zmt_1 : List zM := [(yX4_playOne, cX4_playOne, 2, none, 4, false, false, 4, 99, 2),
  (yX4_logOut, cX4_logOut, 1, none, 4, false, false, 0, 0, 1),
  (yX4_askAhead, cX4_askAhead, 4, none, 4, false, false, 4, 99, 2),
  (yX5_init, cX5_init, 1, none, 5, true, false, 1, 40, 1),
  (yX5_clear, cX5_clear, 1, none, 5, false, false, 0, 0, 1),
  (yX5_addSegment, cX5_addSegment, 5, none, 5, false, false, 2, 47, 3),
  (yX5_firstPlace, cX5_firstPlace, 4, some .int, 5, false, false, 1, 24, 3),
  (yX5_fitsAt, cX5_fitsAt, 5, some .boolean, 5, false, false, 0, 0, 4),
  (yX5_levelOf, cX5_levelOf, 3, some .int, 5, false, false, 0, 0, 3),
  (yX5_levelsOfAll, cX5_levelsOfAll, 3, some .int, 5, false, false, 0, 0, 1),
  (yX5_segmentsFound, cX5_segmentsFound, 3, some .int, 5, false, false, 0, 0, 1),
  (yX5_pages, cX5_pages, 1, some .int, 5, false, false, 0, 0, 1),
  (yX6_init, cX6_init, 1, none, 6, true, false, 2, 60, 1),
  (yX6_clear, cX6_clear, 1, none, 6, false, false, 1, 20, 1),
  (yX6_isFull, cX6_isFull, 1, some .boolean, 6, false, false, 0, 0, 1),
  (yX6_isDeepest, cX6_isDeepest, 1, some .boolean, 6, false, false, 0, 0, 1),
  (yX6_addPlay, cX6_addPlay, 2, none, 6, false, false, 1, 22, 2),
  (yX6_addMark, cX6_addMark, 2, none, 6, false, false, 1, 22, 2),
  (yX6_addOpening, cX6_addOpening, 3, none, 6, false, false, 1, 22, 3),
  (yX6_addEnd, cX6_addEnd, 2, none, 6, false, false, 1, 22, 1),
  (yX6_openHasPlay, cX6_openHasPlay, 1, some .boolean, 6, false, false, 0, 0, 1),
  (yX6_addItem, cX6_addItem, 3, none, 6, false, false, 0, 0, 3),
  (yX6_grow, cX6_grow, 3, none, 6, false, false, 0, 0, 2),
  (yX6_lengthOf, cX6_lengthOf, 3, some .int, 6, false, false, 0, 0, 2),
  (yX6_unfoldedAt, cX6_unfoldedAt, 6, some .int, 6, false, false, 2, 43, 2),
  (yX6_unfoldedLength, cX6_unfoldedLength, 2, some .int, 6, false, false, 1, 22, 2),
  (yX6_behind, cX6_behind, 3, some .int, 6, false, false, 0, 0, 2),
  (yX6_withinTurn, cX6_withinTurn, 4, some .int, 6, false, false, 0, 0, 3),
  (yX6_segmentLength, cX6_segmentLength, 2, some .int, 6, false, false, 0, 0, 2),
  (yX7_init, cX7_init, 2, none, 7, true, false, 1, 40, 2),
  (yX7_readInto, cX7_readInto, 3, some .boolean, 7, false, false, 8, 169, 2),
  (yX7_take, cX7_take, 2, some .int, 7, false, false, 7, 148, 2),
  (yX7_takeHead, cX7_takeHead, 2, some .int, 7, false, false, 5, 107, 2),
  (yX7_takeLevel, cX7_takeLevel, 2, some .int, 7, false, false, 3, 71, 2),
  (yX7_takeItem, cX7_takeItem, 2, some .int, 7, false, false, 6, 127, 2),
  (yX7_kindNamed, cX7_kindNamed, 1, some .int, 7, false, false, 5, 107, 1),
  (yX7_takeEnd, cX7_takeEnd, 2, some .int, 7, false, false, 2, 43, 2),
  (yX7_takeNumber, cX7_takeNumber, 2, some .int, 7, false, false, 2, 43, 2),
  (yX7_greatest, cX7_greatest, 2, some .int, 7, false, false, 0, 0, 2),
  (yX7_takeOpening, cX7_takeOpening, 2, some .int, 7, false, false, 2, 44, 2)]
def zmt_2 : List zM := [(yX8_init, cX8_init, 1, none, 8, true, false, 1, 40, 1),
  (yX8_renew, cX8_renew, 4, none, 8, false, false, 0, 0, 3),
  (yX8_faultAt, cX8_faultAt, 3, some .int, 8, false, false, 0, 0, 3),
  (yX9_init, cX9_init, 1, none, 9, true, false, 1, 40, 1),
  (yX9_put, cX9_put, 2, some .boolean, 9, false, false, 0, 0, 2),
  (yX9_rewind, cX9_rewind, 1, none, 9, false, false, 0, 0, 1),
  (yX9_readToken, cX9_readToken, 1, none, 9, false, false, 2, 40, 1),
  (yX9_readOn, cX9_readOn, 1, none, 9, false, false, 1, 20, 1),
  (yX9_kindOf, cX9_kindOf, 1, some .int, 9, false, false, 0, 0, 1),
  (yX9_isSign, cX9_isSign, 2, some .boolean, 9, false, false, 0, 0, 2),
  (yX9_isName, cX9_isName, 3, some .boolean, 9, false, false, 4, 85, 2),
  (yX10_init, cX10_init, 2, none, 10, true, false, 3, 80, 1),
  (yX10_feed, cX10_feed, 2, some .int, 10, false, false, 1, 21, 2),
  (yX10_end, cX10_end, 3, some .int, 10, false, false, 0, 0, 2),
  (yX10_text, cX10_text, 3, some .int, 10, false, false, 9, 191, 1),
  (yX10_fault, cX10_fault, 1, some .int, 10, false, false, 0, 0, 1),
  (yX10_rule, cX10_rule, 2, some .int, 10, false, false, 1, 22, 2),
  (yX10_level, cX10_level, 2, some .int, 10, false, false, 0, 0, 2),
  (yX10_segment, cX10_segment, 3, some .int, 10, false, false, 0, 0, 3),
  (yX10_item, cX10_item, 3, some .int, 10, false, false, 0, 0, 3),
  (yX10_plain, cX10_plain, 2, some .int, 10, false, false, 3, 68, 2),
  (yX10_whole, cX10_whole, 2, some .int, 10, false, false, 0, 0, 1),
  (yX10_player, cX10_player, 2, some .int, 10, false, false, 2, 41, 2),
  (yX10_turns, cX10_turns, 2, some .int, 10, false, false, 0, 0, 2),
  (yX10_tick, cX10_tick, 3, some .int, 10, false, false, 6, 143, 2),
  (yX10_out, cX10_out, 2, some .int, 10, false, false, 1, 21, 2),
  (yX10_marked, cX10_marked, 4, some .int, 10, false, false, 3, 62, 3),
  (yX10_page, cX10_page, 4, some .int, 10, false, false, 0, 0, 3),
  (yX10_trigger, cX10_trigger, 2, some .int, 10, false, false, 1, 23, 2),
  (yX10_set, cX10_set, 5, some .int, 10, false, false, 1, 23, 3),
  (yX10_again, cX10_again, 1, some .int, 10, false, false, 4, 94, 1),
  (yX10_draw, cX10_draw, 3, some .int, 10, false, false, 5, 120, 3),
  (yX10_keep, cX10_keep, 3, some .int, 10, false, false, 3, 82, 2),
  (yX10_back, cX10_back, 2, some .int, 10, false, false, 3, 82, 2),
  (yX10_sheet, cX10_sheet, 4, some .int, 10, false, false, 1, 23, 4),
  (yX10_lay, cX10_lay, 6, some .int, 10, false, false, 1, 22, 4),
  (yX10_run, cX10_run, 6, some .int, 10, false, false, 6, 143, 5),
  (yX10_torn, cX10_torn, 1, some .int, 10, false, false, 0, 0, 1),
  (yX10_count, cX10_count, 2, some .int, 10, false, false, 0, 0, 2),
  (yX10_beginNew, cX10_beginNew, 2, none, 10, false, false, 4, 94, 1)]
def zmt_3 : List zM := [(yX10_latchByCell, cX10_latchByCell, 3, none, 10, false, true, 1, 23, 2),
  (yX10_isSetting, cX10_isSetting, 1, some .boolean, 10, false, false, 0, 0, 1),
  (yX10_isSheet, cX10_isSheet, 1, some .boolean, 10, false, false, 0, 0, 1),
  (yX10_isLane, cX10_isLane, 1, some .boolean, 10, false, false, 0, 0, 1),
  (yX11_init, cX11_init, 2, none, 11, true, false, 4, 90, 1),
  (yX11_in, cX11_in, 6, some .boolean, 11, false, true, 0, 0, 3),
  (yX11_flag, cX11_flag, 1, some .int, 11, false, false, 0, 0, 1),
  (yX11_feed, cX11_feed, 2, some .int, 11, false, false, 1, 25, 2),
  (yX11_end, cX11_end, 3, some .int, 11, false, false, 1, 25, 2),
  (yX11_requires, cX11_requires, 3, none, 11, false, false, 0, 0, 3),
  (yX11_byteAt, cX11_byteAt, 2, some .int, 11, false, false, 0, 0, 2),
  (yX11_is, cX11_is, 5, some .boolean, 11, false, false, 1, 21, 5),
  (yX11_isSeg, cX11_isSeg, 1, some .boolean, 11, false, false, 2, 45, 1),
  (yX11_isGo, cX11_isGo, 1, some .boolean, 11, false, false, 2, 45, 1),
  (yX11_kindNow, cX11_kindNow, 1, some .int, 11, false, false, 2, 45, 1),
  (yX11_reads, cX11_reads, 2, none, 11, false, false, 1, 25, 1),
  (yX11_isSign, cX11_isSign, 2, some .boolean, 11, false, false, 1, 21, 2),
  (yX11_readNumber, cX11_readNumber, 4, some .int, 11, false, false, 2, 46, 3),
  (yX11_readSign, cX11_readSign, 2, none, 11, false, false, 2, 46, 2),
  (yX11_readSegment, cX11_readSegment, 4, none, 11, false, false, 3, 69, 1),
  (yX11_itemComes, cX11_itemComes, 5, none, 11, false, false, 0, 0, 4),
  (yX11_endComes, cX11_endComes, 2, none, 11, false, false, 1, 24, 1),
  (yX11_loopComes, cX11_loopComes, 3, none, 11, false, false, 1, 24, 3),
  (yX11_readItem, cX11_readItem, 3, none, 11, false, false, 3, 69, 2),
  (yX11_readProgram, cX11_readProgram, 4, none, 11, false, false, 4, 91, 1),
  (yX11_text, cX11_text, 2, some .int, 11, false, false, 5, 114, 1),
  (yX11_takesDraft, cX11_takesDraft, 2, none, 11, false, false, 4, 90, 1),
  (yX11_fault, cX11_fault, 1, some .int, 11, false, false, 0, 0, 1),
  (yX11_many, cX11_many, 2, some .int, 11, false, false, 0, 0, 2),
  (yX11_levelOf, cX11_levelOf, 3, some .int, 11, false, false, 0, 0, 3),
  (yX11_alikeFrom, cX11_alikeFrom, 4, some .int, 11, false, false, 1, 22, 3),
  (yX11_pools, cX11_pools, 4, none, 11, false, false, 2, 45, 2),
  (yX11_levels, cX11_levels, 3, some .int, 11, false, false, 1, 21, 1),
  (yX11_shared, cX11_shared, 3, some .int, 11, false, false, 1, 20, 1),
  (yX11_rule, cX11_rule, 2, some .int, 11, false, false, 2, 43, 2),
  (yX11_level, cX11_level, 2, some .int, 11, false, false, 0, 0, 2),
  (yX11_segment, cX11_segment, 3, some .int, 11, false, false, 1, 25, 3),
  (yX11_isItem, cX11_isItem, 2, some .boolean, 11, false, false, 1, 25, 2),
  (yX11_ofItem, cX11_ofItem, 3, some .int, 11, false, false, 0, 0, 3),
  (yX11_item, cX11_item, 3, some .int, 11, false, false, 2, 46, 3)]
def zmt_4 : List zM := [(yX11_goesOn, cX11_goesOn, 3, none, 11, false, false, 0, 0, 2),
  (yX11_stays, cX11_stays, 2, none, 11, false, false, 0, 0, 1),
  (yX11_marks, cX11_marks, 3, none, 11, false, false, 0, 0, 2),
  (yX11_behindEnd, cX11_behindEnd, 5, some .int, 11, false, false, 1, 22, 2),
  (yX11_settles, cX11_settles, 4, none, 11, false, false, 2, 46, 2),
  (yX11_begins, cX11_begins, 2, none, 11, false, false, 3, 69, 1),
  (yX11_segmentAt, cX11_segmentAt, 1, some .int, 11, false, false, 1, 22, 1),
  (yX11_placeAt, cX11_placeAt, 1, some .int, 11, false, false, 2, 42, 1),
  (yX11_steps, cX11_steps, 1, none, 11, false, false, 3, 69, 1),
  (yX11_levelNow, cX11_levelNow, 6, some .int, 11, false, false, 2, 42, 1),
  (yX11_cachedAt, cX11_cachedAt, 3, some .int, 11, false, false, 0, 0, 2),
  (yX11_leaves, cX11_leaves, 3, none, 11, false, false, 0, 0, 2),
  (yX11_comes, cX11_comes, 2, none, 11, false, false, 1, 22, 2),
  (yX11_isAsked, cX11_isAsked, 4, some .boolean, 11, false, false, 0, 0, 2),
  (yX11_arrive, cX11_arrive, 4, none, 11, false, false, 2, 43, 1),
  (yX11_outs, cX11_outs, 2, none, 11, false, false, 0, 0, 2),
  (yX11_sounds, cX11_sounds, 3, none, 11, false, false, 4, 89, 1),
  (yX11_seeks, cX11_seeks, 2, none, 11, false, false, 4, 89, 1),
  (yX11_asks, cX11_asks, 2, none, 11, false, false, 5, 110, 1),
  (yX11_ticks, cX11_ticks, 1, none, 11, false, false, 6, 131, 1),
  (yX11_hasUntil, cX11_hasUntil, 3, some .boolean, 11, false, false, 1, 22, 1),
  (yX11_unfolds, cX11_unfolds, 2, none, 11, false, false, 3, 69, 1),
  (yX11_plain, cX11_plain, 3, some .int, 11, false, false, 4, 90, 2),
  (yX11_whole, cX11_whole, 5, some .int, 11, false, false, 2, 44, 1),
  (yX11_latchesOn, cX11_latchesOn, 1, some .int, 11, false, false, 0, 0, 1),
  (yX11_player, cX11_player, 2, some .int, 11, false, false, 1, 25, 2),
  (yX11_turns, cX11_turns, 2, some .int, 11, false, false, 2, 46, 2),
  (yX11_tick, cX11_tick, 3, some .int, 11, false, false, 7, 151, 2),
  (yX11_out, cX11_out, 2, some .int, 11, false, false, 0, 0, 2),
  (yX11_marked, cX11_marked, 3, some .int, 11, false, false, 1, 25, 3),
  (yX11_page, cX11_page, 3, some .int, 11, false, false, 1, 25, 3),
  (yX11_trigger, cX11_trigger, 3, some .int, 11, false, false, 1, 25, 2),
  (yX11_leastOf, cX11_leastOf, 1, some .int, 11, false, false, 0, 0, 1),
  (yX11_mostOf, cX11_mostOf, 1, some .int, 11, false, false, 0, 0, 1),
  (yX11_set, cX11_set, 4, some .int, 11, false, false, 1, 25, 3),
  (yX11_again, cX11_again, 1, some .int, 11, false, false, 4, 90, 1),
  (yX11_gets, cX11_gets, 1, some .int, 11, false, false, 0, 0, 1),
  (yX11_drawsItem, cX11_drawsItem, 3, none, 11, false, false, 2, 46, 2),
  (yX11_draw, cX11_draw, 6, some .int, 11, false, false, 5, 111, 3),
  (yX11_keep, cX11_keep, 4, some .int, 11, false, false, 1, 25, 2)]
def zmt_5 : List zM := [(yX11_back, cX11_back, 3, some .int, 11, false, false, 1, 25, 2),
  (yX11_isSheet, cX11_isSheet, 2, some .boolean, 11, false, false, 1, 25, 2),
  (yX11_sheet, cX11_sheet, 5, some .int, 11, false, false, 2, 46, 4),
  (yX11_lay, cX11_lay, 4, some .int, 11, false, false, 2, 46, 4),
  (yX11_run, cX11_run, 9, some .int, 11, false, true, 7, 151, 5),
  (yX11_torn, cX11_torn, 1, some .int, 11, false, false, 0, 0, 1),
  (yX11_count, cX11_count, 2, some .int, 11, false, false, 1, 20, 2),
  (yJ6_bitCount_0f7a4, cJ6_bitCount_0f7a4, 1, some .int, 17, false, false, 0, 0, 1),
  (yJ9_floorMod_7cf53, cJ9_floorMod_7cf53, 3, some .int, 16, false, false, 0, 0, 2),
  (yJ9_min_7cf53, cJ9_min_7cf53, 2, some .int, 16, false, false, 0, 0, 2),
  (yJ0_length_8abf5, cJ0_length_8abf5, 1, some .int, 13, false, false, 1, 20, 1),
  (yJ0_charAt_5068e, cJ0_charAt_5068e, 2, some .char, 13, false, false, 3, 64, 2),
  (yJ0_coder_7d493, cJ0_coder_7d493, 1, some .byte, 13, false, false, 0, 0, 1),
  (yJ0_isLatin1_aae02, cJ0_isLatin1_aae02, 1, some .boolean, 13, false, false, 0, 0, 1),
  (yJ0_checkIndex_df160, cJ0_checkIndex_df160, 2, none, 13, false, false, 1, 22, 2),
  (yJ1_charAt_3b067, cJ1_charAt_3b067, 2, some .char, 14, false, false, 2, 43, 2),
  (yJ3_checkIndex_8e157, cJ3_checkIndex_8e157, 3, some .int, 15, false, false, 0, 0, 3),
  (x, code, 4, some .boolean, 12, false, false, 13, 468, 1)]
def zmt : List zM := zmt_0 ++ (zmt_1 ++ (zmt_2 ++ (zmt_3 ++ (zmt_4 ++ (zmt_5)))))
def zmr (m : Nat) : zM := zmt.getD m (x, code, 4, some .boolean, 12, false, false, 13, 468, 1)
def zy (m : Nat) : MethodName := (zmr m).1
def zb (m : Nat) : ByteArray := (zmr m).2.1
def zL (m : Nat) : Nat := (zmr m).2.2.1
def zret (m : Nat) : Option FieldType := (zmr m).2.2.2.1
def zo (m : Nat) : Nat := (zmr m).2.2.2.2.1
def zin (m : Nat) : Bool := (zmr m).2.2.2.2.2.1
def zhl (m : Nat) : Bool := (zmr m).2.2.2.2.2.2.1
def zfr (m : Nat) : Nat := (zmr m).2.2.2.2.2.2.2.1
def zlo (m : Nat) : Nat := (zmr m).2.2.2.2.2.2.2.2.1
def zna (m : Nat) : Nat := (zmr m).2.2.2.2.2.2.2.2.2
def zon (o : Nat) : String := (["PooledWaves$Cursor", "PooledWaves$Drawer", "PooledWaves$MarkLog", "PooledWaves$Pages", "PooledWaves$Player", "PooledWaves$Pool", "PooledWaves$Program", "PooledWaves$Reader", "PooledWaves$Sheet", "PooledWaves$Tape", "PooledWaves", "PooledWavesModel", "PooledWavesLaw", "java/lang/String", "java/lang/StringLatin1", "jdk/internal/util/Preconditions", "java/lang/Math", "java/lang/Integer"] : List String).getD o ""
/-- the cells, by their number: (0, class), (1 int, 2 byte, 3 boolean, 4 long, 5 Player, 6 Sheet; length) -/
def zkL : List (Nat × Nat) := [(9, 0), (0, 10), (0, 9), (2, 300), (0, 7), (1, 16), (0, 1), (1, 16), (0, 4), (0, 0), (1, 24), (0, 3), (1, 6), (1, 16), (1, 16), (0, 2), (1, 40), (1, 40), (1, 200), (1, 5), (0, 0), (1, 24), (5, 2), (3, 2), (6, 4), (0, 6), (0, 5), (1, 128), (1, 8), (1, 8), (1, 8), (1, 24), (1, 24), (1, 24), (1, 24), (1, 24), (1, 4), (1, 5), (0, 6), (0, 5), (1, 128), (1, 8), (1, 8), (1, 8), (1, 24), (1, 24), (1, 24), (1, 24), (1, 24), (1, 4), (1, 5), (0, 4), (0, 0), (1, 24), (0, 3), (1, 6), (1, 16), (1, 16), (0, 2), (1, 40), (1, 40), (1, 200), (1, 5), (0, 0), (1, 24), (0, 4), (0, 0), (1, 24), (0, 3), (1, 6), (1, 16), (1, 16), (0, 2), (1, 40), (1, 40), (1, 200), (1, 5), (0, 0), (1, 24), (0, 8), (4, 30), (0, 8), (4, 30), (0, 8), (4, 30), (0, 8), (4, 30), (0, 11), (1, 234), (1, 234), (1, 128), (1, 8), (1, 8), (1, 392), (1, 784), (3, 2), (1, 300), (1, 4), (3, 4), (1, 392), (1, 18), (1, 4), (1, 4), (1, 120)]
def zslen : List Nat := [2, 3, 4, 4, 4, 5]
def zsbyt : List (List Int) := [[103, 111], [115, 101, 103], [112, 108, 97, 121], [109, 97, 114, 107], [108, 111, 111, 112], [117, 110, 116, 105, 108]]
def zkd (p : Nat) : Nat × Nat := if p ≤ 103 then zkL.getD p (9, 0) else if p = 899 then (1, 0) else if p = 900 ∨ p = 901 ∨ p = 902 then (1, 5) else if 1000 ≤ p ∧ p < 1000 + 6 then (0, 20) else if 1100 ≤ p ∧ p < 1100 + 6 then (2, zslen.getD (p - 1100) 0) else (9, 0)
abbrev zNP : Nat := 103
def znF (ci : Nat) : Nat := ([4, 3, 3, 5, 10, 6, 10, 8, 3, 6, 10, 29] : List Nat).getD ci 0
/-- a field: 0 int, 1 boolean, 2 reference -/
def zft (ci k : Nat) : Nat := (([[0, 0, 2, 0], [2, 0, 0], [2, 2, 0], [2, 0, 2, 2, 0], [2, 2, 2, 2, 2, 0, 0, 0, 0, 2], [2, 2, 2, 2, 0, 0], [2, 2, 2, 2, 2, 2, 0, 2, 0, 2], [2, 0, 0, 2, 0, 0, 0, 0], [2, 0, 0], [2, 0, 0, 0, 0, 0], [2, 2, 2, 2, 2, 2, 2, 2, 2, 0], [2, 2, 2, 0, 2, 2, 2, 2, 2, 2, 0, 0, 0, 0, 0, 0, 0, 2, 2, 0, 2, 1, 2, 0, 0, 2, 2, 2, 0]] : List (List Nat)).getD ci []).getD k 0
def zfin (ci k : Nat) : Bool := (([[false, false, true, false], [true, false, false], [true, true, false], [true, false, true, true, false], [true, true, true, true, true, false, false, false, false, true], [true, true, true, true, false, false], [true, true, true, true, true, true, false, true, false, true], [true, false, false, true, false, false, false, false], [true, false, false], [true, false, false, false, false, false], [true, true, true, true, true, true, true, false, false, false], [true, true, true, false, true, true, true, true, true, true, false, false, false, false, false, false, false, true, true, false, true, false, true, false, false, true, true, true, false]] : List (List Bool)).getD ci []).getD k false
def zflL : List (Nat × Nat × Nat × Nat × Nat) := [(0, 9, 0, 0, 0), (0, 15, 0, 2, 2), (0, 19, 0, 1, 0), (0, 22, 0, 3, 0), (0, 35, 6, 0, 2), (0, 41, 5, 1, 2), (0, 46, 6, 6, 0), (0, 49, 6, 2, 2), (0, 68, 6, 1, 2), (0, 81, 6, 3, 2), (1, 9, 1, 0, 2), (1, 15, 1, 2, 0), (1, 19, 1, 1, 0), (1, 27, 6, 0, 2), (1, 40, 6, 8, 0), (1, 58, 6, 6, 0), (2, 9, 2, 0, 2), (2, 15, 2, 1, 2), (2, 18, 2, 2, 0), (3, 9, 3, 0, 2), (3, 15, 3, 2, 2), (3, 18, 3, 3, 2), (3, 21, 3, 1, 0), (3, 25, 3, 4, 0), (4, 12, 4, 0, 2), (4, 21, 4, 1, 2), (4, 28, 4, 2, 2), (4, 32, 4, 3, 2), (4, 44, 4, 4, 2), (4, 47, 4, 9, 2), (4, 55, 4, 5, 0), (4, 59, 4, 6, 0), (4, 62, 4, 7, 0), (4, 65, 4, 8, 0), (4, 88, 0, 0, 0), (4, 91, 0, 1, 0), (4, 94, 2, 2, 0), (4, 97, 3, 1, 0), (4, 100, 3, 4, 0), (4, 103, 0, 3, 0), (4, 145, 6, 0, 2), (5, 9, 5, 0, 2), (5, 15, 5, 1, 2), (5, 18, 5, 2, 2), (5, 21, 5, 3, 2), (5, 24, 5, 4, 0), (5, 28, 5, 5, 0), (6, 12, 6, 0, 2), (6, 18, 6, 1, 2), (6, 22, 6, 2, 2), (6, 25, 6, 3, 2), (6, 28, 6, 4, 2), (6, 31, 6, 5, 2), (6, 34, 6, 7, 2), (6, 37, 6, 9, 2), (6, 43, 6, 6, 0), (6, 47, 6, 8, 0), (6, 50, 5, 5, 0), (6, 61, 5, 2, 2), (7, 9, 7, 3, 2), (7, 15, 7, 0, 2), (7, 29, 7, 7, 0), (7, 36, 9, 2, 0), (7, 43, 7, 1, 0), (7, 46, 9, 3, 0), (7, 49, 7, 2, 0), (7, 52, 6, 0, 2), (7, 80, 5, 5, 0), (7, 85, 7, 4, 0), (7, 96, 9, 5, 0), (7, 102, 6, 8, 0), (7, 109, 7, 5, 0), (7, 130, 7, 6, 0), (8, 9, 8, 0, 2), (8, 15, 8, 2, 0), (8, 19, 8, 1, 0), (9, 9, 9, 0, 2), (9, 15, 9, 1, 0), (9, 19, 9, 4, 0), (9, 22, 9, 3, 0), (9, 29, 9, 2, 0), (9, 35, 9, 5, 0), (10, 12, 10, 0, 2), (10, 21, 10, 1, 2), (10, 28, 10, 2, 2), (10, 35, 10, 3, 2), (10, 39, 10, 4, 2), (10, 43, 10, 5, 2), (10, 49, 10, 6, 2), (10, 56, 10, 7, 2), (10, 60, 10, 8, 2), (10, 68, 9, 1, 0), (10, 76, 7, 2, 0), (10, 82, 6, 6, 0), (10, 85, 7, 1, 0), (10, 88, 6, 0, 2), (10, 92, 5, 5, 0), (10, 97, 5, 4, 0), (10, 113, 4, 4, 2), (10, 117, 5, 0, 2), (10, 120, 5, 1, 2), (10, 123, 5, 2, 2), (10, 125, 5, 3, 2), (10, 128, 6, 1, 2), (10, 131, 6, 2, 2), (10, 134, 6, 3, 2), (10, 137, 6, 4, 2), (10, 144, 6, 9, 2), (10, 151, 4, 0, 2), (10, 155, 0, 2, 2), (10, 164, 4, 8, 0), (10, 167, 4, 5, 0), (10, 176, 4, 3, 2), (10, 179, 4, 2, 2), (10, 191, 2, 0, 2), (10, 194, 2, 1, 2), (10, 197, 4, 1, 2), (10, 200, 3, 1, 0), (10, 205, 3, 4, 0), (10, 208, 3, 0, 2), (10, 211, 3, 2, 2), (10, 214, 3, 3, 2), (10, 233, 0, 0, 0), (10, 244, 4, 7, 0), (10, 257, 8, 1, 0), (10, 263, 8, 0, 2), (10, 267, 10, 9, 0), (10, 274, 8, 2, 0), (11, 7, 11, 0, 2), (11, 13, 11, 1, 2), (11, 16, 11, 2, 2), (11, 19, 11, 4, 2), (11, 22, 11, 5, 2), (11, 25, 11, 6, 2), (11, 28, 11, 7, 2), (11, 31, 11, 8, 2), (11, 35, 11, 9, 2), (11, 38, 11, 17, 2), (11, 41, 11, 18, 2), (11, 44, 11, 20, 2), (11, 47, 11, 22, 2), (11, 50, 11, 25, 2), (11, 53, 11, 26, 2), (11, 56, 11, 27, 2), (11, 68, 11, 10, 0), (11, 72, 11, 15, 0), (11, 75, 11, 12, 0), (11, 78, 11, 16, 0), (11, 81, 11, 13, 0), (11, 84, 11, 11, 0), (11, 103, 11, 14, 0), (11, 125, 11, 19, 0), (11, 162, 11, 3, 0), (11, 195, 11, 21, 1), (11, 239, 11, 23, 0), (11, 287, 11, 24, 0), (11, 305, 11, 28, 0), (13, 9, 20, 0, 2), (13, 15, 20, 1, 0)]
def zfl (o i : Nat) : Option (Nat × Nat × Nat) := (zflL.find? (fun e => e.1 == o && e.2.1 == i)).map (fun e => e.2.2)
def zmlL : List (Nat × Nat × Nat × Nat) := [(0, 3, 10, 0), (0, 25, 11, 0), (0, 31, 0, 6), (0, 52, 0, 48), (0, 56, 0, 68), (0, 60, 0, 3), (0, 64, 0, 9), (0, 71, 0, 23), (0, 77, 0, 10), (0, 84, 0, 11), (0, 88, 0, 12), (1, 3, 10, 0), (1, 22, 0, 53), (1, 31, 0, 16), (1, 36, 1, 17), (1, 43, 0, 15), (1, 47, 0, 18), (1, 52, 0, 45), (1, 61, 0, 56), (1, 65, 0, 57), (1, 68, 0, 19), (1, 71, 0, 59), (1, 74, 0, 55), (1, 78, 0, 58), (2, 3, 10, 0), (2, 22, 11, 0), (2, 28, 1, 208), (2, 34, 1, 209), (2, 37, 0, 24), (3, 3, 10, 0), (3, 28, 11, 0), (3, 34, 1, 34), (3, 38, 0, 32), (3, 42, 0, 30), (4, 3, 10, 0), (4, 11, 3, 0), (4, 20, 3, 26), (4, 27, 3, 20), (4, 39, 12, 0), (4, 50, 0, 1), (4, 53, 0, 27), (4, 54, 0, 21), (4, 68, 0, 9), (4, 72, 0, 2), (4, 76, 0, 28), (4, 79, 0, 22), (4, 82, 11, 0), (4, 106, 1, 207), (4, 112, 0, 31), (4, 116, 0, 3), (4, 120, 0, 40), (4, 124, 0, 42), (4, 127, 0, 5), (4, 131, 0, 29), (4, 135, 0, 7), (4, 139, 0, 41), (4, 142, 0, 8), (4, 151, 0, 51), (4, 156, 0, 33), (5, 3, 10, 0), (5, 31, 0, 46), (5, 35, 1, 209), (5, 41, 11, 0), (5, 47, 0, 47), (6, 3, 10, 0), (6, 11, 3, 43), (6, 40, 0, 44), (6, 53, 0, 54), (6, 57, 0, 61), (6, 64, 0, 62), (6, 68, 0, 55), (6, 71, 0, 63), (6, 76, 0, 65), (6, 79, 0, 66), (6, 82, 0, 48), (6, 86, 0, 67), (6, 89, 0, 68), (7, 3, 10, 0), (7, 19, 0, 53), (7, 24, 0, 85), (7, 33, 0, 86), (7, 39, 0, 71), (7, 56, 0, 72), (7, 60, 0, 73), (7, 63, 0, 74), (7, 66, 0, 77), (7, 69, 0, 79), (7, 74, 0, 90), (7, 88, 0, 89), (7, 92, 0, 45), (7, 99, 0, 76), (7, 105, 0, 75), (7, 112, 0, 54), (7, 124, 0, 60), (7, 127, 0, 59), (7, 133, 0, 78), (7, 136, 0, 56), (7, 140, 0, 57), (7, 143, 0, 55), (7, 146, 0, 58), (8, 3, 10, 0), (9, 3, 10, 0), (9, 25, 1, 88), (9, 32, 0, 87), (9, 39, 0, 210), (9, 44, 0, 211), (10, 3, 10, 0), (10, 11, 3, 83), (10, 18, 2, 69), (10, 27, 3, 13), (10, 34, 3, 35), (10, 55, 3, 52), (10, 63, 3, 80), (10, 64, 0, 84), (10, 72, 0, 70), (10, 79, 0, 119), (10, 100, 0, 49), (10, 104, 0, 50), (10, 107, 0, 51), (10, 110, 1, 121), (10, 140, 0, 64), (10, 148, 0, 38), (10, 160, 0, 39), (10, 170, 1, 209), (10, 183, 0, 24), (10, 188, 0, 25), (10, 217, 0, 4), (10, 226, 0, 30), (10, 230, 0, 36), (10, 236, 0, 14), (10, 240, 0, 37), (10, 247, 1, 122), (10, 250, 1, 123), (10, 253, 0, 81), (10, 260, 0, 82), (10, 270, 0, 120), (11, 1, 10, 0), (11, 59, 0, 165), (11, 64, 1, 125), (11, 87, 0, 130), (11, 91, 0, 131), (11, 106, 0, 129), (11, 110, 0, 135), (11, 113, 0, 136), (11, 117, 0, 137), (11, 121, 0, 138), (11, 128, 0, 140), (11, 132, 0, 142), (11, 136, 0, 134), (11, 140, 0, 141), (11, 143, 0, 143), (11, 146, 0, 132), (11, 150, 0, 139), (11, 153, 0, 133), (11, 156, 0, 144), (11, 159, 0, 146), (11, 165, 0, 151), (11, 168, 0, 148), (11, 171, 0, 149), (11, 174, 0, 150), (11, 177, 1, 126), (11, 181, 0, 152), (11, 184, 0, 153), (11, 187, 0, 157), (11, 192, 0, 158), (11, 199, 0, 162), (11, 202, 0, 163), (11, 205, 0, 160), (11, 209, 0, 164), (11, 212, 0, 161), (11, 215, 0, 166), (11, 218, 0, 171), (11, 221, 0, 172), (11, 224, 0, 167), (11, 227, 0, 170), (11, 230, 0, 175), (11, 233, 0, 169), (11, 236, 0, 168), (11, 242, 0, 177), (11, 245, 0, 173), (11, 248, 0, 174), (11, 251, 0, 176), (11, 254, 0, 178), (11, 259, 0, 181), (11, 262, 0, 180), (11, 267, 0, 184), (11, 272, 0, 179), (11, 281, 1, 192), (11, 284, 1, 193), (11, 291, 0, 196), (11, 296, 0, 197), (11, 299, 1, 201), (12, 9, 2, 91), (12, 12, 2, 124), (12, 13, 0, 92), (12, 17, 0, 127), (12, 18, 0, 93), (12, 21, 0, 128), (12, 22, 0, 94), (12, 26, 0, 145), (12, 27, 0, 95), (12, 30, 0, 147), (12, 31, 0, 96), (12, 34, 0, 154), (12, 35, 0, 97), (12, 38, 0, 155), (12, 39, 0, 98), (12, 43, 0, 156), (12, 44, 0, 99), (12, 47, 0, 159), (12, 48, 0, 100), (12, 51, 0, 182), (12, 52, 0, 101), (12, 55, 0, 183), (12, 56, 0, 102), (12, 59, 0, 185), (12, 60, 0, 103), (12, 63, 0, 186), (12, 64, 0, 104), (12, 67, 0, 187), (12, 68, 0, 105), (12, 71, 0, 188), (12, 72, 0, 106), (12, 75, 0, 189), (12, 76, 0, 107), (12, 79, 0, 190), (12, 80, 0, 108), (12, 83, 0, 191), (12, 84, 0, 109), (12, 87, 0, 194), (12, 88, 0, 110), (12, 91, 0, 195), (12, 92, 0, 111), (12, 95, 0, 198), (12, 96, 0, 112), (12, 99, 0, 199), (12, 100, 0, 113), (12, 103, 0, 200), (12, 104, 0, 114), (12, 108, 0, 202), (12, 109, 0, 115), (12, 112, 0, 203), (12, 113, 0, 116), (12, 117, 0, 204), (12, 118, 0, 117), (12, 121, 0, 205), (12, 122, 0, 118), (12, 125, 0, 206), (13, 335, 0, 212), (13, 492, 0, 213), (13, 495, 1, 215), (13, 1059, 1, 216), (14, 9, 1, 214)]
def zml (o i : Nat) : Option (Nat × Nat) := (zmlL.find? (fun e => e.1 == o && e.2.1 == i)).map (fun e => e.2.2)
def zctL : List (Nat × Nat × Int) := [(1, 35, 1000000), (1, 51, 1103515245), (6, 75, 2147483647), (9, 38, 65535), (10, 147, 2147483647), (11, 290, 1103515245), (17, 265, 1431655765), (17, 266, 858993459), (17, 267, 252645135)]
def zct (o i : Nat) : Option (Int) := (zctL.find? (fun e => e.1 == o && e.2.1 == i)).map (fun e => e.2.2)
def zclL : List (Nat × Nat × Int) := [(10, 275, 4), (11, 62, 127), (11, 95, 97), (11, 97, 122), (11, 99, 48), (11, 101, 57), (11, 190, 3), (11, 257, 9999), (11, 265, 9), (11, 270, 30), (11, 275, 2), (11, 277, 6), (11, 279, 10), (11, 294, 8), (11, 303, 20)]
def zcl (o i : Nat) : Option (Int) := (zclL.find? (fun e => e.1 == o && e.2.1 == i)).map (fun e => e.2.2)
def zstL : List (Nat × Nat × Nat) := [(7, 72, 0), (7, 78, 1), (7, 116, 2), (7, 118, 3), (7, 120, 4), (7, 122, 5)]
def zst (o i : Nat) : Option (Nat) := (zstL.find? (fun e => e.1 == o && e.2.1 == i)).map (fun e => e.2.2)
def zgsL : List (Nat × Nat × Int) := [(4, 36, (900)), (10, 220, (901)), (10, 223, (902)), (13, 38, (-1)), (13, 1053, (1200))]
def zgs (o i : Nat) : Option (Int) := (zgsL.find? (fun e => e.1 == o && e.2.1 == i)).map (fun e => e.2.2)
def zcnL : List (Nat × Nat × Nat) := [(4, 9, 0), (4, 18, 3), (4, 25, 2), (4, 40, 30), (6, 9, 5), (10, 9, 9), (10, 16, 7), (10, 25, 1), (10, 32, 4), (10, 47, 8), (10, 53, 6), (12, 7, 10), (12, 10, 11)]
def zcn (o i : Nat) : Option (Nat) := (zcnL.find? (fun e => e.1 == o && e.2.1 == i)).map (fun e => e.2.2)
theorem zfl_0_9 : zfl 0 9 = some (0, 0, 0) := by decide +kernel
theorem zfl_0_15 : zfl 0 15 = some (0, 2, 2) := by decide +kernel
theorem zfl_0_19 : zfl 0 19 = some (0, 1, 0) := by decide +kernel
theorem zfl_0_22 : zfl 0 22 = some (0, 3, 0) := by decide +kernel
theorem zfl_0_35 : zfl 0 35 = some (6, 0, 2) := by decide +kernel
theorem zfl_0_41 : zfl 0 41 = some (5, 1, 2) := by decide +kernel
theorem zfl_0_46 : zfl 0 46 = some (6, 6, 0) := by decide +kernel
theorem zfl_0_49 : zfl 0 49 = some (6, 2, 2) := by decide +kernel
theorem zfl_0_68 : zfl 0 68 = some (6, 1, 2) := by decide +kernel
theorem zfl_0_81 : zfl 0 81 = some (6, 3, 2) := by decide +kernel
theorem zfl_1_9 : zfl 1 9 = some (1, 0, 2) := by decide +kernel
theorem zfl_1_15 : zfl 1 15 = some (1, 2, 0) := by decide +kernel
theorem zfl_1_19 : zfl 1 19 = some (1, 1, 0) := by decide +kernel
theorem zfl_1_27 : zfl 1 27 = some (6, 0, 2) := by decide +kernel
theorem zfl_1_40 : zfl 1 40 = some (6, 8, 0) := by decide +kernel
theorem zfl_1_58 : zfl 1 58 = some (6, 6, 0) := by decide +kernel
theorem zfl_2_9 : zfl 2 9 = some (2, 0, 2) := by decide +kernel
theorem zfl_2_15 : zfl 2 15 = some (2, 1, 2) := by decide +kernel
theorem zfl_2_18 : zfl 2 18 = some (2, 2, 0) := by decide +kernel
theorem zfl_3_9 : zfl 3 9 = some (3, 0, 2) := by decide +kernel
theorem zfl_3_15 : zfl 3 15 = some (3, 2, 2) := by decide +kernel
theorem zfl_3_18 : zfl 3 18 = some (3, 3, 2) := by decide +kernel
theorem zfl_3_21 : zfl 3 21 = some (3, 1, 0) := by decide +kernel
theorem zfl_3_25 : zfl 3 25 = some (3, 4, 0) := by decide +kernel
theorem zfl_4_12 : zfl 4 12 = some (4, 0, 2) := by decide +kernel
theorem zfl_4_21 : zfl 4 21 = some (4, 1, 2) := by decide +kernel
theorem zfl_4_28 : zfl 4 28 = some (4, 2, 2) := by decide +kernel
theorem zfl_4_32 : zfl 4 32 = some (4, 3, 2) := by decide +kernel
theorem zfl_4_44 : zfl 4 44 = some (4, 4, 2) := by decide +kernel
theorem zfl_4_47 : zfl 4 47 = some (4, 9, 2) := by decide +kernel
theorem zfl_4_55 : zfl 4 55 = some (4, 5, 0) := by decide +kernel
theorem zfl_4_59 : zfl 4 59 = some (4, 6, 0) := by decide +kernel
theorem zfl_4_62 : zfl 4 62 = some (4, 7, 0) := by decide +kernel
theorem zfl_4_65 : zfl 4 65 = some (4, 8, 0) := by decide +kernel
theorem zfl_4_88 : zfl 4 88 = some (0, 0, 0) := by decide +kernel
theorem zfl_4_91 : zfl 4 91 = some (0, 1, 0) := by decide +kernel
theorem zfl_4_94 : zfl 4 94 = some (2, 2, 0) := by decide +kernel
theorem zfl_4_97 : zfl 4 97 = some (3, 1, 0) := by decide +kernel
theorem zfl_4_100 : zfl 4 100 = some (3, 4, 0) := by decide +kernel
theorem zfl_4_103 : zfl 4 103 = some (0, 3, 0) := by decide +kernel
theorem zfl_4_145 : zfl 4 145 = some (6, 0, 2) := by decide +kernel
theorem zfl_5_9 : zfl 5 9 = some (5, 0, 2) := by decide +kernel
theorem zfl_5_15 : zfl 5 15 = some (5, 1, 2) := by decide +kernel
theorem zfl_5_18 : zfl 5 18 = some (5, 2, 2) := by decide +kernel
theorem zfl_5_21 : zfl 5 21 = some (5, 3, 2) := by decide +kernel
theorem zfl_5_24 : zfl 5 24 = some (5, 4, 0) := by decide +kernel
theorem zfl_5_28 : zfl 5 28 = some (5, 5, 0) := by decide +kernel
theorem zfl_6_12 : zfl 6 12 = some (6, 0, 2) := by decide +kernel
theorem zfl_6_18 : zfl 6 18 = some (6, 1, 2) := by decide +kernel
theorem zfl_6_22 : zfl 6 22 = some (6, 2, 2) := by decide +kernel
theorem zfl_6_25 : zfl 6 25 = some (6, 3, 2) := by decide +kernel
theorem zfl_6_28 : zfl 6 28 = some (6, 4, 2) := by decide +kernel
theorem zfl_6_31 : zfl 6 31 = some (6, 5, 2) := by decide +kernel
theorem zfl_6_34 : zfl 6 34 = some (6, 7, 2) := by decide +kernel
theorem zfl_6_37 : zfl 6 37 = some (6, 9, 2) := by decide +kernel
theorem zfl_6_43 : zfl 6 43 = some (6, 6, 0) := by decide +kernel
theorem zfl_6_47 : zfl 6 47 = some (6, 8, 0) := by decide +kernel
theorem zfl_6_50 : zfl 6 50 = some (5, 5, 0) := by decide +kernel
theorem zfl_6_61 : zfl 6 61 = some (5, 2, 2) := by decide +kernel
theorem zfl_7_9 : zfl 7 9 = some (7, 3, 2) := by decide +kernel
theorem zfl_7_15 : zfl 7 15 = some (7, 0, 2) := by decide +kernel
theorem zfl_7_29 : zfl 7 29 = some (7, 7, 0) := by decide +kernel
theorem zfl_7_36 : zfl 7 36 = some (9, 2, 0) := by decide +kernel
theorem zfl_7_43 : zfl 7 43 = some (7, 1, 0) := by decide +kernel
theorem zfl_7_46 : zfl 7 46 = some (9, 3, 0) := by decide +kernel
theorem zfl_7_49 : zfl 7 49 = some (7, 2, 0) := by decide +kernel
theorem zfl_7_52 : zfl 7 52 = some (6, 0, 2) := by decide +kernel
theorem zfl_7_80 : zfl 7 80 = some (5, 5, 0) := by decide +kernel
theorem zfl_7_85 : zfl 7 85 = some (7, 4, 0) := by decide +kernel
theorem zfl_7_96 : zfl 7 96 = some (9, 5, 0) := by decide +kernel
theorem zfl_7_102 : zfl 7 102 = some (6, 8, 0) := by decide +kernel
theorem zfl_7_109 : zfl 7 109 = some (7, 5, 0) := by decide +kernel
theorem zfl_7_130 : zfl 7 130 = some (7, 6, 0) := by decide +kernel
theorem zfl_8_9 : zfl 8 9 = some (8, 0, 2) := by decide +kernel
theorem zfl_8_15 : zfl 8 15 = some (8, 2, 0) := by decide +kernel
theorem zfl_8_19 : zfl 8 19 = some (8, 1, 0) := by decide +kernel
theorem zfl_9_9 : zfl 9 9 = some (9, 0, 2) := by decide +kernel
theorem zfl_9_15 : zfl 9 15 = some (9, 1, 0) := by decide +kernel
theorem zfl_9_19 : zfl 9 19 = some (9, 4, 0) := by decide +kernel
theorem zfl_9_22 : zfl 9 22 = some (9, 3, 0) := by decide +kernel
theorem zfl_9_29 : zfl 9 29 = some (9, 2, 0) := by decide +kernel
theorem zfl_9_35 : zfl 9 35 = some (9, 5, 0) := by decide +kernel
theorem zfl_10_12 : zfl 10 12 = some (10, 0, 2) := by decide +kernel
theorem zfl_10_21 : zfl 10 21 = some (10, 1, 2) := by decide +kernel
theorem zfl_10_28 : zfl 10 28 = some (10, 2, 2) := by decide +kernel
theorem zfl_10_35 : zfl 10 35 = some (10, 3, 2) := by decide +kernel
theorem zfl_10_39 : zfl 10 39 = some (10, 4, 2) := by decide +kernel
theorem zfl_10_43 : zfl 10 43 = some (10, 5, 2) := by decide +kernel
theorem zfl_10_49 : zfl 10 49 = some (10, 6, 2) := by decide +kernel
theorem zfl_10_56 : zfl 10 56 = some (10, 7, 2) := by decide +kernel
theorem zfl_10_60 : zfl 10 60 = some (10, 8, 2) := by decide +kernel
theorem zfl_10_68 : zfl 10 68 = some (9, 1, 0) := by decide +kernel
theorem zfl_10_76 : zfl 10 76 = some (7, 2, 0) := by decide +kernel
theorem zfl_10_82 : zfl 10 82 = some (6, 6, 0) := by decide +kernel
theorem zfl_10_85 : zfl 10 85 = some (7, 1, 0) := by decide +kernel
theorem zfl_10_88 : zfl 10 88 = some (6, 0, 2) := by decide +kernel
theorem zfl_10_92 : zfl 10 92 = some (5, 5, 0) := by decide +kernel
theorem zfl_10_97 : zfl 10 97 = some (5, 4, 0) := by decide +kernel
theorem zfl_10_113 : zfl 10 113 = some (4, 4, 2) := by decide +kernel
theorem zfl_10_117 : zfl 10 117 = some (5, 0, 2) := by decide +kernel
theorem zfl_10_120 : zfl 10 120 = some (5, 1, 2) := by decide +kernel
theorem zfl_10_123 : zfl 10 123 = some (5, 2, 2) := by decide +kernel
theorem zfl_10_125 : zfl 10 125 = some (5, 3, 2) := by decide +kernel
theorem zfl_10_128 : zfl 10 128 = some (6, 1, 2) := by decide +kernel
theorem zfl_10_131 : zfl 10 131 = some (6, 2, 2) := by decide +kernel
theorem zfl_10_134 : zfl 10 134 = some (6, 3, 2) := by decide +kernel
theorem zfl_10_137 : zfl 10 137 = some (6, 4, 2) := by decide +kernel
theorem zfl_10_144 : zfl 10 144 = some (6, 9, 2) := by decide +kernel
theorem zfl_10_151 : zfl 10 151 = some (4, 0, 2) := by decide +kernel
theorem zfl_10_155 : zfl 10 155 = some (0, 2, 2) := by decide +kernel
theorem zfl_10_164 : zfl 10 164 = some (4, 8, 0) := by decide +kernel
theorem zfl_10_167 : zfl 10 167 = some (4, 5, 0) := by decide +kernel
theorem zfl_10_176 : zfl 10 176 = some (4, 3, 2) := by decide +kernel
theorem zfl_10_179 : zfl 10 179 = some (4, 2, 2) := by decide +kernel
theorem zfl_10_191 : zfl 10 191 = some (2, 0, 2) := by decide +kernel
theorem zfl_10_194 : zfl 10 194 = some (2, 1, 2) := by decide +kernel
theorem zfl_10_197 : zfl 10 197 = some (4, 1, 2) := by decide +kernel
theorem zfl_10_200 : zfl 10 200 = some (3, 1, 0) := by decide +kernel
theorem zfl_10_205 : zfl 10 205 = some (3, 4, 0) := by decide +kernel
theorem zfl_10_208 : zfl 10 208 = some (3, 0, 2) := by decide +kernel
theorem zfl_10_211 : zfl 10 211 = some (3, 2, 2) := by decide +kernel
theorem zfl_10_214 : zfl 10 214 = some (3, 3, 2) := by decide +kernel
theorem zfl_10_233 : zfl 10 233 = some (0, 0, 0) := by decide +kernel
theorem zfl_10_244 : zfl 10 244 = some (4, 7, 0) := by decide +kernel
theorem zfl_10_257 : zfl 10 257 = some (8, 1, 0) := by decide +kernel
theorem zfl_10_263 : zfl 10 263 = some (8, 0, 2) := by decide +kernel
theorem zfl_10_267 : zfl 10 267 = some (10, 9, 0) := by decide +kernel
theorem zfl_10_274 : zfl 10 274 = some (8, 2, 0) := by decide +kernel
theorem zfl_11_7 : zfl 11 7 = some (11, 0, 2) := by decide +kernel
theorem zfl_11_13 : zfl 11 13 = some (11, 1, 2) := by decide +kernel
theorem zfl_11_16 : zfl 11 16 = some (11, 2, 2) := by decide +kernel
theorem zfl_11_19 : zfl 11 19 = some (11, 4, 2) := by decide +kernel
theorem zfl_11_22 : zfl 11 22 = some (11, 5, 2) := by decide +kernel
theorem zfl_11_25 : zfl 11 25 = some (11, 6, 2) := by decide +kernel
theorem zfl_11_28 : zfl 11 28 = some (11, 7, 2) := by decide +kernel
theorem zfl_11_31 : zfl 11 31 = some (11, 8, 2) := by decide +kernel
theorem zfl_11_35 : zfl 11 35 = some (11, 9, 2) := by decide +kernel
theorem zfl_11_38 : zfl 11 38 = some (11, 17, 2) := by decide +kernel
theorem zfl_11_41 : zfl 11 41 = some (11, 18, 2) := by decide +kernel
theorem zfl_11_44 : zfl 11 44 = some (11, 20, 2) := by decide +kernel
theorem zfl_11_47 : zfl 11 47 = some (11, 22, 2) := by decide +kernel
theorem zfl_11_50 : zfl 11 50 = some (11, 25, 2) := by decide +kernel
theorem zfl_11_53 : zfl 11 53 = some (11, 26, 2) := by decide +kernel
theorem zfl_11_56 : zfl 11 56 = some (11, 27, 2) := by decide +kernel
theorem zfl_11_68 : zfl 11 68 = some (11, 10, 0) := by decide +kernel
theorem zfl_11_72 : zfl 11 72 = some (11, 15, 0) := by decide +kernel
theorem zfl_11_75 : zfl 11 75 = some (11, 12, 0) := by decide +kernel
theorem zfl_11_78 : zfl 11 78 = some (11, 16, 0) := by decide +kernel
theorem zfl_11_81 : zfl 11 81 = some (11, 13, 0) := by decide +kernel
theorem zfl_11_84 : zfl 11 84 = some (11, 11, 0) := by decide +kernel
theorem zfl_11_103 : zfl 11 103 = some (11, 14, 0) := by decide +kernel
theorem zfl_11_125 : zfl 11 125 = some (11, 19, 0) := by decide +kernel
theorem zfl_11_162 : zfl 11 162 = some (11, 3, 0) := by decide +kernel
theorem zfl_11_195 : zfl 11 195 = some (11, 21, 1) := by decide +kernel
theorem zfl_11_239 : zfl 11 239 = some (11, 23, 0) := by decide +kernel
theorem zfl_11_287 : zfl 11 287 = some (11, 24, 0) := by decide +kernel
theorem zfl_11_305 : zfl 11 305 = some (11, 28, 0) := by decide +kernel
theorem zfl_13_9 : zfl 13 9 = some (20, 0, 2) := by decide +kernel
theorem zfl_13_15 : zfl 13 15 = some (20, 1, 0) := by decide +kernel
theorem zml_0_3 : zml 0 3 = some (10, 0) := by decide +kernel
theorem zml_0_25 : zml 0 25 = some (11, 0) := by decide +kernel
theorem zml_0_31 : zml 0 31 = some (0, 6) := by decide +kernel
theorem zml_0_52 : zml 0 52 = some (0, 48) := by decide +kernel
theorem zml_0_56 : zml 0 56 = some (0, 68) := by decide +kernel
theorem zml_0_60 : zml 0 60 = some (0, 3) := by decide +kernel
theorem zml_0_64 : zml 0 64 = some (0, 9) := by decide +kernel
theorem zml_0_71 : zml 0 71 = some (0, 23) := by decide +kernel
theorem zml_0_77 : zml 0 77 = some (0, 10) := by decide +kernel
theorem zml_0_84 : zml 0 84 = some (0, 11) := by decide +kernel
theorem zml_0_88 : zml 0 88 = some (0, 12) := by decide +kernel
theorem zml_1_3 : zml 1 3 = some (10, 0) := by decide +kernel
theorem zml_1_22 : zml 1 22 = some (0, 53) := by decide +kernel
theorem zml_1_31 : zml 1 31 = some (0, 16) := by decide +kernel
theorem zml_1_36 : zml 1 36 = some (1, 17) := by decide +kernel
theorem zml_1_43 : zml 1 43 = some (0, 15) := by decide +kernel
theorem zml_1_47 : zml 1 47 = some (0, 18) := by decide +kernel
theorem zml_1_52 : zml 1 52 = some (0, 45) := by decide +kernel
theorem zml_1_61 : zml 1 61 = some (0, 56) := by decide +kernel
theorem zml_1_65 : zml 1 65 = some (0, 57) := by decide +kernel
theorem zml_1_68 : zml 1 68 = some (0, 19) := by decide +kernel
theorem zml_1_71 : zml 1 71 = some (0, 59) := by decide +kernel
theorem zml_1_74 : zml 1 74 = some (0, 55) := by decide +kernel
theorem zml_1_78 : zml 1 78 = some (0, 58) := by decide +kernel
theorem zml_2_3 : zml 2 3 = some (10, 0) := by decide +kernel
theorem zml_2_22 : zml 2 22 = some (11, 0) := by decide +kernel
theorem zml_2_28 : zml 2 28 = some (1, 208) := by decide +kernel
theorem zml_2_34 : zml 2 34 = some (1, 209) := by decide +kernel
theorem zml_2_37 : zml 2 37 = some (0, 24) := by decide +kernel
theorem zml_3_3 : zml 3 3 = some (10, 0) := by decide +kernel
theorem zml_3_28 : zml 3 28 = some (11, 0) := by decide +kernel
theorem zml_3_34 : zml 3 34 = some (1, 34) := by decide +kernel
theorem zml_3_38 : zml 3 38 = some (0, 32) := by decide +kernel
theorem zml_3_42 : zml 3 42 = some (0, 30) := by decide +kernel
theorem zml_4_3 : zml 4 3 = some (10, 0) := by decide +kernel
theorem zml_4_11 : zml 4 11 = some (3, 0) := by decide +kernel
theorem zml_4_20 : zml 4 20 = some (3, 26) := by decide +kernel
theorem zml_4_27 : zml 4 27 = some (3, 20) := by decide +kernel
theorem zml_4_39 : zml 4 39 = some (12, 0) := by decide +kernel
theorem zml_4_50 : zml 4 50 = some (0, 1) := by decide +kernel
theorem zml_4_53 : zml 4 53 = some (0, 27) := by decide +kernel
theorem zml_4_54 : zml 4 54 = some (0, 21) := by decide +kernel
theorem zml_4_68 : zml 4 68 = some (0, 9) := by decide +kernel
theorem zml_4_72 : zml 4 72 = some (0, 2) := by decide +kernel
theorem zml_4_76 : zml 4 76 = some (0, 28) := by decide +kernel
theorem zml_4_79 : zml 4 79 = some (0, 22) := by decide +kernel
theorem zml_4_82 : zml 4 82 = some (11, 0) := by decide +kernel
theorem zml_4_106 : zml 4 106 = some (1, 207) := by decide +kernel
theorem zml_4_112 : zml 4 112 = some (0, 31) := by decide +kernel
theorem zml_4_116 : zml 4 116 = some (0, 3) := by decide +kernel
theorem zml_4_120 : zml 4 120 = some (0, 40) := by decide +kernel
theorem zml_4_124 : zml 4 124 = some (0, 42) := by decide +kernel
theorem zml_4_127 : zml 4 127 = some (0, 5) := by decide +kernel
theorem zml_4_131 : zml 4 131 = some (0, 29) := by decide +kernel
theorem zml_4_135 : zml 4 135 = some (0, 7) := by decide +kernel
theorem zml_4_139 : zml 4 139 = some (0, 41) := by decide +kernel
theorem zml_4_142 : zml 4 142 = some (0, 8) := by decide +kernel
theorem zml_4_151 : zml 4 151 = some (0, 51) := by decide +kernel
theorem zml_4_156 : zml 4 156 = some (0, 33) := by decide +kernel
theorem zml_5_3 : zml 5 3 = some (10, 0) := by decide +kernel
theorem zml_5_31 : zml 5 31 = some (0, 46) := by decide +kernel
theorem zml_5_35 : zml 5 35 = some (1, 209) := by decide +kernel
theorem zml_5_41 : zml 5 41 = some (11, 0) := by decide +kernel
theorem zml_5_47 : zml 5 47 = some (0, 47) := by decide +kernel
theorem zml_6_3 : zml 6 3 = some (10, 0) := by decide +kernel
theorem zml_6_11 : zml 6 11 = some (3, 43) := by decide +kernel
theorem zml_6_40 : zml 6 40 = some (0, 44) := by decide +kernel
theorem zml_6_53 : zml 6 53 = some (0, 54) := by decide +kernel
theorem zml_6_57 : zml 6 57 = some (0, 61) := by decide +kernel
theorem zml_6_64 : zml 6 64 = some (0, 62) := by decide +kernel
theorem zml_6_68 : zml 6 68 = some (0, 55) := by decide +kernel
theorem zml_6_71 : zml 6 71 = some (0, 63) := by decide +kernel
theorem zml_6_76 : zml 6 76 = some (0, 65) := by decide +kernel
theorem zml_6_79 : zml 6 79 = some (0, 66) := by decide +kernel
theorem zml_6_82 : zml 6 82 = some (0, 48) := by decide +kernel
theorem zml_6_86 : zml 6 86 = some (0, 67) := by decide +kernel
theorem zml_6_89 : zml 6 89 = some (0, 68) := by decide +kernel
theorem zml_7_3 : zml 7 3 = some (10, 0) := by decide +kernel
theorem zml_7_19 : zml 7 19 = some (0, 53) := by decide +kernel
theorem zml_7_24 : zml 7 24 = some (0, 85) := by decide +kernel
theorem zml_7_33 : zml 7 33 = some (0, 86) := by decide +kernel
theorem zml_7_39 : zml 7 39 = some (0, 71) := by decide +kernel
theorem zml_7_56 : zml 7 56 = some (0, 72) := by decide +kernel
theorem zml_7_60 : zml 7 60 = some (0, 73) := by decide +kernel
theorem zml_7_63 : zml 7 63 = some (0, 74) := by decide +kernel
theorem zml_7_66 : zml 7 66 = some (0, 77) := by decide +kernel
theorem zml_7_69 : zml 7 69 = some (0, 79) := by decide +kernel
theorem zml_7_74 : zml 7 74 = some (0, 90) := by decide +kernel
theorem zml_7_88 : zml 7 88 = some (0, 89) := by decide +kernel
theorem zml_7_92 : zml 7 92 = some (0, 45) := by decide +kernel
theorem zml_7_99 : zml 7 99 = some (0, 76) := by decide +kernel
theorem zml_7_105 : zml 7 105 = some (0, 75) := by decide +kernel
theorem zml_7_112 : zml 7 112 = some (0, 54) := by decide +kernel
theorem zml_7_124 : zml 7 124 = some (0, 60) := by decide +kernel
theorem zml_7_127 : zml 7 127 = some (0, 59) := by decide +kernel
theorem zml_7_133 : zml 7 133 = some (0, 78) := by decide +kernel
theorem zml_7_136 : zml 7 136 = some (0, 56) := by decide +kernel
theorem zml_7_140 : zml 7 140 = some (0, 57) := by decide +kernel
theorem zml_7_143 : zml 7 143 = some (0, 55) := by decide +kernel
theorem zml_7_146 : zml 7 146 = some (0, 58) := by decide +kernel
theorem zml_8_3 : zml 8 3 = some (10, 0) := by decide +kernel
theorem zml_9_3 : zml 9 3 = some (10, 0) := by decide +kernel
theorem zml_9_25 : zml 9 25 = some (1, 88) := by decide +kernel
theorem zml_9_32 : zml 9 32 = some (0, 87) := by decide +kernel
theorem zml_9_39 : zml 9 39 = some (0, 210) := by decide +kernel
theorem zml_9_44 : zml 9 44 = some (0, 211) := by decide +kernel
theorem zml_10_3 : zml 10 3 = some (10, 0) := by decide +kernel
theorem zml_10_11 : zml 10 11 = some (3, 83) := by decide +kernel
theorem zml_10_18 : zml 10 18 = some (2, 69) := by decide +kernel
theorem zml_10_27 : zml 10 27 = some (3, 13) := by decide +kernel
theorem zml_10_34 : zml 10 34 = some (3, 35) := by decide +kernel
theorem zml_10_55 : zml 10 55 = some (3, 52) := by decide +kernel
theorem zml_10_63 : zml 10 63 = some (3, 80) := by decide +kernel
theorem zml_10_64 : zml 10 64 = some (0, 84) := by decide +kernel
theorem zml_10_72 : zml 10 72 = some (0, 70) := by decide +kernel
theorem zml_10_79 : zml 10 79 = some (0, 119) := by decide +kernel
theorem zml_10_100 : zml 10 100 = some (0, 49) := by decide +kernel
theorem zml_10_104 : zml 10 104 = some (0, 50) := by decide +kernel
theorem zml_10_107 : zml 10 107 = some (0, 51) := by decide +kernel
theorem zml_10_110 : zml 10 110 = some (1, 121) := by decide +kernel
theorem zml_10_140 : zml 10 140 = some (0, 64) := by decide +kernel
theorem zml_10_148 : zml 10 148 = some (0, 38) := by decide +kernel
theorem zml_10_160 : zml 10 160 = some (0, 39) := by decide +kernel
theorem zml_10_170 : zml 10 170 = some (1, 209) := by decide +kernel
theorem zml_10_183 : zml 10 183 = some (0, 24) := by decide +kernel
theorem zml_10_188 : zml 10 188 = some (0, 25) := by decide +kernel
theorem zml_10_217 : zml 10 217 = some (0, 4) := by decide +kernel
theorem zml_10_226 : zml 10 226 = some (0, 30) := by decide +kernel
theorem zml_10_230 : zml 10 230 = some (0, 36) := by decide +kernel
theorem zml_10_236 : zml 10 236 = some (0, 14) := by decide +kernel
theorem zml_10_240 : zml 10 240 = some (0, 37) := by decide +kernel
theorem zml_10_247 : zml 10 247 = some (1, 122) := by decide +kernel
theorem zml_10_250 : zml 10 250 = some (1, 123) := by decide +kernel
theorem zml_10_253 : zml 10 253 = some (0, 81) := by decide +kernel
theorem zml_10_260 : zml 10 260 = some (0, 82) := by decide +kernel
theorem zml_10_270 : zml 10 270 = some (0, 120) := by decide +kernel
theorem zml_11_1 : zml 11 1 = some (10, 0) := by decide +kernel
theorem zml_11_59 : zml 11 59 = some (0, 165) := by decide +kernel
theorem zml_11_64 : zml 11 64 = some (1, 125) := by decide +kernel
theorem zml_11_87 : zml 11 87 = some (0, 130) := by decide +kernel
theorem zml_11_91 : zml 11 91 = some (0, 131) := by decide +kernel
theorem zml_11_106 : zml 11 106 = some (0, 129) := by decide +kernel
theorem zml_11_110 : zml 11 110 = some (0, 135) := by decide +kernel
theorem zml_11_113 : zml 11 113 = some (0, 136) := by decide +kernel
theorem zml_11_117 : zml 11 117 = some (0, 137) := by decide +kernel
theorem zml_11_121 : zml 11 121 = some (0, 138) := by decide +kernel
theorem zml_11_128 : zml 11 128 = some (0, 140) := by decide +kernel
theorem zml_11_132 : zml 11 132 = some (0, 142) := by decide +kernel
theorem zml_11_136 : zml 11 136 = some (0, 134) := by decide +kernel
theorem zml_11_140 : zml 11 140 = some (0, 141) := by decide +kernel
theorem zml_11_143 : zml 11 143 = some (0, 143) := by decide +kernel
theorem zml_11_146 : zml 11 146 = some (0, 132) := by decide +kernel
theorem zml_11_150 : zml 11 150 = some (0, 139) := by decide +kernel
theorem zml_11_153 : zml 11 153 = some (0, 133) := by decide +kernel
theorem zml_11_156 : zml 11 156 = some (0, 144) := by decide +kernel
theorem zml_11_159 : zml 11 159 = some (0, 146) := by decide +kernel
theorem zml_11_165 : zml 11 165 = some (0, 151) := by decide +kernel
theorem zml_11_168 : zml 11 168 = some (0, 148) := by decide +kernel
theorem zml_11_171 : zml 11 171 = some (0, 149) := by decide +kernel
theorem zml_11_174 : zml 11 174 = some (0, 150) := by decide +kernel
theorem zml_11_177 : zml 11 177 = some (1, 126) := by decide +kernel
theorem zml_11_181 : zml 11 181 = some (0, 152) := by decide +kernel
theorem zml_11_184 : zml 11 184 = some (0, 153) := by decide +kernel
theorem zml_11_187 : zml 11 187 = some (0, 157) := by decide +kernel
theorem zml_11_192 : zml 11 192 = some (0, 158) := by decide +kernel
theorem zml_11_199 : zml 11 199 = some (0, 162) := by decide +kernel
theorem zml_11_202 : zml 11 202 = some (0, 163) := by decide +kernel
theorem zml_11_205 : zml 11 205 = some (0, 160) := by decide +kernel
theorem zml_11_209 : zml 11 209 = some (0, 164) := by decide +kernel
theorem zml_11_212 : zml 11 212 = some (0, 161) := by decide +kernel
theorem zml_11_215 : zml 11 215 = some (0, 166) := by decide +kernel
theorem zml_11_218 : zml 11 218 = some (0, 171) := by decide +kernel
theorem zml_11_221 : zml 11 221 = some (0, 172) := by decide +kernel
theorem zml_11_224 : zml 11 224 = some (0, 167) := by decide +kernel
theorem zml_11_227 : zml 11 227 = some (0, 170) := by decide +kernel
theorem zml_11_230 : zml 11 230 = some (0, 175) := by decide +kernel
theorem zml_11_233 : zml 11 233 = some (0, 169) := by decide +kernel
theorem zml_11_236 : zml 11 236 = some (0, 168) := by decide +kernel
theorem zml_11_242 : zml 11 242 = some (0, 177) := by decide +kernel
theorem zml_11_245 : zml 11 245 = some (0, 173) := by decide +kernel
theorem zml_11_248 : zml 11 248 = some (0, 174) := by decide +kernel
theorem zml_11_251 : zml 11 251 = some (0, 176) := by decide +kernel
theorem zml_11_254 : zml 11 254 = some (0, 178) := by decide +kernel
theorem zml_11_259 : zml 11 259 = some (0, 181) := by decide +kernel
theorem zml_11_262 : zml 11 262 = some (0, 180) := by decide +kernel
theorem zml_11_267 : zml 11 267 = some (0, 184) := by decide +kernel
theorem zml_11_272 : zml 11 272 = some (0, 179) := by decide +kernel
theorem zml_11_281 : zml 11 281 = some (1, 192) := by decide +kernel
theorem zml_11_284 : zml 11 284 = some (1, 193) := by decide +kernel
theorem zml_11_291 : zml 11 291 = some (0, 196) := by decide +kernel
theorem zml_11_296 : zml 11 296 = some (0, 197) := by decide +kernel
theorem zml_11_299 : zml 11 299 = some (1, 201) := by decide +kernel
theorem zml_12_9 : zml 12 9 = some (2, 91) := by decide +kernel
theorem zml_12_12 : zml 12 12 = some (2, 124) := by decide +kernel
theorem zml_12_13 : zml 12 13 = some (0, 92) := by decide +kernel
theorem zml_12_17 : zml 12 17 = some (0, 127) := by decide +kernel
theorem zml_12_18 : zml 12 18 = some (0, 93) := by decide +kernel
theorem zml_12_21 : zml 12 21 = some (0, 128) := by decide +kernel
theorem zml_12_22 : zml 12 22 = some (0, 94) := by decide +kernel
theorem zml_12_26 : zml 12 26 = some (0, 145) := by decide +kernel
theorem zml_12_27 : zml 12 27 = some (0, 95) := by decide +kernel
theorem zml_12_30 : zml 12 30 = some (0, 147) := by decide +kernel
theorem zml_12_31 : zml 12 31 = some (0, 96) := by decide +kernel
theorem zml_12_34 : zml 12 34 = some (0, 154) := by decide +kernel
theorem zml_12_35 : zml 12 35 = some (0, 97) := by decide +kernel
theorem zml_12_38 : zml 12 38 = some (0, 155) := by decide +kernel
theorem zml_12_39 : zml 12 39 = some (0, 98) := by decide +kernel
theorem zml_12_43 : zml 12 43 = some (0, 156) := by decide +kernel
theorem zml_12_44 : zml 12 44 = some (0, 99) := by decide +kernel
theorem zml_12_47 : zml 12 47 = some (0, 159) := by decide +kernel
theorem zml_12_48 : zml 12 48 = some (0, 100) := by decide +kernel
theorem zml_12_51 : zml 12 51 = some (0, 182) := by decide +kernel
theorem zml_12_52 : zml 12 52 = some (0, 101) := by decide +kernel
theorem zml_12_55 : zml 12 55 = some (0, 183) := by decide +kernel
theorem zml_12_56 : zml 12 56 = some (0, 102) := by decide +kernel
theorem zml_12_59 : zml 12 59 = some (0, 185) := by decide +kernel
theorem zml_12_60 : zml 12 60 = some (0, 103) := by decide +kernel
theorem zml_12_63 : zml 12 63 = some (0, 186) := by decide +kernel
theorem zml_12_64 : zml 12 64 = some (0, 104) := by decide +kernel
theorem zml_12_67 : zml 12 67 = some (0, 187) := by decide +kernel
theorem zml_12_68 : zml 12 68 = some (0, 105) := by decide +kernel
theorem zml_12_71 : zml 12 71 = some (0, 188) := by decide +kernel
theorem zml_12_72 : zml 12 72 = some (0, 106) := by decide +kernel
theorem zml_12_75 : zml 12 75 = some (0, 189) := by decide +kernel
theorem zml_12_76 : zml 12 76 = some (0, 107) := by decide +kernel
theorem zml_12_79 : zml 12 79 = some (0, 190) := by decide +kernel
theorem zml_12_80 : zml 12 80 = some (0, 108) := by decide +kernel
theorem zml_12_83 : zml 12 83 = some (0, 191) := by decide +kernel
theorem zml_12_84 : zml 12 84 = some (0, 109) := by decide +kernel
theorem zml_12_87 : zml 12 87 = some (0, 194) := by decide +kernel
theorem zml_12_88 : zml 12 88 = some (0, 110) := by decide +kernel
theorem zml_12_91 : zml 12 91 = some (0, 195) := by decide +kernel
theorem zml_12_92 : zml 12 92 = some (0, 111) := by decide +kernel
theorem zml_12_95 : zml 12 95 = some (0, 198) := by decide +kernel
theorem zml_12_96 : zml 12 96 = some (0, 112) := by decide +kernel
theorem zml_12_99 : zml 12 99 = some (0, 199) := by decide +kernel
theorem zml_12_100 : zml 12 100 = some (0, 113) := by decide +kernel
theorem zml_12_103 : zml 12 103 = some (0, 200) := by decide +kernel
theorem zml_12_104 : zml 12 104 = some (0, 114) := by decide +kernel
theorem zml_12_108 : zml 12 108 = some (0, 202) := by decide +kernel
theorem zml_12_109 : zml 12 109 = some (0, 115) := by decide +kernel
theorem zml_12_112 : zml 12 112 = some (0, 203) := by decide +kernel
theorem zml_12_113 : zml 12 113 = some (0, 116) := by decide +kernel
theorem zml_12_117 : zml 12 117 = some (0, 204) := by decide +kernel
theorem zml_12_118 : zml 12 118 = some (0, 117) := by decide +kernel
theorem zml_12_121 : zml 12 121 = some (0, 205) := by decide +kernel
theorem zml_12_122 : zml 12 122 = some (0, 118) := by decide +kernel
theorem zml_12_125 : zml 12 125 = some (0, 206) := by decide +kernel
theorem zml_13_335 : zml 13 335 = some (0, 212) := by decide +kernel
theorem zml_13_492 : zml 13 492 = some (0, 213) := by decide +kernel
theorem zml_13_495 : zml 13 495 = some (1, 215) := by decide +kernel
theorem zml_13_1059 : zml 13 1059 = some (1, 216) := by decide +kernel
theorem zml_14_9 : zml 14 9 = some (1, 214) := by decide +kernel
theorem zct_1_35 : zct 1 35 = some 1000000 := by decide +kernel
theorem zct_1_51 : zct 1 51 = some 1103515245 := by decide +kernel
theorem zct_6_75 : zct 6 75 = some 2147483647 := by decide +kernel
theorem zct_9_38 : zct 9 38 = some 65535 := by decide +kernel
theorem zct_10_147 : zct 10 147 = some 2147483647 := by decide +kernel
theorem zct_11_290 : zct 11 290 = some 1103515245 := by decide +kernel
theorem zct_17_265 : zct 17 265 = some 1431655765 := by decide +kernel
theorem zct_17_266 : zct 17 266 = some 858993459 := by decide +kernel
theorem zct_17_267 : zct 17 267 = some 252645135 := by decide +kernel
theorem zcl_10_275 : zcl 10 275 = some 4 := by decide +kernel
theorem zcl_11_62 : zcl 11 62 = some 127 := by decide +kernel
theorem zcl_11_95 : zcl 11 95 = some 97 := by decide +kernel
theorem zcl_11_97 : zcl 11 97 = some 122 := by decide +kernel
theorem zcl_11_99 : zcl 11 99 = some 48 := by decide +kernel
theorem zcl_11_101 : zcl 11 101 = some 57 := by decide +kernel
theorem zcl_11_190 : zcl 11 190 = some 3 := by decide +kernel
theorem zcl_11_257 : zcl 11 257 = some 9999 := by decide +kernel
theorem zcl_11_265 : zcl 11 265 = some 9 := by decide +kernel
theorem zcl_11_270 : zcl 11 270 = some 30 := by decide +kernel
theorem zcl_11_275 : zcl 11 275 = some 2 := by decide +kernel
theorem zcl_11_277 : zcl 11 277 = some 6 := by decide +kernel
theorem zcl_11_279 : zcl 11 279 = some 10 := by decide +kernel
theorem zcl_11_294 : zcl 11 294 = some 8 := by decide +kernel
theorem zcl_11_303 : zcl 11 303 = some 20 := by decide +kernel
theorem zst_7_72 : zst 7 72 = some 0 := by decide +kernel
theorem zst_7_78 : zst 7 78 = some 1 := by decide +kernel
theorem zst_7_116 : zst 7 116 = some 2 := by decide +kernel
theorem zst_7_118 : zst 7 118 = some 3 := by decide +kernel
theorem zst_7_120 : zst 7 120 = some 4 := by decide +kernel
theorem zst_7_122 : zst 7 122 = some 5 := by decide +kernel
theorem zgs_4_36 : zgs 4 36 = some (900) := by decide +kernel
theorem zgs_10_220 : zgs 10 220 = some (901) := by decide +kernel
theorem zgs_10_223 : zgs 10 223 = some (902) := by decide +kernel
theorem zgs_13_38 : zgs 13 38 = some (-1) := by decide +kernel
theorem zgs_13_1053 : zgs 13 1053 = some (1200) := by decide +kernel
theorem zcn_4_9 : zcn 4 9 = some 0 := by decide +kernel
theorem zcn_4_18 : zcn 4 18 = some 3 := by decide +kernel
theorem zcn_4_25 : zcn 4 25 = some 2 := by decide +kernel
theorem zcn_4_40 : zcn 4 40 = some 30 := by decide +kernel
theorem zcn_6_9 : zcn 6 9 = some 5 := by decide +kernel
theorem zcn_10_9 : zcn 10 9 = some 9 := by decide +kernel
theorem zcn_10_16 : zcn 10 16 = some 7 := by decide +kernel
theorem zcn_10_25 : zcn 10 25 = some 1 := by decide +kernel
theorem zcn_10_32 : zcn 10 32 = some 4 := by decide +kernel
theorem zcn_10_47 : zcn 10 47 = some 8 := by decide +kernel
theorem zcn_10_53 : zcn 10 53 = some 6 := by decide +kernel
theorem zcn_12_7 : zcn 12 7 = some 10 := by decide +kernel
theorem zcn_12_10 : zcn 12 10 = some 11 := by decide +kernel
