/-! ===== methods; words by their places ===== -/
abbrev mL_law : MD := (yL_law, cL_law, 7, (some .boolean), [], 13, 639879, 7181832)
abbrev mX4_init : MD := (yX4_init, cX4_init, 1, none, [], 12, 10, 204)
abbrev mL_cell : MD := (yL_cell, cL_cell, 2, (some .int), [], 12, 0, 0)
abbrev mL_act : MD := (yL_act, cL_act, 8, (some .int), [], 12, 24, 143)
abbrev mL_isTreeSo : MD := (yL_isTreeSo, cL_isTreeSo, 7, (some .boolean), [], 12, 1464, 8784)
abbrev mL_areAlike : MD := (yL_areAlike, cL_areAlike, 4, (some .boolean), [], 12, 366, 2196)
abbrev mX1_init : MD := (yX1_init, cX1_init, 1, none, [], 11, 1, 64)
abbrev mX2_init : MD := (yX2_init, cX2_init, 1, none, [], 11, 0, 0)
abbrev mX3_init : MD := (yX3_init, cX3_init, 1, none, [], 11, 0, 0)
abbrev mX4_lastSteps : MD := (yX4_lastSteps, cX4_lastSteps, 1, (some .int), [], 11, 0, 0)
abbrev mX4_lastRotations : MD := (yX4_lastRotations, cX4_lastRotations, 1, (some .int), [], 11, 0, 0)
abbrev mX4_steps : MD := (yX4_steps, cX4_steps, 1, (some .int), [], 11, 0, 0)
abbrev mX4_splays : MD := (yX4_splays, cX4_splays, 1, (some .int), [], 11, 0, 0)
abbrev mX4_potential : MD := (yX4_potential, cX4_potential, 1, (some .int), [], 11, 0, 0)
abbrev mX4_size : MD := (yX4_size, cX4_size, 1, (some .int), [], 11, 0, 0)
abbrev mX4_clipped : MD := (yX4_clipped, cX4_clipped, 1, (some .int), [], 11, 0, 0)
abbrev mX4_whereIs : MD := (yX4_whereIs, cX4_whereIs, 3, (some .int), [], 11, 1, 6)
abbrev mX4_plain : MD := (yX4_plain, cX4_plain, 2, (some .int), [], 11, 1, 6)
abbrev mX4_plainSum : MD := (yX4_plainSum, cX4_plainSum, 3, (some .int), [], 11, 1, 6)
abbrev mL_low : MD := (yL_low, cL_low, 2, (some .int), [], 11, 0, 0)
abbrev mL_insert : MD := (yL_insert, cL_insert, 4, (some .int), [(0, 6, 7, 14), (0, 6, 11, 17), (0, 6, 15, 19)], 11, 4, 23)
abbrev mL_remove : MD := (yL_remove, cL_remove, 3, (some .int), [(0, 5, 6, 14)], 11, 1, 6)
abbrev mL_get : MD := (yL_get, cL_get, 3, (some .int), [(0, 5, 6, 14)], 11, 1, 6)
abbrev mL_set : MD := (yL_set, cL_set, 4, (some .int), [(0, 6, 7, 14), (0, 6, 11, 17)], 11, 2, 12)
abbrev mL_paste : MD := (yL_paste, cL_paste, 3, (some .int), [(0, 5, 6, 14)], 11, 1, 6)
abbrev mL_point : MD := (yL_point, cL_point, 4, (some .int), [(0, 6, 7, 14)], 11, 2, 12)
abbrev mL_follow : MD := (yL_follow, cL_follow, 3, (some .int), [(0, 5, 6, 14)], 11, 1, 6)
abbrev mL_move : MD := (yL_move, cL_move, 4, (some .int), [(0, 6, 7, 14), (0, 6, 11, 19)], 11, 4, 24)
abbrev mL_range : MD := (yL_range, cL_range, 5, (some .int), [], 11, 8, 48)
abbrev mL_isNodeSo : MD := (yL_isNodeSo, cL_isNodeSo, 6, (some .boolean), [], 11, 11, 66)
abbrev mX1_valueAt : MD := (yX1_valueAt, cX1_valueAt, 2, (some .int), [], 10, 0, 0)
abbrev mX1_total : MD := (yX1_total, cX1_total, 5, (some .int), [], 10, 0, 0)
abbrev mX3_sumOfRanks : MD := (yX3_sumOfRanks, cX3_sumOfRanks, 4, (some .int), [], 10, 0, 0)
abbrev mX4_insert : MD := (yX4_insert, cX4_insert, 4, (some .int), [], 10, 4, 23)
abbrev mX4_remove : MD := (yX4_remove, cX4_remove, 3, (some .int), [], 10, 1, 6)
abbrev mX4_get : MD := (yX4_get, cX4_get, 3, (some .int), [], 10, 1, 6)
abbrev mX4_set : MD := (yX4_set, cX4_set, 5, (some .int), [], 10, 2, 12)
abbrev mX4_paste : MD := (yX4_paste, cX4_paste, 3, (some .int), [], 10, 1, 6)
abbrev mX4_point : MD := (yX4_point, cX4_point, 4, (some .int), [], 10, 2, 12)
abbrev mX4_follow : MD := (yX4_follow, cX4_follow, 3, (some .int), [], 10, 1, 6)
abbrev mX4_move : MD := (yX4_move, cX4_move, 7, (some .int), [], 10, 4, 24)
abbrev mX4_root : MD := (yX4_root, cX4_root, 1, (some .int), [], 10, 0, 0)
abbrev mX4_height : MD := (yX4_height, cX4_height, 1, (some .int), [], 10, 0, 0)
abbrev mX4_depth : MD := (yX4_depth, cX4_depth, 2, (some .int), [], 10, 1, 6)
abbrev mX4_subtree : MD := (yX4_subtree, cX4_subtree, 2, (some .int), [], 10, 1, 6)
abbrev mX4_child : MD := (yX4_child, cX4_child, 4, (some .int), [], 10, 1, 6)
abbrev mL_reverse : MD := (yL_reverse, cL_reverse, 4, (some .int), [(0, 6, 7, 14)], 10, 1, 6)
abbrev mL_raise : MD := (yL_raise, cL_raise, 5, (some .int), [(0, 7, 8, 14), (0, 7, 13, 17)], 10, 2, 12)
abbrev mL_sum : MD := (yL_sum, cL_sum, 4, (some .int), [(0, 6, 7, 14)], 10, 1, 6)
abbrev mL_least : MD := (yL_least, cL_least, 4, (some .int), [(0, 6, 7, 14), (0, 6, 11, 17)], 10, 2, 12)
abbrev mL_cut : MD := (yL_cut, cL_cut, 4, (some .int), [(0, 6, 7, 14), (0, 6, 11, 19)], 10, 2, 12)
abbrev mX0_init : MD := (yX0_init, cX0_init, 2, none, [], 9, 0, 0)
abbrev mX0_dropRight : MD := (yX0_dropRight, cX0_dropRight, 2, (some (.object "SplaySequence$Node")), [], 9, 0, 0)
abbrev mX1_replace : MD := (yX1_replace, cX1_replace, 3, none, [], 9, 0, 0)
abbrev mX1_open : MD := (yX1_open, cX1_open, 3, none, [], 9, 0, 0)
abbrev mX1_close : MD := (yX1_close, cX1_close, 2, none, [], 9, 0, 0)
abbrev mX1_moveIn : MD := (yX1_moveIn, cX1_moveIn, 3, none, [], 9, 0, 0)
abbrev mX3_holds : MD := (yX3_holds, cX3_holds, 2, (some .boolean), [], 9, 0, 0)
abbrev mX3_levels : MD := (yX3_levels, cX3_levels, 4, (some .int), [], 9, 0, 0)
abbrev mX3_rankOf : MD := (yX3_rankOf, cX3_rankOf, 3, (some .int), [], 9, 0, 0)
abbrev mX4_reverse : MD := (yX4_reverse, cX4_reverse, 3, (some .int), [], 9, 1, 6)
abbrev mX4_raise : MD := (yX4_raise, cX4_raise, 4, (some .int), [], 9, 2, 12)
abbrev mX4_sum : MD := (yX4_sum, cX4_sum, 4, (some .int), [], 9, 1, 6)
abbrev mX4_least : MD := (yX4_least, cX4_least, 4, (some .int), [], 9, 2, 12)
abbrev mX4_cut : MD := (yX4_cut, cX4_cut, 3, (some .int), [], 9, 2, 12)
abbrev mX4_nodeAt : MD := (yX4_nodeAt, cX4_nodeAt, 3, (some (.object "SplaySequence$Node")), [], 9, 1, 6)
abbrev mX4_checkGap : MD := (yX4_checkGap, cX4_checkGap, 2, none, [], 9, 1, 6)
abbrev mX4_checkFinger : MD := (yX4_checkFinger, cX4_checkFinger, 2, none, [], 9, 1, 6)
abbrev mX4_positionOrNone : MD := (yX4_positionOrNone, cX4_positionOrNone, 1, (some .int), [], 9, 0, 0)
abbrev mX4_liftFingersFrom : MD := (yX4_liftFingersFrom, cX4_liftFingersFrom, 3, none, [], 9, 0, 0)
abbrev mX0_position : MD := (yX0_position, cX0_position, 3, (some .int), [], 8, 0, 0)
abbrev mX0_nodesAbove : MD := (yX0_nodesAbove, cX0_nodesAbove, 3, (some .int), [], 8, 0, 0)
abbrev mX0_top : MD := (yX0_top, cX0_top, 2, (some (.object "SplaySequence$Node")), [], 8, 0, 0)
abbrev mX1_turnRound : MD := (yX1_turnRound, cX1_turnRound, 6, none, [], 8, 0, 0)
abbrev mX1_addToAll : MD := (yX1_addToAll, cX1_addToAll, 5, none, [], 8, 0, 0)
abbrev mX1_moveOut : MD := (yX1_moveOut, cX1_moveOut, 4, none, [], 8, 0, 0)
abbrev mX2_beginCall : MD := (yX2_beginCall, cX2_beginCall, 1, none, [], 8, 0, 0)
abbrev mX3_turnRound : MD := (yX3_turnRound, cX3_turnRound, 3, none, [], 8, 0, 0)
abbrev mX3_addToAll : MD := (yX3_addToAll, cX3_addToAll, 4, none, [], 8, 0, 0)
abbrev mX3_total : MD := (yX3_total, cX3_total, 4, (some .int), [], 8, 0, 0)
abbrev mX3_lowest : MD := (yX3_lowest, cX3_lowest, 4, (some .int), [], 8, 0, 0)
abbrev mX4_checkRange : MD := (yX4_checkRange, cX4_checkRange, 3, none, [], 8, 1, 6)
abbrev mX4_checkAmount : MD := (yX4_checkAmount, cX4_checkAmount, 1, none, [], 8, 1, 6)
abbrev mX4_takeRange : MD := (yX4_takeRange, cX4_takeRange, 3, none, [], 8, 0, 0)
abbrev mX4_putRangeBack : MD := (yX4_putRangeBack, cX4_putRangeBack, 1, none, [], 8, 0, 0)
abbrev mX0_swapSides : MD := (yX0_swapSides, cX0_swapSides, 2, none, [], 7, 0, 0)
abbrev mX0_nextOfWalk : MD := (yX0_nextOfWalk, cX0_nextOfWalk, 2, (some (.object "SplaySequence$Node")), [], 7, 0, 0)
abbrev mX1_hasRange : MD := (yX1_hasRange, cX1_hasRange, 3, (some .boolean), [], 7, 0, 0)
abbrev mX2_split : MD := (yX2_split, cX2_split, 5, none, [], 7, 0, 0)
abbrev mX2_join : MD := (yX2_join, cX2_join, 5, none, [], 7, 0, 0)
abbrev mX3_count : MD := (yX3_count, cX3_count, 1, (some .int), [], 7, 0, 0)
abbrev mX0_dropLeft : MD := (yX0_dropLeft, cX0_dropLeft, 2, (some (.object "SplaySequence$Node")), [], 6, 0, 0)
abbrev mX2_splay : MD := (yX2_splay, cX2_splay, 6, none, [], 6, 0, 0)
abbrev mX3_find : MD := (yX3_find, cX3_find, 5, (some (.object "SplaySequence$Node")), [], 6, 0, 0)
abbrev mX3_last : MD := (yX3_last, cX3_last, 2, (some (.object "SplaySequence$Node")), [], 6, 0, 0)
abbrev mX3_takeAll : MD := (yX3_takeAll, cX3_takeAll, 2, (some (.object "SplaySequence$Node")), [], 6, 0, 0)
abbrev mX2_rotate : MD := (yX2_rotate, cX2_rotate, 5, none, [], 5, 0, 0)
abbrev mX0_isLeftChild : MD := (yX0_isLeftChild, cX0_isLeftChild, 1, (some .boolean), [], 4, 0, 0)
abbrev mX0_takeLeft : MD := (yX0_takeLeft, cX0_takeLeft, 2, none, [], 4, 0, 0)
abbrev mX0_takeRight : MD := (yX0_takeRight, cX0_takeRight, 2, none, [], 4, 0, 0)
abbrev mX0_countOf : MD := (yX0_countOf, cX0_countOf, 1, (some .int), [], 3, 0, 0)
theorem ok_15 : okw (.initialized RX0) := ⟨List.mem_of_getElem? (i := 15) (by decide +kernel), by decide +kernel⟩
theorem ok_14 : okw (.initialized RX1) := ⟨List.mem_of_getElem? (i := 14) (by decide +kernel), by decide +kernel⟩
theorem ok_13 : okw (.initialized RX2) := ⟨List.mem_of_getElem? (i := 13) (by decide +kernel), by decide +kernel⟩
theorem ok_12 : okw (.initialized RX3) := ⟨List.mem_of_getElem? (i := 12) (by decide +kernel), by decide +kernel⟩
theorem ok_11 : okw (.initialized RX4) := ⟨List.mem_of_getElem? (i := 11) (by decide +kernel), by decide +kernel⟩
theorem ok_10 : okw (.initialized RL) := ⟨List.mem_of_getElem? (i := 10) (by decide +kernel), by decide +kernel⟩
theorem ok_510 : okw (mw mX0_init) := ⟨List.mem_of_getElem? (i := 510) (by decide +kernel), by decide +kernel⟩
theorem ok_509 : okw (.instanceMethod yX0_init) := ⟨List.mem_of_getElem? (i := 509) (by decide +kernel), by decide +kernel⟩
theorem okc_X0_init : okw (mw mX0_init) ∧ okw (.instanceMethod yX0_init) ∧ okw (.initialized yX0_init.cls) := ⟨ok_510, ok_509, ok_15⟩
theorem ok_140 : okw (mw mX0_countOf) := ⟨List.mem_of_getElem? (i := 140) (by decide +kernel), by decide +kernel⟩
theorem ok_139 : okw (.static yX0_countOf) := ⟨List.mem_of_getElem? (i := 139) (by decide +kernel), by decide +kernel⟩
theorem okc_X0_countOf : okS mX0_countOf 1 := ⟨ok_140, ok_139, ok_15, by decide +kernel, by decide +kernel⟩
theorem ok_236 : okw (mw mX0_isLeftChild) := ⟨List.mem_of_getElem? (i := 236) (by decide +kernel), by decide +kernel⟩
theorem ok_234 : okw (.instanceMethod yX0_isLeftChild) := ⟨List.mem_of_getElem? (i := 234) (by decide +kernel), by decide +kernel⟩
theorem ok_235 : okw (.selects yX0_isLeftChild.cls yX0_isLeftChild yX0_isLeftChild) := ⟨List.mem_of_getElem? (i := 235) (by decide +kernel), by decide +kernel⟩
theorem okc_X0_isLeftChild : okV mX0_isLeftChild 0 0 := ⟨ok_236, ok_234, ok_235, ok_15, rfl, ⟨_, rfl, rfl⟩, by decide, by decide +kernel, by decide +kernel⟩
theorem ok_244 : okw (mw mX0_takeLeft) := ⟨List.mem_of_getElem? (i := 244) (by decide +kernel), by decide +kernel⟩
theorem ok_242 : okw (.instanceMethod yX0_takeLeft) := ⟨List.mem_of_getElem? (i := 242) (by decide +kernel), by decide +kernel⟩
theorem ok_243 : okw (.selects yX0_takeLeft.cls yX0_takeLeft yX0_takeLeft) := ⟨List.mem_of_getElem? (i := 243) (by decide +kernel), by decide +kernel⟩
theorem okc_X0_takeLeft : okV mX0_takeLeft 0 1 := ⟨ok_244, ok_242, ok_243, ok_15, rfl, ⟨_, rfl, rfl⟩, by decide, by decide +kernel, by decide +kernel⟩
theorem ok_249 : okw (mw mX0_takeRight) := ⟨List.mem_of_getElem? (i := 249) (by decide +kernel), by decide +kernel⟩
theorem ok_247 : okw (.instanceMethod yX0_takeRight) := ⟨List.mem_of_getElem? (i := 247) (by decide +kernel), by decide +kernel⟩
theorem ok_248 : okw (.selects yX0_takeRight.cls yX0_takeRight yX0_takeRight) := ⟨List.mem_of_getElem? (i := 248) (by decide +kernel), by decide +kernel⟩
theorem okc_X0_takeRight : okV mX0_takeRight 0 1 := ⟨ok_249, ok_247, ok_248, ok_15, rfl, ⟨_, rfl, rfl⟩, by decide, by decide +kernel, by decide +kernel⟩
theorem ok_253 : okw (mw mX0_dropLeft) := ⟨List.mem_of_getElem? (i := 253) (by decide +kernel), by decide +kernel⟩
theorem ok_251 : okw (.instanceMethod yX0_dropLeft) := ⟨List.mem_of_getElem? (i := 251) (by decide +kernel), by decide +kernel⟩
theorem ok_252 : okw (.selects yX0_dropLeft.cls yX0_dropLeft yX0_dropLeft) := ⟨List.mem_of_getElem? (i := 252) (by decide +kernel), by decide +kernel⟩
theorem okc_X0_dropLeft : okV mX0_dropLeft 0 0 := ⟨ok_253, ok_251, ok_252, ok_15, rfl, ⟨_, rfl, rfl⟩, by decide, by decide +kernel, by decide +kernel⟩
theorem ok_258 : okw (mw mX0_dropRight) := ⟨List.mem_of_getElem? (i := 258) (by decide +kernel), by decide +kernel⟩
theorem ok_256 : okw (.instanceMethod yX0_dropRight) := ⟨List.mem_of_getElem? (i := 256) (by decide +kernel), by decide +kernel⟩
theorem ok_257 : okw (.selects yX0_dropRight.cls yX0_dropRight yX0_dropRight) := ⟨List.mem_of_getElem? (i := 257) (by decide +kernel), by decide +kernel⟩
theorem okc_X0_dropRight : okV mX0_dropRight 0 0 := ⟨ok_258, ok_256, ok_257, ok_15, rfl, ⟨_, rfl, rfl⟩, by decide, by decide +kernel, by decide +kernel⟩
theorem ok_356 : okw (mw mX0_swapSides) := ⟨List.mem_of_getElem? (i := 356) (by decide +kernel), by decide +kernel⟩
theorem ok_354 : okw (.instanceMethod yX0_swapSides) := ⟨List.mem_of_getElem? (i := 354) (by decide +kernel), by decide +kernel⟩
theorem ok_355 : okw (.selects yX0_swapSides.cls yX0_swapSides yX0_swapSides) := ⟨List.mem_of_getElem? (i := 355) (by decide +kernel), by decide +kernel⟩
theorem okc_X0_swapSides : okV mX0_swapSides 0 0 := ⟨ok_356, ok_354, ok_355, ok_15, rfl, ⟨_, rfl, rfl⟩, by decide, by decide +kernel, by decide +kernel⟩
theorem ok_489 : okw (mw mX0_position) := ⟨List.mem_of_getElem? (i := 489) (by decide +kernel), by decide +kernel⟩
theorem ok_487 : okw (.instanceMethod yX0_position) := ⟨List.mem_of_getElem? (i := 487) (by decide +kernel), by decide +kernel⟩
theorem ok_488 : okw (.selects yX0_position.cls yX0_position yX0_position) := ⟨List.mem_of_getElem? (i := 488) (by decide +kernel), by decide +kernel⟩
theorem okc_X0_position : okV mX0_position 0 0 := ⟨ok_489, ok_487, ok_488, ok_15, rfl, ⟨_, rfl, rfl⟩, by decide, by decide +kernel, by decide +kernel⟩
theorem ok_559 : okw (mw mX0_nodesAbove) := ⟨List.mem_of_getElem? (i := 559) (by decide +kernel), by decide +kernel⟩
theorem ok_557 : okw (.instanceMethod yX0_nodesAbove) := ⟨List.mem_of_getElem? (i := 557) (by decide +kernel), by decide +kernel⟩
theorem ok_558 : okw (.selects yX0_nodesAbove.cls yX0_nodesAbove yX0_nodesAbove) := ⟨List.mem_of_getElem? (i := 558) (by decide +kernel), by decide +kernel⟩
theorem okc_X0_nodesAbove : okV mX0_nodesAbove 0 0 := ⟨ok_559, ok_557, ok_558, ok_15, rfl, ⟨_, rfl, rfl⟩, by decide, by decide +kernel, by decide +kernel⟩
theorem ok_485 : okw (mw mX0_top) := ⟨List.mem_of_getElem? (i := 485) (by decide +kernel), by decide +kernel⟩
theorem ok_483 : okw (.instanceMethod yX0_top) := ⟨List.mem_of_getElem? (i := 483) (by decide +kernel), by decide +kernel⟩
theorem ok_484 : okw (.selects yX0_top.cls yX0_top yX0_top) := ⟨List.mem_of_getElem? (i := 484) (by decide +kernel), by decide +kernel⟩
theorem okc_X0_top : okV mX0_top 0 0 := ⟨ok_485, ok_483, ok_484, ok_15, rfl, ⟨_, rfl, rfl⟩, by decide, by decide +kernel, by decide +kernel⟩
theorem ok_360 : okw (mw mX0_nextOfWalk) := ⟨List.mem_of_getElem? (i := 360) (by decide +kernel), by decide +kernel⟩
theorem ok_358 : okw (.instanceMethod yX0_nextOfWalk) := ⟨List.mem_of_getElem? (i := 358) (by decide +kernel), by decide +kernel⟩
theorem ok_359 : okw (.selects yX0_nextOfWalk.cls yX0_nextOfWalk yX0_nextOfWalk) := ⟨List.mem_of_getElem? (i := 359) (by decide +kernel), by decide +kernel⟩
theorem okc_X0_nextOfWalk : okV mX0_nextOfWalk 0 0 := ⟨ok_360, ok_358, ok_359, ok_15, rfl, ⟨_, rfl, rfl⟩, by decide, by decide +kernel, by decide +kernel⟩
theorem ok_73 : okw (mw mX1_init) := ⟨List.mem_of_getElem? (i := 73) (by decide +kernel), by decide +kernel⟩
theorem ok_72 : okw (.instanceMethod yX1_init) := ⟨List.mem_of_getElem? (i := 72) (by decide +kernel), by decide +kernel⟩
theorem okc_X1_init : okw (mw mX1_init) ∧ okw (.instanceMethod yX1_init) ∧ okw (.initialized yX1_init.cls) := ⟨ok_73, ok_72, ok_14⟩
theorem ok_567 : okw (mw mX1_valueAt) := ⟨List.mem_of_getElem? (i := 567) (by decide +kernel), by decide +kernel⟩
theorem ok_565 : okw (.instanceMethod yX1_valueAt) := ⟨List.mem_of_getElem? (i := 565) (by decide +kernel), by decide +kernel⟩
theorem ok_566 : okw (.selects yX1_valueAt.cls yX1_valueAt yX1_valueAt) := ⟨List.mem_of_getElem? (i := 566) (by decide +kernel), by decide +kernel⟩
theorem okc_X1_valueAt : okV mX1_valueAt 1 1 := ⟨ok_567, ok_565, ok_566, ok_14, rfl, ⟨_, rfl, rfl⟩, by decide, by decide +kernel, by decide +kernel⟩
theorem ok_322 : okw (mw mX1_replace) := ⟨List.mem_of_getElem? (i := 322) (by decide +kernel), by decide +kernel⟩
theorem ok_320 : okw (.instanceMethod yX1_replace) := ⟨List.mem_of_getElem? (i := 320) (by decide +kernel), by decide +kernel⟩
theorem ok_321 : okw (.selects yX1_replace.cls yX1_replace yX1_replace) := ⟨List.mem_of_getElem? (i := 321) (by decide +kernel), by decide +kernel⟩
theorem okc_X1_replace : okV mX1_replace 1 2 := ⟨ok_322, ok_320, ok_321, ok_14, rfl, ⟨_, rfl, rfl⟩, by decide, by decide +kernel, by decide +kernel⟩
theorem ok_544 : okw (mw mX1_open) := ⟨List.mem_of_getElem? (i := 544) (by decide +kernel), by decide +kernel⟩
theorem ok_542 : okw (.instanceMethod yX1_open) := ⟨List.mem_of_getElem? (i := 542) (by decide +kernel), by decide +kernel⟩
theorem ok_543 : okw (.selects yX1_open.cls yX1_open yX1_open) := ⟨List.mem_of_getElem? (i := 543) (by decide +kernel), by decide +kernel⟩
theorem okc_X1_open : okV mX1_open 1 2 := ⟨ok_544, ok_542, ok_543, ok_14, rfl, ⟨_, rfl, rfl⟩, by decide, by decide +kernel, by decide +kernel⟩
theorem ok_280 : okw (mw mX1_close) := ⟨List.mem_of_getElem? (i := 280) (by decide +kernel), by decide +kernel⟩
theorem ok_278 : okw (.instanceMethod yX1_close) := ⟨List.mem_of_getElem? (i := 278) (by decide +kernel), by decide +kernel⟩
theorem ok_279 : okw (.selects yX1_close.cls yX1_close yX1_close) := ⟨List.mem_of_getElem? (i := 279) (by decide +kernel), by decide +kernel⟩
theorem okc_X1_close : okV mX1_close 1 1 := ⟨ok_280, ok_278, ok_279, ok_14, rfl, ⟨_, rfl, rfl⟩, by decide, by decide +kernel, by decide +kernel⟩
theorem ok_369 : okw (mw mX1_turnRound) := ⟨List.mem_of_getElem? (i := 369) (by decide +kernel), by decide +kernel⟩
theorem ok_367 : okw (.instanceMethod yX1_turnRound) := ⟨List.mem_of_getElem? (i := 367) (by decide +kernel), by decide +kernel⟩
theorem ok_368 : okw (.selects yX1_turnRound.cls yX1_turnRound yX1_turnRound) := ⟨List.mem_of_getElem? (i := 368) (by decide +kernel), by decide +kernel⟩
theorem okc_X1_turnRound : okV mX1_turnRound 1 2 := ⟨ok_369, ok_367, ok_368, ok_14, rfl, ⟨_, rfl, rfl⟩, by decide, by decide +kernel, by decide +kernel⟩
theorem ok_388 : okw (mw mX1_addToAll) := ⟨List.mem_of_getElem? (i := 388) (by decide +kernel), by decide +kernel⟩
theorem ok_386 : okw (.instanceMethod yX1_addToAll) := ⟨List.mem_of_getElem? (i := 386) (by decide +kernel), by decide +kernel⟩
theorem ok_387 : okw (.selects yX1_addToAll.cls yX1_addToAll yX1_addToAll) := ⟨List.mem_of_getElem? (i := 387) (by decide +kernel), by decide +kernel⟩
theorem okc_X1_addToAll : okV mX1_addToAll 1 3 := ⟨ok_388, ok_386, ok_387, ok_14, rfl, ⟨_, rfl, rfl⟩, by decide, by decide +kernel, by decide +kernel⟩
theorem ok_601 : okw (mw mX1_total) := ⟨List.mem_of_getElem? (i := 601) (by decide +kernel), by decide +kernel⟩
theorem ok_599 : okw (.instanceMethod yX1_total) := ⟨List.mem_of_getElem? (i := 599) (by decide +kernel), by decide +kernel⟩
theorem ok_600 : okw (.selects yX1_total.cls yX1_total yX1_total) := ⟨List.mem_of_getElem? (i := 600) (by decide +kernel), by decide +kernel⟩
theorem okc_X1_total : okV mX1_total 1 2 := ⟨ok_601, ok_599, ok_600, ok_14, rfl, ⟨_, rfl, rfl⟩, by decide, by decide +kernel, by decide +kernel⟩
theorem ok_443 : okw (mw mX1_moveOut) := ⟨List.mem_of_getElem? (i := 443) (by decide +kernel), by decide +kernel⟩
theorem ok_441 : okw (.instanceMethod yX1_moveOut) := ⟨List.mem_of_getElem? (i := 441) (by decide +kernel), by decide +kernel⟩
theorem ok_442 : okw (.selects yX1_moveOut.cls yX1_moveOut yX1_moveOut) := ⟨List.mem_of_getElem? (i := 442) (by decide +kernel), by decide +kernel⟩
theorem okc_X1_moveOut : okV mX1_moveOut 1 3 := ⟨ok_443, ok_441, ok_442, ok_14, rfl, ⟨_, rfl, rfl⟩, by decide, by decide +kernel, by decide +kernel⟩
theorem ok_458 : okw (mw mX1_moveIn) := ⟨List.mem_of_getElem? (i := 458) (by decide +kernel), by decide +kernel⟩
theorem ok_456 : okw (.instanceMethod yX1_moveIn) := ⟨List.mem_of_getElem? (i := 456) (by decide +kernel), by decide +kernel⟩
theorem ok_457 : okw (.selects yX1_moveIn.cls yX1_moveIn yX1_moveIn) := ⟨List.mem_of_getElem? (i := 457) (by decide +kernel), by decide +kernel⟩
theorem okc_X1_moveIn : okV mX1_moveIn 1 2 := ⟨ok_458, ok_456, ok_457, ok_14, rfl, ⟨_, rfl, rfl⟩, by decide, by decide +kernel, by decide +kernel⟩
theorem ok_373 : okw (mw mX1_hasRange) := ⟨List.mem_of_getElem? (i := 373) (by decide +kernel), by decide +kernel⟩
theorem ok_372 : okw (.instanceMethod yX1_hasRange) := ⟨List.mem_of_getElem? (i := 372) (by decide +kernel), by decide +kernel⟩
theorem ok_7 : okw (.selects yX1_hasRange.cls yX1_hasRange yX1_hasRange) := ⟨List.mem_of_getElem? (i := 7) (by decide +kernel), by decide +kernel⟩
theorem okc_X1_hasRange : okV mX1_hasRange 1 2 := ⟨ok_373, ok_372, ok_7, ok_14, rfl, ⟨_, rfl, rfl⟩, by decide, by decide +kernel, by decide +kernel⟩
theorem ok_48 : okw (mw mX2_init) := ⟨List.mem_of_getElem? (i := 48) (by decide +kernel), by decide +kernel⟩
theorem ok_47 : okw (.instanceMethod yX2_init) := ⟨List.mem_of_getElem? (i := 47) (by decide +kernel), by decide +kernel⟩
theorem okc_X2_init : okw (mw mX2_init) ∧ okw (.instanceMethod yX2_init) ∧ okw (.initialized yX2_init.cls) := ⟨ok_48, ok_47, ok_13⟩
theorem ok_228 : okw (mw mX2_beginCall) := ⟨List.mem_of_getElem? (i := 228) (by decide +kernel), by decide +kernel⟩
theorem ok_226 : okw (.instanceMethod yX2_beginCall) := ⟨List.mem_of_getElem? (i := 226) (by decide +kernel), by decide +kernel⟩
theorem ok_227 : okw (.selects yX2_beginCall.cls yX2_beginCall yX2_beginCall) := ⟨List.mem_of_getElem? (i := 227) (by decide +kernel), by decide +kernel⟩
theorem okc_X2_beginCall : okV mX2_beginCall 2 0 := ⟨ok_228, ok_226, ok_227, ok_13, rfl, ⟨_, rfl, rfl⟩, by decide, by decide +kernel, by decide +kernel⟩
theorem ok_232 : okw (mw mX2_splay) := ⟨List.mem_of_getElem? (i := 232) (by decide +kernel), by decide +kernel⟩
theorem ok_230 : okw (.instanceMethod yX2_splay) := ⟨List.mem_of_getElem? (i := 230) (by decide +kernel), by decide +kernel⟩
theorem ok_231 : okw (.selects yX2_splay.cls yX2_splay yX2_splay) := ⟨List.mem_of_getElem? (i := 231) (by decide +kernel), by decide +kernel⟩
theorem okc_X2_splay : okV mX2_splay 2 2 := ⟨ok_232, ok_230, ok_231, ok_13, rfl, ⟨_, rfl, rfl⟩, by decide, by decide +kernel, by decide +kernel⟩
theorem ok_240 : okw (mw mX2_rotate) := ⟨List.mem_of_getElem? (i := 240) (by decide +kernel), by decide +kernel⟩
theorem ok_239 : okw (.instanceMethod yX2_rotate) := ⟨List.mem_of_getElem? (i := 239) (by decide +kernel), by decide +kernel⟩
theorem ok_2 : okw (.selects yX2_rotate.cls yX2_rotate yX2_rotate) := ⟨List.mem_of_getElem? (i := 2) (by decide +kernel), by decide +kernel⟩
theorem okc_X2_rotate : okV mX2_rotate 2 1 := ⟨ok_240, ok_239, ok_2, ok_13, rfl, ⟨_, rfl, rfl⟩, by decide, by decide +kernel, by decide +kernel⟩
theorem ok_345 : okw (mw mX2_split) := ⟨List.mem_of_getElem? (i := 345) (by decide +kernel), by decide +kernel⟩
theorem ok_343 : okw (.instanceMethod yX2_split) := ⟨List.mem_of_getElem? (i := 343) (by decide +kernel), by decide +kernel⟩
theorem ok_344 : okw (.selects yX2_split.cls yX2_split yX2_split) := ⟨List.mem_of_getElem? (i := 344) (by decide +kernel), by decide +kernel⟩
theorem okc_X2_split : okV mX2_split 2 3 := ⟨ok_345, ok_343, ok_344, ok_13, rfl, ⟨_, rfl, rfl⟩, by decide, by decide +kernel, by decide +kernel⟩
theorem ok_263 : okw (mw mX2_join) := ⟨List.mem_of_getElem? (i := 263) (by decide +kernel), by decide +kernel⟩
theorem ok_261 : okw (.instanceMethod yX2_join) := ⟨List.mem_of_getElem? (i := 261) (by decide +kernel), by decide +kernel⟩
theorem ok_262 : okw (.selects yX2_join.cls yX2_join yX2_join) := ⟨List.mem_of_getElem? (i := 262) (by decide +kernel), by decide +kernel⟩
theorem okc_X2_join : okV mX2_join 2 2 := ⟨ok_263, ok_261, ok_262, ok_13, rfl, ⟨_, rfl, rfl⟩, by decide, by decide +kernel, by decide +kernel⟩
theorem ok_36 : okw (mw mX3_init) := ⟨List.mem_of_getElem? (i := 36) (by decide +kernel), by decide +kernel⟩
theorem ok_35 : okw (.instanceMethod yX3_init) := ⟨List.mem_of_getElem? (i := 35) (by decide +kernel), by decide +kernel⟩
theorem okc_X3_init : okw (mw mX3_init) ∧ okw (.instanceMethod yX3_init) ∧ okw (.initialized yX3_init.cls) := ⟨ok_36, ok_35, ok_12⟩
theorem ok_137 : okw (mw mX3_count) := ⟨List.mem_of_getElem? (i := 137) (by decide +kernel), by decide +kernel⟩
theorem ok_135 : okw (.instanceMethod yX3_count) := ⟨List.mem_of_getElem? (i := 135) (by decide +kernel), by decide +kernel⟩
theorem ok_136 : okw (.selects yX3_count.cls yX3_count yX3_count) := ⟨List.mem_of_getElem? (i := 136) (by decide +kernel), by decide +kernel⟩
theorem okc_X3_count : okV mX3_count 3 0 := ⟨ok_137, ok_135, ok_136, ok_12, rfl, ⟨_, rfl, rfl⟩, by decide, by decide +kernel, by decide +kernel⟩
theorem ok_156 : okw (mw mX3_find) := ⟨List.mem_of_getElem? (i := 156) (by decide +kernel), by decide +kernel⟩
theorem ok_154 : okw (.instanceMethod yX3_find) := ⟨List.mem_of_getElem? (i := 154) (by decide +kernel), by decide +kernel⟩
theorem ok_155 : okw (.selects yX3_find.cls yX3_find yX3_find) := ⟨List.mem_of_getElem? (i := 155) (by decide +kernel), by decide +kernel⟩
theorem okc_X3_find : okV mX3_find 3 1 := ⟨ok_156, ok_154, ok_155, ok_12, rfl, ⟨_, rfl, rfl⟩, by decide, by decide +kernel, by decide +kernel⟩
theorem ok_267 : okw (mw mX3_last) := ⟨List.mem_of_getElem? (i := 267) (by decide +kernel), by decide +kernel⟩
theorem ok_265 : okw (.instanceMethod yX3_last) := ⟨List.mem_of_getElem? (i := 265) (by decide +kernel), by decide +kernel⟩
theorem ok_266 : okw (.selects yX3_last.cls yX3_last yX3_last) := ⟨List.mem_of_getElem? (i := 266) (by decide +kernel), by decide +kernel⟩
theorem okc_X3_last : okV mX3_last 3 0 := ⟨ok_267, ok_265, ok_266, ok_12, rfl, ⟨_, rfl, rfl⟩, by decide, by decide +kernel, by decide +kernel⟩
theorem ok_481 : okw (mw mX3_holds) := ⟨List.mem_of_getElem? (i := 481) (by decide +kernel), by decide +kernel⟩
theorem ok_479 : okw (.instanceMethod yX3_holds) := ⟨List.mem_of_getElem? (i := 479) (by decide +kernel), by decide +kernel⟩
theorem ok_480 : okw (.selects yX3_holds.cls yX3_holds yX3_holds) := ⟨List.mem_of_getElem? (i := 480) (by decide +kernel), by decide +kernel⟩
theorem okc_X3_holds : okV mX3_holds 3 1 := ⟨ok_481, ok_479, ok_480, ok_12, rfl, ⟨_, rfl, rfl⟩, by decide, by decide +kernel, by decide +kernel⟩
theorem ok_271 : okw (mw mX3_takeAll) := ⟨List.mem_of_getElem? (i := 271) (by decide +kernel), by decide +kernel⟩
theorem ok_269 : okw (.instanceMethod yX3_takeAll) := ⟨List.mem_of_getElem? (i := 269) (by decide +kernel), by decide +kernel⟩
theorem ok_270 : okw (.selects yX3_takeAll.cls yX3_takeAll yX3_takeAll) := ⟨List.mem_of_getElem? (i := 270) (by decide +kernel), by decide +kernel⟩
theorem okc_X3_takeAll : okV mX3_takeAll 3 0 := ⟨ok_271, ok_269, ok_270, ok_12, rfl, ⟨_, rfl, rfl⟩, by decide, by decide +kernel, by decide +kernel⟩
theorem ok_351 : okw (mw mX3_turnRound) := ⟨List.mem_of_getElem? (i := 351) (by decide +kernel), by decide +kernel⟩
theorem ok_349 : okw (.instanceMethod yX3_turnRound) := ⟨List.mem_of_getElem? (i := 349) (by decide +kernel), by decide +kernel⟩
theorem ok_350 : okw (.selects yX3_turnRound.cls yX3_turnRound yX3_turnRound) := ⟨List.mem_of_getElem? (i := 350) (by decide +kernel), by decide +kernel⟩
theorem okc_X3_turnRound : okV mX3_turnRound 3 0 := ⟨ok_351, ok_349, ok_350, ok_12, rfl, ⟨_, rfl, rfl⟩, by decide, by decide +kernel, by decide +kernel⟩
theorem ok_384 : okw (mw mX3_addToAll) := ⟨List.mem_of_getElem? (i := 384) (by decide +kernel), by decide +kernel⟩
theorem ok_382 : okw (.instanceMethod yX3_addToAll) := ⟨List.mem_of_getElem? (i := 382) (by decide +kernel), by decide +kernel⟩
theorem ok_383 : okw (.selects yX3_addToAll.cls yX3_addToAll yX3_addToAll) := ⟨List.mem_of_getElem? (i := 383) (by decide +kernel), by decide +kernel⟩
theorem okc_X3_addToAll : okV mX3_addToAll 3 1 := ⟨ok_384, ok_382, ok_383, ok_12, rfl, ⟨_, rfl, rfl⟩, by decide, by decide +kernel, by decide +kernel⟩
theorem ok_399 : okw (mw mX3_total) := ⟨List.mem_of_getElem? (i := 399) (by decide +kernel), by decide +kernel⟩
theorem ok_397 : okw (.instanceMethod yX3_total) := ⟨List.mem_of_getElem? (i := 397) (by decide +kernel), by decide +kernel⟩
theorem ok_398 : okw (.selects yX3_total.cls yX3_total yX3_total) := ⟨List.mem_of_getElem? (i := 398) (by decide +kernel), by decide +kernel⟩
theorem okc_X3_total : okV mX3_total 3 0 := ⟨ok_399, ok_397, ok_398, ok_12, rfl, ⟨_, rfl, rfl⟩, by decide, by decide +kernel, by decide +kernel⟩
theorem ok_411 : okw (mw mX3_lowest) := ⟨List.mem_of_getElem? (i := 411) (by decide +kernel), by decide +kernel⟩
theorem ok_409 : okw (.instanceMethod yX3_lowest) := ⟨List.mem_of_getElem? (i := 409) (by decide +kernel), by decide +kernel⟩
theorem ok_410 : okw (.selects yX3_lowest.cls yX3_lowest yX3_lowest) := ⟨List.mem_of_getElem? (i := 410) (by decide +kernel), by decide +kernel⟩
theorem okc_X3_lowest : okV mX3_lowest 3 0 := ⟨ok_411, ok_409, ok_410, ok_12, rfl, ⟨_, rfl, rfl⟩, by decide, by decide +kernel, by decide +kernel⟩
theorem ok_613 : okw (mw mX3_sumOfRanks) := ⟨List.mem_of_getElem? (i := 613) (by decide +kernel), by decide +kernel⟩
theorem ok_611 : okw (.instanceMethod yX3_sumOfRanks) := ⟨List.mem_of_getElem? (i := 611) (by decide +kernel), by decide +kernel⟩
theorem ok_612 : okw (.selects yX3_sumOfRanks.cls yX3_sumOfRanks yX3_sumOfRanks) := ⟨List.mem_of_getElem? (i := 612) (by decide +kernel), by decide +kernel⟩
theorem okc_X3_sumOfRanks : okV mX3_sumOfRanks 3 0 := ⟨ok_613, ok_611, ok_612, ok_12, rfl, ⟨_, rfl, rfl⟩, by decide, by decide +kernel, by decide +kernel⟩
theorem ok_589 : okw (mw mX3_levels) := ⟨List.mem_of_getElem? (i := 589) (by decide +kernel), by decide +kernel⟩
theorem ok_587 : okw (.instanceMethod yX3_levels) := ⟨List.mem_of_getElem? (i := 587) (by decide +kernel), by decide +kernel⟩
theorem ok_588 : okw (.selects yX3_levels.cls yX3_levels yX3_levels) := ⟨List.mem_of_getElem? (i := 588) (by decide +kernel), by decide +kernel⟩
theorem okc_X3_levels : okV mX3_levels 3 0 := ⟨ok_589, ok_587, ok_588, ok_12, rfl, ⟨_, rfl, rfl⟩, by decide, by decide +kernel, by decide +kernel⟩
theorem ok_616 : okw (mw mX3_rankOf) := ⟨List.mem_of_getElem? (i := 616) (by decide +kernel), by decide +kernel⟩
theorem ok_615 : okw (.static yX3_rankOf) := ⟨List.mem_of_getElem? (i := 615) (by decide +kernel), by decide +kernel⟩
theorem okc_X3_rankOf : okS mX3_rankOf 1 := ⟨ok_616, ok_615, ok_12, by decide +kernel, by decide +kernel⟩
theorem ok_28 : okw (mw mX4_init) := ⟨List.mem_of_getElem? (i := 28) (by decide +kernel), by decide +kernel⟩
theorem ok_27 : okw (.instanceMethod yX4_init) := ⟨List.mem_of_getElem? (i := 27) (by decide +kernel), by decide +kernel⟩
theorem okc_X4_init : okw (mw mX4_init) ∧ okw (.instanceMethod yX4_init) ∧ okw (.initialized yX4_init.cls) := ⟨ok_28, ok_27, ok_11⟩
theorem ok_505 : okw (mw mX4_insert) := ⟨List.mem_of_getElem? (i := 505) (by decide +kernel), by decide +kernel⟩
theorem ok_503 : okw (.instanceMethod yX4_insert) := ⟨List.mem_of_getElem? (i := 503) (by decide +kernel), by decide +kernel⟩
theorem ok_504 : okw (.selects yX4_insert.cls yX4_insert yX4_insert) := ⟨List.mem_of_getElem? (i := 504) (by decide +kernel), by decide +kernel⟩
theorem okc_X4_insert : okV mX4_insert 4 2 := ⟨ok_505, ok_503, ok_504, ok_11, rfl, ⟨_, rfl, rfl⟩, by decide, by decide +kernel, by decide +kernel⟩
theorem ok_148 : okw (mw mX4_remove) := ⟨List.mem_of_getElem? (i := 148) (by decide +kernel), by decide +kernel⟩
theorem ok_146 : okw (.instanceMethod yX4_remove) := ⟨List.mem_of_getElem? (i := 146) (by decide +kernel), by decide +kernel⟩
theorem ok_147 : okw (.selects yX4_remove.cls yX4_remove yX4_remove) := ⟨List.mem_of_getElem? (i := 147) (by decide +kernel), by decide +kernel⟩
theorem okc_X4_remove : okV mX4_remove 4 1 := ⟨ok_148, ok_146, ok_147, ok_11, rfl, ⟨_, rfl, rfl⟩, by decide, by decide +kernel, by decide +kernel⟩
theorem ok_291 : okw (mw mX4_get) := ⟨List.mem_of_getElem? (i := 291) (by decide +kernel), by decide +kernel⟩
theorem ok_289 : okw (.instanceMethod yX4_get) := ⟨List.mem_of_getElem? (i := 289) (by decide +kernel), by decide +kernel⟩
theorem ok_290 : okw (.selects yX4_get.cls yX4_get yX4_get) := ⟨List.mem_of_getElem? (i := 290) (by decide +kernel), by decide +kernel⟩
theorem okc_X4_get : okV mX4_get 4 1 := ⟨ok_291, ok_289, ok_290, ok_11, rfl, ⟨_, rfl, rfl⟩, by decide, by decide +kernel, by decide +kernel⟩
theorem ok_299 : okw (mw mX4_set) := ⟨List.mem_of_getElem? (i := 299) (by decide +kernel), by decide +kernel⟩
theorem ok_297 : okw (.instanceMethod yX4_set) := ⟨List.mem_of_getElem? (i := 297) (by decide +kernel), by decide +kernel⟩
theorem ok_298 : okw (.selects yX4_set.cls yX4_set yX4_set) := ⟨List.mem_of_getElem? (i := 298) (by decide +kernel), by decide +kernel⟩
theorem okc_X4_set : okV mX4_set 4 2 := ⟨ok_299, ok_297, ok_298, ok_11, rfl, ⟨_, rfl, rfl⟩, by decide, by decide +kernel, by decide +kernel⟩
theorem ok_332 : okw (mw mX4_reverse) := ⟨List.mem_of_getElem? (i := 332) (by decide +kernel), by decide +kernel⟩
theorem ok_330 : okw (.instanceMethod yX4_reverse) := ⟨List.mem_of_getElem? (i := 330) (by decide +kernel), by decide +kernel⟩
theorem ok_331 : okw (.selects yX4_reverse.cls yX4_reverse yX4_reverse) := ⟨List.mem_of_getElem? (i := 331) (by decide +kernel), by decide +kernel⟩
theorem okc_X4_reverse : okV mX4_reverse 4 2 := ⟨ok_332, ok_330, ok_331, ok_11, rfl, ⟨_, rfl, rfl⟩, by decide, by decide +kernel, by decide +kernel⟩
theorem ok_380 : okw (mw mX4_raise) := ⟨List.mem_of_getElem? (i := 380) (by decide +kernel), by decide +kernel⟩
theorem ok_378 : okw (.instanceMethod yX4_raise) := ⟨List.mem_of_getElem? (i := 378) (by decide +kernel), by decide +kernel⟩
theorem ok_379 : okw (.selects yX4_raise.cls yX4_raise yX4_raise) := ⟨List.mem_of_getElem? (i := 379) (by decide +kernel), by decide +kernel⟩
theorem okc_X4_raise : okV mX4_raise 4 3 := ⟨ok_380, ok_378, ok_379, ok_11, rfl, ⟨_, rfl, rfl⟩, by decide, by decide +kernel, by decide +kernel⟩
theorem ok_395 : okw (mw mX4_sum) := ⟨List.mem_of_getElem? (i := 395) (by decide +kernel), by decide +kernel⟩
theorem ok_393 : okw (.instanceMethod yX4_sum) := ⟨List.mem_of_getElem? (i := 393) (by decide +kernel), by decide +kernel⟩
theorem ok_394 : okw (.selects yX4_sum.cls yX4_sum yX4_sum) := ⟨List.mem_of_getElem? (i := 394) (by decide +kernel), by decide +kernel⟩
theorem okc_X4_sum : okV mX4_sum 4 2 := ⟨ok_395, ok_393, ok_394, ok_11, rfl, ⟨_, rfl, rfl⟩, by decide, by decide +kernel, by decide +kernel⟩
theorem ok_406 : okw (mw mX4_least) := ⟨List.mem_of_getElem? (i := 406) (by decide +kernel), by decide +kernel⟩
theorem ok_404 : okw (.instanceMethod yX4_least) := ⟨List.mem_of_getElem? (i := 404) (by decide +kernel), by decide +kernel⟩
theorem ok_405 : okw (.selects yX4_least.cls yX4_least yX4_least) := ⟨List.mem_of_getElem? (i := 405) (by decide +kernel), by decide +kernel⟩
theorem okc_X4_least : okV mX4_least 4 2 := ⟨ok_406, ok_404, ok_405, ok_11, rfl, ⟨_, rfl, rfl⟩, by decide, by decide +kernel, by decide +kernel⟩
theorem ok_422 : okw (mw mX4_cut) := ⟨List.mem_of_getElem? (i := 422) (by decide +kernel), by decide +kernel⟩
theorem ok_420 : okw (.instanceMethod yX4_cut) := ⟨List.mem_of_getElem? (i := 420) (by decide +kernel), by decide +kernel⟩
theorem ok_421 : okw (.selects yX4_cut.cls yX4_cut yX4_cut) := ⟨List.mem_of_getElem? (i := 421) (by decide +kernel), by decide +kernel⟩
theorem okc_X4_cut : okV mX4_cut 4 2 := ⟨ok_422, ok_420, ok_421, ok_11, rfl, ⟨_, rfl, rfl⟩, by decide, by decide +kernel, by decide +kernel⟩
theorem ok_450 : okw (mw mX4_paste) := ⟨List.mem_of_getElem? (i := 450) (by decide +kernel), by decide +kernel⟩
theorem ok_448 : okw (.instanceMethod yX4_paste) := ⟨List.mem_of_getElem? (i := 448) (by decide +kernel), by decide +kernel⟩
theorem ok_449 : okw (.selects yX4_paste.cls yX4_paste yX4_paste) := ⟨List.mem_of_getElem? (i := 449) (by decide +kernel), by decide +kernel⟩
theorem okc_X4_paste : okV mX4_paste 4 1 := ⟨ok_450, ok_448, ok_449, ok_11, rfl, ⟨_, rfl, rfl⟩, by decide, by decide +kernel, by decide +kernel⟩
theorem ok_465 : okw (mw mX4_point) := ⟨List.mem_of_getElem? (i := 465) (by decide +kernel), by decide +kernel⟩
theorem ok_463 : okw (.instanceMethod yX4_point) := ⟨List.mem_of_getElem? (i := 463) (by decide +kernel), by decide +kernel⟩
theorem ok_464 : okw (.selects yX4_point.cls yX4_point yX4_point) := ⟨List.mem_of_getElem? (i := 464) (by decide +kernel), by decide +kernel⟩
theorem okc_X4_point : okV mX4_point 4 2 := ⟨ok_465, ok_463, ok_464, ok_11, rfl, ⟨_, rfl, rfl⟩, by decide, by decide +kernel, by decide +kernel⟩
theorem ok_477 : okw (mw mX4_follow) := ⟨List.mem_of_getElem? (i := 477) (by decide +kernel), by decide +kernel⟩
theorem ok_475 : okw (.instanceMethod yX4_follow) := ⟨List.mem_of_getElem? (i := 475) (by decide +kernel), by decide +kernel⟩
theorem ok_476 : okw (.selects yX4_follow.cls yX4_follow yX4_follow) := ⟨List.mem_of_getElem? (i := 476) (by decide +kernel), by decide +kernel⟩
theorem okc_X4_follow : okV mX4_follow 4 1 := ⟨ok_477, ok_475, ok_476, ok_11, rfl, ⟨_, rfl, rfl⟩, by decide, by decide +kernel, by decide +kernel⟩
theorem ok_496 : okw (mw mX4_move) := ⟨List.mem_of_getElem? (i := 496) (by decide +kernel), by decide +kernel⟩
theorem ok_494 : okw (.instanceMethod yX4_move) := ⟨List.mem_of_getElem? (i := 494) (by decide +kernel), by decide +kernel⟩
theorem ok_495 : okw (.selects yX4_move.cls yX4_move yX4_move) := ⟨List.mem_of_getElem? (i := 495) (by decide +kernel), by decide +kernel⟩
theorem okc_X4_move : okV mX4_move 4 2 := ⟨ok_496, ok_494, ok_495, ok_11, rfl, ⟨_, rfl, rfl⟩, by decide, by decide +kernel, by decide +kernel⟩
theorem ok_111 : okw (mw mX4_lastSteps) := ⟨List.mem_of_getElem? (i := 111) (by decide +kernel), by decide +kernel⟩
theorem ok_109 : okw (.instanceMethod yX4_lastSteps) := ⟨List.mem_of_getElem? (i := 109) (by decide +kernel), by decide +kernel⟩
theorem ok_110 : okw (.selects yX4_lastSteps.cls yX4_lastSteps yX4_lastSteps) := ⟨List.mem_of_getElem? (i := 110) (by decide +kernel), by decide +kernel⟩
theorem okc_X4_lastSteps : okV mX4_lastSteps 4 0 := ⟨ok_111, ok_109, ok_110, ok_11, rfl, ⟨_, rfl, rfl⟩, by decide, by decide +kernel, by decide +kernel⟩
theorem ok_115 : okw (mw mX4_lastRotations) := ⟨List.mem_of_getElem? (i := 115) (by decide +kernel), by decide +kernel⟩
theorem ok_113 : okw (.instanceMethod yX4_lastRotations) := ⟨List.mem_of_getElem? (i := 113) (by decide +kernel), by decide +kernel⟩
theorem ok_114 : okw (.selects yX4_lastRotations.cls yX4_lastRotations yX4_lastRotations) := ⟨List.mem_of_getElem? (i := 114) (by decide +kernel), by decide +kernel⟩
theorem okc_X4_lastRotations : okV mX4_lastRotations 4 0 := ⟨ok_115, ok_113, ok_114, ok_11, rfl, ⟨_, rfl, rfl⟩, by decide, by decide +kernel, by decide +kernel⟩
theorem ok_119 : okw (mw mX4_steps) := ⟨List.mem_of_getElem? (i := 119) (by decide +kernel), by decide +kernel⟩
theorem ok_117 : okw (.instanceMethod yX4_steps) := ⟨List.mem_of_getElem? (i := 117) (by decide +kernel), by decide +kernel⟩
theorem ok_118 : okw (.selects yX4_steps.cls yX4_steps yX4_steps) := ⟨List.mem_of_getElem? (i := 118) (by decide +kernel), by decide +kernel⟩
theorem okc_X4_steps : okV mX4_steps 4 0 := ⟨ok_119, ok_117, ok_118, ok_11, rfl, ⟨_, rfl, rfl⟩, by decide, by decide +kernel, by decide +kernel⟩
theorem ok_623 : okw (mw mX4_splays) := ⟨List.mem_of_getElem? (i := 623) (by decide +kernel), by decide +kernel⟩
theorem ok_621 : okw (.instanceMethod yX4_splays) := ⟨List.mem_of_getElem? (i := 621) (by decide +kernel), by decide +kernel⟩
theorem ok_622 : okw (.selects yX4_splays.cls yX4_splays yX4_splays) := ⟨List.mem_of_getElem? (i := 622) (by decide +kernel), by decide +kernel⟩
theorem okc_X4_splays : okV mX4_splays 4 0 := ⟨ok_623, ok_621, ok_622, ok_11, rfl, ⟨_, rfl, rfl⟩, by decide, by decide +kernel, by decide +kernel⟩
theorem ok_609 : okw (mw mX4_potential) := ⟨List.mem_of_getElem? (i := 609) (by decide +kernel), by decide +kernel⟩
theorem ok_607 : okw (.instanceMethod yX4_potential) := ⟨List.mem_of_getElem? (i := 607) (by decide +kernel), by decide +kernel⟩
theorem ok_608 : okw (.selects yX4_potential.cls yX4_potential yX4_potential) := ⟨List.mem_of_getElem? (i := 608) (by decide +kernel), by decide +kernel⟩
theorem okc_X4_potential : okV mX4_potential 4 0 := ⟨ok_609, ok_607, ok_608, ok_11, rfl, ⟨_, rfl, rfl⟩, by decide, by decide +kernel, by decide +kernel⟩
theorem ok_133 : okw (mw mX4_size) := ⟨List.mem_of_getElem? (i := 133) (by decide +kernel), by decide +kernel⟩
theorem ok_131 : okw (.instanceMethod yX4_size) := ⟨List.mem_of_getElem? (i := 131) (by decide +kernel), by decide +kernel⟩
theorem ok_132 : okw (.selects yX4_size.cls yX4_size yX4_size) := ⟨List.mem_of_getElem? (i := 132) (by decide +kernel), by decide +kernel⟩
theorem okc_X4_size : okV mX4_size 4 0 := ⟨ok_133, ok_131, ok_132, ok_11, rfl, ⟨_, rfl, rfl⟩, by decide, by decide +kernel, by decide +kernel⟩
theorem ok_605 : okw (mw mX4_clipped) := ⟨List.mem_of_getElem? (i := 605) (by decide +kernel), by decide +kernel⟩
theorem ok_603 : okw (.instanceMethod yX4_clipped) := ⟨List.mem_of_getElem? (i := 603) (by decide +kernel), by decide +kernel⟩
theorem ok_604 : okw (.selects yX4_clipped.cls yX4_clipped yX4_clipped) := ⟨List.mem_of_getElem? (i := 604) (by decide +kernel), by decide +kernel⟩
theorem okc_X4_clipped : okV mX4_clipped 4 0 := ⟨ok_605, ok_603, ok_604, ok_11, rfl, ⟨_, rfl, rfl⟩, by decide, by decide +kernel, by decide +kernel⟩
theorem ok_581 : okw (mw mX4_root) := ⟨List.mem_of_getElem? (i := 581) (by decide +kernel), by decide +kernel⟩
theorem ok_579 : okw (.instanceMethod yX4_root) := ⟨List.mem_of_getElem? (i := 579) (by decide +kernel), by decide +kernel⟩
theorem ok_580 : okw (.selects yX4_root.cls yX4_root yX4_root) := ⟨List.mem_of_getElem? (i := 580) (by decide +kernel), by decide +kernel⟩
theorem okc_X4_root : okV mX4_root 4 0 := ⟨ok_581, ok_579, ok_580, ok_11, rfl, ⟨_, rfl, rfl⟩, by decide, by decide +kernel, by decide +kernel⟩
theorem ok_585 : okw (mw mX4_height) := ⟨List.mem_of_getElem? (i := 585) (by decide +kernel), by decide +kernel⟩
theorem ok_583 : okw (.instanceMethod yX4_height) := ⟨List.mem_of_getElem? (i := 583) (by decide +kernel), by decide +kernel⟩
theorem ok_584 : okw (.selects yX4_height.cls yX4_height yX4_height) := ⟨List.mem_of_getElem? (i := 584) (by decide +kernel), by decide +kernel⟩
theorem okc_X4_height : okV mX4_height 4 0 := ⟨ok_585, ok_583, ok_584, ok_11, rfl, ⟨_, rfl, rfl⟩, by decide, by decide +kernel, by decide +kernel⟩
theorem ok_555 : okw (mw mX4_depth) := ⟨List.mem_of_getElem? (i := 555) (by decide +kernel), by decide +kernel⟩
theorem ok_553 : okw (.instanceMethod yX4_depth) := ⟨List.mem_of_getElem? (i := 553) (by decide +kernel), by decide +kernel⟩
theorem ok_554 : okw (.selects yX4_depth.cls yX4_depth yX4_depth) := ⟨List.mem_of_getElem? (i := 554) (by decide +kernel), by decide +kernel⟩
theorem okc_X4_depth : okV mX4_depth 4 1 := ⟨ok_555, ok_553, ok_554, ok_11, rfl, ⟨_, rfl, rfl⟩, by decide, by decide +kernel, by decide +kernel⟩
theorem ok_551 : okw (mw mX4_subtree) := ⟨List.mem_of_getElem? (i := 551) (by decide +kernel), by decide +kernel⟩
theorem ok_549 : okw (.instanceMethod yX4_subtree) := ⟨List.mem_of_getElem? (i := 549) (by decide +kernel), by decide +kernel⟩
theorem ok_550 : okw (.selects yX4_subtree.cls yX4_subtree yX4_subtree) := ⟨List.mem_of_getElem? (i := 550) (by decide +kernel), by decide +kernel⟩
theorem okc_X4_subtree : okV mX4_subtree 4 1 := ⟨ok_551, ok_549, ok_550, ok_11, rfl, ⟨_, rfl, rfl⟩, by decide, by decide +kernel, by decide +kernel⟩
theorem ok_574 : okw (mw mX4_child) := ⟨List.mem_of_getElem? (i := 574) (by decide +kernel), by decide +kernel⟩
theorem ok_572 : okw (.instanceMethod yX4_child) := ⟨List.mem_of_getElem? (i := 572) (by decide +kernel), by decide +kernel⟩
theorem ok_573 : okw (.selects yX4_child.cls yX4_child yX4_child) := ⟨List.mem_of_getElem? (i := 573) (by decide +kernel), by decide +kernel⟩
theorem okc_X4_child : okV mX4_child 4 2 := ⟨ok_574, ok_572, ok_573, ok_11, rfl, ⟨_, rfl, rfl⟩, by decide, by decide +kernel, by decide +kernel⟩
theorem ok_627 : okw (mw mX4_whereIs) := ⟨List.mem_of_getElem? (i := 627) (by decide +kernel), by decide +kernel⟩
theorem ok_625 : okw (.instanceMethod yX4_whereIs) := ⟨List.mem_of_getElem? (i := 625) (by decide +kernel), by decide +kernel⟩
theorem ok_626 : okw (.selects yX4_whereIs.cls yX4_whereIs yX4_whereIs) := ⟨List.mem_of_getElem? (i := 626) (by decide +kernel), by decide +kernel⟩
theorem okc_X4_whereIs : okV mX4_whereIs 4 1 := ⟨ok_627, ok_625, ok_626, ok_11, rfl, ⟨_, rfl, rfl⟩, by decide, by decide +kernel, by decide +kernel⟩
theorem ok_563 : okw (mw mX4_plain) := ⟨List.mem_of_getElem? (i := 563) (by decide +kernel), by decide +kernel⟩
theorem ok_561 : okw (.instanceMethod yX4_plain) := ⟨List.mem_of_getElem? (i := 561) (by decide +kernel), by decide +kernel⟩
theorem ok_562 : okw (.selects yX4_plain.cls yX4_plain yX4_plain) := ⟨List.mem_of_getElem? (i := 562) (by decide +kernel), by decide +kernel⟩
theorem okc_X4_plain : okV mX4_plain 4 1 := ⟨ok_563, ok_561, ok_562, ok_11, rfl, ⟨_, rfl, rfl⟩, by decide, by decide +kernel, by decide +kernel⟩
theorem ok_597 : okw (mw mX4_plainSum) := ⟨List.mem_of_getElem? (i := 597) (by decide +kernel), by decide +kernel⟩
theorem ok_595 : okw (.instanceMethod yX4_plainSum) := ⟨List.mem_of_getElem? (i := 595) (by decide +kernel), by decide +kernel⟩
theorem ok_596 : okw (.selects yX4_plainSum.cls yX4_plainSum yX4_plainSum) := ⟨List.mem_of_getElem? (i := 596) (by decide +kernel), by decide +kernel⟩
theorem okc_X4_plainSum : okV mX4_plainSum 4 2 := ⟨ok_597, ok_595, ok_596, ok_11, rfl, ⟨_, rfl, rfl⟩, by decide, by decide +kernel, by decide +kernel⟩
theorem ok_152 : okw (mw mX4_nodeAt) := ⟨List.mem_of_getElem? (i := 152) (by decide +kernel), by decide +kernel⟩
theorem ok_151 : okw (.instanceMethod yX4_nodeAt) := ⟨List.mem_of_getElem? (i := 151) (by decide +kernel), by decide +kernel⟩
theorem ok_0 : okw (.selects yX4_nodeAt.cls yX4_nodeAt yX4_nodeAt) := ⟨List.mem_of_getElem? (i := 0) (by decide +kernel), by decide +kernel⟩
theorem okc_X4_nodeAt : okV mX4_nodeAt 4 1 := ⟨ok_152, ok_151, ok_0, ok_11, rfl, ⟨_, rfl, rfl⟩, by decide, by decide +kernel, by decide +kernel⟩
theorem ok_454 : okw (mw mX4_checkGap) := ⟨List.mem_of_getElem? (i := 454) (by decide +kernel), by decide +kernel⟩
theorem ok_453 : okw (.instanceMethod yX4_checkGap) := ⟨List.mem_of_getElem? (i := 453) (by decide +kernel), by decide +kernel⟩
theorem ok_8 : okw (.selects yX4_checkGap.cls yX4_checkGap yX4_checkGap) := ⟨List.mem_of_getElem? (i := 8) (by decide +kernel), by decide +kernel⟩
theorem okc_X4_checkGap : okV mX4_checkGap 4 1 := ⟨ok_454, ok_453, ok_8, ok_11, rfl, ⟨_, rfl, rfl⟩, by decide, by decide +kernel, by decide +kernel⟩
theorem ok_336 : okw (mw mX4_checkRange) := ⟨List.mem_of_getElem? (i := 336) (by decide +kernel), by decide +kernel⟩
theorem ok_335 : okw (.instanceMethod yX4_checkRange) := ⟨List.mem_of_getElem? (i := 335) (by decide +kernel), by decide +kernel⟩
theorem ok_4 : okw (.selects yX4_checkRange.cls yX4_checkRange yX4_checkRange) := ⟨List.mem_of_getElem? (i := 4) (by decide +kernel), by decide +kernel⟩
theorem okc_X4_checkRange : okV mX4_checkRange 4 2 := ⟨ok_336, ok_335, ok_4, ok_11, rfl, ⟨_, rfl, rfl⟩, by decide, by decide +kernel, by decide +kernel⟩
theorem ok_469 : okw (mw mX4_checkFinger) := ⟨List.mem_of_getElem? (i := 469) (by decide +kernel), by decide +kernel⟩
theorem ok_468 : okw (.instanceMethod yX4_checkFinger) := ⟨List.mem_of_getElem? (i := 468) (by decide +kernel), by decide +kernel⟩
theorem ok_9 : okw (.selects yX4_checkFinger.cls yX4_checkFinger yX4_checkFinger) := ⟨List.mem_of_getElem? (i := 9) (by decide +kernel), by decide +kernel⟩
theorem okc_X4_checkFinger : okV mX4_checkFinger 4 1 := ⟨ok_469, ok_468, ok_9, ok_11, rfl, ⟨_, rfl, rfl⟩, by decide, by decide +kernel, by decide +kernel⟩
theorem ok_302 : okw (mw mX4_checkAmount) := ⟨List.mem_of_getElem? (i := 302) (by decide +kernel), by decide +kernel⟩
theorem ok_301 : okw (.static yX4_checkAmount) := ⟨List.mem_of_getElem? (i := 301) (by decide +kernel), by decide +kernel⟩
theorem okc_X4_checkAmount : okS mX4_checkAmount 1 := ⟨ok_302, ok_301, ok_11, by decide +kernel, by decide +kernel⟩
theorem ok_577 : okw (mw mX4_positionOrNone) := ⟨List.mem_of_getElem? (i := 577) (by decide +kernel), by decide +kernel⟩
theorem ok_576 : okw (.static yX4_positionOrNone) := ⟨List.mem_of_getElem? (i := 576) (by decide +kernel), by decide +kernel⟩
theorem okc_X4_positionOrNone : okS mX4_positionOrNone 1 := ⟨ok_577, ok_576, ok_11, by decide +kernel, by decide +kernel⟩
theorem ok_276 : okw (mw mX4_liftFingersFrom) := ⟨List.mem_of_getElem? (i := 276) (by decide +kernel), by decide +kernel⟩
theorem ok_275 : okw (.instanceMethod yX4_liftFingersFrom) := ⟨List.mem_of_getElem? (i := 275) (by decide +kernel), by decide +kernel⟩
theorem ok_3 : okw (.selects yX4_liftFingersFrom.cls yX4_liftFingersFrom yX4_liftFingersFrom) := ⟨List.mem_of_getElem? (i := 3) (by decide +kernel), by decide +kernel⟩
theorem okc_X4_liftFingersFrom : okV mX4_liftFingersFrom 4 1 := ⟨ok_276, ok_275, ok_3, ok_11, rfl, ⟨_, rfl, rfl⟩, by decide, by decide +kernel, by decide +kernel⟩
theorem ok_341 : okw (mw mX4_takeRange) := ⟨List.mem_of_getElem? (i := 341) (by decide +kernel), by decide +kernel⟩
theorem ok_340 : okw (.instanceMethod yX4_takeRange) := ⟨List.mem_of_getElem? (i := 340) (by decide +kernel), by decide +kernel⟩
theorem ok_5 : okw (.selects yX4_takeRange.cls yX4_takeRange yX4_takeRange) := ⟨List.mem_of_getElem? (i := 5) (by decide +kernel), by decide +kernel⟩
theorem okc_X4_takeRange : okV mX4_takeRange 4 2 := ⟨ok_341, ok_340, ok_5, ok_11, rfl, ⟨_, rfl, rfl⟩, by decide, by decide +kernel, by decide +kernel⟩
theorem ok_365 : okw (mw mX4_putRangeBack) := ⟨List.mem_of_getElem? (i := 365) (by decide +kernel), by decide +kernel⟩
theorem ok_364 : okw (.instanceMethod yX4_putRangeBack) := ⟨List.mem_of_getElem? (i := 364) (by decide +kernel), by decide +kernel⟩
theorem ok_6 : okw (.selects yX4_putRangeBack.cls yX4_putRangeBack yX4_putRangeBack) := ⟨List.mem_of_getElem? (i := 6) (by decide +kernel), by decide +kernel⟩
theorem okc_X4_putRangeBack : okV mX4_putRangeBack 4 0 := ⟨ok_365, ok_364, ok_6, ok_11, rfl, ⟨_, rfl, rfl⟩, by decide, by decide +kernel, by decide +kernel⟩
theorem ok_122 : okw (mw mL_cell) := ⟨List.mem_of_getElem? (i := 122) (by decide +kernel), by decide +kernel⟩
theorem ok_121 : okw (.static yL_cell) := ⟨List.mem_of_getElem? (i := 121) (by decide +kernel), by decide +kernel⟩
theorem okc_L_cell : okS mL_cell 2 := ⟨ok_122, ok_121, ok_10, by decide +kernel, by decide +kernel⟩
theorem ok_128 : okw (mw mL_low) := ⟨List.mem_of_getElem? (i := 128) (by decide +kernel), by decide +kernel⟩
theorem ok_127 : okw (.static yL_low) := ⟨List.mem_of_getElem? (i := 127) (by decide +kernel), by decide +kernel⟩
theorem okc_L_low : okS mL_low 2 := ⟨ok_128, ok_127, ok_10, by decide +kernel, by decide +kernel⟩
theorem ok_501 : okw (mw mL_insert) := ⟨List.mem_of_getElem? (i := 501) (by decide +kernel), by decide +kernel⟩
theorem ok_500 : okw (.static yL_insert) := ⟨List.mem_of_getElem? (i := 500) (by decide +kernel), by decide +kernel⟩
theorem okc_L_insert : okS mL_insert 3 := ⟨ok_501, ok_500, ok_10, by decide +kernel, by decide +kernel⟩
theorem ok_143 : okw (mw mL_remove) := ⟨List.mem_of_getElem? (i := 143) (by decide +kernel), by decide +kernel⟩
theorem ok_142 : okw (.static yL_remove) := ⟨List.mem_of_getElem? (i := 142) (by decide +kernel), by decide +kernel⟩
theorem okc_L_remove : okS mL_remove 2 := ⟨ok_143, ok_142, ok_10, by decide +kernel, by decide +kernel⟩
theorem ok_287 : okw (mw mL_get) := ⟨List.mem_of_getElem? (i := 287) (by decide +kernel), by decide +kernel⟩
theorem ok_286 : okw (.static yL_get) := ⟨List.mem_of_getElem? (i := 286) (by decide +kernel), by decide +kernel⟩
theorem okc_L_get : okS mL_get 2 := ⟨ok_287, ok_286, ok_10, by decide +kernel, by decide +kernel⟩
theorem ok_294 : okw (mw mL_set) := ⟨List.mem_of_getElem? (i := 294) (by decide +kernel), by decide +kernel⟩
theorem ok_293 : okw (.static yL_set) := ⟨List.mem_of_getElem? (i := 293) (by decide +kernel), by decide +kernel⟩
theorem okc_L_set : okS mL_set 3 := ⟨ok_294, ok_293, ok_10, by decide +kernel, by decide +kernel⟩
theorem ok_328 : okw (mw mL_reverse) := ⟨List.mem_of_getElem? (i := 328) (by decide +kernel), by decide +kernel⟩
theorem ok_327 : okw (.static yL_reverse) := ⟨List.mem_of_getElem? (i := 327) (by decide +kernel), by decide +kernel⟩
theorem okc_L_reverse : okS mL_reverse 3 := ⟨ok_328, ok_327, ok_10, by decide +kernel, by decide +kernel⟩
theorem ok_376 : okw (mw mL_raise) := ⟨List.mem_of_getElem? (i := 376) (by decide +kernel), by decide +kernel⟩
theorem ok_375 : okw (.static yL_raise) := ⟨List.mem_of_getElem? (i := 375) (by decide +kernel), by decide +kernel⟩
theorem okc_L_raise : okS mL_raise 4 := ⟨ok_376, ok_375, ok_10, by decide +kernel, by decide +kernel⟩
theorem ok_391 : okw (mw mL_sum) := ⟨List.mem_of_getElem? (i := 391) (by decide +kernel), by decide +kernel⟩
theorem ok_390 : okw (.static yL_sum) := ⟨List.mem_of_getElem? (i := 390) (by decide +kernel), by decide +kernel⟩
theorem okc_L_sum : okS mL_sum 3 := ⟨ok_391, ok_390, ok_10, by decide +kernel, by decide +kernel⟩
theorem ok_402 : okw (mw mL_least) := ⟨List.mem_of_getElem? (i := 402) (by decide +kernel), by decide +kernel⟩
theorem ok_401 : okw (.static yL_least) := ⟨List.mem_of_getElem? (i := 401) (by decide +kernel), by decide +kernel⟩
theorem okc_L_least : okS mL_least 3 := ⟨ok_402, ok_401, ok_10, by decide +kernel, by decide +kernel⟩
theorem ok_417 : okw (mw mL_cut) := ⟨List.mem_of_getElem? (i := 417) (by decide +kernel), by decide +kernel⟩
theorem ok_416 : okw (.static yL_cut) := ⟨List.mem_of_getElem? (i := 416) (by decide +kernel), by decide +kernel⟩
theorem okc_L_cut : okS mL_cut 3 := ⟨ok_417, ok_416, ok_10, by decide +kernel, by decide +kernel⟩
theorem ok_446 : okw (mw mL_paste) := ⟨List.mem_of_getElem? (i := 446) (by decide +kernel), by decide +kernel⟩
theorem ok_445 : okw (.static yL_paste) := ⟨List.mem_of_getElem? (i := 445) (by decide +kernel), by decide +kernel⟩
theorem okc_L_paste : okS mL_paste 2 := ⟨ok_446, ok_445, ok_10, by decide +kernel, by decide +kernel⟩
theorem ok_461 : okw (mw mL_point) := ⟨List.mem_of_getElem? (i := 461) (by decide +kernel), by decide +kernel⟩
theorem ok_460 : okw (.static yL_point) := ⟨List.mem_of_getElem? (i := 460) (by decide +kernel), by decide +kernel⟩
theorem okc_L_point : okS mL_point 3 := ⟨ok_461, ok_460, ok_10, by decide +kernel, by decide +kernel⟩
theorem ok_473 : okw (mw mL_follow) := ⟨List.mem_of_getElem? (i := 473) (by decide +kernel), by decide +kernel⟩
theorem ok_472 : okw (.static yL_follow) := ⟨List.mem_of_getElem? (i := 472) (by decide +kernel), by decide +kernel⟩
theorem okc_L_follow : okS mL_follow 2 := ⟨ok_473, ok_472, ok_10, by decide +kernel, by decide +kernel⟩
theorem ok_492 : okw (mw mL_move) := ⟨List.mem_of_getElem? (i := 492) (by decide +kernel), by decide +kernel⟩
theorem ok_491 : okw (.static yL_move) := ⟨List.mem_of_getElem? (i := 491) (by decide +kernel), by decide +kernel⟩
theorem okc_L_move : okS mL_move 3 := ⟨ok_492, ok_491, ok_10, by decide +kernel, by decide +kernel⟩
theorem ok_325 : okw (mw mL_range) := ⟨List.mem_of_getElem? (i := 325) (by decide +kernel), by decide +kernel⟩
theorem ok_324 : okw (.static yL_range) := ⟨List.mem_of_getElem? (i := 324) (by decide +kernel), by decide +kernel⟩
theorem okc_L_range : okS mL_range 5 := ⟨ok_325, ok_324, ok_10, by decide +kernel, by decide +kernel⟩
theorem ok_125 : okw (mw mL_act) := ⟨List.mem_of_getElem? (i := 125) (by decide +kernel), by decide +kernel⟩
theorem ok_124 : okw (.static yL_act) := ⟨List.mem_of_getElem? (i := 124) (by decide +kernel), by decide +kernel⟩
theorem okc_L_act : okS mL_act 2 := ⟨ok_125, ok_124, ok_10, by decide +kernel, by decide +kernel⟩
theorem ok_570 : okw (mw mL_isNodeSo) := ⟨List.mem_of_getElem? (i := 570) (by decide +kernel), by decide +kernel⟩
theorem ok_569 : okw (.static yL_isNodeSo) := ⟨List.mem_of_getElem? (i := 569) (by decide +kernel), by decide +kernel⟩
theorem okc_L_isNodeSo : okS mL_isNodeSo 2 := ⟨ok_570, ok_569, ok_10, by decide +kernel, by decide +kernel⟩
theorem ok_547 : okw (mw mL_isTreeSo) := ⟨List.mem_of_getElem? (i := 547) (by decide +kernel), by decide +kernel⟩
theorem ok_546 : okw (.static yL_isTreeSo) := ⟨List.mem_of_getElem? (i := 546) (by decide +kernel), by decide +kernel⟩
theorem okc_L_isTreeSo : okS mL_isTreeSo 1 := ⟨ok_547, ok_546, ok_10, by decide +kernel, by decide +kernel⟩
theorem ok_619 : okw (mw mL_areAlike) := ⟨List.mem_of_getElem? (i := 619) (by decide +kernel), by decide +kernel⟩
theorem ok_618 : okw (.static yL_areAlike) := ⟨List.mem_of_getElem? (i := 618) (by decide +kernel), by decide +kernel⟩
theorem okc_L_areAlike : okS mL_areAlike 2 := ⟨ok_619, ok_618, ok_10, by decide +kernel, by decide +kernel⟩
theorem ok_26 : okw (.methodLink RL 148 yX4_init) := ⟨List.mem_of_getElem? (i := 26) (by decide +kernel), by decide +kernel⟩
theorem ok_108 : okw (.methodLink RL 133 yX4_lastSteps) := ⟨List.mem_of_getElem? (i := 108) (by decide +kernel), by decide +kernel⟩
theorem ok_112 : okw (.methodLink RL 136 yX4_lastRotations) := ⟨List.mem_of_getElem? (i := 112) (by decide +kernel), by decide +kernel⟩
theorem ok_116 : okw (.methodLink RL 139 yX4_steps) := ⟨List.mem_of_getElem? (i := 116) (by decide +kernel), by decide +kernel⟩
theorem ok_120 : okw (.methodLink RL 149 yL_cell) := ⟨List.mem_of_getElem? (i := 120) (by decide +kernel), by decide +kernel⟩
theorem ok_123 : okw (.methodLink RL 153 yL_act) := ⟨List.mem_of_getElem? (i := 123) (by decide +kernel), by decide +kernel⟩
theorem ok_126 : okw (.methodLink RL 73 yL_low) := ⟨List.mem_of_getElem? (i := 126) (by decide +kernel), by decide +kernel⟩
theorem ok_130 : okw (.methodLink RL 76 yX4_size) := ⟨List.mem_of_getElem? (i := 130) (by decide +kernel), by decide +kernel⟩
theorem ok_134 : okw (.methodLink RX4 55 yX3_count) := ⟨List.mem_of_getElem? (i := 134) (by decide +kernel), by decide +kernel⟩
theorem ok_138 : okw (.methodLink RX3 13 yX0_countOf) := ⟨List.mem_of_getElem? (i := 138) (by decide +kernel), by decide +kernel⟩
theorem ok_141 : okw (.methodLink RL 80 yL_remove) := ⟨List.mem_of_getElem? (i := 141) (by decide +kernel), by decide +kernel⟩
theorem ok_145 : okw (.methodLink RL 21 yX4_remove) := ⟨List.mem_of_getElem? (i := 145) (by decide +kernel), by decide +kernel⟩
theorem ok_149 : okw (.methodLink RX4 94 yX4_nodeAt) := ⟨List.mem_of_getElem? (i := 149) (by decide +kernel), by decide +kernel⟩
theorem ok_153 : okw (.methodLink RX4 220 yX3_find) := ⟨List.mem_of_getElem? (i := 153) (by decide +kernel), by decide +kernel⟩
theorem ok_225 : okw (.methodLink RX4 66 yX2_beginCall) := ⟨List.mem_of_getElem? (i := 225) (by decide +kernel), by decide +kernel⟩
theorem ok_229 : okw (.methodLink RX4 98 yX2_splay) := ⟨List.mem_of_getElem? (i := 229) (by decide +kernel), by decide +kernel⟩
theorem ok_233 : okw (.methodLink RX2 27 yX0_isLeftChild) := ⟨List.mem_of_getElem? (i := 233) (by decide +kernel), by decide +kernel⟩
theorem ok_237 : okw (.methodLink RX2 31 yX2_rotate) := ⟨List.mem_of_getElem? (i := 237) (by decide +kernel), by decide +kernel⟩
theorem ok_241 : okw (.methodLink RX2 46 yX0_takeLeft) := ⟨List.mem_of_getElem? (i := 241) (by decide +kernel), by decide +kernel⟩
theorem ok_245 : okw (.methodLink RX0 23 yX0_countOf) := ⟨List.mem_of_getElem? (i := 245) (by decide +kernel), by decide +kernel⟩
theorem ok_246 : okw (.methodLink RX2 49 yX0_takeRight) := ⟨List.mem_of_getElem? (i := 246) (by decide +kernel), by decide +kernel⟩
theorem ok_250 : okw (.methodLink RX4 102 yX0_dropLeft) := ⟨List.mem_of_getElem? (i := 250) (by decide +kernel), by decide +kernel⟩
theorem ok_254 : okw (.methodLink RX0 30 yX0_takeLeft) := ⟨List.mem_of_getElem? (i := 254) (by decide +kernel), by decide +kernel⟩
theorem ok_255 : okw (.methodLink RX4 105 yX0_dropRight) := ⟨List.mem_of_getElem? (i := 255) (by decide +kernel), by decide +kernel⟩
theorem ok_259 : okw (.methodLink RX0 34 yX0_takeRight) := ⟨List.mem_of_getElem? (i := 259) (by decide +kernel), by decide +kernel⟩
theorem ok_260 : okw (.methodLink RX4 108 yX2_join) := ⟨List.mem_of_getElem? (i := 260) (by decide +kernel), by decide +kernel⟩
theorem ok_264 : okw (.methodLink RX2 70 yX3_last) := ⟨List.mem_of_getElem? (i := 264) (by decide +kernel), by decide +kernel⟩
theorem ok_268 : okw (.methodLink RX2 59 yX3_takeAll) := ⟨List.mem_of_getElem? (i := 268) (by decide +kernel), by decide +kernel⟩
theorem ok_272 : okw (.methodLink RX2 63 yX2_splay) := ⟨List.mem_of_getElem? (i := 272) (by decide +kernel), by decide +kernel⟩
theorem ok_273 : okw (.methodLink RX4 112 yX4_liftFingersFrom) := ⟨List.mem_of_getElem? (i := 273) (by decide +kernel), by decide +kernel⟩
theorem ok_277 : okw (.methodLink RX4 115 yX1_close) := ⟨List.mem_of_getElem? (i := 277) (by decide +kernel), by decide +kernel⟩
theorem ok_285 : okw (.methodLink RL 83 yL_get) := ⟨List.mem_of_getElem? (i := 285) (by decide +kernel), by decide +kernel⟩
theorem ok_288 : okw (.methodLink RL 25 yX4_get) := ⟨List.mem_of_getElem? (i := 288) (by decide +kernel), by decide +kernel⟩
theorem ok_292 : okw (.methodLink RL 85 yL_set) := ⟨List.mem_of_getElem? (i := 292) (by decide +kernel), by decide +kernel⟩
theorem ok_296 : okw (.methodLink RL 28 yX4_set) := ⟨List.mem_of_getElem? (i := 296) (by decide +kernel), by decide +kernel⟩
theorem ok_300 : okw (.methodLink RX4 52 yX4_checkAmount) := ⟨List.mem_of_getElem? (i := 300) (by decide +kernel), by decide +kernel⟩
theorem ok_319 : okw (.methodLink RX4 122 yX1_replace) := ⟨List.mem_of_getElem? (i := 319) (by decide +kernel), by decide +kernel⟩
theorem ok_323 : okw (.methodLink RL 87 yL_range) := ⟨List.mem_of_getElem? (i := 323) (by decide +kernel), by decide +kernel⟩
theorem ok_326 : okw (.methodLink RL 59 yL_reverse) := ⟨List.mem_of_getElem? (i := 326) (by decide +kernel), by decide +kernel⟩
theorem ok_329 : okw (.methodLink RL 31 yX4_reverse) := ⟨List.mem_of_getElem? (i := 329) (by decide +kernel), by decide +kernel⟩
theorem ok_333 : okw (.methodLink RX4 125 yX4_checkRange) := ⟨List.mem_of_getElem? (i := 333) (by decide +kernel), by decide +kernel⟩
theorem ok_338 : okw (.methodLink RX4 128 yX4_takeRange) := ⟨List.mem_of_getElem? (i := 338) (by decide +kernel), by decide +kernel⟩
theorem ok_342 : okw (.methodLink RX4 69 yX2_split) := ⟨List.mem_of_getElem? (i := 342) (by decide +kernel), by decide +kernel⟩
theorem ok_346 : okw (.methodLink RX2 55 yX3_find) := ⟨List.mem_of_getElem? (i := 346) (by decide +kernel), by decide +kernel⟩
theorem ok_347 : okw (.methodLink RX2 67 yX0_dropLeft) := ⟨List.mem_of_getElem? (i := 347) (by decide +kernel), by decide +kernel⟩
theorem ok_348 : okw (.methodLink RX4 131 yX3_turnRound) := ⟨List.mem_of_getElem? (i := 348) (by decide +kernel), by decide +kernel⟩
theorem ok_352 : okw (.methodLink RX3 29 yX3_count) := ⟨List.mem_of_getElem? (i := 352) (by decide +kernel), by decide +kernel⟩
theorem ok_353 : okw (.methodLink RX3 33 yX0_swapSides) := ⟨List.mem_of_getElem? (i := 353) (by decide +kernel), by decide +kernel⟩
theorem ok_357 : okw (.methodLink RX3 36 yX0_nextOfWalk) := ⟨List.mem_of_getElem? (i := 357) (by decide +kernel), by decide +kernel⟩
theorem ok_361 : okw (.methodLink RX0 37 yX0_isLeftChild) := ⟨List.mem_of_getElem? (i := 361) (by decide +kernel), by decide +kernel⟩
theorem ok_362 : okw (.methodLink RX4 134 yX4_putRangeBack) := ⟨List.mem_of_getElem? (i := 362) (by decide +kernel), by decide +kernel⟩
theorem ok_366 : okw (.methodLink RX4 137 yX1_turnRound) := ⟨List.mem_of_getElem? (i := 366) (by decide +kernel), by decide +kernel⟩
theorem ok_370 : okw (.methodLink RX1 25 yX1_hasRange) := ⟨List.mem_of_getElem? (i := 370) (by decide +kernel), by decide +kernel⟩
theorem ok_374 : okw (.methodLink RL 64 yL_raise) := ⟨List.mem_of_getElem? (i := 374) (by decide +kernel), by decide +kernel⟩
theorem ok_377 : okw (.methodLink RL 34 yX4_raise) := ⟨List.mem_of_getElem? (i := 377) (by decide +kernel), by decide +kernel⟩
theorem ok_381 : okw (.methodLink RX4 139 yX3_addToAll) := ⟨List.mem_of_getElem? (i := 381) (by decide +kernel), by decide +kernel⟩
theorem ok_385 : okw (.methodLink RX4 142 yX1_addToAll) := ⟨List.mem_of_getElem? (i := 385) (by decide +kernel), by decide +kernel⟩
theorem ok_389 : okw (.methodLink RL 67 yL_sum) := ⟨List.mem_of_getElem? (i := 389) (by decide +kernel), by decide +kernel⟩
theorem ok_392 : okw (.methodLink RL 38 yX4_sum) := ⟨List.mem_of_getElem? (i := 392) (by decide +kernel), by decide +kernel⟩
theorem ok_396 : okw (.methodLink RX4 145 yX3_total) := ⟨List.mem_of_getElem? (i := 396) (by decide +kernel), by decide +kernel⟩
theorem ok_400 : okw (.methodLink RL 69 yL_least) := ⟨List.mem_of_getElem? (i := 400) (by decide +kernel), by decide +kernel⟩
theorem ok_403 : okw (.methodLink RL 41 yX4_least) := ⟨List.mem_of_getElem? (i := 403) (by decide +kernel), by decide +kernel⟩
theorem ok_408 : okw (.methodLink RX4 153 yX3_lowest) := ⟨List.mem_of_getElem? (i := 408) (by decide +kernel), by decide +kernel⟩
theorem ok_415 : okw (.methodLink RL 71 yL_cut) := ⟨List.mem_of_getElem? (i := 415) (by decide +kernel), by decide +kernel⟩
theorem ok_419 : okw (.methodLink RL 44 yX4_cut) := ⟨List.mem_of_getElem? (i := 419) (by decide +kernel), by decide +kernel⟩
theorem ok_439 : okw (.methodLink RX4 75 yX3_takeAll) := ⟨List.mem_of_getElem? (i := 439) (by decide +kernel), by decide +kernel⟩
theorem ok_440 : okw (.methodLink RX4 158 yX1_moveOut) := ⟨List.mem_of_getElem? (i := 440) (by decide +kernel), by decide +kernel⟩
theorem ok_444 : okw (.methodLink RL 91 yL_paste) := ⟨List.mem_of_getElem? (i := 444) (by decide +kernel), by decide +kernel⟩
theorem ok_447 : okw (.methodLink RL 47 yX4_paste) := ⟨List.mem_of_getElem? (i := 447) (by decide +kernel), by decide +kernel⟩
theorem ok_451 : okw (.methodLink RX4 48 yX4_checkGap) := ⟨List.mem_of_getElem? (i := 451) (by decide +kernel), by decide +kernel⟩
theorem ok_455 : okw (.methodLink RX4 162 yX1_moveIn) := ⟨List.mem_of_getElem? (i := 455) (by decide +kernel), by decide +kernel⟩
theorem ok_459 : okw (.methodLink RL 93 yL_point) := ⟨List.mem_of_getElem? (i := 459) (by decide +kernel), by decide +kernel⟩
theorem ok_462 : okw (.methodLink RL 50 yX4_point) := ⟨List.mem_of_getElem? (i := 462) (by decide +kernel), by decide +kernel⟩
theorem ok_466 : okw (.methodLink RX4 166 yX4_checkFinger) := ⟨List.mem_of_getElem? (i := 466) (by decide +kernel), by decide +kernel⟩
theorem ok_471 : okw (.methodLink RL 95 yL_follow) := ⟨List.mem_of_getElem? (i := 471) (by decide +kernel), by decide +kernel⟩
theorem ok_474 : okw (.methodLink RL 53 yX4_follow) := ⟨List.mem_of_getElem? (i := 474) (by decide +kernel), by decide +kernel⟩
theorem ok_478 : okw (.methodLink RX4 169 yX3_holds) := ⟨List.mem_of_getElem? (i := 478) (by decide +kernel), by decide +kernel⟩
theorem ok_482 : okw (.methodLink RX3 25 yX0_top) := ⟨List.mem_of_getElem? (i := 482) (by decide +kernel), by decide +kernel⟩
theorem ok_486 : okw (.methodLink RX4 173 yX0_position) := ⟨List.mem_of_getElem? (i := 486) (by decide +kernel), by decide +kernel⟩
theorem ok_490 : okw (.methodLink RL 97 yL_move) := ⟨List.mem_of_getElem? (i := 490) (by decide +kernel), by decide +kernel⟩
theorem ok_493 : okw (.methodLink RL 56 yX4_move) := ⟨List.mem_of_getElem? (i := 493) (by decide +kernel), by decide +kernel⟩
theorem ok_499 : okw (.methodLink RL 99 yL_insert) := ⟨List.mem_of_getElem? (i := 499) (by decide +kernel), by decide +kernel⟩
theorem ok_502 : okw (.methodLink RL 8 yX4_insert) := ⟨List.mem_of_getElem? (i := 502) (by decide +kernel), by decide +kernel⟩
theorem ok_508 : okw (.methodLink RX4 73 yX0_init) := ⟨List.mem_of_getElem? (i := 508) (by decide +kernel), by decide +kernel⟩
theorem ok_539 : okw (.methodLink RX4 79 yX0_takeLeft) := ⟨List.mem_of_getElem? (i := 539) (by decide +kernel), by decide +kernel⟩
theorem ok_540 : okw (.methodLink RX4 83 yX0_takeRight) := ⟨List.mem_of_getElem? (i := 540) (by decide +kernel), by decide +kernel⟩
theorem ok_541 : okw (.methodLink RX4 90 yX1_open) := ⟨List.mem_of_getElem? (i := 541) (by decide +kernel), by decide +kernel⟩
theorem ok_545 : okw (.methodLink RL 160 yL_isTreeSo) := ⟨List.mem_of_getElem? (i := 545) (by decide +kernel), by decide +kernel⟩
theorem ok_548 : okw (.methodLink RL 105 yX4_subtree) := ⟨List.mem_of_getElem? (i := 548) (by decide +kernel), by decide +kernel⟩
theorem ok_552 : okw (.methodLink RL 108 yX4_depth) := ⟨List.mem_of_getElem? (i := 552) (by decide +kernel), by decide +kernel⟩
theorem ok_556 : okw (.methodLink RX4 202 yX0_nodesAbove) := ⟨List.mem_of_getElem? (i := 556) (by decide +kernel), by decide +kernel⟩
theorem ok_560 : okw (.methodLink RL 117 yX4_plain) := ⟨List.mem_of_getElem? (i := 560) (by decide +kernel), by decide +kernel⟩
theorem ok_564 : okw (.methodLink RX4 213 yX1_valueAt) := ⟨List.mem_of_getElem? (i := 564) (by decide +kernel), by decide +kernel⟩
theorem ok_568 : okw (.methodLink RL 120 yL_isNodeSo) := ⟨List.mem_of_getElem? (i := 568) (by decide +kernel), by decide +kernel⟩
theorem ok_571 : okw (.methodLink RL 101 yX4_child) := ⟨List.mem_of_getElem? (i := 571) (by decide +kernel), by decide +kernel⟩
theorem ok_575 : okw (.methodLink RX4 195 yX4_positionOrNone) := ⟨List.mem_of_getElem? (i := 575) (by decide +kernel), by decide +kernel⟩
theorem ok_578 : okw (.methodLink RL 111 yX4_root) := ⟨List.mem_of_getElem? (i := 578) (by decide +kernel), by decide +kernel⟩
theorem ok_582 : okw (.methodLink RL 114 yX4_height) := ⟨List.mem_of_getElem? (i := 582) (by decide +kernel), by decide +kernel⟩
theorem ok_586 : okw (.methodLink RX4 199 yX3_levels) := ⟨List.mem_of_getElem? (i := 586) (by decide +kernel), by decide +kernel⟩
theorem ok_590 : okw (.methodLink RX3 55 yX0_nodesAbove) := ⟨List.mem_of_getElem? (i := 590) (by decide +kernel), by decide +kernel⟩
theorem ok_594 : okw (.methodLink RL 124 yX4_plainSum) := ⟨List.mem_of_getElem? (i := 594) (by decide +kernel), by decide +kernel⟩
theorem ok_598 : okw (.methodLink RX4 217 yX1_total) := ⟨List.mem_of_getElem? (i := 598) (by decide +kernel), by decide +kernel⟩
theorem ok_602 : okw (.methodLink RL 127 yX4_clipped) := ⟨List.mem_of_getElem? (i := 602) (by decide +kernel), by decide +kernel⟩
theorem ok_606 : okw (.methodLink RL 130 yX4_potential) := ⟨List.mem_of_getElem? (i := 606) (by decide +kernel), by decide +kernel⟩
theorem ok_610 : okw (.methodLink RX4 192 yX3_sumOfRanks) := ⟨List.mem_of_getElem? (i := 610) (by decide +kernel), by decide +kernel⟩
theorem ok_614 : okw (.methodLink RX3 51 yX3_rankOf) := ⟨List.mem_of_getElem? (i := 614) (by decide +kernel), by decide +kernel⟩
theorem ok_617 : okw (.methodLink RL 156 yL_areAlike) := ⟨List.mem_of_getElem? (i := 617) (by decide +kernel), by decide +kernel⟩
theorem ok_620 : okw (.methodLink RL 142 yX4_splays) := ⟨List.mem_of_getElem? (i := 620) (by decide +kernel), by decide +kernel⟩
theorem ok_624 : okw (.methodLink RL 145 yX4_whereIs) := ⟨List.mem_of_getElem? (i := 624) (by decide +kernel), by decide +kernel⟩
