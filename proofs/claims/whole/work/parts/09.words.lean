/-! ===== methods; words by their places ===== -/
abbrev mL_law : MD := (yL_law, cL_law, 7, (some .boolean), [], 11, 640158, 7175630)
abbrev mX4_init : MD := (yX4_init, cX4_init, 1, none, [], 10, 10, 204)
abbrev mX4_lastSteps : MD := (yX4_lastSteps, cX4_lastSteps, 1, (some .int), [], 10, 0, 0)
abbrev mX4_lastRotations : MD := (yX4_lastRotations, cX4_lastRotations, 1, (some .int), [], 10, 0, 0)
abbrev mX4_steps : MD := (yX4_steps, cX4_steps, 1, (some .int), [], 10, 0, 0)
abbrev mX4_splays : MD := (yX4_splays, cX4_splays, 1, (some .int), [], 10, 0, 0)
abbrev mX4_potential : MD := (yX4_potential, cX4_potential, 1, (some .int), [], 10, 0, 0)
abbrev mX4_size : MD := (yX4_size, cX4_size, 1, (some .int), [], 10, 0, 0)
abbrev mX4_clipped : MD := (yX4_clipped, cX4_clipped, 1, (some .int), [], 10, 0, 0)
abbrev mX4_root : MD := (yX4_root, cX4_root, 1, (some .int), [], 10, 0, 0)
abbrev mX4_height : MD := (yX4_height, cX4_height, 1, (some .int), [], 10, 0, 0)
abbrev mX5_init : MD := (yX5_init, cX5_init, 2, none, [], 10, 7, 448)
abbrev mX5_thrown : MD := (yX5_thrown, cX5_thrown, 1, (some .int), [], 10, 0, 0)
abbrev mX5_insert : MD := (yX5_insert, cX5_insert, 4, (some .int), [], 10, 0, 0)
abbrev mX5_remove : MD := (yX5_remove, cX5_remove, 6, (some .int), [], 10, 0, 0)
abbrev mX5_get : MD := (yX5_get, cX5_get, 2, (some .int), [], 10, 0, 0)
abbrev mX5_set : MD := (yX5_set, cX5_set, 5, (some .int), [], 10, 0, 0)
abbrev mX5_reverse : MD := (yX5_reverse, cX5_reverse, 3, (some .int), [], 10, 0, 0)
abbrev mX5_raise : MD := (yX5_raise, cX5_raise, 5, (some .int), [], 10, 0, 0)
abbrev mX5_sum : MD := (yX5_sum, cX5_sum, 5, (some .int), [], 10, 0, 0)
abbrev mX5_least : MD := (yX5_least, cX5_least, 5, (some .int), [], 10, 0, 0)
abbrev mX5_cut : MD := (yX5_cut, cX5_cut, 3, (some .int), [], 10, 0, 0)
abbrev mX5_paste : MD := (yX5_paste, cX5_paste, 4, (some .int), [], 10, 0, 0)
abbrev mX5_point : MD := (yX5_point, cX5_point, 3, (some .int), [], 10, 0, 0)
abbrev mX5_follow : MD := (yX5_follow, cX5_follow, 2, (some .int), [], 10, 0, 0)
abbrev mX5_move : MD := (yX5_move, cX5_move, 5, (some .int), [], 10, 0, 0)
abbrev mX5_lastSteps : MD := (yX5_lastSteps, cX5_lastSteps, 1, (some .int), [], 10, 0, 0)
abbrev mX5_lastRotations : MD := (yX5_lastRotations, cX5_lastRotations, 1, (some .int), [], 10, 0, 0)
abbrev mX5_steps : MD := (yX5_steps, cX5_steps, 1, (some .int), [], 10, 0, 0)
abbrev mX5_splays : MD := (yX5_splays, cX5_splays, 1, (some .int), [], 10, 0, 0)
abbrev mX5_potential : MD := (yX5_potential, cX5_potential, 3, (some .int), [], 10, 0, 0)
abbrev mX5_size : MD := (yX5_size, cX5_size, 1, (some .int), [], 10, 0, 0)
abbrev mX5_clipped : MD := (yX5_clipped, cX5_clipped, 1, (some .int), [], 10, 0, 0)
abbrev mX5_root : MD := (yX5_root, cX5_root, 1, (some .int), [], 10, 0, 0)
abbrev mX5_height : MD := (yX5_height, cX5_height, 4, (some .int), [], 10, 0, 0)
abbrev mX5_depth : MD := (yX5_depth, cX5_depth, 2, (some .int), [], 10, 0, 0)
abbrev mX5_subtree : MD := (yX5_subtree, cX5_subtree, 2, (some .int), [], 10, 0, 0)
abbrev mX5_child : MD := (yX5_child, cX5_child, 5, (some .int), [], 10, 0, 0)
abbrev mX5_whereIs : MD := (yX5_whereIs, cX5_whereIs, 2, (some .int), [], 10, 0, 0)
abbrev mX5_plain : MD := (yX5_plain, cX5_plain, 2, (some .int), [], 10, 0, 0)
abbrev mX5_plainSum : MD := (yX5_plainSum, cX5_plainSum, 5, (some .int), [], 10, 0, 0)
abbrev mL_insert : MD := (yL_insert, cL_insert, 5, (some .int), [(0, 10, 13, 13), (0, 10, 17, 15), (0, 10, 21, 17)], 10, 4, 23)
abbrev mL_remove : MD := (yL_remove, cL_remove, 4, (some .int), [(0, 9, 12, 13)], 10, 1, 6)
abbrev mL_get : MD := (yL_get, cL_get, 4, (some .int), [(0, 9, 12, 13)], 10, 1, 6)
abbrev mL_set : MD := (yL_set, cL_set, 5, (some .int), [(0, 10, 13, 13), (0, 10, 17, 15)], 10, 2, 12)
abbrev mL_reverse : MD := (yL_reverse, cL_reverse, 5, (some .int), [(0, 10, 13, 13)], 10, 1, 6)
abbrev mL_raise : MD := (yL_raise, cL_raise, 6, (some .int), [(0, 12, 15, 13), (0, 12, 19, 15)], 10, 2, 12)
abbrev mL_sum : MD := (yL_sum, cL_sum, 5, (some .int), [(0, 10, 13, 13)], 10, 1, 6)
abbrev mL_least : MD := (yL_least, cL_least, 5, (some .int), [(0, 10, 13, 13), (0, 10, 17, 15)], 10, 2, 12)
abbrev mL_cut : MD := (yL_cut, cL_cut, 5, (some .int), [(0, 10, 13, 13), (0, 10, 17, 17)], 10, 2, 12)
abbrev mL_paste : MD := (yL_paste, cL_paste, 4, (some .int), [(0, 9, 12, 13)], 10, 1, 6)
abbrev mL_point : MD := (yL_point, cL_point, 5, (some .int), [(0, 10, 13, 13)], 10, 2, 12)
abbrev mL_follow : MD := (yL_follow, cL_follow, 4, (some .int), [(0, 9, 12, 13)], 10, 1, 6)
abbrev mL_move : MD := (yL_move, cL_move, 5, (some .int), [(0, 10, 13, 13), (0, 10, 17, 17)], 10, 4, 24)
abbrev mL_depth : MD := (yL_depth, cL_depth, 4, (some .int), [(0, 9, 12, 13)], 10, 1, 6)
abbrev mL_subtree : MD := (yL_subtree, cL_subtree, 4, (some .int), [(0, 9, 12, 13)], 10, 1, 6)
abbrev mL_child : MD := (yL_child, cL_child, 5, (some .int), [(0, 10, 13, 13)], 10, 1, 6)
abbrev mL_whereIs : MD := (yL_whereIs, cL_whereIs, 4, (some .int), [(0, 9, 12, 13)], 10, 1, 6)
abbrev mL_plain : MD := (yL_plain, cL_plain, 4, (some .int), [(0, 9, 12, 13)], 10, 1, 6)
abbrev mL_plainSum : MD := (yL_plainSum, cL_plainSum, 5, (some .int), [(0, 10, 13, 13)], 10, 1, 6)
abbrev mX1_init : MD := (yX1_init, cX1_init, 1, none, [], 9, 1, 64)
abbrev mX2_init : MD := (yX2_init, cX2_init, 1, none, [], 9, 0, 0)
abbrev mX3_init : MD := (yX3_init, cX3_init, 1, none, [], 9, 0, 0)
abbrev mX3_sumOfRanks : MD := (yX3_sumOfRanks, cX3_sumOfRanks, 4, (some .int), [], 9, 0, 0)
abbrev mX3_levels : MD := (yX3_levels, cX3_levels, 4, (some .int), [], 9, 0, 0)
abbrev mX4_insert : MD := (yX4_insert, cX4_insert, 4, (some .int), [], 9, 4, 23)
abbrev mX4_remove : MD := (yX4_remove, cX4_remove, 3, (some .int), [], 9, 1, 6)
abbrev mX4_get : MD := (yX4_get, cX4_get, 3, (some .int), [], 9, 1, 6)
abbrev mX4_set : MD := (yX4_set, cX4_set, 5, (some .int), [], 9, 2, 12)
abbrev mX4_reverse : MD := (yX4_reverse, cX4_reverse, 3, (some .int), [], 9, 1, 6)
abbrev mX4_raise : MD := (yX4_raise, cX4_raise, 4, (some .int), [], 9, 2, 12)
abbrev mX4_sum : MD := (yX4_sum, cX4_sum, 4, (some .int), [], 9, 1, 6)
abbrev mX4_least : MD := (yX4_least, cX4_least, 4, (some .int), [], 9, 2, 12)
abbrev mX4_cut : MD := (yX4_cut, cX4_cut, 3, (some .int), [], 9, 2, 12)
abbrev mX4_paste : MD := (yX4_paste, cX4_paste, 3, (some .int), [], 9, 1, 6)
abbrev mX4_point : MD := (yX4_point, cX4_point, 4, (some .int), [], 9, 2, 12)
abbrev mX4_follow : MD := (yX4_follow, cX4_follow, 3, (some .int), [], 9, 1, 6)
abbrev mX4_move : MD := (yX4_move, cX4_move, 7, (some .int), [], 9, 4, 24)
abbrev mX4_depth : MD := (yX4_depth, cX4_depth, 2, (some .int), [], 9, 1, 6)
abbrev mX4_subtree : MD := (yX4_subtree, cX4_subtree, 2, (some .int), [], 9, 1, 6)
abbrev mX4_child : MD := (yX4_child, cX4_child, 4, (some .int), [], 9, 1, 6)
abbrev mX4_whereIs : MD := (yX4_whereIs, cX4_whereIs, 3, (some .int), [], 9, 1, 6)
abbrev mX4_plain : MD := (yX4_plain, cX4_plain, 2, (some .int), [], 9, 1, 6)
abbrev mX4_plainSum : MD := (yX4_plainSum, cX4_plainSum, 3, (some .int), [], 9, 1, 6)
abbrev mX5_goesWell : MD := (yX5_goesWell, cX5_goesWell, 2, (some .boolean), [], 9, 0, 0)
abbrev mX5_depthOf : MD := (yX5_depthOf, cX5_depthOf, 4, (some .int), [], 9, 0, 0)
abbrev mX5_below : MD := (yX5_below, cX5_below, 5, (some .int), [], 9, 0, 0)
abbrev mX5_isPlace : MD := (yX5_isPlace, cX5_isPlace, 2, (some .boolean), [], 9, 0, 0)
abbrev mX5_isRange : MD := (yX5_isRange, cX5_isRange, 3, (some .boolean), [], 9, 0, 0)
abbrev mX5_isValue : MD := (yX5_isValue, cX5_isValue, 1, (some .boolean), [], 9, 0, 0)
abbrev mX5_isFinger : MD := (yX5_isFinger, cX5_isFinger, 1, (some .boolean), [], 9, 0, 0)
abbrev mX5_raiseUp : MD := (yX5_raiseUp, cX5_raiseUp, 3, (some .int), [], 9, 0, 0)
abbrev mX5_open : MD := (yX5_open, cX5_open, 3, none, [], 9, 0, 0)
abbrev mX5_close : MD := (yX5_close, cX5_close, 1, none, [], 9, 0, 0)
abbrev mX5_turnRound : MD := (yX5_turnRound, cX5_turnRound, 4, none, [], 9, 0, 0)
abbrev mX5_canMove : MD := (yX5_canMove, cX5_canMove, 6, (some .boolean), [], 9, 0, 0)
abbrev mX5_rank : MD := (yX5_rank, cX5_rank, 2, (some .int), [], 9, 0, 0)
abbrev mX0_init : MD := (yX0_init, cX0_init, 2, none, [], 8, 0, 0)
abbrev mX0_dropRight : MD := (yX0_dropRight, cX0_dropRight, 2, (some (.object "SplaySequence$Node")), [], 8, 0, 0)
abbrev mX0_nodesAbove : MD := (yX0_nodesAbove, cX0_nodesAbove, 3, (some .int), [], 8, 0, 0)
abbrev mX1_valueAt : MD := (yX1_valueAt, cX1_valueAt, 2, (some .int), [], 8, 0, 0)
abbrev mX1_replace : MD := (yX1_replace, cX1_replace, 3, none, [], 8, 0, 0)
abbrev mX1_open : MD := (yX1_open, cX1_open, 3, none, [], 8, 0, 0)
abbrev mX1_close : MD := (yX1_close, cX1_close, 2, none, [], 8, 0, 0)
abbrev mX1_turnRound : MD := (yX1_turnRound, cX1_turnRound, 6, none, [], 8, 0, 0)
abbrev mX1_addToAll : MD := (yX1_addToAll, cX1_addToAll, 5, none, [], 8, 0, 0)
abbrev mX1_total : MD := (yX1_total, cX1_total, 5, (some .int), [], 8, 0, 0)
abbrev mX1_moveOut : MD := (yX1_moveOut, cX1_moveOut, 4, none, [], 8, 0, 0)
abbrev mX1_moveIn : MD := (yX1_moveIn, cX1_moveIn, 3, none, [], 8, 0, 0)
abbrev mX2_beginCall : MD := (yX2_beginCall, cX2_beginCall, 1, none, [], 8, 0, 0)
abbrev mX3_holds : MD := (yX3_holds, cX3_holds, 2, (some .boolean), [], 8, 0, 0)
abbrev mX3_turnRound : MD := (yX3_turnRound, cX3_turnRound, 3, none, [], 8, 0, 0)
abbrev mX3_addToAll : MD := (yX3_addToAll, cX3_addToAll, 4, none, [], 8, 0, 0)
abbrev mX3_total : MD := (yX3_total, cX3_total, 4, (some .int), [], 8, 0, 0)
abbrev mX3_lowest : MD := (yX3_lowest, cX3_lowest, 4, (some .int), [], 8, 0, 0)
abbrev mX3_rankOf : MD := (yX3_rankOf, cX3_rankOf, 3, (some .int), [], 8, 0, 0)
abbrev mX4_nodeAt : MD := (yX4_nodeAt, cX4_nodeAt, 3, (some (.object "SplaySequence$Node")), [], 8, 1, 6)
abbrev mX4_checkGap : MD := (yX4_checkGap, cX4_checkGap, 2, none, [], 8, 1, 6)
abbrev mX4_checkRange : MD := (yX4_checkRange, cX4_checkRange, 3, none, [], 8, 1, 6)
abbrev mX4_checkFinger : MD := (yX4_checkFinger, cX4_checkFinger, 2, none, [], 8, 1, 6)
abbrev mX4_checkAmount : MD := (yX4_checkAmount, cX4_checkAmount, 1, none, [], 8, 1, 6)
abbrev mX4_positionOrNone : MD := (yX4_positionOrNone, cX4_positionOrNone, 1, (some .int), [], 8, 0, 0)
abbrev mX4_liftFingersFrom : MD := (yX4_liftFingersFrom, cX4_liftFingersFrom, 3, none, [], 8, 0, 0)
abbrev mX4_takeRange : MD := (yX4_takeRange, cX4_takeRange, 3, none, [], 8, 0, 0)
abbrev mX4_putRangeBack : MD := (yX4_putRangeBack, cX4_putRangeBack, 1, none, [], 8, 0, 0)
abbrev mX5_placeOf : MD := (yX5_placeOf, cX5_placeOf, 3, (some .int), [], 8, 0, 0)
abbrev mX5_begins : MD := (yX5_begins, cX5_begins, 1, none, [], 8, 0, 0)
abbrev mX5_split : MD := (yX5_split, cX5_split, 5, none, [], 8, 0, 0)
abbrev mX5_join : MD := (yX5_join, cX5_join, 4, (some .int), [], 8, 0, 0)
abbrev mX5_count : MD := (yX5_count, cX5_count, 1, (some .int), [], 8, 0, 0)
abbrev mX5_isInSequence : MD := (yX5_isInSequence, cX5_isInSequence, 2, (some .boolean), [], 8, 0, 0)
abbrev mX0_swapSides : MD := (yX0_swapSides, cX0_swapSides, 2, none, [], 7, 0, 0)
abbrev mX0_position : MD := (yX0_position, cX0_position, 3, (some .int), [], 7, 0, 0)
abbrev mX0_top : MD := (yX0_top, cX0_top, 2, (some (.object "SplaySequence$Node")), [], 7, 0, 0)
abbrev mX0_nextOfWalk : MD := (yX0_nextOfWalk, cX0_nextOfWalk, 2, (some (.object "SplaySequence$Node")), [], 7, 0, 0)
abbrev mX1_hasRange : MD := (yX1_hasRange, cX1_hasRange, 3, (some .boolean), [], 7, 0, 0)
abbrev mX2_split : MD := (yX2_split, cX2_split, 5, none, [], 7, 0, 0)
abbrev mX2_join : MD := (yX2_join, cX2_join, 5, none, [], 7, 0, 0)
abbrev mX3_count : MD := (yX3_count, cX3_count, 1, (some .int), [], 7, 0, 0)
abbrev mX5_rightmost : MD := (yX5_rightmost, cX5_rightmost, 3, (some .int), [], 7, 0, 0)
abbrev mX5_sizeOf : MD := (yX5_sizeOf, cX5_sizeOf, 2, (some .int), [], 7, 0, 0)
abbrev mX5_nodeAt : MD := (yX5_nodeAt, cX5_nodeAt, 3, (some .int), [], 7, 0, 0)
abbrev mX5_rootOf : MD := (yX5_rootOf, cX5_rootOf, 3, (some .int), [], 7, 0, 0)
abbrev mX5_splay : MD := (yX5_splay, cX5_splay, 5, none, [], 7, 0, 0)
abbrev mX0_dropLeft : MD := (yX0_dropLeft, cX0_dropLeft, 2, (some (.object "SplaySequence$Node")), [], 6, 0, 0)
abbrev mX2_splay : MD := (yX2_splay, cX2_splay, 6, none, [], 6, 0, 0)
abbrev mX3_find : MD := (yX3_find, cX3_find, 5, (some (.object "SplaySequence$Node")), [], 6, 0, 0)
abbrev mX3_last : MD := (yX3_last, cX3_last, 2, (some (.object "SplaySequence$Node")), [], 6, 0, 0)
abbrev mX3_takeAll : MD := (yX3_takeAll, cX3_takeAll, 2, (some (.object "SplaySequence$Node")), [], 6, 0, 0)
abbrev mX5_layOrder : MD := (yX5_layOrder, cX5_layOrder, 3, none, [], 6, 0, 0)
abbrev mX5_rotate : MD := (yX5_rotate, cX5_rotate, 5, none, [], 6, 0, 0)
abbrev mX2_rotate : MD := (yX2_rotate, cX2_rotate, 5, none, [], 5, 0, 0)
abbrev mX5_following : MD := (yX5_following, cX5_following, 3, (some .int), [], 5, 0, 0)
abbrev mX5_hang : MD := (yX5_hang, cX5_hang, 4, none, [], 5, 0, 0)
abbrev mX0_isLeftChild : MD := (yX0_isLeftChild, cX0_isLeftChild, 1, (some .boolean), [], 4, 0, 0)
abbrev mX0_takeLeft : MD := (yX0_takeLeft, cX0_takeLeft, 2, none, [], 4, 0, 0)
abbrev mX0_takeRight : MD := (yX0_takeRight, cX0_takeRight, 2, none, [], 4, 0, 0)
abbrev mX5_leftmost : MD := (yX5_leftmost, cX5_leftmost, 3, (some .int), [], 4, 0, 0)
abbrev mX0_countOf : MD := (yX0_countOf, cX0_countOf, 1, (some .int), [], 3, 0, 0)
theorem ok_42 : okw (.initialized RX0) := ⟨List.mem_of_getElem? (i := 42) (by decide +kernel), by decide +kernel⟩
theorem ok_40 : okw (.initialized RX1) := ⟨List.mem_of_getElem? (i := 40) (by decide +kernel), by decide +kernel⟩
theorem ok_39 : okw (.initialized RX2) := ⟨List.mem_of_getElem? (i := 39) (by decide +kernel), by decide +kernel⟩
theorem ok_38 : okw (.initialized RX3) := ⟨List.mem_of_getElem? (i := 38) (by decide +kernel), by decide +kernel⟩
theorem ok_37 : okw (.initialized RX4) := ⟨List.mem_of_getElem? (i := 37) (by decide +kernel), by decide +kernel⟩
theorem ok_41 : okw (.initialized RX5) := ⟨List.mem_of_getElem? (i := 41) (by decide +kernel), by decide +kernel⟩
theorem ok_36 : okw (.initialized RL) := ⟨List.mem_of_getElem? (i := 36) (by decide +kernel), by decide +kernel⟩
theorem ok_371 : okw (mw mX0_init) := ⟨List.mem_of_getElem? (i := 371) (by decide +kernel), by decide +kernel⟩
theorem ok_370 : okw (.instanceMethod yX0_init) := ⟨List.mem_of_getElem? (i := 370) (by decide +kernel), by decide +kernel⟩
theorem okc_X0_init : okw (mw mX0_init) ∧ okw (.instanceMethod yX0_init) ∧ okw (.initialized yX0_init.cls) := ⟨ok_371, ok_370, ok_42⟩
theorem ok_165 : okw (mw mX0_countOf) := ⟨List.mem_of_getElem? (i := 165) (by decide +kernel), by decide +kernel⟩
theorem ok_164 : okw (.static yX0_countOf) := ⟨List.mem_of_getElem? (i := 164) (by decide +kernel), by decide +kernel⟩
theorem okc_X0_countOf : okS mX0_countOf 1 := ⟨ok_165, ok_164, ok_42, by decide +kernel, by decide +kernel⟩
theorem ok_176 : okw (mw mX0_isLeftChild) := ⟨List.mem_of_getElem? (i := 176) (by decide +kernel), by decide +kernel⟩
theorem ok_174 : okw (.instanceMethod yX0_isLeftChild) := ⟨List.mem_of_getElem? (i := 174) (by decide +kernel), by decide +kernel⟩
theorem ok_175 : okw (.selects yX0_isLeftChild.cls yX0_isLeftChild yX0_isLeftChild) := ⟨List.mem_of_getElem? (i := 175) (by decide +kernel), by decide +kernel⟩
theorem okc_X0_isLeftChild : okV mX0_isLeftChild 0 0 := ⟨ok_176, ok_174, ok_175, ok_42, rfl, ⟨_, rfl, rfl⟩, by decide, by decide +kernel, by decide +kernel⟩
theorem ok_358 : okw (mw mX0_takeLeft) := ⟨List.mem_of_getElem? (i := 358) (by decide +kernel), by decide +kernel⟩
theorem ok_356 : okw (.instanceMethod yX0_takeLeft) := ⟨List.mem_of_getElem? (i := 356) (by decide +kernel), by decide +kernel⟩
theorem ok_357 : okw (.selects yX0_takeLeft.cls yX0_takeLeft yX0_takeLeft) := ⟨List.mem_of_getElem? (i := 357) (by decide +kernel), by decide +kernel⟩
theorem okc_X0_takeLeft : okV mX0_takeLeft 0 1 := ⟨ok_358, ok_356, ok_357, ok_42, rfl, ⟨_, rfl, rfl⟩, by decide, by decide +kernel, by decide +kernel⟩
theorem ok_362 : okw (mw mX0_takeRight) := ⟨List.mem_of_getElem? (i := 362) (by decide +kernel), by decide +kernel⟩
theorem ok_360 : okw (.instanceMethod yX0_takeRight) := ⟨List.mem_of_getElem? (i := 360) (by decide +kernel), by decide +kernel⟩
theorem ok_361 : okw (.selects yX0_takeRight.cls yX0_takeRight yX0_takeRight) := ⟨List.mem_of_getElem? (i := 361) (by decide +kernel), by decide +kernel⟩
theorem okc_X0_takeRight : okV mX0_takeRight 0 1 := ⟨ok_362, ok_360, ok_361, ok_42, rfl, ⟨_, rfl, rfl⟩, by decide, by decide +kernel, by decide +kernel⟩
theorem ok_366 : okw (mw mX0_dropLeft) := ⟨List.mem_of_getElem? (i := 366) (by decide +kernel), by decide +kernel⟩
theorem ok_364 : okw (.instanceMethod yX0_dropLeft) := ⟨List.mem_of_getElem? (i := 364) (by decide +kernel), by decide +kernel⟩
theorem ok_365 : okw (.selects yX0_dropLeft.cls yX0_dropLeft yX0_dropLeft) := ⟨List.mem_of_getElem? (i := 365) (by decide +kernel), by decide +kernel⟩
theorem okc_X0_dropLeft : okV mX0_dropLeft 0 0 := ⟨ok_366, ok_364, ok_365, ok_42, rfl, ⟨_, rfl, rfl⟩, by decide, by decide +kernel, by decide +kernel⟩
theorem ok_427 : okw (mw mX0_dropRight) := ⟨List.mem_of_getElem? (i := 427) (by decide +kernel), by decide +kernel⟩
theorem ok_425 : okw (.instanceMethod yX0_dropRight) := ⟨List.mem_of_getElem? (i := 425) (by decide +kernel), by decide +kernel⟩
theorem ok_426 : okw (.selects yX0_dropRight.cls yX0_dropRight yX0_dropRight) := ⟨List.mem_of_getElem? (i := 426) (by decide +kernel), by decide +kernel⟩
theorem okc_X0_dropRight : okV mX0_dropRight 0 0 := ⟨ok_427, ok_425, ok_426, ok_42, rfl, ⟨_, rfl, rfl⟩, by decide, by decide +kernel, by decide +kernel⟩
theorem ok_486 : okw (mw mX0_swapSides) := ⟨List.mem_of_getElem? (i := 486) (by decide +kernel), by decide +kernel⟩
theorem ok_484 : okw (.instanceMethod yX0_swapSides) := ⟨List.mem_of_getElem? (i := 484) (by decide +kernel), by decide +kernel⟩
theorem ok_485 : okw (.selects yX0_swapSides.cls yX0_swapSides yX0_swapSides) := ⟨List.mem_of_getElem? (i := 485) (by decide +kernel), by decide +kernel⟩
theorem okc_X0_swapSides : okV mX0_swapSides 0 0 := ⟨ok_486, ok_484, ok_485, ok_42, rfl, ⟨_, rfl, rfl⟩, by decide, by decide +kernel, by decide +kernel⟩
theorem ok_196 : okw (mw mX0_position) := ⟨List.mem_of_getElem? (i := 196) (by decide +kernel), by decide +kernel⟩
theorem ok_194 : okw (.instanceMethod yX0_position) := ⟨List.mem_of_getElem? (i := 194) (by decide +kernel), by decide +kernel⟩
theorem ok_195 : okw (.selects yX0_position.cls yX0_position yX0_position) := ⟨List.mem_of_getElem? (i := 195) (by decide +kernel), by decide +kernel⟩
theorem okc_X0_position : okV mX0_position 0 0 := ⟨ok_196, ok_194, ok_195, ok_42, rfl, ⟨_, rfl, rfl⟩, by decide, by decide +kernel, by decide +kernel⟩
theorem ok_209 : okw (mw mX0_nodesAbove) := ⟨List.mem_of_getElem? (i := 209) (by decide +kernel), by decide +kernel⟩
theorem ok_207 : okw (.instanceMethod yX0_nodesAbove) := ⟨List.mem_of_getElem? (i := 207) (by decide +kernel), by decide +kernel⟩
theorem ok_208 : okw (.selects yX0_nodesAbove.cls yX0_nodesAbove yX0_nodesAbove) := ⟨List.mem_of_getElem? (i := 208) (by decide +kernel), by decide +kernel⟩
theorem okc_X0_nodesAbove : okV mX0_nodesAbove 0 0 := ⟨ok_209, ok_207, ok_208, ok_42, rfl, ⟨_, rfl, rfl⟩, by decide, by decide +kernel, by decide +kernel⟩
theorem ok_589 : okw (mw mX0_top) := ⟨List.mem_of_getElem? (i := 589) (by decide +kernel), by decide +kernel⟩
theorem ok_587 : okw (.instanceMethod yX0_top) := ⟨List.mem_of_getElem? (i := 587) (by decide +kernel), by decide +kernel⟩
theorem ok_588 : okw (.selects yX0_top.cls yX0_top yX0_top) := ⟨List.mem_of_getElem? (i := 588) (by decide +kernel), by decide +kernel⟩
theorem okc_X0_top : okV mX0_top 0 0 := ⟨ok_589, ok_587, ok_588, ok_42, rfl, ⟨_, rfl, rfl⟩, by decide, by decide +kernel, by decide +kernel⟩
theorem ok_172 : okw (mw mX0_nextOfWalk) := ⟨List.mem_of_getElem? (i := 172) (by decide +kernel), by decide +kernel⟩
theorem ok_170 : okw (.instanceMethod yX0_nextOfWalk) := ⟨List.mem_of_getElem? (i := 170) (by decide +kernel), by decide +kernel⟩
theorem ok_171 : okw (.selects yX0_nextOfWalk.cls yX0_nextOfWalk yX0_nextOfWalk) := ⟨List.mem_of_getElem? (i := 171) (by decide +kernel), by decide +kernel⟩
theorem okc_X0_nextOfWalk : okV mX0_nextOfWalk 0 0 := ⟨ok_172, ok_170, ok_171, ok_42, rfl, ⟨_, rfl, rfl⟩, by decide, by decide +kernel, by decide +kernel⟩
theorem ok_100 : okw (mw mX1_init) := ⟨List.mem_of_getElem? (i := 100) (by decide +kernel), by decide +kernel⟩
theorem ok_99 : okw (.instanceMethod yX1_init) := ⟨List.mem_of_getElem? (i := 99) (by decide +kernel), by decide +kernel⟩
theorem okc_X1_init : okw (mw mX1_init) ∧ okw (.instanceMethod yX1_init) ∧ okw (.initialized yX1_init.cls) := ⟨ok_100, ok_99, ok_40⟩
theorem ok_638 : okw (mw mX1_valueAt) := ⟨List.mem_of_getElem? (i := 638) (by decide +kernel), by decide +kernel⟩
theorem ok_636 : okw (.instanceMethod yX1_valueAt) := ⟨List.mem_of_getElem? (i := 636) (by decide +kernel), by decide +kernel⟩
theorem ok_637 : okw (.selects yX1_valueAt.cls yX1_valueAt yX1_valueAt) := ⟨List.mem_of_getElem? (i := 637) (by decide +kernel), by decide +kernel⟩
theorem okc_X1_valueAt : okV mX1_valueAt 1 1 := ⟨ok_638, ok_636, ok_637, ok_40, rfl, ⟨_, rfl, rfl⟩, by decide, by decide +kernel, by decide +kernel⟩
theorem ok_462 : okw (mw mX1_replace) := ⟨List.mem_of_getElem? (i := 462) (by decide +kernel), by decide +kernel⟩
theorem ok_460 : okw (.instanceMethod yX1_replace) := ⟨List.mem_of_getElem? (i := 460) (by decide +kernel), by decide +kernel⟩
theorem ok_461 : okw (.selects yX1_replace.cls yX1_replace yX1_replace) := ⟨List.mem_of_getElem? (i := 461) (by decide +kernel), by decide +kernel⟩
theorem okc_X1_replace : okV mX1_replace 1 2 := ⟨ok_462, ok_460, ok_461, ok_40, rfl, ⟨_, rfl, rfl⟩, by decide, by decide +kernel, by decide +kernel⟩
theorem ok_406 : okw (mw mX1_open) := ⟨List.mem_of_getElem? (i := 406) (by decide +kernel), by decide +kernel⟩
theorem ok_404 : okw (.instanceMethod yX1_open) := ⟨List.mem_of_getElem? (i := 404) (by decide +kernel), by decide +kernel⟩
theorem ok_405 : okw (.selects yX1_open.cls yX1_open yX1_open) := ⟨List.mem_of_getElem? (i := 405) (by decide +kernel), by decide +kernel⟩
theorem okc_X1_open : okV mX1_open 1 2 := ⟨ok_406, ok_404, ok_405, ok_40, rfl, ⟨_, rfl, rfl⟩, by decide, by decide +kernel, by decide +kernel⟩
theorem ok_444 : okw (mw mX1_close) := ⟨List.mem_of_getElem? (i := 444) (by decide +kernel), by decide +kernel⟩
theorem ok_442 : okw (.instanceMethod yX1_close) := ⟨List.mem_of_getElem? (i := 442) (by decide +kernel), by decide +kernel⟩
theorem ok_443 : okw (.selects yX1_close.cls yX1_close yX1_close) := ⟨List.mem_of_getElem? (i := 443) (by decide +kernel), by decide +kernel⟩
theorem okc_X1_close : okV mX1_close 1 1 := ⟨ok_444, ok_442, ok_443, ok_40, rfl, ⟨_, rfl, rfl⟩, by decide, by decide +kernel, by decide +kernel⟩
theorem ok_494 : okw (mw mX1_turnRound) := ⟨List.mem_of_getElem? (i := 494) (by decide +kernel), by decide +kernel⟩
theorem ok_492 : okw (.instanceMethod yX1_turnRound) := ⟨List.mem_of_getElem? (i := 492) (by decide +kernel), by decide +kernel⟩
theorem ok_493 : okw (.selects yX1_turnRound.cls yX1_turnRound yX1_turnRound) := ⟨List.mem_of_getElem? (i := 493) (by decide +kernel), by decide +kernel⟩
theorem okc_X1_turnRound : okV mX1_turnRound 1 2 := ⟨ok_494, ok_492, ok_493, ok_40, rfl, ⟨_, rfl, rfl⟩, by decide, by decide +kernel, by decide +kernel⟩
theorem ok_513 : okw (mw mX1_addToAll) := ⟨List.mem_of_getElem? (i := 513) (by decide +kernel), by decide +kernel⟩
theorem ok_511 : okw (.instanceMethod yX1_addToAll) := ⟨List.mem_of_getElem? (i := 511) (by decide +kernel), by decide +kernel⟩
theorem ok_512 : okw (.selects yX1_addToAll.cls yX1_addToAll yX1_addToAll) := ⟨List.mem_of_getElem? (i := 512) (by decide +kernel), by decide +kernel⟩
theorem okc_X1_addToAll : okV mX1_addToAll 1 3 := ⟨ok_513, ok_511, ok_512, ok_40, rfl, ⟨_, rfl, rfl⟩, by decide, by decide +kernel, by decide +kernel⟩
theorem ok_649 : okw (mw mX1_total) := ⟨List.mem_of_getElem? (i := 649) (by decide +kernel), by decide +kernel⟩
theorem ok_647 : okw (.instanceMethod yX1_total) := ⟨List.mem_of_getElem? (i := 647) (by decide +kernel), by decide +kernel⟩
theorem ok_648 : okw (.selects yX1_total.cls yX1_total yX1_total) := ⟨List.mem_of_getElem? (i := 648) (by decide +kernel), by decide +kernel⟩
theorem okc_X1_total : okV mX1_total 1 2 := ⟨ok_649, ok_647, ok_648, ok_40, rfl, ⟨_, rfl, rfl⟩, by decide, by decide +kernel, by decide +kernel⟩
theorem ok_551 : okw (mw mX1_moveOut) := ⟨List.mem_of_getElem? (i := 551) (by decide +kernel), by decide +kernel⟩
theorem ok_549 : okw (.instanceMethod yX1_moveOut) := ⟨List.mem_of_getElem? (i := 549) (by decide +kernel), by decide +kernel⟩
theorem ok_550 : okw (.selects yX1_moveOut.cls yX1_moveOut yX1_moveOut) := ⟨List.mem_of_getElem? (i := 550) (by decide +kernel), by decide +kernel⟩
theorem okc_X1_moveOut : okV mX1_moveOut 1 3 := ⟨ok_551, ok_549, ok_550, ok_40, rfl, ⟨_, rfl, rfl⟩, by decide, by decide +kernel, by decide +kernel⟩
theorem ok_562 : okw (mw mX1_moveIn) := ⟨List.mem_of_getElem? (i := 562) (by decide +kernel), by decide +kernel⟩
theorem ok_560 : okw (.instanceMethod yX1_moveIn) := ⟨List.mem_of_getElem? (i := 560) (by decide +kernel), by decide +kernel⟩
theorem ok_561 : okw (.selects yX1_moveIn.cls yX1_moveIn yX1_moveIn) := ⟨List.mem_of_getElem? (i := 561) (by decide +kernel), by decide +kernel⟩
theorem okc_X1_moveIn : okV mX1_moveIn 1 2 := ⟨ok_562, ok_560, ok_561, ok_40, rfl, ⟨_, rfl, rfl⟩, by decide, by decide +kernel, by decide +kernel⟩
theorem ok_498 : okw (mw mX1_hasRange) := ⟨List.mem_of_getElem? (i := 498) (by decide +kernel), by decide +kernel⟩
theorem ok_497 : okw (.instanceMethod yX1_hasRange) := ⟨List.mem_of_getElem? (i := 497) (by decide +kernel), by decide +kernel⟩
theorem ok_8 : okw (.selects yX1_hasRange.cls yX1_hasRange yX1_hasRange) := ⟨List.mem_of_getElem? (i := 8) (by decide +kernel), by decide +kernel⟩
theorem okc_X1_hasRange : okV mX1_hasRange 1 2 := ⟨ok_498, ok_497, ok_8, ok_40, rfl, ⟨_, rfl, rfl⟩, by decide, by decide +kernel, by decide +kernel⟩
theorem ok_75 : okw (mw mX2_init) := ⟨List.mem_of_getElem? (i := 75) (by decide +kernel), by decide +kernel⟩
theorem ok_74 : okw (.instanceMethod yX2_init) := ⟨List.mem_of_getElem? (i := 74) (by decide +kernel), by decide +kernel⟩
theorem okc_X2_init : okw (mw mX2_init) ∧ okw (.instanceMethod yX2_init) ∧ okw (.initialized yX2_init.cls) := ⟨ok_75, ok_74, ok_39⟩
theorem ok_333 : okw (mw mX2_beginCall) := ⟨List.mem_of_getElem? (i := 333) (by decide +kernel), by decide +kernel⟩
theorem ok_331 : okw (.instanceMethod yX2_beginCall) := ⟨List.mem_of_getElem? (i := 331) (by decide +kernel), by decide +kernel⟩
theorem ok_332 : okw (.selects yX2_beginCall.cls yX2_beginCall yX2_beginCall) := ⟨List.mem_of_getElem? (i := 332) (by decide +kernel), by decide +kernel⟩
theorem okc_X2_beginCall : okV mX2_beginCall 2 0 := ⟨ok_333, ok_331, ok_332, ok_39, rfl, ⟨_, rfl, rfl⟩, by decide, by decide +kernel, by decide +kernel⟩
theorem ok_349 : okw (mw mX2_splay) := ⟨List.mem_of_getElem? (i := 349) (by decide +kernel), by decide +kernel⟩
theorem ok_347 : okw (.instanceMethod yX2_splay) := ⟨List.mem_of_getElem? (i := 347) (by decide +kernel), by decide +kernel⟩
theorem ok_348 : okw (.selects yX2_splay.cls yX2_splay yX2_splay) := ⟨List.mem_of_getElem? (i := 348) (by decide +kernel), by decide +kernel⟩
theorem okc_X2_splay : okV mX2_splay 2 2 := ⟨ok_349, ok_347, ok_348, ok_39, rfl, ⟨_, rfl, rfl⟩, by decide, by decide +kernel, by decide +kernel⟩
theorem ok_354 : okw (mw mX2_rotate) := ⟨List.mem_of_getElem? (i := 354) (by decide +kernel), by decide +kernel⟩
theorem ok_353 : okw (.instanceMethod yX2_rotate) := ⟨List.mem_of_getElem? (i := 353) (by decide +kernel), by decide +kernel⟩
theorem ok_2 : okw (.selects yX2_rotate.cls yX2_rotate yX2_rotate) := ⟨List.mem_of_getElem? (i := 2) (by decide +kernel), by decide +kernel⟩
theorem okc_X2_rotate : okV mX2_rotate 2 1 := ⟨ok_354, ok_353, ok_2, ok_39, rfl, ⟨_, rfl, rfl⟩, by decide, by decide +kernel, by decide +kernel⟩
theorem ok_337 : okw (mw mX2_split) := ⟨List.mem_of_getElem? (i := 337) (by decide +kernel), by decide +kernel⟩
theorem ok_335 : okw (.instanceMethod yX2_split) := ⟨List.mem_of_getElem? (i := 335) (by decide +kernel), by decide +kernel⟩
theorem ok_336 : okw (.selects yX2_split.cls yX2_split yX2_split) := ⟨List.mem_of_getElem? (i := 336) (by decide +kernel), by decide +kernel⟩
theorem okc_X2_split : okV mX2_split 2 3 := ⟨ok_337, ok_335, ok_336, ok_39, rfl, ⟨_, rfl, rfl⟩, by decide, by decide +kernel, by decide +kernel⟩
theorem ok_432 : okw (mw mX2_join) := ⟨List.mem_of_getElem? (i := 432) (by decide +kernel), by decide +kernel⟩
theorem ok_430 : okw (.instanceMethod yX2_join) := ⟨List.mem_of_getElem? (i := 430) (by decide +kernel), by decide +kernel⟩
theorem ok_431 : okw (.selects yX2_join.cls yX2_join yX2_join) := ⟨List.mem_of_getElem? (i := 431) (by decide +kernel), by decide +kernel⟩
theorem okc_X2_join : okV mX2_join 2 2 := ⟨ok_432, ok_430, ok_431, ok_39, rfl, ⟨_, rfl, rfl⟩, by decide, by decide +kernel, by decide +kernel⟩
theorem ok_63 : okw (mw mX3_init) := ⟨List.mem_of_getElem? (i := 63) (by decide +kernel), by decide +kernel⟩
theorem ok_62 : okw (.instanceMethod yX3_init) := ⟨List.mem_of_getElem? (i := 62) (by decide +kernel), by decide +kernel⟩
theorem okc_X3_init : okw (mw mX3_init) ∧ okw (.instanceMethod yX3_init) ∧ okw (.initialized yX3_init.cls) := ⟨ok_63, ok_62, ok_38⟩
theorem ok_162 : okw (mw mX3_count) := ⟨List.mem_of_getElem? (i := 162) (by decide +kernel), by decide +kernel⟩
theorem ok_160 : okw (.instanceMethod yX3_count) := ⟨List.mem_of_getElem? (i := 160) (by decide +kernel), by decide +kernel⟩
theorem ok_161 : okw (.selects yX3_count.cls yX3_count yX3_count) := ⟨List.mem_of_getElem? (i := 161) (by decide +kernel), by decide +kernel⟩
theorem okc_X3_count : okV mX3_count 3 0 := ⟨ok_162, ok_160, ok_161, ok_38, rfl, ⟨_, rfl, rfl⟩, by decide, by decide +kernel, by decide +kernel⟩
theorem ok_341 : okw (mw mX3_find) := ⟨List.mem_of_getElem? (i := 341) (by decide +kernel), by decide +kernel⟩
theorem ok_339 : okw (.instanceMethod yX3_find) := ⟨List.mem_of_getElem? (i := 339) (by decide +kernel), by decide +kernel⟩
theorem ok_340 : okw (.selects yX3_find.cls yX3_find yX3_find) := ⟨List.mem_of_getElem? (i := 340) (by decide +kernel), by decide +kernel⟩
theorem okc_X3_find : okV mX3_find 3 1 := ⟨ok_341, ok_339, ok_340, ok_38, rfl, ⟨_, rfl, rfl⟩, by decide, by decide +kernel, by decide +kernel⟩
theorem ok_436 : okw (mw mX3_last) := ⟨List.mem_of_getElem? (i := 436) (by decide +kernel), by decide +kernel⟩
theorem ok_434 : okw (.instanceMethod yX3_last) := ⟨List.mem_of_getElem? (i := 434) (by decide +kernel), by decide +kernel⟩
theorem ok_435 : okw (.selects yX3_last.cls yX3_last yX3_last) := ⟨List.mem_of_getElem? (i := 435) (by decide +kernel), by decide +kernel⟩
theorem okc_X3_last : okV mX3_last 3 0 := ⟨ok_436, ok_434, ok_435, ok_38, rfl, ⟨_, rfl, rfl⟩, by decide, by decide +kernel, by decide +kernel⟩
theorem ok_585 : okw (mw mX3_holds) := ⟨List.mem_of_getElem? (i := 585) (by decide +kernel), by decide +kernel⟩
theorem ok_583 : okw (.instanceMethod yX3_holds) := ⟨List.mem_of_getElem? (i := 583) (by decide +kernel), by decide +kernel⟩
theorem ok_584 : okw (.selects yX3_holds.cls yX3_holds yX3_holds) := ⟨List.mem_of_getElem? (i := 584) (by decide +kernel), by decide +kernel⟩
theorem okc_X3_holds : okV mX3_holds 3 1 := ⟨ok_585, ok_583, ok_584, ok_38, rfl, ⟨_, rfl, rfl⟩, by decide, by decide +kernel, by decide +kernel⟩
theorem ok_345 : okw (mw mX3_takeAll) := ⟨List.mem_of_getElem? (i := 345) (by decide +kernel), by decide +kernel⟩
theorem ok_343 : okw (.instanceMethod yX3_takeAll) := ⟨List.mem_of_getElem? (i := 343) (by decide +kernel), by decide +kernel⟩
theorem ok_344 : okw (.selects yX3_takeAll.cls yX3_takeAll yX3_takeAll) := ⟨List.mem_of_getElem? (i := 344) (by decide +kernel), by decide +kernel⟩
theorem okc_X3_takeAll : okV mX3_takeAll 3 0 := ⟨ok_345, ok_343, ok_344, ok_38, rfl, ⟨_, rfl, rfl⟩, by decide, by decide +kernel, by decide +kernel⟩
theorem ok_482 : okw (mw mX3_turnRound) := ⟨List.mem_of_getElem? (i := 482) (by decide +kernel), by decide +kernel⟩
theorem ok_480 : okw (.instanceMethod yX3_turnRound) := ⟨List.mem_of_getElem? (i := 480) (by decide +kernel), by decide +kernel⟩
theorem ok_481 : okw (.selects yX3_turnRound.cls yX3_turnRound yX3_turnRound) := ⟨List.mem_of_getElem? (i := 481) (by decide +kernel), by decide +kernel⟩
theorem okc_X3_turnRound : okV mX3_turnRound 3 0 := ⟨ok_482, ok_480, ok_481, ok_38, rfl, ⟨_, rfl, rfl⟩, by decide, by decide +kernel, by decide +kernel⟩
theorem ok_509 : okw (mw mX3_addToAll) := ⟨List.mem_of_getElem? (i := 509) (by decide +kernel), by decide +kernel⟩
theorem ok_507 : okw (.instanceMethod yX3_addToAll) := ⟨List.mem_of_getElem? (i := 507) (by decide +kernel), by decide +kernel⟩
theorem ok_508 : okw (.selects yX3_addToAll.cls yX3_addToAll yX3_addToAll) := ⟨List.mem_of_getElem? (i := 508) (by decide +kernel), by decide +kernel⟩
theorem okc_X3_addToAll : okV mX3_addToAll 3 1 := ⟨ok_509, ok_507, ok_508, ok_38, rfl, ⟨_, rfl, rfl⟩, by decide, by decide +kernel, by decide +kernel⟩
theorem ok_524 : okw (mw mX3_total) := ⟨List.mem_of_getElem? (i := 524) (by decide +kernel), by decide +kernel⟩
theorem ok_522 : okw (.instanceMethod yX3_total) := ⟨List.mem_of_getElem? (i := 522) (by decide +kernel), by decide +kernel⟩
theorem ok_523 : okw (.selects yX3_total.cls yX3_total yX3_total) := ⟨List.mem_of_getElem? (i := 523) (by decide +kernel), by decide +kernel⟩
theorem okc_X3_total : okV mX3_total 3 0 := ⟨ok_524, ok_522, ok_523, ok_38, rfl, ⟨_, rfl, rfl⟩, by decide, by decide +kernel, by decide +kernel⟩
theorem ok_536 : okw (mw mX3_lowest) := ⟨List.mem_of_getElem? (i := 536) (by decide +kernel), by decide +kernel⟩
theorem ok_534 : okw (.instanceMethod yX3_lowest) := ⟨List.mem_of_getElem? (i := 534) (by decide +kernel), by decide +kernel⟩
theorem ok_535 : okw (.selects yX3_lowest.cls yX3_lowest yX3_lowest) := ⟨List.mem_of_getElem? (i := 535) (by decide +kernel), by decide +kernel⟩
theorem okc_X3_lowest : okV mX3_lowest 3 0 := ⟨ok_536, ok_534, ok_535, ok_38, rfl, ⟨_, rfl, rfl⟩, by decide, by decide +kernel, by decide +kernel⟩
theorem ok_158 : okw (mw mX3_sumOfRanks) := ⟨List.mem_of_getElem? (i := 158) (by decide +kernel), by decide +kernel⟩
theorem ok_156 : okw (.instanceMethod yX3_sumOfRanks) := ⟨List.mem_of_getElem? (i := 156) (by decide +kernel), by decide +kernel⟩
theorem ok_157 : okw (.selects yX3_sumOfRanks.cls yX3_sumOfRanks yX3_sumOfRanks) := ⟨List.mem_of_getElem? (i := 157) (by decide +kernel), by decide +kernel⟩
theorem okc_X3_sumOfRanks : okV mX3_sumOfRanks 3 0 := ⟨ok_158, ok_156, ok_157, ok_38, rfl, ⟨_, rfl, rfl⟩, by decide, by decide +kernel, by decide +kernel⟩
theorem ok_205 : okw (mw mX3_levels) := ⟨List.mem_of_getElem? (i := 205) (by decide +kernel), by decide +kernel⟩
theorem ok_203 : okw (.instanceMethod yX3_levels) := ⟨List.mem_of_getElem? (i := 203) (by decide +kernel), by decide +kernel⟩
theorem ok_204 : okw (.selects yX3_levels.cls yX3_levels yX3_levels) := ⟨List.mem_of_getElem? (i := 204) (by decide +kernel), by decide +kernel⟩
theorem okc_X3_levels : okV mX3_levels 3 0 := ⟨ok_205, ok_203, ok_204, ok_38, rfl, ⟨_, rfl, rfl⟩, by decide, by decide +kernel, by decide +kernel⟩
theorem ok_168 : okw (mw mX3_rankOf) := ⟨List.mem_of_getElem? (i := 168) (by decide +kernel), by decide +kernel⟩
theorem ok_167 : okw (.static yX3_rankOf) := ⟨List.mem_of_getElem? (i := 167) (by decide +kernel), by decide +kernel⟩
theorem okc_X3_rankOf : okS mX3_rankOf 1 := ⟨ok_168, ok_167, ok_38, by decide +kernel, by decide +kernel⟩
theorem ok_55 : okw (mw mX4_init) := ⟨List.mem_of_getElem? (i := 55) (by decide +kernel), by decide +kernel⟩
theorem ok_54 : okw (.instanceMethod yX4_init) := ⟨List.mem_of_getElem? (i := 54) (by decide +kernel), by decide +kernel⟩
theorem okc_X4_init : okw (mw mX4_init) ∧ okw (.instanceMethod yX4_init) ∧ okw (.initialized yX4_init.cls) := ⟨ok_55, ok_54, ok_37⟩
theorem ok_222 : okw (mw mX4_insert) := ⟨List.mem_of_getElem? (i := 222) (by decide +kernel), by decide +kernel⟩
theorem ok_220 : okw (.instanceMethod yX4_insert) := ⟨List.mem_of_getElem? (i := 220) (by decide +kernel), by decide +kernel⟩
theorem ok_221 : okw (.selects yX4_insert.cls yX4_insert yX4_insert) := ⟨List.mem_of_getElem? (i := 221) (by decide +kernel), by decide +kernel⟩
theorem okc_X4_insert : okV mX4_insert 4 2 := ⟨ok_222, ok_220, ok_221, ok_37, rfl, ⟨_, rfl, rfl⟩, by decide, by decide +kernel, by decide +kernel⟩
theorem ok_416 : okw (mw mX4_remove) := ⟨List.mem_of_getElem? (i := 416) (by decide +kernel), by decide +kernel⟩
theorem ok_414 : okw (.instanceMethod yX4_remove) := ⟨List.mem_of_getElem? (i := 414) (by decide +kernel), by decide +kernel⟩
theorem ok_415 : okw (.selects yX4_remove.cls yX4_remove yX4_remove) := ⟨List.mem_of_getElem? (i := 415) (by decide +kernel), by decide +kernel⟩
theorem okc_X4_remove : okV mX4_remove 4 1 := ⟨ok_416, ok_414, ok_415, ok_37, rfl, ⟨_, rfl, rfl⟩, by decide, by decide +kernel, by decide +kernel⟩
theorem ok_451 : okw (mw mX4_get) := ⟨List.mem_of_getElem? (i := 451) (by decide +kernel), by decide +kernel⟩
theorem ok_449 : okw (.instanceMethod yX4_get) := ⟨List.mem_of_getElem? (i := 449) (by decide +kernel), by decide +kernel⟩
theorem ok_450 : okw (.selects yX4_get.cls yX4_get yX4_get) := ⟨List.mem_of_getElem? (i := 450) (by decide +kernel), by decide +kernel⟩
theorem okc_X4_get : okV mX4_get 4 1 := ⟨ok_451, ok_449, ok_450, ok_37, rfl, ⟨_, rfl, rfl⟩, by decide, by decide +kernel, by decide +kernel⟩
theorem ok_458 : okw (mw mX4_set) := ⟨List.mem_of_getElem? (i := 458) (by decide +kernel), by decide +kernel⟩
theorem ok_456 : okw (.instanceMethod yX4_set) := ⟨List.mem_of_getElem? (i := 456) (by decide +kernel), by decide +kernel⟩
theorem ok_457 : okw (.selects yX4_set.cls yX4_set yX4_set) := ⟨List.mem_of_getElem? (i := 457) (by decide +kernel), by decide +kernel⟩
theorem okc_X4_set : okV mX4_set 4 2 := ⟨ok_458, ok_456, ok_457, ok_37, rfl, ⟨_, rfl, rfl⟩, by decide, by decide +kernel, by decide +kernel⟩
theorem ok_469 : okw (mw mX4_reverse) := ⟨List.mem_of_getElem? (i := 469) (by decide +kernel), by decide +kernel⟩
theorem ok_467 : okw (.instanceMethod yX4_reverse) := ⟨List.mem_of_getElem? (i := 467) (by decide +kernel), by decide +kernel⟩
theorem ok_468 : okw (.selects yX4_reverse.cls yX4_reverse yX4_reverse) := ⟨List.mem_of_getElem? (i := 468) (by decide +kernel), by decide +kernel⟩
theorem okc_X4_reverse : okV mX4_reverse 4 2 := ⟨ok_469, ok_467, ok_468, ok_37, rfl, ⟨_, rfl, rfl⟩, by decide, by decide +kernel, by decide +kernel⟩
theorem ok_505 : okw (mw mX4_raise) := ⟨List.mem_of_getElem? (i := 505) (by decide +kernel), by decide +kernel⟩
theorem ok_503 : okw (.instanceMethod yX4_raise) := ⟨List.mem_of_getElem? (i := 503) (by decide +kernel), by decide +kernel⟩
theorem ok_504 : okw (.selects yX4_raise.cls yX4_raise yX4_raise) := ⟨List.mem_of_getElem? (i := 504) (by decide +kernel), by decide +kernel⟩
theorem okc_X4_raise : okV mX4_raise 4 3 := ⟨ok_505, ok_503, ok_504, ok_37, rfl, ⟨_, rfl, rfl⟩, by decide, by decide +kernel, by decide +kernel⟩
theorem ok_520 : okw (mw mX4_sum) := ⟨List.mem_of_getElem? (i := 520) (by decide +kernel), by decide +kernel⟩
theorem ok_518 : okw (.instanceMethod yX4_sum) := ⟨List.mem_of_getElem? (i := 518) (by decide +kernel), by decide +kernel⟩
theorem ok_519 : okw (.selects yX4_sum.cls yX4_sum yX4_sum) := ⟨List.mem_of_getElem? (i := 519) (by decide +kernel), by decide +kernel⟩
theorem okc_X4_sum : okV mX4_sum 4 2 := ⟨ok_520, ok_518, ok_519, ok_37, rfl, ⟨_, rfl, rfl⟩, by decide, by decide +kernel, by decide +kernel⟩
theorem ok_531 : okw (mw mX4_least) := ⟨List.mem_of_getElem? (i := 531) (by decide +kernel), by decide +kernel⟩
theorem ok_529 : okw (.instanceMethod yX4_least) := ⟨List.mem_of_getElem? (i := 529) (by decide +kernel), by decide +kernel⟩
theorem ok_530 : okw (.selects yX4_least.cls yX4_least yX4_least) := ⟨List.mem_of_getElem? (i := 530) (by decide +kernel), by decide +kernel⟩
theorem okc_X4_least : okV mX4_least 4 2 := ⟨ok_531, ok_529, ok_530, ok_37, rfl, ⟨_, rfl, rfl⟩, by decide, by decide +kernel, by decide +kernel⟩
theorem ok_546 : okw (mw mX4_cut) := ⟨List.mem_of_getElem? (i := 546) (by decide +kernel), by decide +kernel⟩
theorem ok_544 : okw (.instanceMethod yX4_cut) := ⟨List.mem_of_getElem? (i := 544) (by decide +kernel), by decide +kernel⟩
theorem ok_545 : okw (.selects yX4_cut.cls yX4_cut yX4_cut) := ⟨List.mem_of_getElem? (i := 545) (by decide +kernel), by decide +kernel⟩
theorem okc_X4_cut : okV mX4_cut 4 2 := ⟨ok_546, ok_544, ok_545, ok_37, rfl, ⟨_, rfl, rfl⟩, by decide, by decide +kernel, by decide +kernel⟩
theorem ok_558 : okw (mw mX4_paste) := ⟨List.mem_of_getElem? (i := 558) (by decide +kernel), by decide +kernel⟩
theorem ok_556 : okw (.instanceMethod yX4_paste) := ⟨List.mem_of_getElem? (i := 556) (by decide +kernel), by decide +kernel⟩
theorem ok_557 : okw (.selects yX4_paste.cls yX4_paste yX4_paste) := ⟨List.mem_of_getElem? (i := 557) (by decide +kernel), by decide +kernel⟩
theorem okc_X4_paste : okV mX4_paste 4 1 := ⟨ok_558, ok_556, ok_557, ok_37, rfl, ⟨_, rfl, rfl⟩, by decide, by decide +kernel, by decide +kernel⟩
theorem ok_569 : okw (mw mX4_point) := ⟨List.mem_of_getElem? (i := 569) (by decide +kernel), by decide +kernel⟩
theorem ok_567 : okw (.instanceMethod yX4_point) := ⟨List.mem_of_getElem? (i := 567) (by decide +kernel), by decide +kernel⟩
theorem ok_568 : okw (.selects yX4_point.cls yX4_point yX4_point) := ⟨List.mem_of_getElem? (i := 568) (by decide +kernel), by decide +kernel⟩
theorem okc_X4_point : okV mX4_point 4 2 := ⟨ok_569, ok_567, ok_568, ok_37, rfl, ⟨_, rfl, rfl⟩, by decide, by decide +kernel, by decide +kernel⟩
theorem ok_581 : okw (mw mX4_follow) := ⟨List.mem_of_getElem? (i := 581) (by decide +kernel), by decide +kernel⟩
theorem ok_579 : okw (.instanceMethod yX4_follow) := ⟨List.mem_of_getElem? (i := 579) (by decide +kernel), by decide +kernel⟩
theorem ok_580 : okw (.selects yX4_follow.cls yX4_follow yX4_follow) := ⟨List.mem_of_getElem? (i := 580) (by decide +kernel), by decide +kernel⟩
theorem okc_X4_follow : okV mX4_follow 4 1 := ⟨ok_581, ok_579, ok_580, ok_37, rfl, ⟨_, rfl, rfl⟩, by decide, by decide +kernel, by decide +kernel⟩
theorem ok_596 : okw (mw mX4_move) := ⟨List.mem_of_getElem? (i := 596) (by decide +kernel), by decide +kernel⟩
theorem ok_594 : okw (.instanceMethod yX4_move) := ⟨List.mem_of_getElem? (i := 594) (by decide +kernel), by decide +kernel⟩
theorem ok_595 : okw (.selects yX4_move.cls yX4_move yX4_move) := ⟨List.mem_of_getElem? (i := 595) (by decide +kernel), by decide +kernel⟩
theorem okc_X4_move : okV mX4_move 4 2 := ⟨ok_596, ok_594, ok_595, ok_37, rfl, ⟨_, rfl, rfl⟩, by decide, by decide +kernel, by decide +kernel⟩
theorem ok_138 : okw (mw mX4_lastSteps) := ⟨List.mem_of_getElem? (i := 138) (by decide +kernel), by decide +kernel⟩
theorem ok_136 : okw (.instanceMethod yX4_lastSteps) := ⟨List.mem_of_getElem? (i := 136) (by decide +kernel), by decide +kernel⟩
theorem ok_137 : okw (.selects yX4_lastSteps.cls yX4_lastSteps yX4_lastSteps) := ⟨List.mem_of_getElem? (i := 137) (by decide +kernel), by decide +kernel⟩
theorem okc_X4_lastSteps : okV mX4_lastSteps 4 0 := ⟨ok_138, ok_136, ok_137, ok_37, rfl, ⟨_, rfl, rfl⟩, by decide, by decide +kernel, by decide +kernel⟩
theorem ok_142 : okw (mw mX4_lastRotations) := ⟨List.mem_of_getElem? (i := 142) (by decide +kernel), by decide +kernel⟩
theorem ok_140 : okw (.instanceMethod yX4_lastRotations) := ⟨List.mem_of_getElem? (i := 140) (by decide +kernel), by decide +kernel⟩
theorem ok_141 : okw (.selects yX4_lastRotations.cls yX4_lastRotations yX4_lastRotations) := ⟨List.mem_of_getElem? (i := 141) (by decide +kernel), by decide +kernel⟩
theorem okc_X4_lastRotations : okV mX4_lastRotations 4 0 := ⟨ok_142, ok_140, ok_141, ok_37, rfl, ⟨_, rfl, rfl⟩, by decide, by decide +kernel, by decide +kernel⟩
theorem ok_146 : okw (mw mX4_steps) := ⟨List.mem_of_getElem? (i := 146) (by decide +kernel), by decide +kernel⟩
theorem ok_144 : okw (.instanceMethod yX4_steps) := ⟨List.mem_of_getElem? (i := 144) (by decide +kernel), by decide +kernel⟩
theorem ok_145 : okw (.selects yX4_steps.cls yX4_steps yX4_steps) := ⟨List.mem_of_getElem? (i := 145) (by decide +kernel), by decide +kernel⟩
theorem okc_X4_steps : okV mX4_steps 4 0 := ⟨ok_146, ok_144, ok_145, ok_37, rfl, ⟨_, rfl, rfl⟩, by decide, by decide +kernel, by decide +kernel⟩
theorem ok_150 : okw (mw mX4_splays) := ⟨List.mem_of_getElem? (i := 150) (by decide +kernel), by decide +kernel⟩
theorem ok_148 : okw (.instanceMethod yX4_splays) := ⟨List.mem_of_getElem? (i := 148) (by decide +kernel), by decide +kernel⟩
theorem ok_149 : okw (.selects yX4_splays.cls yX4_splays yX4_splays) := ⟨List.mem_of_getElem? (i := 149) (by decide +kernel), by decide +kernel⟩
theorem okc_X4_splays : okV mX4_splays 4 0 := ⟨ok_150, ok_148, ok_149, ok_37, rfl, ⟨_, rfl, rfl⟩, by decide, by decide +kernel, by decide +kernel⟩
theorem ok_154 : okw (mw mX4_potential) := ⟨List.mem_of_getElem? (i := 154) (by decide +kernel), by decide +kernel⟩
theorem ok_152 : okw (.instanceMethod yX4_potential) := ⟨List.mem_of_getElem? (i := 152) (by decide +kernel), by decide +kernel⟩
theorem ok_153 : okw (.selects yX4_potential.cls yX4_potential yX4_potential) := ⟨List.mem_of_getElem? (i := 153) (by decide +kernel), by decide +kernel⟩
theorem okc_X4_potential : okV mX4_potential 4 0 := ⟨ok_154, ok_152, ok_153, ok_37, rfl, ⟨_, rfl, rfl⟩, by decide, by decide +kernel, by decide +kernel⟩
theorem ok_180 : okw (mw mX4_size) := ⟨List.mem_of_getElem? (i := 180) (by decide +kernel), by decide +kernel⟩
theorem ok_178 : okw (.instanceMethod yX4_size) := ⟨List.mem_of_getElem? (i := 178) (by decide +kernel), by decide +kernel⟩
theorem ok_179 : okw (.selects yX4_size.cls yX4_size yX4_size) := ⟨List.mem_of_getElem? (i := 179) (by decide +kernel), by decide +kernel⟩
theorem okc_X4_size : okV mX4_size 4 0 := ⟨ok_180, ok_178, ok_179, ok_37, rfl, ⟨_, rfl, rfl⟩, by decide, by decide +kernel, by decide +kernel⟩
theorem ok_185 : okw (mw mX4_clipped) := ⟨List.mem_of_getElem? (i := 185) (by decide +kernel), by decide +kernel⟩
theorem ok_183 : okw (.instanceMethod yX4_clipped) := ⟨List.mem_of_getElem? (i := 183) (by decide +kernel), by decide +kernel⟩
theorem ok_184 : okw (.selects yX4_clipped.cls yX4_clipped yX4_clipped) := ⟨List.mem_of_getElem? (i := 184) (by decide +kernel), by decide +kernel⟩
theorem okc_X4_clipped : okV mX4_clipped 4 0 := ⟨ok_185, ok_183, ok_184, ok_37, rfl, ⟨_, rfl, rfl⟩, by decide, by decide +kernel, by decide +kernel⟩
theorem ok_189 : okw (mw mX4_root) := ⟨List.mem_of_getElem? (i := 189) (by decide +kernel), by decide +kernel⟩
theorem ok_187 : okw (.instanceMethod yX4_root) := ⟨List.mem_of_getElem? (i := 187) (by decide +kernel), by decide +kernel⟩
theorem ok_188 : okw (.selects yX4_root.cls yX4_root yX4_root) := ⟨List.mem_of_getElem? (i := 188) (by decide +kernel), by decide +kernel⟩
theorem okc_X4_root : okV mX4_root 4 0 := ⟨ok_189, ok_187, ok_188, ok_37, rfl, ⟨_, rfl, rfl⟩, by decide, by decide +kernel, by decide +kernel⟩
theorem ok_201 : okw (mw mX4_height) := ⟨List.mem_of_getElem? (i := 201) (by decide +kernel), by decide +kernel⟩
theorem ok_199 : okw (.instanceMethod yX4_height) := ⟨List.mem_of_getElem? (i := 199) (by decide +kernel), by decide +kernel⟩
theorem ok_200 : okw (.selects yX4_height.cls yX4_height yX4_height) := ⟨List.mem_of_getElem? (i := 200) (by decide +kernel), by decide +kernel⟩
theorem okc_X4_height : okV mX4_height 4 0 := ⟨ok_201, ok_199, ok_200, ok_37, rfl, ⟨_, rfl, rfl⟩, by decide, by decide +kernel, by decide +kernel⟩
theorem ok_605 : okw (mw mX4_depth) := ⟨List.mem_of_getElem? (i := 605) (by decide +kernel), by decide +kernel⟩
theorem ok_603 : okw (.instanceMethod yX4_depth) := ⟨List.mem_of_getElem? (i := 603) (by decide +kernel), by decide +kernel⟩
theorem ok_604 : okw (.selects yX4_depth.cls yX4_depth yX4_depth) := ⟨List.mem_of_getElem? (i := 604) (by decide +kernel), by decide +kernel⟩
theorem okc_X4_depth : okV mX4_depth 4 1 := ⟨ok_605, ok_603, ok_604, ok_37, rfl, ⟨_, rfl, rfl⟩, by decide, by decide +kernel, by decide +kernel⟩
theorem ok_613 : okw (mw mX4_subtree) := ⟨List.mem_of_getElem? (i := 613) (by decide +kernel), by decide +kernel⟩
theorem ok_611 : okw (.instanceMethod yX4_subtree) := ⟨List.mem_of_getElem? (i := 611) (by decide +kernel), by decide +kernel⟩
theorem ok_612 : okw (.selects yX4_subtree.cls yX4_subtree yX4_subtree) := ⟨List.mem_of_getElem? (i := 612) (by decide +kernel), by decide +kernel⟩
theorem okc_X4_subtree : okV mX4_subtree 4 1 := ⟨ok_613, ok_611, ok_612, ok_37, rfl, ⟨_, rfl, rfl⟩, by decide, by decide +kernel, by decide +kernel⟩
theorem ok_620 : okw (mw mX4_child) := ⟨List.mem_of_getElem? (i := 620) (by decide +kernel), by decide +kernel⟩
theorem ok_618 : okw (.instanceMethod yX4_child) := ⟨List.mem_of_getElem? (i := 618) (by decide +kernel), by decide +kernel⟩
theorem ok_619 : okw (.selects yX4_child.cls yX4_child yX4_child) := ⟨List.mem_of_getElem? (i := 619) (by decide +kernel), by decide +kernel⟩
theorem okc_X4_child : okV mX4_child 4 2 := ⟨ok_620, ok_618, ok_619, ok_37, rfl, ⟨_, rfl, rfl⟩, by decide, by decide +kernel, by decide +kernel⟩
theorem ok_627 : okw (mw mX4_whereIs) := ⟨List.mem_of_getElem? (i := 627) (by decide +kernel), by decide +kernel⟩
theorem ok_625 : okw (.instanceMethod yX4_whereIs) := ⟨List.mem_of_getElem? (i := 625) (by decide +kernel), by decide +kernel⟩
theorem ok_626 : okw (.selects yX4_whereIs.cls yX4_whereIs yX4_whereIs) := ⟨List.mem_of_getElem? (i := 626) (by decide +kernel), by decide +kernel⟩
theorem okc_X4_whereIs : okV mX4_whereIs 4 1 := ⟨ok_627, ok_625, ok_626, ok_37, rfl, ⟨_, rfl, rfl⟩, by decide, by decide +kernel, by decide +kernel⟩
theorem ok_634 : okw (mw mX4_plain) := ⟨List.mem_of_getElem? (i := 634) (by decide +kernel), by decide +kernel⟩
theorem ok_632 : okw (.instanceMethod yX4_plain) := ⟨List.mem_of_getElem? (i := 632) (by decide +kernel), by decide +kernel⟩
theorem ok_633 : okw (.selects yX4_plain.cls yX4_plain yX4_plain) := ⟨List.mem_of_getElem? (i := 633) (by decide +kernel), by decide +kernel⟩
theorem okc_X4_plain : okV mX4_plain 4 1 := ⟨ok_634, ok_632, ok_633, ok_37, rfl, ⟨_, rfl, rfl⟩, by decide, by decide +kernel, by decide +kernel⟩
theorem ok_645 : okw (mw mX4_plainSum) := ⟨List.mem_of_getElem? (i := 645) (by decide +kernel), by decide +kernel⟩
theorem ok_643 : okw (.instanceMethod yX4_plainSum) := ⟨List.mem_of_getElem? (i := 643) (by decide +kernel), by decide +kernel⟩
theorem ok_644 : okw (.selects yX4_plainSum.cls yX4_plainSum yX4_plainSum) := ⟨List.mem_of_getElem? (i := 644) (by decide +kernel), by decide +kernel⟩
theorem okc_X4_plainSum : okV mX4_plainSum 4 2 := ⟨ok_645, ok_643, ok_644, ok_37, rfl, ⟨_, rfl, rfl⟩, by decide, by decide +kernel, by decide +kernel⟩
theorem ok_420 : okw (mw mX4_nodeAt) := ⟨List.mem_of_getElem? (i := 420) (by decide +kernel), by decide +kernel⟩
theorem ok_419 : okw (.instanceMethod yX4_nodeAt) := ⟨List.mem_of_getElem? (i := 419) (by decide +kernel), by decide +kernel⟩
theorem ok_3 : okw (.selects yX4_nodeAt.cls yX4_nodeAt yX4_nodeAt) := ⟨List.mem_of_getElem? (i := 3) (by decide +kernel), by decide +kernel⟩
theorem okc_X4_nodeAt : okV mX4_nodeAt 4 1 := ⟨ok_420, ok_419, ok_3, ok_37, rfl, ⟨_, rfl, rfl⟩, by decide, by decide +kernel, by decide +kernel⟩
theorem ok_226 : okw (mw mX4_checkGap) := ⟨List.mem_of_getElem? (i := 226) (by decide +kernel), by decide +kernel⟩
theorem ok_225 : okw (.instanceMethod yX4_checkGap) := ⟨List.mem_of_getElem? (i := 225) (by decide +kernel), by decide +kernel⟩
theorem ok_0 : okw (.selects yX4_checkGap.cls yX4_checkGap yX4_checkGap) := ⟨List.mem_of_getElem? (i := 0) (by decide +kernel), by decide +kernel⟩
theorem okc_X4_checkGap : okV mX4_checkGap 4 1 := ⟨ok_226, ok_225, ok_0, ok_37, rfl, ⟨_, rfl, rfl⟩, by decide, by decide +kernel, by decide +kernel⟩
theorem ok_473 : okw (mw mX4_checkRange) := ⟨List.mem_of_getElem? (i := 473) (by decide +kernel), by decide +kernel⟩
theorem ok_472 : okw (.instanceMethod yX4_checkRange) := ⟨List.mem_of_getElem? (i := 472) (by decide +kernel), by decide +kernel⟩
theorem ok_5 : okw (.selects yX4_checkRange.cls yX4_checkRange yX4_checkRange) := ⟨List.mem_of_getElem? (i := 5) (by decide +kernel), by decide +kernel⟩
theorem okc_X4_checkRange : okV mX4_checkRange 4 2 := ⟨ok_473, ok_472, ok_5, ok_37, rfl, ⟨_, rfl, rfl⟩, by decide, by decide +kernel, by decide +kernel⟩
theorem ok_573 : okw (mw mX4_checkFinger) := ⟨List.mem_of_getElem? (i := 573) (by decide +kernel), by decide +kernel⟩
theorem ok_572 : okw (.instanceMethod yX4_checkFinger) := ⟨List.mem_of_getElem? (i := 572) (by decide +kernel), by decide +kernel⟩
theorem ok_9 : okw (.selects yX4_checkFinger.cls yX4_checkFinger yX4_checkFinger) := ⟨List.mem_of_getElem? (i := 9) (by decide +kernel), by decide +kernel⟩
theorem okc_X4_checkFinger : okV mX4_checkFinger 4 1 := ⟨ok_573, ok_572, ok_9, ok_37, rfl, ⟨_, rfl, rfl⟩, by decide, by decide +kernel, by decide +kernel⟩
theorem ok_297 : okw (mw mX4_checkAmount) := ⟨List.mem_of_getElem? (i := 297) (by decide +kernel), by decide +kernel⟩
theorem ok_296 : okw (.static yX4_checkAmount) := ⟨List.mem_of_getElem? (i := 296) (by decide +kernel), by decide +kernel⟩
theorem okc_X4_checkAmount : okS mX4_checkAmount 1 := ⟨ok_297, ok_296, ok_37, by decide +kernel, by decide +kernel⟩
theorem ok_192 : okw (mw mX4_positionOrNone) := ⟨List.mem_of_getElem? (i := 192) (by decide +kernel), by decide +kernel⟩
theorem ok_191 : okw (.static yX4_positionOrNone) := ⟨List.mem_of_getElem? (i := 191) (by decide +kernel), by decide +kernel⟩
theorem okc_X4_positionOrNone : okS mX4_positionOrNone 1 := ⟨ok_192, ok_191, ok_37, by decide +kernel, by decide +kernel⟩
theorem ok_440 : okw (mw mX4_liftFingersFrom) := ⟨List.mem_of_getElem? (i := 440) (by decide +kernel), by decide +kernel⟩
theorem ok_439 : okw (.instanceMethod yX4_liftFingersFrom) := ⟨List.mem_of_getElem? (i := 439) (by decide +kernel), by decide +kernel⟩
theorem ok_4 : okw (.selects yX4_liftFingersFrom.cls yX4_liftFingersFrom yX4_liftFingersFrom) := ⟨List.mem_of_getElem? (i := 4) (by decide +kernel), by decide +kernel⟩
theorem okc_X4_liftFingersFrom : okV mX4_liftFingersFrom 4 1 := ⟨ok_440, ok_439, ok_4, ok_37, rfl, ⟨_, rfl, rfl⟩, by decide, by decide +kernel, by decide +kernel⟩
theorem ok_478 : okw (mw mX4_takeRange) := ⟨List.mem_of_getElem? (i := 478) (by decide +kernel), by decide +kernel⟩
theorem ok_477 : okw (.instanceMethod yX4_takeRange) := ⟨List.mem_of_getElem? (i := 477) (by decide +kernel), by decide +kernel⟩
theorem ok_6 : okw (.selects yX4_takeRange.cls yX4_takeRange yX4_takeRange) := ⟨List.mem_of_getElem? (i := 6) (by decide +kernel), by decide +kernel⟩
theorem okc_X4_takeRange : okV mX4_takeRange 4 2 := ⟨ok_478, ok_477, ok_6, ok_37, rfl, ⟨_, rfl, rfl⟩, by decide, by decide +kernel, by decide +kernel⟩
theorem ok_490 : okw (mw mX4_putRangeBack) := ⟨List.mem_of_getElem? (i := 490) (by decide +kernel), by decide +kernel⟩
theorem ok_489 : okw (.instanceMethod yX4_putRangeBack) := ⟨List.mem_of_getElem? (i := 489) (by decide +kernel), by decide +kernel⟩
theorem ok_7 : okw (.selects yX4_putRangeBack.cls yX4_putRangeBack yX4_putRangeBack) := ⟨List.mem_of_getElem? (i := 7) (by decide +kernel), by decide +kernel⟩
theorem okc_X4_putRangeBack : okV mX4_putRangeBack 4 0 := ⟨ok_490, ok_489, ok_7, ok_37, rfl, ⟨_, rfl, rfl⟩, by decide, by decide +kernel, by decide +kernel⟩
theorem ok_654 : okw (mw mX5_init) := ⟨List.mem_of_getElem? (i := 654) (by decide +kernel), by decide +kernel⟩
theorem ok_653 : okw (.instanceMethod yX5_init) := ⟨List.mem_of_getElem? (i := 653) (by decide +kernel), by decide +kernel⟩
theorem okc_X5_init : okw (mw mX5_init) ∧ okw (.instanceMethod yX5_init) ∧ okw (.initialized yX5_init.cls) := ⟨ok_654, ok_653, ok_41⟩
theorem ok_721 : okw (mw mX5_thrown) := ⟨List.mem_of_getElem? (i := 721) (by decide +kernel), by decide +kernel⟩
theorem ok_719 : okw (.instanceMethod yX5_thrown) := ⟨List.mem_of_getElem? (i := 719) (by decide +kernel), by decide +kernel⟩
theorem ok_720 : okw (.selects yX5_thrown.cls yX5_thrown yX5_thrown) := ⟨List.mem_of_getElem? (i := 720) (by decide +kernel), by decide +kernel⟩
theorem okc_X5_thrown : okV mX5_thrown 5 0 := ⟨ok_721, ok_719, ok_720, ok_41, rfl, ⟨_, rfl, rfl⟩, by decide, by decide +kernel, by decide +kernel⟩
theorem ok_752 : okw (mw mX5_goesWell) := ⟨List.mem_of_getElem? (i := 752) (by decide +kernel), by decide +kernel⟩
theorem ok_751 : okw (.instanceMethod yX5_goesWell) := ⟨List.mem_of_getElem? (i := 751) (by decide +kernel), by decide +kernel⟩
theorem ok_15 : okw (.selects yX5_goesWell.cls yX5_goesWell yX5_goesWell) := ⟨List.mem_of_getElem? (i := 15) (by decide +kernel), by decide +kernel⟩
theorem okc_X5_goesWell : okV mX5_goesWell 5 1 := ⟨ok_752, ok_751, ok_15, ok_41, rfl, ⟨_, rfl, rfl⟩, by decide, by decide +kernel, by decide +kernel⟩
theorem ok_741 : okw (mw mX5_leftmost) := ⟨List.mem_of_getElem? (i := 741) (by decide +kernel), by decide +kernel⟩
theorem ok_740 : okw (.instanceMethod yX5_leftmost) := ⟨List.mem_of_getElem? (i := 740) (by decide +kernel), by decide +kernel⟩
theorem ok_13 : okw (.selects yX5_leftmost.cls yX5_leftmost yX5_leftmost) := ⟨List.mem_of_getElem? (i := 13) (by decide +kernel), by decide +kernel⟩
theorem okc_X5_leftmost : okV mX5_leftmost 5 1 := ⟨ok_741, ok_740, ok_13, ok_41, rfl, ⟨_, rfl, rfl⟩, by decide, by decide +kernel, by decide +kernel⟩
theorem ok_792 : okw (mw mX5_rightmost) := ⟨List.mem_of_getElem? (i := 792) (by decide +kernel), by decide +kernel⟩
theorem ok_791 : okw (.instanceMethod yX5_rightmost) := ⟨List.mem_of_getElem? (i := 791) (by decide +kernel), by decide +kernel⟩
theorem ok_24 : okw (.selects yX5_rightmost.cls yX5_rightmost yX5_rightmost) := ⟨List.mem_of_getElem? (i := 24) (by decide +kernel), by decide +kernel⟩
theorem okc_X5_rightmost : okV mX5_rightmost 5 1 := ⟨ok_792, ok_791, ok_24, ok_41, rfl, ⟨_, rfl, rfl⟩, by decide, by decide +kernel, by decide +kernel⟩
theorem ok_745 : okw (mw mX5_following) := ⟨List.mem_of_getElem? (i := 745) (by decide +kernel), by decide +kernel⟩
theorem ok_744 : okw (.instanceMethod yX5_following) := ⟨List.mem_of_getElem? (i := 744) (by decide +kernel), by decide +kernel⟩
theorem ok_14 : okw (.selects yX5_following.cls yX5_following yX5_following) := ⟨List.mem_of_getElem? (i := 14) (by decide +kernel), by decide +kernel⟩
theorem okc_X5_following : okV mX5_following 5 1 := ⟨ok_745, ok_744, ok_14, ok_41, rfl, ⟨_, rfl, rfl⟩, by decide, by decide +kernel, by decide +kernel⟩
theorem ok_737 : okw (mw mX5_layOrder) := ⟨List.mem_of_getElem? (i := 737) (by decide +kernel), by decide +kernel⟩
theorem ok_736 : okw (.instanceMethod yX5_layOrder) := ⟨List.mem_of_getElem? (i := 736) (by decide +kernel), by decide +kernel⟩
theorem ok_12 : okw (.selects yX5_layOrder.cls yX5_layOrder yX5_layOrder) := ⟨List.mem_of_getElem? (i := 12) (by decide +kernel), by decide +kernel⟩
theorem okc_X5_layOrder : okV mX5_layOrder 5 1 := ⟨ok_737, ok_736, ok_12, ok_41, rfl, ⟨_, rfl, rfl⟩, by decide, by decide +kernel, by decide +kernel⟩
theorem ok_733 : okw (mw mX5_sizeOf) := ⟨List.mem_of_getElem? (i := 733) (by decide +kernel), by decide +kernel⟩
theorem ok_732 : okw (.instanceMethod yX5_sizeOf) := ⟨List.mem_of_getElem? (i := 732) (by decide +kernel), by decide +kernel⟩
theorem ok_11 : okw (.selects yX5_sizeOf.cls yX5_sizeOf yX5_sizeOf) := ⟨List.mem_of_getElem? (i := 11) (by decide +kernel), by decide +kernel⟩
theorem okc_X5_sizeOf : okV mX5_sizeOf 5 1 := ⟨ok_733, ok_732, ok_11, ok_41, rfl, ⟨_, rfl, rfl⟩, by decide, by decide +kernel, by decide +kernel⟩
theorem ok_764 : okw (mw mX5_nodeAt) := ⟨List.mem_of_getElem? (i := 764) (by decide +kernel), by decide +kernel⟩
theorem ok_763 : okw (.instanceMethod yX5_nodeAt) := ⟨List.mem_of_getElem? (i := 763) (by decide +kernel), by decide +kernel⟩
theorem ok_18 : okw (.selects yX5_nodeAt.cls yX5_nodeAt yX5_nodeAt) := ⟨List.mem_of_getElem? (i := 18) (by decide +kernel), by decide +kernel⟩
theorem okc_X5_nodeAt : okV mX5_nodeAt 5 2 := ⟨ok_764, ok_763, ok_18, ok_41, rfl, ⟨_, rfl, rfl⟩, by decide, by decide +kernel, by decide +kernel⟩
theorem ok_863 : okw (mw mX5_rootOf) := ⟨List.mem_of_getElem? (i := 863) (by decide +kernel), by decide +kernel⟩
theorem ok_862 : okw (.instanceMethod yX5_rootOf) := ⟨List.mem_of_getElem? (i := 862) (by decide +kernel), by decide +kernel⟩
theorem ok_31 : okw (.selects yX5_rootOf.cls yX5_rootOf yX5_rootOf) := ⟨List.mem_of_getElem? (i := 31) (by decide +kernel), by decide +kernel⟩
theorem okc_X5_rootOf : okV mX5_rootOf 5 1 := ⟨ok_863, ok_862, ok_31, ok_41, rfl, ⟨_, rfl, rfl⟩, by decide, by decide +kernel, by decide +kernel⟩
theorem ok_867 : okw (mw mX5_placeOf) := ⟨List.mem_of_getElem? (i := 867) (by decide +kernel), by decide +kernel⟩
theorem ok_866 : okw (.instanceMethod yX5_placeOf) := ⟨List.mem_of_getElem? (i := 866) (by decide +kernel), by decide +kernel⟩
theorem ok_32 : okw (.selects yX5_placeOf.cls yX5_placeOf yX5_placeOf) := ⟨List.mem_of_getElem? (i := 32) (by decide +kernel), by decide +kernel⟩
theorem okc_X5_placeOf : okV mX5_placeOf 5 1 := ⟨ok_867, ok_866, ok_32, ok_41, rfl, ⟨_, rfl, rfl⟩, by decide, by decide +kernel, by decide +kernel⟩
theorem ok_923 : okw (mw mX5_depthOf) := ⟨List.mem_of_getElem? (i := 923) (by decide +kernel), by decide +kernel⟩
theorem ok_922 : okw (.instanceMethod yX5_depthOf) := ⟨List.mem_of_getElem? (i := 922) (by decide +kernel), by decide +kernel⟩
theorem ok_35 : okw (.selects yX5_depthOf.cls yX5_depthOf yX5_depthOf) := ⟨List.mem_of_getElem? (i := 35) (by decide +kernel), by decide +kernel⟩
theorem okc_X5_depthOf : okV mX5_depthOf 5 1 := ⟨ok_923, ok_922, ok_35, ok_41, rfl, ⟨_, rfl, rfl⟩, by decide, by decide +kernel, by decide +kernel⟩
theorem ok_900 : okw (mw mX5_below) := ⟨List.mem_of_getElem? (i := 900) (by decide +kernel), by decide +kernel⟩
theorem ok_899 : okw (.instanceMethod yX5_below) := ⟨List.mem_of_getElem? (i := 899) (by decide +kernel), by decide +kernel⟩
theorem ok_34 : okw (.selects yX5_below.cls yX5_below yX5_below) := ⟨List.mem_of_getElem? (i := 34) (by decide +kernel), by decide +kernel⟩
theorem okc_X5_below : okV mX5_below 5 1 := ⟨ok_900, ok_899, ok_34, ok_41, rfl, ⟨_, rfl, rfl⟩, by decide, by decide +kernel, by decide +kernel⟩
theorem ok_776 : okw (mw mX5_hang) := ⟨List.mem_of_getElem? (i := 776) (by decide +kernel), by decide +kernel⟩
theorem ok_775 : okw (.instanceMethod yX5_hang) := ⟨List.mem_of_getElem? (i := 775) (by decide +kernel), by decide +kernel⟩
theorem ok_21 : okw (.selects yX5_hang.cls yX5_hang yX5_hang) := ⟨List.mem_of_getElem? (i := 21) (by decide +kernel), by decide +kernel⟩
theorem okc_X5_hang : okV mX5_hang 5 3 := ⟨ok_776, ok_775, ok_21, ok_41, rfl, ⟨_, rfl, rfl⟩, by decide, by decide +kernel, by decide +kernel⟩
theorem ok_772 : okw (mw mX5_rotate) := ⟨List.mem_of_getElem? (i := 772) (by decide +kernel), by decide +kernel⟩
theorem ok_771 : okw (.instanceMethod yX5_rotate) := ⟨List.mem_of_getElem? (i := 771) (by decide +kernel), by decide +kernel⟩
theorem ok_20 : okw (.selects yX5_rotate.cls yX5_rotate yX5_rotate) := ⟨List.mem_of_getElem? (i := 20) (by decide +kernel), by decide +kernel⟩
theorem okc_X5_rotate : okV mX5_rotate 5 1 := ⟨ok_772, ok_771, ok_20, ok_41, rfl, ⟨_, rfl, rfl⟩, by decide, by decide +kernel, by decide +kernel⟩
theorem ok_768 : okw (mw mX5_splay) := ⟨List.mem_of_getElem? (i := 768) (by decide +kernel), by decide +kernel⟩
theorem ok_767 : okw (.instanceMethod yX5_splay) := ⟨List.mem_of_getElem? (i := 767) (by decide +kernel), by decide +kernel⟩
theorem ok_19 : okw (.selects yX5_splay.cls yX5_splay yX5_splay) := ⟨List.mem_of_getElem? (i := 19) (by decide +kernel), by decide +kernel⟩
theorem okc_X5_splay : okV mX5_splay 5 1 := ⟨ok_768, ok_767, ok_19, ok_41, rfl, ⟨_, rfl, rfl⟩, by decide, by decide +kernel, by decide +kernel⟩
theorem ok_756 : okw (mw mX5_begins) := ⟨List.mem_of_getElem? (i := 756) (by decide +kernel), by decide +kernel⟩
theorem ok_755 : okw (.instanceMethod yX5_begins) := ⟨List.mem_of_getElem? (i := 755) (by decide +kernel), by decide +kernel⟩
theorem ok_16 : okw (.selects yX5_begins.cls yX5_begins yX5_begins) := ⟨List.mem_of_getElem? (i := 16) (by decide +kernel), by decide +kernel⟩
theorem okc_X5_begins : okV mX5_begins 5 0 := ⟨ok_756, ok_755, ok_16, ok_41, rfl, ⟨_, rfl, rfl⟩, by decide, by decide +kernel, by decide +kernel⟩
theorem ok_760 : okw (mw mX5_split) := ⟨List.mem_of_getElem? (i := 760) (by decide +kernel), by decide +kernel⟩
theorem ok_759 : okw (.instanceMethod yX5_split) := ⟨List.mem_of_getElem? (i := 759) (by decide +kernel), by decide +kernel⟩
theorem ok_17 : okw (.selects yX5_split.cls yX5_split yX5_split) := ⟨List.mem_of_getElem? (i := 17) (by decide +kernel), by decide +kernel⟩
theorem okc_X5_split : okV mX5_split 5 2 := ⟨ok_760, ok_759, ok_17, ok_41, rfl, ⟨_, rfl, rfl⟩, by decide, by decide +kernel, by decide +kernel⟩
theorem ok_788 : okw (mw mX5_join) := ⟨List.mem_of_getElem? (i := 788) (by decide +kernel), by decide +kernel⟩
theorem ok_787 : okw (.instanceMethod yX5_join) := ⟨List.mem_of_getElem? (i := 787) (by decide +kernel), by decide +kernel⟩
theorem ok_23 : okw (.selects yX5_join.cls yX5_join yX5_join) := ⟨List.mem_of_getElem? (i := 23) (by decide +kernel), by decide +kernel⟩
theorem okc_X5_join : okV mX5_join 5 2 := ⟨ok_788, ok_787, ok_23, ok_41, rfl, ⟨_, rfl, rfl⟩, by decide, by decide +kernel, by decide +kernel⟩
theorem ok_729 : okw (mw mX5_count) := ⟨List.mem_of_getElem? (i := 729) (by decide +kernel), by decide +kernel⟩
theorem ok_728 : okw (.instanceMethod yX5_count) := ⟨List.mem_of_getElem? (i := 728) (by decide +kernel), by decide +kernel⟩
theorem ok_10 : okw (.selects yX5_count.cls yX5_count yX5_count) := ⟨List.mem_of_getElem? (i := 10) (by decide +kernel), by decide +kernel⟩
theorem okc_X5_count : okV mX5_count 5 0 := ⟨ok_729, ok_728, ok_10, ok_41, rfl, ⟨_, rfl, rfl⟩, by decide, by decide +kernel, by decide +kernel⟩
theorem ok_784 : okw (mw mX5_isPlace) := ⟨List.mem_of_getElem? (i := 784) (by decide +kernel), by decide +kernel⟩
theorem ok_783 : okw (.instanceMethod yX5_isPlace) := ⟨List.mem_of_getElem? (i := 783) (by decide +kernel), by decide +kernel⟩
theorem ok_22 : okw (.selects yX5_isPlace.cls yX5_isPlace yX5_isPlace) := ⟨List.mem_of_getElem? (i := 22) (by decide +kernel), by decide +kernel⟩
theorem okc_X5_isPlace : okV mX5_isPlace 5 1 := ⟨ok_784, ok_783, ok_22, ok_41, rfl, ⟨_, rfl, rfl⟩, by decide, by decide +kernel, by decide +kernel⟩
theorem ok_812 : okw (mw mX5_isRange) := ⟨List.mem_of_getElem? (i := 812) (by decide +kernel), by decide +kernel⟩
theorem ok_811 : okw (.instanceMethod yX5_isRange) := ⟨List.mem_of_getElem? (i := 811) (by decide +kernel), by decide +kernel⟩
theorem ok_26 : okw (.selects yX5_isRange.cls yX5_isRange yX5_isRange) := ⟨List.mem_of_getElem? (i := 26) (by decide +kernel), by decide +kernel⟩
theorem okc_X5_isRange : okV mX5_isRange 5 2 := ⟨ok_812, ok_811, ok_26, ok_41, rfl, ⟨_, rfl, rfl⟩, by decide, by decide +kernel, by decide +kernel⟩
theorem ok_748 : okw (mw mX5_isValue) := ⟨List.mem_of_getElem? (i := 748) (by decide +kernel), by decide +kernel⟩
theorem ok_747 : okw (.static yX5_isValue) := ⟨List.mem_of_getElem? (i := 747) (by decide +kernel), by decide +kernel⟩
theorem okc_X5_isValue : okS mX5_isValue 1 := ⟨ok_748, ok_747, ok_41, by decide +kernel, by decide +kernel⟩
theorem ok_851 : okw (mw mX5_isFinger) := ⟨List.mem_of_getElem? (i := 851) (by decide +kernel), by decide +kernel⟩
theorem ok_850 : okw (.static yX5_isFinger) := ⟨List.mem_of_getElem? (i := 850) (by decide +kernel), by decide +kernel⟩
theorem okc_X5_isFinger : okS mX5_isFinger 1 := ⟨ok_851, ok_850, ok_41, by decide +kernel, by decide +kernel⟩
theorem ok_725 : okw (mw mX5_insert) := ⟨List.mem_of_getElem? (i := 725) (by decide +kernel), by decide +kernel⟩
theorem ok_723 : okw (.instanceMethod yX5_insert) := ⟨List.mem_of_getElem? (i := 723) (by decide +kernel), by decide +kernel⟩
theorem ok_724 : okw (.selects yX5_insert.cls yX5_insert yX5_insert) := ⟨List.mem_of_getElem? (i := 724) (by decide +kernel), by decide +kernel⟩
theorem okc_X5_insert : okV mX5_insert 5 2 := ⟨ok_725, ok_723, ok_724, ok_41, rfl, ⟨_, rfl, rfl⟩, by decide, by decide +kernel, by decide +kernel⟩
theorem ok_780 : okw (mw mX5_remove) := ⟨List.mem_of_getElem? (i := 780) (by decide +kernel), by decide +kernel⟩
theorem ok_778 : okw (.instanceMethod yX5_remove) := ⟨List.mem_of_getElem? (i := 778) (by decide +kernel), by decide +kernel⟩
theorem ok_779 : okw (.selects yX5_remove.cls yX5_remove yX5_remove) := ⟨List.mem_of_getElem? (i := 779) (by decide +kernel), by decide +kernel⟩
theorem okc_X5_remove : okV mX5_remove 5 1 := ⟨ok_780, ok_778, ok_779, ok_41, rfl, ⟨_, rfl, rfl⟩, by decide, by decide +kernel, by decide +kernel⟩
theorem ok_800 : okw (mw mX5_raiseUp) := ⟨List.mem_of_getElem? (i := 800) (by decide +kernel), by decide +kernel⟩
theorem ok_799 : okw (.instanceMethod yX5_raiseUp) := ⟨List.mem_of_getElem? (i := 799) (by decide +kernel), by decide +kernel⟩
theorem ok_25 : okw (.selects yX5_raiseUp.cls yX5_raiseUp yX5_raiseUp) := ⟨List.mem_of_getElem? (i := 25) (by decide +kernel), by decide +kernel⟩
theorem okc_X5_raiseUp : okV mX5_raiseUp 5 1 := ⟨ok_800, ok_799, ok_25, ok_41, rfl, ⟨_, rfl, rfl⟩, by decide, by decide +kernel, by decide +kernel⟩
theorem ok_796 : okw (mw mX5_get) := ⟨List.mem_of_getElem? (i := 796) (by decide +kernel), by decide +kernel⟩
theorem ok_794 : okw (.instanceMethod yX5_get) := ⟨List.mem_of_getElem? (i := 794) (by decide +kernel), by decide +kernel⟩
theorem ok_795 : okw (.selects yX5_get.cls yX5_get yX5_get) := ⟨List.mem_of_getElem? (i := 795) (by decide +kernel), by decide +kernel⟩
theorem okc_X5_get : okV mX5_get 5 1 := ⟨ok_796, ok_794, ok_795, ok_41, rfl, ⟨_, rfl, rfl⟩, by decide, by decide +kernel, by decide +kernel⟩
theorem ok_804 : okw (mw mX5_set) := ⟨List.mem_of_getElem? (i := 804) (by decide +kernel), by decide +kernel⟩
theorem ok_802 : okw (.instanceMethod yX5_set) := ⟨List.mem_of_getElem? (i := 802) (by decide +kernel), by decide +kernel⟩
theorem ok_803 : okw (.selects yX5_set.cls yX5_set yX5_set) := ⟨List.mem_of_getElem? (i := 803) (by decide +kernel), by decide +kernel⟩
theorem okc_X5_set : okV mX5_set 5 2 := ⟨ok_804, ok_802, ok_803, ok_41, rfl, ⟨_, rfl, rfl⟩, by decide, by decide +kernel, by decide +kernel⟩
theorem ok_816 : okw (mw mX5_open) := ⟨List.mem_of_getElem? (i := 816) (by decide +kernel), by decide +kernel⟩
theorem ok_815 : okw (.instanceMethod yX5_open) := ⟨List.mem_of_getElem? (i := 815) (by decide +kernel), by decide +kernel⟩
theorem ok_27 : okw (.selects yX5_open.cls yX5_open yX5_open) := ⟨List.mem_of_getElem? (i := 27) (by decide +kernel), by decide +kernel⟩
theorem okc_X5_open : okV mX5_open 5 2 := ⟨ok_816, ok_815, ok_27, ok_41, rfl, ⟨_, rfl, rfl⟩, by decide, by decide +kernel, by decide +kernel⟩
theorem ok_824 : okw (mw mX5_close) := ⟨List.mem_of_getElem? (i := 824) (by decide +kernel), by decide +kernel⟩
theorem ok_823 : okw (.instanceMethod yX5_close) := ⟨List.mem_of_getElem? (i := 823) (by decide +kernel), by decide +kernel⟩
theorem ok_29 : okw (.selects yX5_close.cls yX5_close yX5_close) := ⟨List.mem_of_getElem? (i := 29) (by decide +kernel), by decide +kernel⟩
theorem okc_X5_close : okV mX5_close 5 0 := ⟨ok_824, ok_823, ok_29, ok_41, rfl, ⟨_, rfl, rfl⟩, by decide, by decide +kernel, by decide +kernel⟩
theorem ok_820 : okw (mw mX5_turnRound) := ⟨List.mem_of_getElem? (i := 820) (by decide +kernel), by decide +kernel⟩
theorem ok_819 : okw (.instanceMethod yX5_turnRound) := ⟨List.mem_of_getElem? (i := 819) (by decide +kernel), by decide +kernel⟩
theorem ok_28 : okw (.selects yX5_turnRound.cls yX5_turnRound yX5_turnRound) := ⟨List.mem_of_getElem? (i := 28) (by decide +kernel), by decide +kernel⟩
theorem okc_X5_turnRound : okV mX5_turnRound 5 0 := ⟨ok_820, ok_819, ok_28, ok_41, rfl, ⟨_, rfl, rfl⟩, by decide, by decide +kernel, by decide +kernel⟩
theorem ok_808 : okw (mw mX5_reverse) := ⟨List.mem_of_getElem? (i := 808) (by decide +kernel), by decide +kernel⟩
theorem ok_806 : okw (.instanceMethod yX5_reverse) := ⟨List.mem_of_getElem? (i := 806) (by decide +kernel), by decide +kernel⟩
theorem ok_807 : okw (.selects yX5_reverse.cls yX5_reverse yX5_reverse) := ⟨List.mem_of_getElem? (i := 807) (by decide +kernel), by decide +kernel⟩
theorem okc_X5_reverse : okV mX5_reverse 5 2 := ⟨ok_808, ok_806, ok_807, ok_41, rfl, ⟨_, rfl, rfl⟩, by decide, by decide +kernel, by decide +kernel⟩
theorem ok_828 : okw (mw mX5_raise) := ⟨List.mem_of_getElem? (i := 828) (by decide +kernel), by decide +kernel⟩
theorem ok_826 : okw (.instanceMethod yX5_raise) := ⟨List.mem_of_getElem? (i := 826) (by decide +kernel), by decide +kernel⟩
theorem ok_827 : okw (.selects yX5_raise.cls yX5_raise yX5_raise) := ⟨List.mem_of_getElem? (i := 827) (by decide +kernel), by decide +kernel⟩
theorem okc_X5_raise : okV mX5_raise 5 3 := ⟨ok_828, ok_826, ok_827, ok_41, rfl, ⟨_, rfl, rfl⟩, by decide, by decide +kernel, by decide +kernel⟩
theorem ok_832 : okw (mw mX5_sum) := ⟨List.mem_of_getElem? (i := 832) (by decide +kernel), by decide +kernel⟩
theorem ok_830 : okw (.instanceMethod yX5_sum) := ⟨List.mem_of_getElem? (i := 830) (by decide +kernel), by decide +kernel⟩
theorem ok_831 : okw (.selects yX5_sum.cls yX5_sum yX5_sum) := ⟨List.mem_of_getElem? (i := 831) (by decide +kernel), by decide +kernel⟩
theorem okc_X5_sum : okV mX5_sum 5 2 := ⟨ok_832, ok_830, ok_831, ok_41, rfl, ⟨_, rfl, rfl⟩, by decide, by decide +kernel, by decide +kernel⟩
theorem ok_836 : okw (mw mX5_least) := ⟨List.mem_of_getElem? (i := 836) (by decide +kernel), by decide +kernel⟩
theorem ok_834 : okw (.instanceMethod yX5_least) := ⟨List.mem_of_getElem? (i := 834) (by decide +kernel), by decide +kernel⟩
theorem ok_835 : okw (.selects yX5_least.cls yX5_least yX5_least) := ⟨List.mem_of_getElem? (i := 835) (by decide +kernel), by decide +kernel⟩
theorem okc_X5_least : okV mX5_least 5 2 := ⟨ok_836, ok_834, ok_835, ok_41, rfl, ⟨_, rfl, rfl⟩, by decide, by decide +kernel, by decide +kernel⟩
theorem ok_840 : okw (mw mX5_cut) := ⟨List.mem_of_getElem? (i := 840) (by decide +kernel), by decide +kernel⟩
theorem ok_838 : okw (.instanceMethod yX5_cut) := ⟨List.mem_of_getElem? (i := 838) (by decide +kernel), by decide +kernel⟩
theorem ok_839 : okw (.selects yX5_cut.cls yX5_cut yX5_cut) := ⟨List.mem_of_getElem? (i := 839) (by decide +kernel), by decide +kernel⟩
theorem okc_X5_cut : okV mX5_cut 5 2 := ⟨ok_840, ok_838, ok_839, ok_41, rfl, ⟨_, rfl, rfl⟩, by decide, by decide +kernel, by decide +kernel⟩
theorem ok_844 : okw (mw mX5_paste) := ⟨List.mem_of_getElem? (i := 844) (by decide +kernel), by decide +kernel⟩
theorem ok_842 : okw (.instanceMethod yX5_paste) := ⟨List.mem_of_getElem? (i := 842) (by decide +kernel), by decide +kernel⟩
theorem ok_843 : okw (.selects yX5_paste.cls yX5_paste yX5_paste) := ⟨List.mem_of_getElem? (i := 843) (by decide +kernel), by decide +kernel⟩
theorem okc_X5_paste : okV mX5_paste 5 1 := ⟨ok_844, ok_842, ok_843, ok_41, rfl, ⟨_, rfl, rfl⟩, by decide, by decide +kernel, by decide +kernel⟩
theorem ok_848 : okw (mw mX5_point) := ⟨List.mem_of_getElem? (i := 848) (by decide +kernel), by decide +kernel⟩
theorem ok_846 : okw (.instanceMethod yX5_point) := ⟨List.mem_of_getElem? (i := 846) (by decide +kernel), by decide +kernel⟩
theorem ok_847 : okw (.selects yX5_point.cls yX5_point yX5_point) := ⟨List.mem_of_getElem? (i := 847) (by decide +kernel), by decide +kernel⟩
theorem okc_X5_point : okV mX5_point 5 2 := ⟨ok_848, ok_846, ok_847, ok_41, rfl, ⟨_, rfl, rfl⟩, by decide, by decide +kernel, by decide +kernel⟩
theorem ok_859 : okw (mw mX5_isInSequence) := ⟨List.mem_of_getElem? (i := 859) (by decide +kernel), by decide +kernel⟩
theorem ok_858 : okw (.instanceMethod yX5_isInSequence) := ⟨List.mem_of_getElem? (i := 858) (by decide +kernel), by decide +kernel⟩
theorem ok_30 : okw (.selects yX5_isInSequence.cls yX5_isInSequence yX5_isInSequence) := ⟨List.mem_of_getElem? (i := 30) (by decide +kernel), by decide +kernel⟩
theorem okc_X5_isInSequence : okV mX5_isInSequence 5 1 := ⟨ok_859, ok_858, ok_30, ok_41, rfl, ⟨_, rfl, rfl⟩, by decide, by decide +kernel, by decide +kernel⟩
theorem ok_855 : okw (mw mX5_follow) := ⟨List.mem_of_getElem? (i := 855) (by decide +kernel), by decide +kernel⟩
theorem ok_853 : okw (.instanceMethod yX5_follow) := ⟨List.mem_of_getElem? (i := 853) (by decide +kernel), by decide +kernel⟩
theorem ok_854 : okw (.selects yX5_follow.cls yX5_follow yX5_follow) := ⟨List.mem_of_getElem? (i := 854) (by decide +kernel), by decide +kernel⟩
theorem okc_X5_follow : okV mX5_follow 5 1 := ⟨ok_855, ok_853, ok_854, ok_41, rfl, ⟨_, rfl, rfl⟩, by decide, by decide +kernel, by decide +kernel⟩
theorem ok_875 : okw (mw mX5_canMove) := ⟨List.mem_of_getElem? (i := 875) (by decide +kernel), by decide +kernel⟩
theorem ok_874 : okw (.instanceMethod yX5_canMove) := ⟨List.mem_of_getElem? (i := 874) (by decide +kernel), by decide +kernel⟩
theorem ok_33 : okw (.selects yX5_canMove.cls yX5_canMove yX5_canMove) := ⟨List.mem_of_getElem? (i := 33) (by decide +kernel), by decide +kernel⟩
theorem okc_X5_canMove : okV mX5_canMove 5 2 := ⟨ok_875, ok_874, ok_33, ok_41, rfl, ⟨_, rfl, rfl⟩, by decide, by decide +kernel, by decide +kernel⟩
theorem ok_871 : okw (mw mX5_move) := ⟨List.mem_of_getElem? (i := 871) (by decide +kernel), by decide +kernel⟩
theorem ok_869 : okw (.instanceMethod yX5_move) := ⟨List.mem_of_getElem? (i := 869) (by decide +kernel), by decide +kernel⟩
theorem ok_870 : okw (.selects yX5_move.cls yX5_move yX5_move) := ⟨List.mem_of_getElem? (i := 870) (by decide +kernel), by decide +kernel⟩
theorem okc_X5_move : okV mX5_move 5 2 := ⟨ok_871, ok_869, ok_870, ok_41, rfl, ⟨_, rfl, rfl⟩, by decide, by decide +kernel, by decide +kernel⟩
theorem ok_880 : okw (mw mX5_lastSteps) := ⟨List.mem_of_getElem? (i := 880) (by decide +kernel), by decide +kernel⟩
theorem ok_878 : okw (.instanceMethod yX5_lastSteps) := ⟨List.mem_of_getElem? (i := 878) (by decide +kernel), by decide +kernel⟩
theorem ok_879 : okw (.selects yX5_lastSteps.cls yX5_lastSteps yX5_lastSteps) := ⟨List.mem_of_getElem? (i := 879) (by decide +kernel), by decide +kernel⟩
theorem okc_X5_lastSteps : okV mX5_lastSteps 5 0 := ⟨ok_880, ok_878, ok_879, ok_41, rfl, ⟨_, rfl, rfl⟩, by decide, by decide +kernel, by decide +kernel⟩
theorem ok_884 : okw (mw mX5_lastRotations) := ⟨List.mem_of_getElem? (i := 884) (by decide +kernel), by decide +kernel⟩
theorem ok_882 : okw (.instanceMethod yX5_lastRotations) := ⟨List.mem_of_getElem? (i := 882) (by decide +kernel), by decide +kernel⟩
theorem ok_883 : okw (.selects yX5_lastRotations.cls yX5_lastRotations yX5_lastRotations) := ⟨List.mem_of_getElem? (i := 883) (by decide +kernel), by decide +kernel⟩
theorem okc_X5_lastRotations : okV mX5_lastRotations 5 0 := ⟨ok_884, ok_882, ok_883, ok_41, rfl, ⟨_, rfl, rfl⟩, by decide, by decide +kernel, by decide +kernel⟩
theorem ok_888 : okw (mw mX5_steps) := ⟨List.mem_of_getElem? (i := 888) (by decide +kernel), by decide +kernel⟩
theorem ok_886 : okw (.instanceMethod yX5_steps) := ⟨List.mem_of_getElem? (i := 886) (by decide +kernel), by decide +kernel⟩
theorem ok_887 : okw (.selects yX5_steps.cls yX5_steps yX5_steps) := ⟨List.mem_of_getElem? (i := 887) (by decide +kernel), by decide +kernel⟩
theorem okc_X5_steps : okV mX5_steps 5 0 := ⟨ok_888, ok_886, ok_887, ok_41, rfl, ⟨_, rfl, rfl⟩, by decide, by decide +kernel, by decide +kernel⟩
theorem ok_892 : okw (mw mX5_splays) := ⟨List.mem_of_getElem? (i := 892) (by decide +kernel), by decide +kernel⟩
theorem ok_890 : okw (.instanceMethod yX5_splays) := ⟨List.mem_of_getElem? (i := 890) (by decide +kernel), by decide +kernel⟩
theorem ok_891 : okw (.selects yX5_splays.cls yX5_splays yX5_splays) := ⟨List.mem_of_getElem? (i := 891) (by decide +kernel), by decide +kernel⟩
theorem okc_X5_splays : okV mX5_splays 5 0 := ⟨ok_892, ok_890, ok_891, ok_41, rfl, ⟨_, rfl, rfl⟩, by decide, by decide +kernel, by decide +kernel⟩
theorem ok_903 : okw (mw mX5_rank) := ⟨List.mem_of_getElem? (i := 903) (by decide +kernel), by decide +kernel⟩
theorem ok_902 : okw (.static yX5_rank) := ⟨List.mem_of_getElem? (i := 902) (by decide +kernel), by decide +kernel⟩
theorem okc_X5_rank : okS mX5_rank 1 := ⟨ok_903, ok_902, ok_41, by decide +kernel, by decide +kernel⟩
theorem ok_896 : okw (mw mX5_potential) := ⟨List.mem_of_getElem? (i := 896) (by decide +kernel), by decide +kernel⟩
theorem ok_894 : okw (.instanceMethod yX5_potential) := ⟨List.mem_of_getElem? (i := 894) (by decide +kernel), by decide +kernel⟩
theorem ok_895 : okw (.selects yX5_potential.cls yX5_potential yX5_potential) := ⟨List.mem_of_getElem? (i := 895) (by decide +kernel), by decide +kernel⟩
theorem okc_X5_potential : okV mX5_potential 5 0 := ⟨ok_896, ok_894, ok_895, ok_41, rfl, ⟨_, rfl, rfl⟩, by decide, by decide +kernel, by decide +kernel⟩
theorem ok_907 : okw (mw mX5_size) := ⟨List.mem_of_getElem? (i := 907) (by decide +kernel), by decide +kernel⟩
theorem ok_905 : okw (.instanceMethod yX5_size) := ⟨List.mem_of_getElem? (i := 905) (by decide +kernel), by decide +kernel⟩
theorem ok_906 : okw (.selects yX5_size.cls yX5_size yX5_size) := ⟨List.mem_of_getElem? (i := 906) (by decide +kernel), by decide +kernel⟩
theorem okc_X5_size : okV mX5_size 5 0 := ⟨ok_907, ok_905, ok_906, ok_41, rfl, ⟨_, rfl, rfl⟩, by decide, by decide +kernel, by decide +kernel⟩
theorem ok_911 : okw (mw mX5_clipped) := ⟨List.mem_of_getElem? (i := 911) (by decide +kernel), by decide +kernel⟩
theorem ok_909 : okw (.instanceMethod yX5_clipped) := ⟨List.mem_of_getElem? (i := 909) (by decide +kernel), by decide +kernel⟩
theorem ok_910 : okw (.selects yX5_clipped.cls yX5_clipped yX5_clipped) := ⟨List.mem_of_getElem? (i := 910) (by decide +kernel), by decide +kernel⟩
theorem okc_X5_clipped : okV mX5_clipped 5 0 := ⟨ok_911, ok_909, ok_910, ok_41, rfl, ⟨_, rfl, rfl⟩, by decide, by decide +kernel, by decide +kernel⟩
theorem ok_915 : okw (mw mX5_root) := ⟨List.mem_of_getElem? (i := 915) (by decide +kernel), by decide +kernel⟩
theorem ok_913 : okw (.instanceMethod yX5_root) := ⟨List.mem_of_getElem? (i := 913) (by decide +kernel), by decide +kernel⟩
theorem ok_914 : okw (.selects yX5_root.cls yX5_root yX5_root) := ⟨List.mem_of_getElem? (i := 914) (by decide +kernel), by decide +kernel⟩
theorem okc_X5_root : okV mX5_root 5 0 := ⟨ok_915, ok_913, ok_914, ok_41, rfl, ⟨_, rfl, rfl⟩, by decide, by decide +kernel, by decide +kernel⟩
theorem ok_919 : okw (mw mX5_height) := ⟨List.mem_of_getElem? (i := 919) (by decide +kernel), by decide +kernel⟩
theorem ok_917 : okw (.instanceMethod yX5_height) := ⟨List.mem_of_getElem? (i := 917) (by decide +kernel), by decide +kernel⟩
theorem ok_918 : okw (.selects yX5_height.cls yX5_height yX5_height) := ⟨List.mem_of_getElem? (i := 918) (by decide +kernel), by decide +kernel⟩
theorem okc_X5_height : okV mX5_height 5 0 := ⟨ok_919, ok_917, ok_918, ok_41, rfl, ⟨_, rfl, rfl⟩, by decide, by decide +kernel, by decide +kernel⟩
theorem ok_927 : okw (mw mX5_depth) := ⟨List.mem_of_getElem? (i := 927) (by decide +kernel), by decide +kernel⟩
theorem ok_925 : okw (.instanceMethod yX5_depth) := ⟨List.mem_of_getElem? (i := 925) (by decide +kernel), by decide +kernel⟩
theorem ok_926 : okw (.selects yX5_depth.cls yX5_depth yX5_depth) := ⟨List.mem_of_getElem? (i := 926) (by decide +kernel), by decide +kernel⟩
theorem okc_X5_depth : okV mX5_depth 5 1 := ⟨ok_927, ok_925, ok_926, ok_41, rfl, ⟨_, rfl, rfl⟩, by decide, by decide +kernel, by decide +kernel⟩
theorem ok_931 : okw (mw mX5_subtree) := ⟨List.mem_of_getElem? (i := 931) (by decide +kernel), by decide +kernel⟩
theorem ok_929 : okw (.instanceMethod yX5_subtree) := ⟨List.mem_of_getElem? (i := 929) (by decide +kernel), by decide +kernel⟩
theorem ok_930 : okw (.selects yX5_subtree.cls yX5_subtree yX5_subtree) := ⟨List.mem_of_getElem? (i := 930) (by decide +kernel), by decide +kernel⟩
theorem okc_X5_subtree : okV mX5_subtree 5 1 := ⟨ok_931, ok_929, ok_930, ok_41, rfl, ⟨_, rfl, rfl⟩, by decide, by decide +kernel, by decide +kernel⟩
theorem ok_935 : okw (mw mX5_child) := ⟨List.mem_of_getElem? (i := 935) (by decide +kernel), by decide +kernel⟩
theorem ok_933 : okw (.instanceMethod yX5_child) := ⟨List.mem_of_getElem? (i := 933) (by decide +kernel), by decide +kernel⟩
theorem ok_934 : okw (.selects yX5_child.cls yX5_child yX5_child) := ⟨List.mem_of_getElem? (i := 934) (by decide +kernel), by decide +kernel⟩
theorem okc_X5_child : okV mX5_child 5 2 := ⟨ok_935, ok_933, ok_934, ok_41, rfl, ⟨_, rfl, rfl⟩, by decide, by decide +kernel, by decide +kernel⟩
theorem ok_939 : okw (mw mX5_whereIs) := ⟨List.mem_of_getElem? (i := 939) (by decide +kernel), by decide +kernel⟩
theorem ok_937 : okw (.instanceMethod yX5_whereIs) := ⟨List.mem_of_getElem? (i := 937) (by decide +kernel), by decide +kernel⟩
theorem ok_938 : okw (.selects yX5_whereIs.cls yX5_whereIs yX5_whereIs) := ⟨List.mem_of_getElem? (i := 938) (by decide +kernel), by decide +kernel⟩
theorem okc_X5_whereIs : okV mX5_whereIs 5 1 := ⟨ok_939, ok_937, ok_938, ok_41, rfl, ⟨_, rfl, rfl⟩, by decide, by decide +kernel, by decide +kernel⟩
theorem ok_943 : okw (mw mX5_plain) := ⟨List.mem_of_getElem? (i := 943) (by decide +kernel), by decide +kernel⟩
theorem ok_941 : okw (.instanceMethod yX5_plain) := ⟨List.mem_of_getElem? (i := 941) (by decide +kernel), by decide +kernel⟩
theorem ok_942 : okw (.selects yX5_plain.cls yX5_plain yX5_plain) := ⟨List.mem_of_getElem? (i := 942) (by decide +kernel), by decide +kernel⟩
theorem okc_X5_plain : okV mX5_plain 5 1 := ⟨ok_943, ok_941, ok_942, ok_41, rfl, ⟨_, rfl, rfl⟩, by decide, by decide +kernel, by decide +kernel⟩
theorem ok_947 : okw (mw mX5_plainSum) := ⟨List.mem_of_getElem? (i := 947) (by decide +kernel), by decide +kernel⟩
theorem ok_945 : okw (.instanceMethod yX5_plainSum) := ⟨List.mem_of_getElem? (i := 945) (by decide +kernel), by decide +kernel⟩
theorem ok_946 : okw (.selects yX5_plainSum.cls yX5_plainSum yX5_plainSum) := ⟨List.mem_of_getElem? (i := 946) (by decide +kernel), by decide +kernel⟩
theorem okc_X5_plainSum : okV mX5_plainSum 5 2 := ⟨ok_947, ok_945, ok_946, ok_41, rfl, ⟨_, rfl, rfl⟩, by decide, by decide +kernel, by decide +kernel⟩
theorem ok_215 : okw (mw mL_insert) := ⟨List.mem_of_getElem? (i := 215) (by decide +kernel), by decide +kernel⟩
theorem ok_214 : okw (.static yL_insert) := ⟨List.mem_of_getElem? (i := 214) (by decide +kernel), by decide +kernel⟩
theorem okc_L_insert : okS mL_insert 4 := ⟨ok_215, ok_214, ok_36, by decide +kernel, by decide +kernel⟩
theorem ok_412 : okw (mw mL_remove) := ⟨List.mem_of_getElem? (i := 412) (by decide +kernel), by decide +kernel⟩
theorem ok_411 : okw (.static yL_remove) := ⟨List.mem_of_getElem? (i := 411) (by decide +kernel), by decide +kernel⟩
theorem okc_L_remove : okS mL_remove 3 := ⟨ok_412, ok_411, ok_36, by decide +kernel, by decide +kernel⟩
theorem ok_447 : okw (mw mL_get) := ⟨List.mem_of_getElem? (i := 447) (by decide +kernel), by decide +kernel⟩
theorem ok_446 : okw (.static yL_get) := ⟨List.mem_of_getElem? (i := 446) (by decide +kernel), by decide +kernel⟩
theorem okc_L_get : okS mL_get 3 := ⟨ok_447, ok_446, ok_36, by decide +kernel, by decide +kernel⟩
theorem ok_454 : okw (mw mL_set) := ⟨List.mem_of_getElem? (i := 454) (by decide +kernel), by decide +kernel⟩
theorem ok_453 : okw (.static yL_set) := ⟨List.mem_of_getElem? (i := 453) (by decide +kernel), by decide +kernel⟩
theorem okc_L_set : okS mL_set 4 := ⟨ok_454, ok_453, ok_36, by decide +kernel, by decide +kernel⟩
theorem ok_465 : okw (mw mL_reverse) := ⟨List.mem_of_getElem? (i := 465) (by decide +kernel), by decide +kernel⟩
theorem ok_464 : okw (.static yL_reverse) := ⟨List.mem_of_getElem? (i := 464) (by decide +kernel), by decide +kernel⟩
theorem okc_L_reverse : okS mL_reverse 4 := ⟨ok_465, ok_464, ok_36, by decide +kernel, by decide +kernel⟩
theorem ok_501 : okw (mw mL_raise) := ⟨List.mem_of_getElem? (i := 501) (by decide +kernel), by decide +kernel⟩
theorem ok_500 : okw (.static yL_raise) := ⟨List.mem_of_getElem? (i := 500) (by decide +kernel), by decide +kernel⟩
theorem okc_L_raise : okS mL_raise 5 := ⟨ok_501, ok_500, ok_36, by decide +kernel, by decide +kernel⟩
theorem ok_516 : okw (mw mL_sum) := ⟨List.mem_of_getElem? (i := 516) (by decide +kernel), by decide +kernel⟩
theorem ok_515 : okw (.static yL_sum) := ⟨List.mem_of_getElem? (i := 515) (by decide +kernel), by decide +kernel⟩
theorem okc_L_sum : okS mL_sum 4 := ⟨ok_516, ok_515, ok_36, by decide +kernel, by decide +kernel⟩
theorem ok_527 : okw (mw mL_least) := ⟨List.mem_of_getElem? (i := 527) (by decide +kernel), by decide +kernel⟩
theorem ok_526 : okw (.static yL_least) := ⟨List.mem_of_getElem? (i := 526) (by decide +kernel), by decide +kernel⟩
theorem okc_L_least : okS mL_least 4 := ⟨ok_527, ok_526, ok_36, by decide +kernel, by decide +kernel⟩
theorem ok_542 : okw (mw mL_cut) := ⟨List.mem_of_getElem? (i := 542) (by decide +kernel), by decide +kernel⟩
theorem ok_541 : okw (.static yL_cut) := ⟨List.mem_of_getElem? (i := 541) (by decide +kernel), by decide +kernel⟩
theorem okc_L_cut : okS mL_cut 4 := ⟨ok_542, ok_541, ok_36, by decide +kernel, by decide +kernel⟩
theorem ok_554 : okw (mw mL_paste) := ⟨List.mem_of_getElem? (i := 554) (by decide +kernel), by decide +kernel⟩
theorem ok_553 : okw (.static yL_paste) := ⟨List.mem_of_getElem? (i := 553) (by decide +kernel), by decide +kernel⟩
theorem okc_L_paste : okS mL_paste 3 := ⟨ok_554, ok_553, ok_36, by decide +kernel, by decide +kernel⟩
theorem ok_565 : okw (mw mL_point) := ⟨List.mem_of_getElem? (i := 565) (by decide +kernel), by decide +kernel⟩
theorem ok_564 : okw (.static yL_point) := ⟨List.mem_of_getElem? (i := 564) (by decide +kernel), by decide +kernel⟩
theorem okc_L_point : okS mL_point 4 := ⟨ok_565, ok_564, ok_36, by decide +kernel, by decide +kernel⟩
theorem ok_577 : okw (mw mL_follow) := ⟨List.mem_of_getElem? (i := 577) (by decide +kernel), by decide +kernel⟩
theorem ok_576 : okw (.static yL_follow) := ⟨List.mem_of_getElem? (i := 576) (by decide +kernel), by decide +kernel⟩
theorem okc_L_follow : okS mL_follow 3 := ⟨ok_577, ok_576, ok_36, by decide +kernel, by decide +kernel⟩
theorem ok_592 : okw (mw mL_move) := ⟨List.mem_of_getElem? (i := 592) (by decide +kernel), by decide +kernel⟩
theorem ok_591 : okw (.static yL_move) := ⟨List.mem_of_getElem? (i := 591) (by decide +kernel), by decide +kernel⟩
theorem okc_L_move : okS mL_move 4 := ⟨ok_592, ok_591, ok_36, by decide +kernel, by decide +kernel⟩
theorem ok_601 : okw (mw mL_depth) := ⟨List.mem_of_getElem? (i := 601) (by decide +kernel), by decide +kernel⟩
theorem ok_600 : okw (.static yL_depth) := ⟨List.mem_of_getElem? (i := 600) (by decide +kernel), by decide +kernel⟩
theorem okc_L_depth : okS mL_depth 3 := ⟨ok_601, ok_600, ok_36, by decide +kernel, by decide +kernel⟩
theorem ok_609 : okw (mw mL_subtree) := ⟨List.mem_of_getElem? (i := 609) (by decide +kernel), by decide +kernel⟩
theorem ok_608 : okw (.static yL_subtree) := ⟨List.mem_of_getElem? (i := 608) (by decide +kernel), by decide +kernel⟩
theorem okc_L_subtree : okS mL_subtree 3 := ⟨ok_609, ok_608, ok_36, by decide +kernel, by decide +kernel⟩
theorem ok_616 : okw (mw mL_child) := ⟨List.mem_of_getElem? (i := 616) (by decide +kernel), by decide +kernel⟩
theorem ok_615 : okw (.static yL_child) := ⟨List.mem_of_getElem? (i := 615) (by decide +kernel), by decide +kernel⟩
theorem okc_L_child : okS mL_child 4 := ⟨ok_616, ok_615, ok_36, by decide +kernel, by decide +kernel⟩
theorem ok_623 : okw (mw mL_whereIs) := ⟨List.mem_of_getElem? (i := 623) (by decide +kernel), by decide +kernel⟩
theorem ok_622 : okw (.static yL_whereIs) := ⟨List.mem_of_getElem? (i := 622) (by decide +kernel), by decide +kernel⟩
theorem okc_L_whereIs : okS mL_whereIs 3 := ⟨ok_623, ok_622, ok_36, by decide +kernel, by decide +kernel⟩
theorem ok_630 : okw (mw mL_plain) := ⟨List.mem_of_getElem? (i := 630) (by decide +kernel), by decide +kernel⟩
theorem ok_629 : okw (.static yL_plain) := ⟨List.mem_of_getElem? (i := 629) (by decide +kernel), by decide +kernel⟩
theorem okc_L_plain : okS mL_plain 3 := ⟨ok_630, ok_629, ok_36, by decide +kernel, by decide +kernel⟩
theorem ok_641 : okw (mw mL_plainSum) := ⟨List.mem_of_getElem? (i := 641) (by decide +kernel), by decide +kernel⟩
theorem ok_640 : okw (.static yL_plainSum) := ⟨List.mem_of_getElem? (i := 640) (by decide +kernel), by decide +kernel⟩
theorem okc_L_plainSum : okS mL_plainSum 4 := ⟨ok_641, ok_640, ok_36, by decide +kernel, by decide +kernel⟩
theorem ok_53 : okw (.methodLink RL 76 yX4_init) := ⟨List.mem_of_getElem? (i := 53) (by decide +kernel), by decide +kernel⟩
theorem ok_135 : okw (.methodLink RL 128 yX4_lastSteps) := ⟨List.mem_of_getElem? (i := 135) (by decide +kernel), by decide +kernel⟩
theorem ok_139 : okw (.methodLink RL 132 yX4_lastRotations) := ⟨List.mem_of_getElem? (i := 139) (by decide +kernel), by decide +kernel⟩
theorem ok_143 : okw (.methodLink RL 136 yX4_steps) := ⟨List.mem_of_getElem? (i := 143) (by decide +kernel), by decide +kernel⟩
theorem ok_147 : okw (.methodLink RL 140 yX4_splays) := ⟨List.mem_of_getElem? (i := 147) (by decide +kernel), by decide +kernel⟩
theorem ok_151 : okw (.methodLink RL 144 yX4_potential) := ⟨List.mem_of_getElem? (i := 151) (by decide +kernel), by decide +kernel⟩
theorem ok_155 : okw (.methodLink RX4 192 yX3_sumOfRanks) := ⟨List.mem_of_getElem? (i := 155) (by decide +kernel), by decide +kernel⟩
theorem ok_159 : okw (.methodLink RX3 29 yX3_count) := ⟨List.mem_of_getElem? (i := 159) (by decide +kernel), by decide +kernel⟩
theorem ok_163 : okw (.methodLink RX3 13 yX0_countOf) := ⟨List.mem_of_getElem? (i := 163) (by decide +kernel), by decide +kernel⟩
theorem ok_166 : okw (.methodLink RX3 51 yX3_rankOf) := ⟨List.mem_of_getElem? (i := 166) (by decide +kernel), by decide +kernel⟩
theorem ok_169 : okw (.methodLink RX3 36 yX0_nextOfWalk) := ⟨List.mem_of_getElem? (i := 169) (by decide +kernel), by decide +kernel⟩
theorem ok_173 : okw (.methodLink RX0 37 yX0_isLeftChild) := ⟨List.mem_of_getElem? (i := 173) (by decide +kernel), by decide +kernel⟩
theorem ok_177 : okw (.methodLink RL 148 yX4_size) := ⟨List.mem_of_getElem? (i := 177) (by decide +kernel), by decide +kernel⟩
theorem ok_181 : okw (.methodLink RX4 55 yX3_count) := ⟨List.mem_of_getElem? (i := 181) (by decide +kernel), by decide +kernel⟩
theorem ok_182 : okw (.methodLink RL 152 yX4_clipped) := ⟨List.mem_of_getElem? (i := 182) (by decide +kernel), by decide +kernel⟩
theorem ok_186 : okw (.methodLink RL 156 yX4_root) := ⟨List.mem_of_getElem? (i := 186) (by decide +kernel), by decide +kernel⟩
theorem ok_190 : okw (.methodLink RX4 195 yX4_positionOrNone) := ⟨List.mem_of_getElem? (i := 190) (by decide +kernel), by decide +kernel⟩
theorem ok_193 : okw (.methodLink RX4 173 yX0_position) := ⟨List.mem_of_getElem? (i := 193) (by decide +kernel), by decide +kernel⟩
theorem ok_197 : okw (.methodLink RX0 23 yX0_countOf) := ⟨List.mem_of_getElem? (i := 197) (by decide +kernel), by decide +kernel⟩
theorem ok_198 : okw (.methodLink RL 160 yX4_height) := ⟨List.mem_of_getElem? (i := 198) (by decide +kernel), by decide +kernel⟩
theorem ok_202 : okw (.methodLink RX4 199 yX3_levels) := ⟨List.mem_of_getElem? (i := 202) (by decide +kernel), by decide +kernel⟩
theorem ok_206 : okw (.methodLink RX3 55 yX0_nodesAbove) := ⟨List.mem_of_getElem? (i := 206) (by decide +kernel), by decide +kernel⟩
theorem ok_213 : okw (.methodLink RL 80 yL_insert) := ⟨List.mem_of_getElem? (i := 213) (by decide +kernel), by decide +kernel⟩
theorem ok_219 : okw (.methodLink RL 7 yX4_insert) := ⟨List.mem_of_getElem? (i := 219) (by decide +kernel), by decide +kernel⟩
theorem ok_223 : okw (.methodLink RX4 48 yX4_checkGap) := ⟨List.mem_of_getElem? (i := 223) (by decide +kernel), by decide +kernel⟩
theorem ok_295 : okw (.methodLink RX4 52 yX4_checkAmount) := ⟨List.mem_of_getElem? (i := 295) (by decide +kernel), by decide +kernel⟩
theorem ok_330 : okw (.methodLink RX4 66 yX2_beginCall) := ⟨List.mem_of_getElem? (i := 330) (by decide +kernel), by decide +kernel⟩
theorem ok_334 : okw (.methodLink RX4 69 yX2_split) := ⟨List.mem_of_getElem? (i := 334) (by decide +kernel), by decide +kernel⟩
theorem ok_338 : okw (.methodLink RX2 55 yX3_find) := ⟨List.mem_of_getElem? (i := 338) (by decide +kernel), by decide +kernel⟩
theorem ok_342 : okw (.methodLink RX2 59 yX3_takeAll) := ⟨List.mem_of_getElem? (i := 342) (by decide +kernel), by decide +kernel⟩
theorem ok_346 : okw (.methodLink RX2 63 yX2_splay) := ⟨List.mem_of_getElem? (i := 346) (by decide +kernel), by decide +kernel⟩
theorem ok_350 : okw (.methodLink RX2 27 yX0_isLeftChild) := ⟨List.mem_of_getElem? (i := 350) (by decide +kernel), by decide +kernel⟩
theorem ok_351 : okw (.methodLink RX2 31 yX2_rotate) := ⟨List.mem_of_getElem? (i := 351) (by decide +kernel), by decide +kernel⟩
theorem ok_355 : okw (.methodLink RX2 46 yX0_takeLeft) := ⟨List.mem_of_getElem? (i := 355) (by decide +kernel), by decide +kernel⟩
theorem ok_359 : okw (.methodLink RX2 49 yX0_takeRight) := ⟨List.mem_of_getElem? (i := 359) (by decide +kernel), by decide +kernel⟩
theorem ok_363 : okw (.methodLink RX2 67 yX0_dropLeft) := ⟨List.mem_of_getElem? (i := 363) (by decide +kernel), by decide +kernel⟩
theorem ok_367 : okw (.methodLink RX0 30 yX0_takeLeft) := ⟨List.mem_of_getElem? (i := 367) (by decide +kernel), by decide +kernel⟩
theorem ok_369 : okw (.methodLink RX4 73 yX0_init) := ⟨List.mem_of_getElem? (i := 369) (by decide +kernel), by decide +kernel⟩
theorem ok_400 : okw (.methodLink RX4 75 yX3_takeAll) := ⟨List.mem_of_getElem? (i := 400) (by decide +kernel), by decide +kernel⟩
theorem ok_401 : okw (.methodLink RX4 79 yX0_takeLeft) := ⟨List.mem_of_getElem? (i := 401) (by decide +kernel), by decide +kernel⟩
theorem ok_402 : okw (.methodLink RX4 83 yX0_takeRight) := ⟨List.mem_of_getElem? (i := 402) (by decide +kernel), by decide +kernel⟩
theorem ok_403 : okw (.methodLink RX4 90 yX1_open) := ⟨List.mem_of_getElem? (i := 403) (by decide +kernel), by decide +kernel⟩
theorem ok_410 : okw (.methodLink RL 90 yL_remove) := ⟨List.mem_of_getElem? (i := 410) (by decide +kernel), by decide +kernel⟩
theorem ok_413 : okw (.methodLink RL 19 yX4_remove) := ⟨List.mem_of_getElem? (i := 413) (by decide +kernel), by decide +kernel⟩
theorem ok_417 : okw (.methodLink RX4 94 yX4_nodeAt) := ⟨List.mem_of_getElem? (i := 417) (by decide +kernel), by decide +kernel⟩
theorem ok_421 : okw (.methodLink RX4 220 yX3_find) := ⟨List.mem_of_getElem? (i := 421) (by decide +kernel), by decide +kernel⟩
theorem ok_422 : okw (.methodLink RX4 98 yX2_splay) := ⟨List.mem_of_getElem? (i := 422) (by decide +kernel), by decide +kernel⟩
theorem ok_423 : okw (.methodLink RX4 102 yX0_dropLeft) := ⟨List.mem_of_getElem? (i := 423) (by decide +kernel), by decide +kernel⟩
theorem ok_424 : okw (.methodLink RX4 105 yX0_dropRight) := ⟨List.mem_of_getElem? (i := 424) (by decide +kernel), by decide +kernel⟩
theorem ok_428 : okw (.methodLink RX0 34 yX0_takeRight) := ⟨List.mem_of_getElem? (i := 428) (by decide +kernel), by decide +kernel⟩
theorem ok_429 : okw (.methodLink RX4 108 yX2_join) := ⟨List.mem_of_getElem? (i := 429) (by decide +kernel), by decide +kernel⟩
theorem ok_433 : okw (.methodLink RX2 70 yX3_last) := ⟨List.mem_of_getElem? (i := 433) (by decide +kernel), by decide +kernel⟩
theorem ok_437 : okw (.methodLink RX4 112 yX4_liftFingersFrom) := ⟨List.mem_of_getElem? (i := 437) (by decide +kernel), by decide +kernel⟩
theorem ok_441 : okw (.methodLink RX4 115 yX1_close) := ⟨List.mem_of_getElem? (i := 441) (by decide +kernel), by decide +kernel⟩
theorem ok_445 : okw (.methodLink RL 94 yL_get) := ⟨List.mem_of_getElem? (i := 445) (by decide +kernel), by decide +kernel⟩
theorem ok_448 : okw (.methodLink RL 23 yX4_get) := ⟨List.mem_of_getElem? (i := 448) (by decide +kernel), by decide +kernel⟩
theorem ok_452 : okw (.methodLink RL 97 yL_set) := ⟨List.mem_of_getElem? (i := 452) (by decide +kernel), by decide +kernel⟩
theorem ok_455 : okw (.methodLink RL 26 yX4_set) := ⟨List.mem_of_getElem? (i := 455) (by decide +kernel), by decide +kernel⟩
theorem ok_459 : okw (.methodLink RX4 122 yX1_replace) := ⟨List.mem_of_getElem? (i := 459) (by decide +kernel), by decide +kernel⟩
theorem ok_463 : okw (.methodLink RL 100 yL_reverse) := ⟨List.mem_of_getElem? (i := 463) (by decide +kernel), by decide +kernel⟩
theorem ok_466 : okw (.methodLink RL 29 yX4_reverse) := ⟨List.mem_of_getElem? (i := 466) (by decide +kernel), by decide +kernel⟩
theorem ok_470 : okw (.methodLink RX4 125 yX4_checkRange) := ⟨List.mem_of_getElem? (i := 470) (by decide +kernel), by decide +kernel⟩
theorem ok_475 : okw (.methodLink RX4 128 yX4_takeRange) := ⟨List.mem_of_getElem? (i := 475) (by decide +kernel), by decide +kernel⟩
theorem ok_479 : okw (.methodLink RX4 131 yX3_turnRound) := ⟨List.mem_of_getElem? (i := 479) (by decide +kernel), by decide +kernel⟩
theorem ok_483 : okw (.methodLink RX3 33 yX0_swapSides) := ⟨List.mem_of_getElem? (i := 483) (by decide +kernel), by decide +kernel⟩
theorem ok_487 : okw (.methodLink RX4 134 yX4_putRangeBack) := ⟨List.mem_of_getElem? (i := 487) (by decide +kernel), by decide +kernel⟩
theorem ok_491 : okw (.methodLink RX4 137 yX1_turnRound) := ⟨List.mem_of_getElem? (i := 491) (by decide +kernel), by decide +kernel⟩
theorem ok_495 : okw (.methodLink RX1 25 yX1_hasRange) := ⟨List.mem_of_getElem? (i := 495) (by decide +kernel), by decide +kernel⟩
theorem ok_499 : okw (.methodLink RL 103 yL_raise) := ⟨List.mem_of_getElem? (i := 499) (by decide +kernel), by decide +kernel⟩
theorem ok_502 : okw (.methodLink RL 32 yX4_raise) := ⟨List.mem_of_getElem? (i := 502) (by decide +kernel), by decide +kernel⟩
theorem ok_506 : okw (.methodLink RX4 139 yX3_addToAll) := ⟨List.mem_of_getElem? (i := 506) (by decide +kernel), by decide +kernel⟩
theorem ok_510 : okw (.methodLink RX4 142 yX1_addToAll) := ⟨List.mem_of_getElem? (i := 510) (by decide +kernel), by decide +kernel⟩
theorem ok_514 : okw (.methodLink RL 107 yL_sum) := ⟨List.mem_of_getElem? (i := 514) (by decide +kernel), by decide +kernel⟩
theorem ok_517 : okw (.methodLink RL 36 yX4_sum) := ⟨List.mem_of_getElem? (i := 517) (by decide +kernel), by decide +kernel⟩
theorem ok_521 : okw (.methodLink RX4 145 yX3_total) := ⟨List.mem_of_getElem? (i := 521) (by decide +kernel), by decide +kernel⟩
theorem ok_525 : okw (.methodLink RL 110 yL_least) := ⟨List.mem_of_getElem? (i := 525) (by decide +kernel), by decide +kernel⟩
theorem ok_528 : okw (.methodLink RL 39 yX4_least) := ⟨List.mem_of_getElem? (i := 528) (by decide +kernel), by decide +kernel⟩
theorem ok_533 : okw (.methodLink RX4 153 yX3_lowest) := ⟨List.mem_of_getElem? (i := 533) (by decide +kernel), by decide +kernel⟩
theorem ok_540 : okw (.methodLink RL 113 yL_cut) := ⟨List.mem_of_getElem? (i := 540) (by decide +kernel), by decide +kernel⟩
theorem ok_543 : okw (.methodLink RL 42 yX4_cut) := ⟨List.mem_of_getElem? (i := 543) (by decide +kernel), by decide +kernel⟩
theorem ok_548 : okw (.methodLink RX4 158 yX1_moveOut) := ⟨List.mem_of_getElem? (i := 548) (by decide +kernel), by decide +kernel⟩
theorem ok_552 : okw (.methodLink RL 116 yL_paste) := ⟨List.mem_of_getElem? (i := 552) (by decide +kernel), by decide +kernel⟩
theorem ok_555 : okw (.methodLink RL 45 yX4_paste) := ⟨List.mem_of_getElem? (i := 555) (by decide +kernel), by decide +kernel⟩
theorem ok_559 : okw (.methodLink RX4 162 yX1_moveIn) := ⟨List.mem_of_getElem? (i := 559) (by decide +kernel), by decide +kernel⟩
theorem ok_563 : okw (.methodLink RL 119 yL_point) := ⟨List.mem_of_getElem? (i := 563) (by decide +kernel), by decide +kernel⟩
theorem ok_566 : okw (.methodLink RL 48 yX4_point) := ⟨List.mem_of_getElem? (i := 566) (by decide +kernel), by decide +kernel⟩
theorem ok_570 : okw (.methodLink RX4 166 yX4_checkFinger) := ⟨List.mem_of_getElem? (i := 570) (by decide +kernel), by decide +kernel⟩
theorem ok_575 : okw (.methodLink RL 122 yL_follow) := ⟨List.mem_of_getElem? (i := 575) (by decide +kernel), by decide +kernel⟩
theorem ok_578 : okw (.methodLink RL 51 yX4_follow) := ⟨List.mem_of_getElem? (i := 578) (by decide +kernel), by decide +kernel⟩
theorem ok_582 : okw (.methodLink RX4 169 yX3_holds) := ⟨List.mem_of_getElem? (i := 582) (by decide +kernel), by decide +kernel⟩
theorem ok_586 : okw (.methodLink RX3 25 yX0_top) := ⟨List.mem_of_getElem? (i := 586) (by decide +kernel), by decide +kernel⟩
theorem ok_590 : okw (.methodLink RL 125 yL_move) := ⟨List.mem_of_getElem? (i := 590) (by decide +kernel), by decide +kernel⟩
theorem ok_593 : okw (.methodLink RL 54 yX4_move) := ⟨List.mem_of_getElem? (i := 593) (by decide +kernel), by decide +kernel⟩
theorem ok_599 : okw (.methodLink RL 164 yL_depth) := ⟨List.mem_of_getElem? (i := 599) (by decide +kernel), by decide +kernel⟩
theorem ok_602 : okw (.methodLink RL 57 yX4_depth) := ⟨List.mem_of_getElem? (i := 602) (by decide +kernel), by decide +kernel⟩
theorem ok_606 : okw (.methodLink RX4 202 yX0_nodesAbove) := ⟨List.mem_of_getElem? (i := 606) (by decide +kernel), by decide +kernel⟩
theorem ok_607 : okw (.methodLink RL 167 yL_subtree) := ⟨List.mem_of_getElem? (i := 607) (by decide +kernel), by decide +kernel⟩
theorem ok_610 : okw (.methodLink RL 60 yX4_subtree) := ⟨List.mem_of_getElem? (i := 610) (by decide +kernel), by decide +kernel⟩
theorem ok_614 : okw (.methodLink RL 170 yL_child) := ⟨List.mem_of_getElem? (i := 614) (by decide +kernel), by decide +kernel⟩
theorem ok_617 : okw (.methodLink RL 63 yX4_child) := ⟨List.mem_of_getElem? (i := 617) (by decide +kernel), by decide +kernel⟩
theorem ok_621 : okw (.methodLink RL 174 yL_whereIs) := ⟨List.mem_of_getElem? (i := 621) (by decide +kernel), by decide +kernel⟩
theorem ok_624 : okw (.methodLink RL 67 yX4_whereIs) := ⟨List.mem_of_getElem? (i := 624) (by decide +kernel), by decide +kernel⟩
theorem ok_628 : okw (.methodLink RL 177 yL_plain) := ⟨List.mem_of_getElem? (i := 628) (by decide +kernel), by decide +kernel⟩
theorem ok_631 : okw (.methodLink RL 70 yX4_plain) := ⟨List.mem_of_getElem? (i := 631) (by decide +kernel), by decide +kernel⟩
theorem ok_635 : okw (.methodLink RX4 213 yX1_valueAt) := ⟨List.mem_of_getElem? (i := 635) (by decide +kernel), by decide +kernel⟩
theorem ok_639 : okw (.methodLink RL 180 yL_plainSum) := ⟨List.mem_of_getElem? (i := 639) (by decide +kernel), by decide +kernel⟩
theorem ok_642 : okw (.methodLink RL 73 yX4_plainSum) := ⟨List.mem_of_getElem? (i := 642) (by decide +kernel), by decide +kernel⟩
theorem ok_646 : okw (.methodLink RX4 217 yX1_total) := ⟨List.mem_of_getElem? (i := 646) (by decide +kernel), by decide +kernel⟩
theorem ok_652 : okw (.methodLink RL 79 yX5_init) := ⟨List.mem_of_getElem? (i := 652) (by decide +kernel), by decide +kernel⟩
theorem ok_718 : okw (.methodLink RL 86 yX5_thrown) := ⟨List.mem_of_getElem? (i := 718) (by decide +kernel), by decide +kernel⟩
theorem ok_722 : okw (.methodLink RL 85 yX5_insert) := ⟨List.mem_of_getElem? (i := 722) (by decide +kernel), by decide +kernel⟩
theorem ok_726 : okw (.methodLink RX5 97 yX5_count) := ⟨List.mem_of_getElem? (i := 726) (by decide +kernel), by decide +kernel⟩
theorem ok_730 : okw (.methodLink RX5 78 yX5_sizeOf) := ⟨List.mem_of_getElem? (i := 730) (by decide +kernel), by decide +kernel⟩
theorem ok_734 : okw (.methodLink RX5 52 yX5_layOrder) := ⟨List.mem_of_getElem? (i := 734) (by decide +kernel), by decide +kernel⟩
theorem ok_738 : okw (.methodLink RX5 42 yX5_leftmost) := ⟨List.mem_of_getElem? (i := 738) (by decide +kernel), by decide +kernel⟩
theorem ok_742 : okw (.methodLink RX5 49 yX5_following) := ⟨List.mem_of_getElem? (i := 742) (by decide +kernel), by decide +kernel⟩
theorem ok_746 : okw (.methodLink RX5 101 yX5_isValue) := ⟨List.mem_of_getElem? (i := 746) (by decide +kernel), by decide +kernel⟩
theorem ok_749 : okw (.methodLink RX5 105 yX5_goesWell) := ⟨List.mem_of_getElem? (i := 749) (by decide +kernel), by decide +kernel⟩
theorem ok_753 : okw (.methodLink RX5 108 yX5_begins) := ⟨List.mem_of_getElem? (i := 753) (by decide +kernel), by decide +kernel⟩
theorem ok_757 : okw (.methodLink RX5 111 yX5_split) := ⟨List.mem_of_getElem? (i := 757) (by decide +kernel), by decide +kernel⟩
theorem ok_761 : okw (.methodLink RX5 87 yX5_nodeAt) := ⟨List.mem_of_getElem? (i := 761) (by decide +kernel), by decide +kernel⟩
theorem ok_765 : okw (.methodLink RX5 91 yX5_splay) := ⟨List.mem_of_getElem? (i := 765) (by decide +kernel), by decide +kernel⟩
theorem ok_769 : okw (.methodLink RX5 69 yX5_rotate) := ⟨List.mem_of_getElem? (i := 769) (by decide +kernel), by decide +kernel⟩
theorem ok_773 : okw (.methodLink RX5 59 yX5_hang) := ⟨List.mem_of_getElem? (i := 773) (by decide +kernel), by decide +kernel⟩
theorem ok_777 : okw (.methodLink RL 93 yX5_remove) := ⟨List.mem_of_getElem? (i := 777) (by decide +kernel), by decide +kernel⟩
theorem ok_781 : okw (.methodLink RX5 115 yX5_isPlace) := ⟨List.mem_of_getElem? (i := 781) (by decide +kernel), by decide +kernel⟩
theorem ok_785 : okw (.methodLink RX5 118 yX5_join) := ⟨List.mem_of_getElem? (i := 785) (by decide +kernel), by decide +kernel⟩
theorem ok_789 : okw (.methodLink RX5 94 yX5_rightmost) := ⟨List.mem_of_getElem? (i := 789) (by decide +kernel), by decide +kernel⟩
theorem ok_793 : okw (.methodLink RL 96 yX5_get) := ⟨List.mem_of_getElem? (i := 793) (by decide +kernel), by decide +kernel⟩
theorem ok_797 : okw (.methodLink RX5 121 yX5_raiseUp) := ⟨List.mem_of_getElem? (i := 797) (by decide +kernel), by decide +kernel⟩
theorem ok_801 : okw (.methodLink RL 99 yX5_set) := ⟨List.mem_of_getElem? (i := 801) (by decide +kernel), by decide +kernel⟩
theorem ok_805 : okw (.methodLink RL 102 yX5_reverse) := ⟨List.mem_of_getElem? (i := 805) (by decide +kernel), by decide +kernel⟩
theorem ok_809 : okw (.methodLink RX5 133 yX5_isRange) := ⟨List.mem_of_getElem? (i := 809) (by decide +kernel), by decide +kernel⟩
theorem ok_813 : okw (.methodLink RX5 137 yX5_open) := ⟨List.mem_of_getElem? (i := 813) (by decide +kernel), by decide +kernel⟩
theorem ok_817 : okw (.methodLink RX5 140 yX5_turnRound) := ⟨List.mem_of_getElem? (i := 817) (by decide +kernel), by decide +kernel⟩
theorem ok_821 : okw (.methodLink RX5 143 yX5_close) := ⟨List.mem_of_getElem? (i := 821) (by decide +kernel), by decide +kernel⟩
theorem ok_825 : okw (.methodLink RL 106 yX5_raise) := ⟨List.mem_of_getElem? (i := 825) (by decide +kernel), by decide +kernel⟩
theorem ok_829 : okw (.methodLink RL 109 yX5_sum) := ⟨List.mem_of_getElem? (i := 829) (by decide +kernel), by decide +kernel⟩
theorem ok_833 : okw (.methodLink RL 112 yX5_least) := ⟨List.mem_of_getElem? (i := 833) (by decide +kernel), by decide +kernel⟩
theorem ok_837 : okw (.methodLink RL 115 yX5_cut) := ⟨List.mem_of_getElem? (i := 837) (by decide +kernel), by decide +kernel⟩
theorem ok_841 : okw (.methodLink RL 118 yX5_paste) := ⟨List.mem_of_getElem? (i := 841) (by decide +kernel), by decide +kernel⟩
theorem ok_845 : okw (.methodLink RL 121 yX5_point) := ⟨List.mem_of_getElem? (i := 845) (by decide +kernel), by decide +kernel⟩
theorem ok_849 : okw (.methodLink RX5 146 yX5_isFinger) := ⟨List.mem_of_getElem? (i := 849) (by decide +kernel), by decide +kernel⟩
theorem ok_852 : okw (.methodLink RL 124 yX5_follow) := ⟨List.mem_of_getElem? (i := 852) (by decide +kernel), by decide +kernel⟩
theorem ok_856 : okw (.methodLink RX5 149 yX5_isInSequence) := ⟨List.mem_of_getElem? (i := 856) (by decide +kernel), by decide +kernel⟩
theorem ok_860 : okw (.methodLink RX5 56 yX5_rootOf) := ⟨List.mem_of_getElem? (i := 860) (by decide +kernel), by decide +kernel⟩
theorem ok_864 : okw (.methodLink RX5 152 yX5_placeOf) := ⟨List.mem_of_getElem? (i := 864) (by decide +kernel), by decide +kernel⟩
theorem ok_868 : okw (.methodLink RL 127 yX5_move) := ⟨List.mem_of_getElem? (i := 868) (by decide +kernel), by decide +kernel⟩
theorem ok_872 : okw (.methodLink RX5 157 yX5_canMove) := ⟨List.mem_of_getElem? (i := 872) (by decide +kernel), by decide +kernel⟩
theorem ok_877 : okw (.methodLink RL 131 yX5_lastSteps) := ⟨List.mem_of_getElem? (i := 877) (by decide +kernel), by decide +kernel⟩
theorem ok_881 : okw (.methodLink RL 135 yX5_lastRotations) := ⟨List.mem_of_getElem? (i := 881) (by decide +kernel), by decide +kernel⟩
theorem ok_885 : okw (.methodLink RL 139 yX5_steps) := ⟨List.mem_of_getElem? (i := 885) (by decide +kernel), by decide +kernel⟩
theorem ok_889 : okw (.methodLink RL 143 yX5_splays) := ⟨List.mem_of_getElem? (i := 889) (by decide +kernel), by decide +kernel⟩
theorem ok_893 : okw (.methodLink RL 147 yX5_potential) := ⟨List.mem_of_getElem? (i := 893) (by decide +kernel), by decide +kernel⟩
theorem ok_897 : okw (.methodLink RX5 160 yX5_below) := ⟨List.mem_of_getElem? (i := 897) (by decide +kernel), by decide +kernel⟩
theorem ok_901 : okw (.methodLink RX5 163 yX5_rank) := ⟨List.mem_of_getElem? (i := 901) (by decide +kernel), by decide +kernel⟩
theorem ok_904 : okw (.methodLink RL 151 yX5_size) := ⟨List.mem_of_getElem? (i := 904) (by decide +kernel), by decide +kernel⟩
theorem ok_908 : okw (.methodLink RL 155 yX5_clipped) := ⟨List.mem_of_getElem? (i := 908) (by decide +kernel), by decide +kernel⟩
theorem ok_912 : okw (.methodLink RL 159 yX5_root) := ⟨List.mem_of_getElem? (i := 912) (by decide +kernel), by decide +kernel⟩
theorem ok_916 : okw (.methodLink RL 163 yX5_height) := ⟨List.mem_of_getElem? (i := 916) (by decide +kernel), by decide +kernel⟩
theorem ok_920 : okw (.methodLink RX5 166 yX5_depthOf) := ⟨List.mem_of_getElem? (i := 920) (by decide +kernel), by decide +kernel⟩
theorem ok_924 : okw (.methodLink RL 166 yX5_depth) := ⟨List.mem_of_getElem? (i := 924) (by decide +kernel), by decide +kernel⟩
theorem ok_928 : okw (.methodLink RL 169 yX5_subtree) := ⟨List.mem_of_getElem? (i := 928) (by decide +kernel), by decide +kernel⟩
theorem ok_932 : okw (.methodLink RL 173 yX5_child) := ⟨List.mem_of_getElem? (i := 932) (by decide +kernel), by decide +kernel⟩
theorem ok_936 : okw (.methodLink RL 176 yX5_whereIs) := ⟨List.mem_of_getElem? (i := 936) (by decide +kernel), by decide +kernel⟩
theorem ok_940 : okw (.methodLink RL 179 yX5_plain) := ⟨List.mem_of_getElem? (i := 940) (by decide +kernel), by decide +kernel⟩
theorem ok_944 : okw (.methodLink RL 182 yX5_plainSum) := ⟨List.mem_of_getElem? (i := 944) (by decide +kernel), by decide +kernel⟩
