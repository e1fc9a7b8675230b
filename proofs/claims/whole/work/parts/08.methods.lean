/-! THE METHODS as the plain machine has them, and their links, fields, words (printed by wip/whole/gen/tab.py) -/
theorem tb_all {w : Cond} (h : w ∈ tables_1) : w ∈ lw_tbl := List.mem_append_right _ h
theorem tb_1 : ∀ w ∈ tables_1_1, w ∈ lw_tbl := fun w h => tb_all (List.mem_append_left _ h)
theorem tb_2 : ∀ w ∈ tables_1_2, w ∈ lw_tbl := fun w h => tb_all (List.mem_append_right _ (List.mem_append_left _ h))
theorem tb_3 : ∀ w ∈ tables_1_3, w ∈ lw_tbl := fun w h => tb_all (List.mem_append_right _ (List.mem_append_right _ (List.mem_append_left _ h)))
theorem tb_4 : ∀ w ∈ tables_1_4, w ∈ lw_tbl := fun w h => tb_all (List.mem_append_right _ (List.mem_append_right _ (List.mem_append_right _ (List.mem_append_left _ h))))
theorem tb_5 : ∀ w ∈ tables_1_5, w ∈ lw_tbl := fun w h => tb_all (List.mem_append_right _ (List.mem_append_right _ (List.mem_append_right _ (List.mem_append_right _ (List.mem_append_left _ h)))))
theorem tb_6 : ∀ w ∈ tables_1_6, w ∈ lw_tbl := fun w h => tb_all (List.mem_append_right _ (List.mem_append_right _ (List.mem_append_right _ (List.mem_append_right _ (List.mem_append_right _ (List.mem_append_left _ h))))))
theorem tb_7 : ∀ w ∈ tables_1_7, w ∈ lw_tbl := fun w h => tb_all (List.mem_append_right _ (List.mem_append_right _ (List.mem_append_right _ (List.mem_append_right _ (List.mem_append_right _ (List.mem_append_right _ (List.mem_append_left _ h)))))))
theorem tb_8 : ∀ w ∈ tables_1_8, w ∈ lw_tbl := fun w h => tb_all (List.mem_append_right _ (List.mem_append_right _ (List.mem_append_right _ (List.mem_append_right _ (List.mem_append_right _ (List.mem_append_right _ (List.mem_append_right _ (h))))))))
def M_X11_init : mM := (yX11_init, cX11_init, 1, none, [], 3, 53)
def M_X10_init : mM := (yX10_init, cX10_init, 1, none, [], 1, 12)
def M_X7_init : mM := (yX7_init, cX7_init, 1, none, [], 2, 32)
def M_X7_clear : mM := (yX7_clear, cX7_clear, 1, none, [], 1, 12)
def M_X0_init : mM := (yX0_init, cX0_init, 1, none, [], 2, 33)
def M_X2_init : mM := (yX2_init, cX2_init, 1, none, [], 1, 12)
def M_X6_init : mM := (yX6_init, cX6_init, 2, none, [], 1, 12)
def M_X4_init : mM := (yX4_init, cX4_init, 1, none, [], 1, 12)
def M_X3_init : mM := (yX3_init, cX3_init, 1, none, [], 1, 12)
def M_X1_init : mM := (yX1_init, cX1_init, 2, none, [], 2, 32)
def M_X5_init : mM := (yX5_init, cX5_init, 2, none, [], 1, 12)
def M_X8_init : mM := (yX8_init, cX8_init, 2, none, [], 1, 12)
def M_X9_init : mM := (yX9_init, cX9_init, 1, none, [], 1, 12)
def M_L_feed : mM := (yL_feed, cL_feed, 4, (some .int), [(0, 9, 12, 13), (0, 9, 15, 15)], 7, 111)
def M_X11_feed : mM := (yX11_feed, cX11_feed, 2, (some .int), [], 6, 90)
def M_X10_add : mM := (yX10_add, cX10_add, 2, none, [], 1, 12)
def M_L_readRoom : mM := (yL_readRoom, cL_readRoom, 3, (some .int), [(0, 8, 11, 21)], 11, 244)
def M_X11_readRoom : mM := (yX11_readRoom, cX11_readRoom, 3, (some .int), [], 10, 222)
def M_X10_take : mM := (yX10_take, cX10_take, 2, (some .int), [], 1, 12)
def M_X7_read : mM := (yX7_read, cX7_read, 6, (some .int), [], 9, 197)
def M_X10_at : mM := (yX10_at, cX10_at, 2, (some .char), [], 1, 12)
def M_X7_endRow : mM := (yX7_endRow, cX7_endRow, 1, (some .boolean), [], 1, 12)
def M_X7_addCell : mM := (yX7_addCell, cX7_addCell, 7, (some .boolean), [], 8, 171)
def M_J0_indexOf_0f7a4 : mM := (yJ0_indexOf_0f7a4, cJ0_indexOf_0f7a4, 2, (some .int), [], 7, 150)
def M_J0_indexOf_7cf53 : mM := (yJ0_indexOf_7cf53, cJ0_indexOf_7cf53, 3, (some .int), [], 6, 128)
def M_J0_isLatin1_aae02 : mM := (yJ0_isLatin1_aae02, cJ0_isLatin1_aae02, 1, (some .boolean), [], 1, 12)
def M_J0_length_8abf5 : mM := (yJ0_length_8abf5, cJ0_length_8abf5, 1, (some .int), [], 2, 32)
def M_J0_coder_7d493 : mM := (yJ0_coder_7d493, cJ0_coder_7d493, 1, (some .byte), [], 1, 12)
def M_J1_indexOf_4cfef : mM := (yJ1_indexOf_4cfef, cJ1_indexOf_4cfef, 4, (some .int), [], 2, 37)
def M_J1_canEncode_9a6ad : mM := (yJ1_canEncode_9a6ad, cJ1_canEncode_9a6ad, 1, (some .boolean), [], 1, 12)
def M_J9_max_7cf53 : mM := (yJ9_max_7cf53, cJ9_max_7cf53, 2, (some .int), [], 1, 12)
def M_J9_min_7cf53 : mM := (yJ9_min_7cf53, cJ9_min_7cf53, 2, (some .int), [], 1, 12)
def M_J1_indexOfChar_4cfef : mM := (yJ1_indexOfChar_4cfef, cJ1_indexOfChar_4cfef, 6, (some .int), [], 1, 12)
def M_J0_checkBoundsBeginEnd_23922 : mM := (yJ0_checkBoundsBeginEnd_23922, cJ0_checkBoundsBeginEnd_23922, 3, none, [], 2, 35)
def M_X11_bit : mM := (yX11_bit, cX11_bit, 1, (some .long), [], 1, 12)
def M_X7_isRoom : mM := (yX7_isRoom, cX7_isRoom, 1, (some .boolean), [], 2, 32)
def M_X7_isSide : mM := (yX7_isSide, cX7_isSide, 1, (some .boolean), [], 1, 12)
def M_X0_begin : mM := (yX0_begin, cX0_begin, 2, none, [], 4, 85)
def M_X2_lay : mM := (yX2_lay, cX2_lay, 3, none, [], 3, 63)
def M_X2_pulled : mM := (yX2_pulled, cX2_pulled, 9, (some .long), [], 2, 35)
def M_X11_opposite : mM := (yX11_opposite, cX11_opposite, 1, (some .int), [], 1, 12)
def M_X2_moved : mM := (yX2_moved, cX2_moved, 4, (some .long), [], 1, 12)
def M_X6_put : mM := (yX6_put, cX6_put, 4, none, [], 1, 12)
def M_X0_returnTo : mM := (yX0_returnTo, cX0_returnTo, 5, none, [], 2, 35)
def M_X3_clear : mM := (yX3_clear, cX3_clear, 1, none, [], 1, 12)
def M_J13_bitCount_95d88 : mM := (yJ13_bitCount_95d88, cJ13_bitCount_95d88, 2, (some .int), [], 1, 12)
def M_L_cell : mM := (yL_cell, cL_cell, 5, (some .int), [(0, 10, 13, 15), (0, 10, 17, 27)], 8, 132)
def M_X11_cell : mM := (yX11_cell, cX11_cell, 3, (some .char), [], 7, 110)
def M_X11_requireRoom : mM := (yX11_requireRoom, cX11_requireRoom, 1, none, [], 6, 90)
def M_X2_isLaid : mM := (yX2_isLaid, cX2_isLaid, 1, (some .boolean), [], 1, 12)
def M_X2_hasPlace : mM := (yX2_hasPlace, cX2_hasPlace, 3, (some .boolean), [], 1, 12)
def M_X0_signOf : mM := (yX0_signOf, cX0_signOf, 3, (some .char), [], 3, 54)
def M_X11_has : mM := (yX11_has, cX11_has, 3, (some .boolean), [], 2, 32)
def M_L_cells : mM := (yL_cells, cL_cells, 4, (some .int), [(0, 8, 11, 15), (0, 8, 14, 13)], 8, 134)
def M_X11_cells : mM := (yX11_cells, cX11_cells, 5, (some .long), [], 7, 110)
def M_X6_area : mM := (yX6_area, cX6_area, 1, (some .long), [], 4, 86)
def M_X6_free : mM := (yX6_free, cX6_free, 1, (some .long), [], 1, 12)
def M_X2_spread : mM := (yX2_spread, cX2_spread, 10, (some .long), [], 3, 57)
def M_X2_beside : mM := (yX2_beside, cX2_beside, 3, (some .long), [], 2, 35)
def M_X2_frozen : mM := (yX2_frozen, cX2_frozen, 18, (some .long), [], 2, 35)
def M_X2_tunnelsInRow : mM := (yX2_tunnelsInRow, cX2_tunnelsInRow, 1, (some .long), [], 2, 35)
def M_X2_tunnelsInColumn : mM := (yX2_tunnelsInColumn, cX2_tunnelsInColumn, 1, (some .long), [], 2, 35)
def M_L_count : mM := (yL_count, cL_count, 4, (some .int), [(0, 9, 12, 13)], 7, 156)
def M_X11_count : mM := (yX11_count, cX11_count, 3, (some .int), [], 6, 134)
def M_X0_pushes : mM := (yX0_pushes, cX0_pushes, 3, (some .int), [], 2, 33)
def M_X11_intAt : mM := (yX11_intAt, cX11_intAt, 2, (some .int), [], 1, 12)
def M_X11_isPushCode : mM := (yX11_isPushCode, cX11_isPushCode, 1, (some .boolean), [], 1, 12)
def M_X2_groups : mM := (yX2_groups, cX2_groups, 7, (some .int), [], 4, 86)
def M_X1_howMany : mM := (yX1_howMany, cX1_howMany, 2, (some .int), [], 5, 113)
def M_X1_goalsOf : mM := (yX1_goalsOf, cX1_goalsOf, 8, (some .long), [], 4, 86)
def M_X1_entrances : mM := (yX1_entrances, cX1_entrances, 3, (some .long), [], 3, 57)
def M_X6_isSolved : mM := (yX6_isSolved, cX6_isSolved, 1, (some .boolean), [], 1, 12)
def M_L_distance : mM := (yL_distance, cL_distance, 5, (some .int), [(0, 10, 13, 15), (0, 10, 17, 27), (0, 10, 21, 41)], 8, 134)
def M_X11_distance : mM := (yX11_distance, cX11_distance, 5, (some .int), [], 7, 110)
def M_X2_leastPushes : mM := (yX2_leastPushes, cX2_leastPushes, 10, (some .int), [], 3, 60)
def M_X2_lonePushed : mM := (yX2_lonePushed, cX2_lonePushed, 6, (some .long), [], 2, 35)
def M_L_bound : mM := (yL_bound, cL_bound, 3, (some .int), [(0, 8, 11, 15), (0, 8, 14, 41)], 8, 158)
def M_X11_bound : mM := (yX11_bound, cX11_bound, 2, (some .int), [], 7, 137)
def M_X5_leastSum : mM := (yX5_leastSum, cX5_leastSum, 6, (some .int), [], 5, 112)
def M_X5_measure : mM := (yX5_measure, cX5_measure, 5, (some .int), [], 4, 88)
def M_X5_measureFrom : mM := (yX5_measureFrom, cX5_measureFrom, 9, none, [], 3, 60)
def M_X11_setInt : mM := (yX11_setInt, cX11_setInt, 3, none, [], 1, 12)
def M_X5_offer : mM := (yX5_offer, cX5_offer, 5, none, [], 3, 59)
def M_X5_offerTo : mM := (yX5_offerTo, cX5_offerTo, 6, none, [], 2, 34)
def M_L_stuck : mM := (yL_stuck, cL_stuck, 4, (some .int), [(0, 9, 12, 15)], 8, 134)
def M_X11_stuck : mM := (yX11_stuck, cX11_stuck, 5, (some .int), [], 7, 110)
def M_X2_stuckReason : mM := (yX2_stuckReason, cX2_stuckReason, 3, (some .int), [], 3, 72)
def M_X2_stuckDetail : mM := (yX2_stuckDetail, cX2_stuckDetail, 4, (some .int), [], 3, 72)
def M_X11_lowest : mM := (yX11_lowest, cX11_lowest, 2, (some .int), [], 2, 33)
def M_L_goalRoom : mM := (yL_goalRoom, cL_goalRoom, 5, (some .int), [(0, 10, 13, 15), (0, 10, 17, 41)], 8, 137)
def M_X11_goalRoom : mM := (yX11_goalRoom, cX11_goalRoom, 5, (some .int), [], 7, 113)
def M_X1_goalAt : mM := (yX1_goalAt, cX1_goalAt, 7, (some .int), [], 4, 87)
def M_X4_lay : mM := (yX4_lay, cX4_lay, 11, none, [], 3, 57)
def M_X11_setLong : mM := (yX11_setLong, cX11_setLong, 4, none, [], 1, 12)
def M_X4_at : mM := (yX4_at, cX4_at, 2, (some .long), [], 2, 33)
def M_X11_longAt : mM := (yX11_longAt, cX11_longAt, 2, (some .long), [], 1, 12)
def M_L_step : mM := (yL_step, cL_step, 4, (some .int), [(0, 9, 12, 13), (0, 9, 15, 15), (0, 9, 18, 56)], 8, 133)
def M_X11_step : mM := (yX11_step, cX11_step, 4, (some .int), [], 7, 110)
def M_X11_requireDirection : mM := (yX11_requireDirection, cX11_requireDirection, 1, none, [], 6, 90)
def M_X6_stepReason : mM := (yX6_stepReason, cX6_stepReason, 4, (some .int), [], 3, 60)
def M_X6_ahead : mM := (yX6_ahead, cX6_ahead, 2, (some .long), [], 2, 35)
def M_X6_boxReason : mM := (yX6_boxReason, cX6_boxReason, 6, (some .int), [], 2, 35)
def M_X6_stepDetail : mM := (yX6_stepDetail, cX6_stepDetail, 3, (some .int), [], 3, 56)
def M_X11_keepRefusal : mM := (yX11_keepRefusal, cX11_keepRefusal, 3, none, [], 1, 12)
def M_X3_begin : mM := (yX3_begin, cX3_begin, 2, none, [], 2, 35)
def M_X0_makeStep : mM := (yX0_makeStep, cX0_makeStep, 3, (some .boolean), [], 4, 80)
def M_X6_move : mM := (yX6_move, cX6_move, 5, (some .boolean), [], 3, 56)
def M_X11_codeOf : mM := (yX11_codeOf, cX11_codeOf, 2, (some .int), [], 1, 12)
def M_X3_commit : mM := (yX3_commit, cX3_commit, 1, none, [], 3, 56)
def M_X3_forgetOldest : mM := (yX3_forgetOldest, cX3_forgetOldest, 2, none, [], 2, 35)
def M_L_push : mM := (yL_push, cL_push, 5, (some .int), [(0, 10, 13, 13), (0, 10, 17, 15), (0, 10, 21, 27), (0, 10, 25, 56), (0, 10, 29, 21)], 10, 178)
def M_X11_push : mM := (yX11_push, cX11_push, 4, (some .int), [], 9, 155)
def M_X11_requirePush : mM := (yX11_requirePush, cX11_requirePush, 4, none, [], 8, 132)
def M_X11_requireBox : mM := (yX11_requireBox, cX11_requireBox, 3, none, [], 7, 110)
def M_X6_pushReason : mM := (yX6_pushReason, cX6_pushReason, 3, (some .int), [], 5, 106)
def M_X6_behind : mM := (yX6_behind, cX6_behind, 3, (some .long), [], 2, 35)
def M_X6_pushDetail : mM := (yX6_pushDetail, cX6_pushDetail, 4, (some .int), [], 3, 54)
def M_X0_pushBox : mM := (yX0_pushBox, cX0_pushBox, 3, none, [], 6, 125)
def M_X0_walkTo : mM := (yX0_walkTo, cX0_walkTo, 4, none, [], 5, 102)
def M_X4_find : mM := (yX4_find, cX4_find, 3, (some .int), [], 3, 54)
def M_X0_directionInto : mM := (yX0_directionInto, cX0_directionInto, 4, (some .int), [], 2, 35)
def M_X11_commitOrThrow : mM := (yX11_commitOrThrow, cX11_commitOrThrow, 1, none, [], 6, 90)
def M_X3_rollBack : mM := (yX3_rollBack, cX3_rollBack, 2, none, [], 3, 59)
def M_L_longPush : mM := (yL_longPush, cL_longPush, 5, (some .int), [(0, 10, 13, 13), (0, 10, 17, 15), (0, 10, 21, 27), (0, 10, 25, 56), (0, 10, 29, 21)], 10, 195)
def M_X11_longPush : mM := (yX11_longPush, cX11_longPush, 4, (some .int), [], 9, 172)
def M_X0_pushBoxOn : mM := (yX0_pushBoxOn, cX0_pushBoxOn, 6, (some .int), [], 7, 147)
def M_X2_tunnelsAlong : mM := (yX2_tunnelsAlong, cX2_tunnelsAlong, 2, (some .long), [], 3, 55)
def M_L_play : mM := (yL_play, cL_play, 3, (some .int), [(0, 8, 11, 15), (0, 8, 14, 56), (0, 8, 17, 21)], 10, 219)
def M_X11_play : mM := (yX11_play, cX11_play, 4, (some .int), [], 9, 196)
def M_X10_faultAsSteps : mM := (yX10_faultAsSteps, cX10_faultAsSteps, 5, (some .int), [], 8, 171)
def M_X10_isDigit : mM := (yX10_isDigit, cX10_isDigit, 3, (some .boolean), [], 1, 12)
def M_X11_playElements : mM := (yX11_playElements, cX11_playElements, 6, (some .boolean), [], 8, 171)
def M_X11_playElement : mM := (yX11_playElement, cX11_playElement, 6, (some .boolean), [], 5, 107)
def M_X11_directionOf : mM := (yX11_directionOf, cX11_directionOf, 1, (some .int), [], 1, 12)
def M_X6_letterReason : mM := (yX6_letterReason, cX6_letterReason, 5, (some .int), [], 4, 83)
def M_L_refused : mM := (yL_refused, cL_refused, 3, (some .int), [(0, 8, 11, 41)], 7, 110)
def M_X11_refused : mM := (yX11_refused, cX11_refused, 1, (some .int), [], 6, 90)
def M_L_refusal : mM := (yL_refusal, cL_refusal, 4, (some .int), [(0, 9, 12, 41)], 7, 111)
def M_X11_refusal : mM := (yX11_refusal, cX11_refusal, 2, (some .int), [], 6, 90)
def M_L_refuses : mM := (yL_refuses, cL_refuses, 5, (some .int), [(0, 10, 13, 13), (0, 10, 17, 15), (0, 10, 21, 27)], 9, 154)
def M_X11_refuses : mM := (yX11_refuses, cX11_refuses, 3, (some .int), [], 8, 132)
def M_L_solve : mM := (yL_solve, cL_solve, 5, (some .int), [(0, 10, 13, 13), (0, 10, 17, 15), (0, 10, 21, 21), (0, 10, 25, 41)], 9, 224)
def M_X11_solve : mM := (yX11_solve, cX11_solve, 3, (some .int), [], 8, 202)
def M_X11_searchAndKeep : mM := (yX11_searchAndKeep, cX11_searchAndKeep, 3, none, [], 7, 180)
def M_X8_run : mM := (yX8_run, cX8_run, 5, none, [], 6, 156)
def M_X8_add : mM := (yX8_add, cX8_add, 7, none, [], 3, 60)
def M_X8_slotFor : mM := (yX8_slotFor, cX8_slotFor, 8, (some .int), [], 2, 33)
def M_X8_visit : mM := (yX8_visit, cX8_visit, 8, none, [], 5, 129)
def M_X8_lookAt : mM := (yX8_lookAt, cX8_lookAt, 16, none, [], 4, 94)
def M_X9_keep : mM := (yX9_keep, cX9_keep, 4, none, [], 4, 76)
def M_X9_depthOf : mM := (yX9_depthOf, cX9_depthOf, 3, (some .int), [], 3, 54)
def M_X8_parentOf : mM := (yX8_parentOf, cX8_parentOf, 2, (some .int), [], 2, 33)
def M_X8_pushTo : mM := (yX8_pushTo, cX8_pushTo, 2, (some .int), [], 2, 33)
def M_L_solution : mM := (yL_solution, cL_solution, 5, (some .int), [(0, 10, 13, 41)], 7, 112)
def M_X11_solution : mM := (yX11_solution, cX11_solution, 3, (some .int), [], 6, 90)
def M_X9_directionAt : mM := (yX9_directionAt, cX9_directionAt, 2, (some .int), [], 2, 33)
def M_X9_cellAt : mM := (yX9_cellAt, cX9_cellAt, 2, (some .int), [], 2, 33)
def M_L_finish : mM := (yL_finish, cL_finish, 4, (some .int), [(0, 9, 12, 13), (0, 9, 15, 15), (0, 9, 18, 21), (0, 9, 21, 41)], 9, 225)
def M_X11_finish : mM := (yX11_finish, cX11_finish, 4, (some .int), [], 8, 202)
def M_L_recorded : mM := (yL_recorded, cL_recorded, 4, (some .int), [(0, 9, 12, 27)], 8, 159)
def M_X11_recorded : mM := (yX11_recorded, cX11_recorded, 2, (some .char), [], 7, 138)
def M_X11_letterOf : mM := (yX11_letterOf, cX11_letterOf, 1, (some .char), [], 6, 118)
def M_J0_charAt_5068e : mM := (yJ0_charAt_5068e, cJ0_charAt_5068e, 2, (some .char), [], 5, 97)
def M_J1_charAt_3b067 : mM := (yJ1_charAt_3b067, cJ1_charAt_3b067, 2, (some .char), [], 3, 55)
def M_J0_checkIndex_df160 : mM := (yJ0_checkIndex_df160, cJ0_checkIndex_df160, 2, none, [], 2, 34)
def M_L_isReplayed : mM := (yL_isReplayed, cL_isReplayed, 3, (some .int), [(0, 15, 18, 15)], 8, 149)
def M_X11_isReplayed : mM := (yX11_isReplayed, cX11_isReplayed, 1, (some .boolean), [], 7, 129)
def M_X0_comesOutAgain : mM := (yX0_comesOutAgain, cX0_comesOutAgain, 3, (some .boolean), [], 5, 107)
def M_X6_isLike : mM := (yX6_isLike, cX6_isLike, 2, (some .boolean), [], 1, 12)
def M_L_undo : mM := (yL_undo, cL_undo, 3, (some .int), [(0, 8, 11, 15)], 7, 121)
def M_X11_undo : mM := (yX11_undo, cX11_undo, 1, (some .int), [], 6, 101)
def M_X3_goBack : mM := (yX3_goBack, cX3_goBack, 2, none, [], 4, 80)
def M_L_saveSnapshot : mM := (yL_saveSnapshot, cL_saveSnapshot, 3, (some .int), [(0, 8, 11, 15)], 8, 130)
def M_X11_saveSnapshot : mM := (yX11_saveSnapshot, cX11_saveSnapshot, 1, (some .int), [], 7, 110)
def M_X0_copy : mM := (yX0_copy, cX0_copy, 3, none, [], 3, 59)
def M_X2_copy : mM := (yX2_copy, cX2_copy, 2, none, [], 1, 12)
def M_L_restoreSnapshot : mM := (yL_restoreSnapshot, cL_restoreSnapshot, 3, (some .int), [(0, 8, 11, 15)], 7, 110)
def M_X11_restoreSnapshot : mM := (yX11_restoreSnapshot, cX11_restoreSnapshot, 1, (some .int), [], 6, 90)
def M_X12_init : mM := (yX12_init, cX12_init, 1, none, [], 1, 12)
def M_X12_thrown : mM := (yX12_thrown, cX12_thrown, 1, (some .int), [], 1, 12)
def M_X12_undo : mM := (yX12_undo, cX12_undo, 2, (some .int), [], 1, 12)
def M_X12_saveSnapshot : mM := (yX12_saveSnapshot, cX12_saveSnapshot, 2, (some .int), [], 2, 32)
def M_X12_hasRoom : mM := (yX12_hasRoom, cX12_hasRoom, 1, (some .boolean), [], 1, 12)
def M_X12_restoreSnapshot : mM := (yX12_restoreSnapshot, cX12_restoreSnapshot, 2, (some .int), [], 1, 12)
def M_X12_feed : mM := (yX12_feed, cX12_feed, 2, (some .int), [], 2, 34)
def M_X12_in : mM := (yX12_in, cX12_in, 3, (some .boolean), [], 1, 12)
def M_X12_readRoom : mM := (yX12_readRoom, cX12_readRoom, 8, (some .int), [], 3, 58)
def M_X12_roomFault : mM := (yX12_roomFault, cX12_roomFault, 6, (some .int), [], 2, 32)
def M_X12_isBoxText : mM := (yX12_isBoxText, cX12_isBoxText, 1, (some .boolean), [], 1, 12)
def M_X12_isPlayerText : mM := (yX12_isPlayerText, cX12_isPlayerText, 1, (some .boolean), [], 1, 12)
def M_X12_isCell : mM := (yX12_isCell, cX12_isCell, 1, (some .boolean), [], 1, 12)
def M_X12_fails : mM := (yX12_fails, cX12_fails, 2, (some .int), [], 1, 12)
def M_X12_lays : mM := (yX12_lays, cX12_lays, 7, (some .int), [], 2, 32)
def M_X12_cell : mM := (yX12_cell, cX12_cell, 4, (some .char), [], 2, 34)
def M_X12_isOpen : mM := (yX12_isOpen, cX12_isOpen, 2, (some .boolean), [], 1, 12)
def M_X12_isBox : mM := (yX12_isBox, cX12_isBox, 2, (some .boolean), [], 1, 12)
def M_X12_isGoal : mM := (yX12_isGoal, cX12_isGoal, 2, (some .boolean), [], 1, 12)
def M_X12_cells : mM := (yX12_cells, cX12_cells, 5, (some .long), [], 5, 105)
def M_X12_dies : mM := (yX12_dies, cX12_dies, 3, none, [], 4, 83)
def M_X12_size : mM := (yX12_size, cX12_size, 1, (some .int), [], 1, 12)
def M_X12_pushesTo : mM := (yX12_pushesTo, cX12_pushesTo, 6, none, [], 3, 58)
def M_X12_opposite : mM := (yX12_opposite, cX12_opposite, 1, (some .int), [], 1, 12)
def M_X12_beside : mM := (yX12_beside, cX12_beside, 5, (some .int), [], 2, 34)
def M_X12_walksFrom : mM := (yX12_walksFrom, cX12_walksFrom, 5, none, [], 3, 58)
def M_X12_freezes : mM := (yX12_freezes, cX12_freezes, 3, none, [], 4, 82)
def M_X12_isBlocked : mM := (yX12_isBlocked, cX12_isBlocked, 5, (some .boolean), [], 3, 58)
def M_X12_isIn : mM := (yX12_isIn, cX12_isIn, 3, (some .boolean), [], 4, 80)
def M_X12_isTunnel : mM := (yX12_isTunnel, cX12_isTunnel, 3, (some .boolean), [], 3, 58)
def M_X12_count : mM := (yX12_count, cX12_count, 2, (some .int), [], 5, 106)
def M_X12_counted : mM := (yX12_counted, cX12_counted, 4, (some .int), [], 2, 33)
def M_X12_recordedPushes : mM := (yX12_recordedPushes, cX12_recordedPushes, 3, (some .int), [], 1, 12)
def M_X12_groups : mM := (yX12_groups, cX12_groups, 4, (some .int), [], 4, 82)
def M_X12_goalRooms : mM := (yX12_goalRooms, cX12_goalRooms, 4, (some .int), [], 4, 83)
def M_X12_gathers : mM := (yX12_gathers, cX12_gathers, 6, (some .boolean), [], 3, 58)
def M_X12_isSolved : mM := (yX12_isSolved, cX12_isSolved, 2, (some .boolean), [], 2, 33)
def M_X12_distance : mM := (yX12_distance, cX12_distance, 6, (some .int), [], 4, 83)
def M_X12_bound : mM := (yX12_bound, cX12_bound, 3, (some .int), [], 4, 83)
def M_X12_oneMore : mM := (yX12_oneMore, cX12_oneMore, 7, none, [], 2, 33)
def M_X12_stuck : mM := (yX12_stuck, cX12_stuck, 3, (some .int), [], 6, 126)
def M_X12_stuckFor : mM := (yX12_stuckFor, cX12_stuckFor, 3, (some .int), [], 5, 104)
def M_X12_goalRoom : mM := (yX12_goalRoom, cX12_goalRoom, 3, (some .int), [], 5, 108)
def M_X12_ordered : mM := (yX12_ordered, cX12_ordered, 7, (some .int), [], 4, 82)
def M_X12_plainSteps : mM := (yX12_plainSteps, cX12_plainSteps, 5, none, [], 3, 58)
def M_X12_step : mM := (yX12_step, cX12_step, 3, (some .int), [], 5, 103)
def M_X12_reasonForStep : mM := (yX12_reasonForStep, cX12_reasonForStep, 3, (some .int), [], 4, 81)
def M_X12_reasonForBox : mM := (yX12_reasonForBox, cX12_reasonForBox, 4, (some .int), [], 3, 58)
def M_X12_keeps : mM := (yX12_keeps, cX12_keeps, 3, (some .int), [], 2, 33)
def M_X12_remembers : mM := (yX12_remembers, cX12_remembers, 2, none, [], 1, 12)
def M_X12_commands : mM := (yX12_commands, cX12_commands, 2, none, [], 1, 12)
def M_X12_goes : mM := (yX12_goes, cX12_goes, 4, (some .int), [], 3, 58)
def M_X12_push : mM := (yX12_push, cX12_push, 3, (some .int), [], 6, 132)
def M_X12_pushing : mM := (yX12_pushing, cX12_pushing, 8, (some .int), [], 5, 105)
def M_X12_pushStops : mM := (yX12_pushStops, cX12_pushStops, 3, (some .int), [], 2, 34)
def M_X12_reasonForPush : mM := (yX12_reasonForPush, cX12_reasonForPush, 4, (some .int), [], 4, 82)
def M_X12_walksAndPushes : mM := (yX12_walksAndPushes, cX12_walksAndPushes, 4, none, [], 4, 82)
def M_X12_isNearer : mM := (yX12_isNearer, cX12_isNearer, 3, (some .boolean), [], 3, 58)
def M_X12_goesBack : mM := (yX12_goesBack, cX12_goesBack, 2, none, [], 1, 12)
def M_X12_longPush : mM := (yX12_longPush, cX12_longPush, 3, (some .int), [], 6, 132)
def M_X12_refuses : mM := (yX12_refuses, cX12_refuses, 3, (some .int), [], 5, 105)
def M_X12_play : mM := (yX12_play, cX12_play, 8, (some .int), [], 6, 127)
def M_X12_stepsFault : mM := (yX12_stepsFault, cX12_stepsFault, 2, (some .int), [], 2, 34)
def M_X12_directionOf : mM := (yX12_directionOf, cX12_directionOf, 1, (some .int), [], 1, 12)
def M_X12_reasonForLetter : mM := (yX12_reasonForLetter, cX12_reasonForLetter, 5, (some .int), [], 5, 103)
def M_X12_refused : mM := (yX12_refused, cX12_refused, 1, (some .int), [], 1, 12)
def M_X12_refusal : mM := (yX12_refusal, cX12_refusal, 2, (some .int), [], 1, 12)
def M_X12_solve : mM := (yX12_solve, cX12_solve, 4, (some .int), [], 8, 181)
def M_X12_searches : mM := (yX12_searches, cX12_searches, 7, (some .int), [], 7, 155)
def M_X12_finds : mM := (yX12_finds, cX12_finds, 8, none, [], 5, 103)
def M_X12_boxSet : mM := (yX12_boxSet, cX12_boxSet, 4, (some .long), [], 2, 33)
def M_X12_lowestHere : mM := (yX12_lowestHere, cX12_lowestHere, 2, (some .int), [], 4, 82)
def M_X12_takes : mM := (yX12_takes, cX12_takes, 3, none, [], 2, 32)
def M_X12_visits : mM := (yX12_visits, cX12_visits, 6, none, [], 6, 130)
def M_X12_solution : mM := (yX12_solution, cX12_solution, 3, (some .int), [], 2, 34)
def M_X12_finish : mM := (yX12_finish, cX12_finish, 4, (some .int), [], 9, 204)
def M_X12_recorded : mM := (yX12_recorded, cX12_recorded, 6, (some .char), [], 2, 34)
def M_X12_isReplayed : mM := (yX12_isReplayed, cX12_isReplayed, 1, (some .boolean), [], 2, 32)
def M_L_law : mM := (yL_law, cL_law, 8, (some .boolean), [], 12, 266)
theorem pn_X11 : plainName RX11 = true := by decide +kernel
theorem in_X11 : Cond.initialized RX11 ∈ mTBL := mTBL_of (tb_1 _ (List.mem_of_getElem? (i := 1) rfl)) rfl
theorem pn_X0 : plainName RX0 = true := by decide +kernel
theorem in_X0 : Cond.initialized RX0 ∈ mTBL := mTBL_of (tb_1 _ (List.mem_of_getElem? (i := 4) rfl)) rfl
theorem pn_X1 : plainName RX1 = true := by decide +kernel
theorem in_X1 : Cond.initialized RX1 ∈ mTBL := mTBL_of (tb_1 _ (List.mem_of_getElem? (i := 9) rfl)) rfl
theorem pn_X2 : plainName RX2 = true := by decide +kernel
theorem in_X2 : Cond.initialized RX2 ∈ mTBL := mTBL_of (tb_1 _ (List.mem_of_getElem? (i := 5) rfl)) rfl
theorem pn_X3 : plainName RX3 = true := by decide +kernel
theorem in_X3 : Cond.initialized RX3 ∈ mTBL := mTBL_of (tb_1 _ (List.mem_of_getElem? (i := 8) rfl)) rfl
theorem pn_X4 : plainName RX4 = true := by decide +kernel
theorem in_X4 : Cond.initialized RX4 ∈ mTBL := mTBL_of (tb_1 _ (List.mem_of_getElem? (i := 7) rfl)) rfl
theorem pn_X5 : plainName RX5 = true := by decide +kernel
theorem in_X5 : Cond.initialized RX5 ∈ mTBL := mTBL_of (tb_1 _ (List.mem_of_getElem? (i := 10) rfl)) rfl
theorem pn_X6 : plainName RX6 = true := by decide +kernel
theorem in_X6 : Cond.initialized RX6 ∈ mTBL := mTBL_of (tb_1 _ (List.mem_of_getElem? (i := 6) rfl)) rfl
theorem pn_X7 : plainName RX7 = true := by decide +kernel
theorem in_X7 : Cond.initialized RX7 ∈ mTBL := mTBL_of (tb_1 _ (List.mem_of_getElem? (i := 3) rfl)) rfl
theorem pn_X8 : plainName RX8 = true := by decide +kernel
theorem in_X8 : Cond.initialized RX8 ∈ mTBL := mTBL_of (tb_1 _ (List.mem_of_getElem? (i := 11) rfl)) rfl
theorem pn_X9 : plainName RX9 = true := by decide +kernel
theorem in_X9 : Cond.initialized RX9 ∈ mTBL := mTBL_of (tb_1 _ (List.mem_of_getElem? (i := 12) rfl)) rfl
theorem pn_X10 : plainName RX10 = true := by decide +kernel
theorem in_X10 : Cond.initialized RX10 ∈ mTBL := mTBL_of (tb_1 _ (List.mem_of_getElem? (i := 2) rfl)) rfl
theorem pn_L : plainName RL = true := by decide +kernel
theorem in_L : Cond.initialized RL ∈ mTBL := mTBL_of (tb_1 _ (List.mem_of_getElem? (i := 0) rfl)) rfl
theorem pn_X12 : plainName RX12 = true := by decide +kernel
theorem in_X12 : Cond.initialized RX12 ∈ mTBL := mTBL_of (tb_1 _ (List.mem_of_getElem? (i := 13) rfl)) rfl
theorem pn_J13 : plainName RJ13 = true := by decide +kernel
theorem in_J13 : Cond.initialized RJ13 ∈ mTBL := mTBL_of (tb_1 _ (List.mem_of_getElem? (i := 26) rfl)) rfl
theorem pn_J0 : plainName RJ0 = true := by decide +kernel
theorem in_J0 : Cond.initialized RJ0 ∈ mTBL := mTBL_of (tb_1 _ (List.mem_of_getElem? (i := 19) rfl)) rfl
theorem pn_J1 : plainName RJ1 = true := by decide +kernel
theorem in_J1 : Cond.initialized RJ1 ∈ mTBL := mTBL_of (tb_1 _ (List.mem_of_getElem? (i := 20) rfl)) rfl
theorem uw_X0 : u_ws RX0 TX0 7 = [.laysFinal "PusherRoom$Game" "PusherRoom$Game" "grid" "LPusherRoom$Grid;", .laysFinal "PusherRoom$Game" "PusherRoom$Game" "now" "LPusherRoom$Position;", .laysFinal "PusherRoom$Game" "PusherRoom$Game" "start" "LPusherRoom$Position;", .laysFinal "PusherRoom$Game" "PusherRoom$Game" "again" "LPusherRoom$Position;", .laysFinal "PusherRoom$Game" "PusherRoom$Game" "layers" "LPusherRoom$Layers;", .laysFinal "PusherRoom$Game" "PusherRoom$Game" "record" "[I", .lays "PusherRoom$Game" "PusherRoom$Game" "steps" "I"] := rfl
theorem iw_X0 : ∀ wd ∈ u_ws RX0 TX0 7, wd ∈ mTBL := by
  rw [uw_X0]
  exact List.forall_mem_cons.mpr ⟨mTBL_of (tb_1 _ (List.mem_of_getElem? (i := 198) rfl)) rfl, List.forall_mem_cons.mpr ⟨mTBL_of (tb_1 _ (List.mem_of_getElem? (i := 200) rfl)) rfl, List.forall_mem_cons.mpr ⟨mTBL_of (tb_1 _ (List.mem_of_getElem? (i := 202) rfl)) rfl, List.forall_mem_cons.mpr ⟨mTBL_of (tb_1 _ (List.mem_of_getElem? (i := 204) rfl)) rfl, List.forall_mem_cons.mpr ⟨mTBL_of (tb_1 _ (List.mem_of_getElem? (i := 206) rfl)) rfl, List.forall_mem_cons.mpr ⟨mTBL_of (tb_1 _ (List.mem_of_getElem? (i := 208) rfl)) rfl, List.forall_mem_cons.mpr ⟨mTBL_of (tb_1 _ (List.mem_of_getElem? (i := 210) rfl)) rfl, fun _ h => absurd h List.not_mem_nil⟩⟩⟩⟩⟩⟩⟩
theorem uw_X1 : u_ws RX1 TX1 2 = [.laysFinal "PusherRoom$GoalRooms" "PusherRoom$GoalRooms" "grid" "LPusherRoom$Grid;", .laysFinal "PusherRoom$GoalRooms" "PusherRoom$GoalRooms" "layers" "LPusherRoom$Layers;"] := rfl
theorem iw_X1 : ∀ wd ∈ u_ws RX1 TX1 2, wd ∈ mTBL := by
  rw [uw_X1]
  exact List.forall_mem_cons.mpr ⟨mTBL_of (tb_2 _ (List.mem_of_getElem? (i := 4) rfl)) rfl, List.forall_mem_cons.mpr ⟨mTBL_of (tb_2 _ (List.mem_of_getElem? (i := 6) rfl)) rfl, fun _ h => absurd h List.not_mem_nil⟩⟩
theorem uw_X2 : u_ws RX2 TX2 7 = [.lays "PusherRoom$Grid" "PusherRoom$Grid" "rows" "I", .lays "PusherRoom$Grid" "PusherRoom$Grid" "columns" "I", .lays "PusherRoom$Grid" "PusherRoom$Grid" "open" "J", .lays "PusherRoom$Grid" "PusherRoom$Grid" "goals" "J", .lays "PusherRoom$Grid" "PusherRoom$Grid" "dead" "J", .lays "PusherRoom$Grid" "PusherRoom$Grid" "firstColumn" "J", .lays "PusherRoom$Grid" "PusherRoom$Grid" "lastColumn" "J"] := rfl
theorem iw_X2 : ∀ wd ∈ u_ws RX2 TX2 7, wd ∈ mTBL := by
  rw [uw_X2]
  exact List.forall_mem_cons.mpr ⟨mTBL_of (tb_1 _ (List.mem_of_getElem? (i := 132) rfl)) rfl, List.forall_mem_cons.mpr ⟨mTBL_of (tb_1 _ (List.mem_of_getElem? (i := 134) rfl)) rfl, List.forall_mem_cons.mpr ⟨mTBL_of (tb_1 _ (List.mem_of_getElem? (i := 136) rfl)) rfl, List.forall_mem_cons.mpr ⟨mTBL_of (tb_1 _ (List.mem_of_getElem? (i := 138) rfl)) rfl, List.forall_mem_cons.mpr ⟨mTBL_of (tb_1 _ (List.mem_of_getElem? (i := 140) rfl)) rfl, List.forall_mem_cons.mpr ⟨mTBL_of (tb_1 _ (List.mem_of_getElem? (i := 142) rfl)) rfl, List.forall_mem_cons.mpr ⟨mTBL_of (tb_1 _ (List.mem_of_getElem? (i := 144) rfl)) rfl, fun _ h => absurd h List.not_mem_nil⟩⟩⟩⟩⟩⟩⟩
theorem uw_X3 : u_ws RX3 TX3 4 = [.laysFinal "PusherRoom$History" "PusherRoom$History" "boxes" "[J", .laysFinal "PusherRoom$History" "PusherRoom$History" "players" "[I", .laysFinal "PusherRoom$History" "PusherRoom$History" "steps" "[I", .lays "PusherRoom$History" "PusherRoom$History" "size" "I"] := rfl
theorem iw_X3 : ∀ wd ∈ u_ws RX3 TX3 4, wd ∈ mTBL := by
  rw [uw_X3]
  exact List.forall_mem_cons.mpr ⟨mTBL_of (tb_1 _ (List.mem_of_getElem? (i := 225) rfl)) rfl, List.forall_mem_cons.mpr ⟨mTBL_of (tb_1 _ (List.mem_of_getElem? (i := 227) rfl)) rfl, List.forall_mem_cons.mpr ⟨mTBL_of (tb_1 _ (List.mem_of_getElem? (i := 229) rfl)) rfl, List.forall_mem_cons.mpr ⟨mTBL_of (tb_1 _ (List.mem_of_getElem? (i := 231) rfl)) rfl, fun _ h => absurd h List.not_mem_nil⟩⟩⟩⟩
theorem uw_X4 : u_ws RX4 TX4 2 = [.laysFinal "PusherRoom$Layers" "PusherRoom$Layers" "sets" "[J", .lays "PusherRoom$Layers" "PusherRoom$Layers" "size" "I"] := rfl
theorem iw_X4 : ∀ wd ∈ u_ws RX4 TX4 2, wd ∈ mTBL := by
  rw [uw_X4]
  exact List.forall_mem_cons.mpr ⟨mTBL_of (tb_1 _ (List.mem_of_getElem? (i := 179) rfl)) rfl, List.forall_mem_cons.mpr ⟨mTBL_of (tb_1 _ (List.mem_of_getElem? (i := 181) rfl)) rfl, fun _ h => absurd h List.not_mem_nil⟩⟩
theorem uw_X5 : u_ws RX5 TX5 3 = [.laysFinal "PusherRoom$Matching" "PusherRoom$Matching" "grid" "LPusherRoom$Grid;", .laysFinal "PusherRoom$Matching" "PusherRoom$Matching" "distances" "[I", .laysFinal "PusherRoom$Matching" "PusherRoom$Matching" "sums" "[I"] := rfl
theorem iw_X5 : ∀ wd ∈ u_ws RX5 TX5 3, wd ∈ mTBL := by
  rw [uw_X5]
  exact List.forall_mem_cons.mpr ⟨mTBL_of (tb_2 _ (List.mem_of_getElem? (i := 18) rfl)) rfl, List.forall_mem_cons.mpr ⟨mTBL_of (tb_2 _ (List.mem_of_getElem? (i := 20) rfl)) rfl, List.forall_mem_cons.mpr ⟨mTBL_of (tb_2 _ (List.mem_of_getElem? (i := 22) rfl)) rfl, fun _ h => absurd h List.not_mem_nil⟩⟩⟩
theorem uw_X6 : u_ws RX6 TX6 3 = [.laysFinal "PusherRoom$Position" "PusherRoom$Position" "grid" "LPusherRoom$Grid;", .lays "PusherRoom$Position" "PusherRoom$Position" "boxes" "J", .lays "PusherRoom$Position" "PusherRoom$Position" "player" "I"] := rfl
theorem iw_X6 : ∀ wd ∈ u_ws RX6 TX6 3, wd ∈ mTBL := by
  rw [uw_X6]
  exact List.forall_mem_cons.mpr ⟨mTBL_of (tb_1 _ (List.mem_of_getElem? (i := 163) rfl)) rfl, List.forall_mem_cons.mpr ⟨mTBL_of (tb_1 _ (List.mem_of_getElem? (i := 165) rfl)) rfl, List.forall_mem_cons.mpr ⟨mTBL_of (tb_1 _ (List.mem_of_getElem? (i := 167) rfl)) rfl, fun _ h => absurd h List.not_mem_nil⟩⟩⟩
theorem uw_X7 : u_ws RX7 TX7 10 = [.lays "PusherRoom$RoomText" "PusherRoom$RoomText" "rows" "I", .lays "PusherRoom$RoomText" "PusherRoom$RoomText" "columns" "I", .lays "PusherRoom$RoomText" "PusherRoom$RoomText" "open" "J", .lays "PusherRoom$RoomText" "PusherRoom$RoomText" "goals" "J", .lays "PusherRoom$RoomText" "PusherRoom$RoomText" "boxes" "J", .lays "PusherRoom$RoomText" "PusherRoom$RoomText" "player" "I", .lays "PusherRoom$RoomText" "PusherRoom$RoomText" "width" "I", .lays "PusherRoom$RoomText" "PusherRoom$RoomText" "cellsRead" "I", .lays "PusherRoom$RoomText" "PusherRoom$RoomText" "goalCount" "I", .lays "PusherRoom$RoomText" "PusherRoom$RoomText" "boxCount" "I"] := rfl
theorem iw_X7 : ∀ wd ∈ u_ws RX7 TX7 10, wd ∈ mTBL := by
  rw [uw_X7]
  exact List.forall_mem_cons.mpr ⟨mTBL_of (tb_1 _ (List.mem_of_getElem? (i := 79) rfl)) rfl, List.forall_mem_cons.mpr ⟨mTBL_of (tb_1 _ (List.mem_of_getElem? (i := 81) rfl)) rfl, List.forall_mem_cons.mpr ⟨mTBL_of (tb_1 _ (List.mem_of_getElem? (i := 83) rfl)) rfl, List.forall_mem_cons.mpr ⟨mTBL_of (tb_1 _ (List.mem_of_getElem? (i := 85) rfl)) rfl, List.forall_mem_cons.mpr ⟨mTBL_of (tb_1 _ (List.mem_of_getElem? (i := 87) rfl)) rfl, List.forall_mem_cons.mpr ⟨mTBL_of (tb_1 _ (List.mem_of_getElem? (i := 89) rfl)) rfl, List.forall_mem_cons.mpr ⟨mTBL_of (tb_1 _ (List.mem_of_getElem? (i := 91) rfl)) rfl, List.forall_mem_cons.mpr ⟨mTBL_of (tb_1 _ (List.mem_of_getElem? (i := 93) rfl)) rfl, List.forall_mem_cons.mpr ⟨mTBL_of (tb_1 _ (List.mem_of_getElem? (i := 95) rfl)) rfl, List.forall_mem_cons.mpr ⟨mTBL_of (tb_1 _ (List.mem_of_getElem? (i := 97) rfl)) rfl, fun _ h => absurd h List.not_mem_nil⟩⟩⟩⟩⟩⟩⟩⟩⟩⟩
theorem uw_X8 : u_ws RX8 TX8 11 = [.laysFinal "PusherRoom$Search" "PusherRoom$Search" "grid" "LPusherRoom$Grid;", .laysFinal "PusherRoom$Search" "PusherRoom$Search" "boxes" "[J", .laysFinal "PusherRoom$Search" "PusherRoom$Search" "players" "[I", .laysFinal "PusherRoom$Search" "PusherRoom$Search" "parents" "[I", .laysFinal "PusherRoom$Search" "PusherRoom$Search" "pushes" "[I", .laysFinal "PusherRoom$Search" "PusherRoom$Search" "slots" "[I", .lays "PusherRoom$Search" "PusherRoom$Search" "limit" "I", .lays "PusherRoom$Search" "PusherRoom$Search" "withTables" "Z", .lays "PusherRoom$Search" "PusherRoom$Search" "found" "I", .lays "PusherRoom$Search" "PusherRoom$Search" "solved" "I", .lays "PusherRoom$Search" "PusherRoom$Search" "hasGivenUp" "Z"] := rfl
theorem iw_X8 : ∀ wd ∈ u_ws RX8 TX8 11, wd ∈ mTBL := by
  rw [uw_X8]
  exact List.forall_mem_cons.mpr ⟨mTBL_of (tb_2 _ (List.mem_of_getElem? (i := 46) rfl)) rfl, List.forall_mem_cons.mpr ⟨mTBL_of (tb_2 _ (List.mem_of_getElem? (i := 48) rfl)) rfl, List.forall_mem_cons.mpr ⟨mTBL_of (tb_2 _ (List.mem_of_getElem? (i := 50) rfl)) rfl, List.forall_mem_cons.mpr ⟨mTBL_of (tb_2 _ (List.mem_of_getElem? (i := 52) rfl)) rfl, List.forall_mem_cons.mpr ⟨mTBL_of (tb_2 _ (List.mem_of_getElem? (i := 54) rfl)) rfl, List.forall_mem_cons.mpr ⟨mTBL_of (tb_2 _ (List.mem_of_getElem? (i := 56) rfl)) rfl, List.forall_mem_cons.mpr ⟨mTBL_of (tb_2 _ (List.mem_of_getElem? (i := 58) rfl)) rfl, List.forall_mem_cons.mpr ⟨mTBL_of (tb_2 _ (List.mem_of_getElem? (i := 60) rfl)) rfl, List.forall_mem_cons.mpr ⟨mTBL_of (tb_2 _ (List.mem_of_getElem? (i := 62) rfl)) rfl, List.forall_mem_cons.mpr ⟨mTBL_of (tb_2 _ (List.mem_of_getElem? (i := 64) rfl)) rfl, List.forall_mem_cons.mpr ⟨mTBL_of (tb_2 _ (List.mem_of_getElem? (i := 66) rfl)) rfl, fun _ h => absurd h List.not_mem_nil⟩⟩⟩⟩⟩⟩⟩⟩⟩⟩⟩
theorem uw_X9 : u_ws RX9 TX9 3 = [.laysFinal "PusherRoom$Solution" "PusherRoom$Solution" "parts" "[I", .lays "PusherRoom$Solution" "PusherRoom$Solution" "pushes" "I", .lays "PusherRoom$Solution" "PusherRoom$Solution" "positions" "I"] := rfl
theorem iw_X9 : ∀ wd ∈ u_ws RX9 TX9 3, wd ∈ mTBL := by
  rw [uw_X9]
  exact List.forall_mem_cons.mpr ⟨mTBL_of (tb_2 _ (List.mem_of_getElem? (i := 80) rfl)) rfl, List.forall_mem_cons.mpr ⟨mTBL_of (tb_2 _ (List.mem_of_getElem? (i := 82) rfl)) rfl, List.forall_mem_cons.mpr ⟨mTBL_of (tb_2 _ (List.mem_of_getElem? (i := 84) rfl)) rfl, fun _ h => absurd h List.not_mem_nil⟩⟩⟩
theorem uw_X10 : u_ws RX10 TX10 2 = [.laysFinal "PusherRoom$TextInput" "PusherRoom$TextInput" "signs" "[C", .lays "PusherRoom$TextInput" "PusherRoom$TextInput" "length" "I"] := rfl
theorem iw_X10 : ∀ wd ∈ u_ws RX10 TX10 2, wd ∈ mTBL := by
  rw [uw_X10]
  exact List.forall_mem_cons.mpr ⟨mTBL_of (tb_1 _ (List.mem_of_getElem? (i := 47) rfl)) rfl, List.forall_mem_cons.mpr ⟨mTBL_of (tb_1 _ (List.mem_of_getElem? (i := 49) rfl)) rfl, fun _ h => absurd h List.not_mem_nil⟩⟩
theorem uw_X11 : u_ws RX11 TX11 12 = [.laysFinal "PusherRoom" "PusherRoom" "input" "LPusherRoom$TextInput;", .laysFinal "PusherRoom" "PusherRoom" "roomText" "LPusherRoom$RoomText;", .laysFinal "PusherRoom" "PusherRoom" "game" "LPusherRoom$Game;", .laysFinal "PusherRoom" "PusherRoom" "saved" "LPusherRoom$Game;", .laysFinal "PusherRoom" "PusherRoom" "history" "LPusherRoom$History;", .laysFinal "PusherRoom" "PusherRoom" "goalRooms" "LPusherRoom$GoalRooms;", .laysFinal "PusherRoom" "PusherRoom" "matching" "LPusherRoom$Matching;", .laysFinal "PusherRoom" "PusherRoom" "search" "LPusherRoom$Search;", .laysFinal "PusherRoom" "PusherRoom" "solution" "LPusherRoom$Solution;", .lays "PusherRoom" "PusherRoom" "keptReason" "I", .lays "PusherRoom" "PusherRoom" "keptDetail" "I", .lays "PusherRoom" "PusherRoom" "refusedStep" "I"] := rfl
theorem iw_X11 : ∀ wd ∈ u_ws RX11 TX11 12, wd ∈ mTBL := by
  rw [uw_X11]
  exact List.forall_mem_cons.mpr ⟨mTBL_of (tb_2 _ (List.mem_of_getElem? (i := 99) rfl)) rfl, List.forall_mem_cons.mpr ⟨mTBL_of (tb_2 _ (List.mem_of_getElem? (i := 101) rfl)) rfl, List.forall_mem_cons.mpr ⟨mTBL_of (tb_2 _ (List.mem_of_getElem? (i := 103) rfl)) rfl, List.forall_mem_cons.mpr ⟨mTBL_of (tb_2 _ (List.mem_of_getElem? (i := 105) rfl)) rfl, List.forall_mem_cons.mpr ⟨mTBL_of (tb_2 _ (List.mem_of_getElem? (i := 107) rfl)) rfl, List.forall_mem_cons.mpr ⟨mTBL_of (tb_2 _ (List.mem_of_getElem? (i := 109) rfl)) rfl, List.forall_mem_cons.mpr ⟨mTBL_of (tb_2 _ (List.mem_of_getElem? (i := 111) rfl)) rfl, List.forall_mem_cons.mpr ⟨mTBL_of (tb_2 _ (List.mem_of_getElem? (i := 113) rfl)) rfl, List.forall_mem_cons.mpr ⟨mTBL_of (tb_2 _ (List.mem_of_getElem? (i := 115) rfl)) rfl, List.forall_mem_cons.mpr ⟨mTBL_of (tb_2 _ (List.mem_of_getElem? (i := 117) rfl)) rfl, List.forall_mem_cons.mpr ⟨mTBL_of (tb_2 _ (List.mem_of_getElem? (i := 119) rfl)) rfl, List.forall_mem_cons.mpr ⟨mTBL_of (tb_2 _ (List.mem_of_getElem? (i := 121) rfl)) rfl, fun _ h => absurd h List.not_mem_nil⟩⟩⟩⟩⟩⟩⟩⟩⟩⟩⟩⟩
theorem uw_X12 : u_ws RX12 TX12 36 = [.laysFinal "PusherRoomModel" "PusherRoomModel" "g" "[I", .laysFinal "PusherRoomModel" "PusherRoomModel" "kept" "[I", .laysFinal "PusherRoomModel" "PusherRoomModel" "spare" "[I", .lays "PusherRoomModel" "PusherRoomModel" "hasKept" "Z", .laysFinal "PusherRoomModel" "PusherRoomModel" "past" "[I", .lays "PusherRoomModel" "PusherRoomModel" "pasts" "I", .lays "PusherRoomModel" "PusherRoomModel" "reason" "I", .lays "PusherRoomModel" "PusherRoomModel" "detail" "I", .lays "PusherRoomModel" "PusherRoomModel" "refusedStep" "I", .lays "PusherRoomModel" "PusherRoomModel" "thrown" "I", .laysFinal "PusherRoomModel" "PusherRoomModel" "text" "[I", .lays "PusherRoomModel" "PusherRoomModel" "length" "I", .lays "PusherRoomModel" "PusherRoomModel" "spot" "I", .lays "PusherRoomModel" "PusherRoomModel" "wide" "I", .lays "PusherRoomModel" "PusherRoomModel" "many" "I", .laysFinal "PusherRoomModel" "PusherRoomModel" "queue" "[I", .lays "PusherRoomModel" "PusherRoomModel" "queued" "I", .laysFinal "PusherRoomModel" "PusherRoomModel" "steps" "[I", .laysFinal "PusherRoomModel" "PusherRoomModel" "pushes" "[I", .laysFinal "PusherRoomModel" "PusherRoomModel" "isDead" "[Z", .laysFinal "PusherRoomModel" "PusherRoomModel" "isFrozen" "[Z", .lays "PusherRoomModel" "PusherRoomModel" "stuckAt" "I", .laysFinal "PusherRoomModel" "PusherRoomModel" "met" "[Z", .laysFinal "PusherRoomModel" "PusherRoomModel" "sums" "[I", .lays "PusherRoomModel" "PusherRoomModel" "entrance" "I", .laysFinal "PusherRoomModel" "PusherRoomModel" "members" "[I", .lays "PusherRoomModel" "PusherRoomModel" "detailHere" "I", .laysFinal "PusherRoomModel" "PusherRoomModel" "boxes" "[J", .laysFinal "PusherRoomModel" "PusherRoomModel" "lowest" "[I", .laysFinal "PusherRoomModel" "PusherRoomModel" "cameFrom" "[I", .laysFinal "PusherRoomModel" "PusherRoomModel" "byPush" "[I", .lays "PusherRoomModel" "PusherRoomModel" "found" "I", .laysFinal "PusherRoomModel" "PusherRoomModel" "solution" "[I", .lays "PusherRoomModel" "PusherRoomModel" "solutionPushes" "I", .lays "PusherRoomModel" "PusherRoomModel" "solutionFound" "I", .lays "PusherRoomModel" "PusherRoomModel" "gaveUp" "I"] := rfl
theorem iw_X12 : ∀ wd ∈ u_ws RX12 TX12 36, wd ∈ mTBL := by
  rw [uw_X12]
  exact List.forall_mem_cons.mpr ⟨mTBL_of (tb_6 _ (List.mem_of_getElem? (i := 135) rfl)) rfl, List.forall_mem_cons.mpr ⟨mTBL_of (tb_6 _ (List.mem_of_getElem? (i := 137) rfl)) rfl, List.forall_mem_cons.mpr ⟨mTBL_of (tb_6 _ (List.mem_of_getElem? (i := 139) rfl)) rfl, List.forall_mem_cons.mpr ⟨mTBL_of (tb_6 _ (List.mem_of_getElem? (i := 141) rfl)) rfl, List.forall_mem_cons.mpr ⟨mTBL_of (tb_6 _ (List.mem_of_getElem? (i := 143) rfl)) rfl, List.forall_mem_cons.mpr ⟨mTBL_of (tb_6 _ (List.mem_of_getElem? (i := 145) rfl)) rfl, List.forall_mem_cons.mpr ⟨mTBL_of (tb_6 _ (List.mem_of_getElem? (i := 147) rfl)) rfl, List.forall_mem_cons.mpr ⟨mTBL_of (tb_6 _ (List.mem_of_getElem? (i := 149) rfl)) rfl, List.forall_mem_cons.mpr ⟨mTBL_of (tb_6 _ (List.mem_of_getElem? (i := 151) rfl)) rfl, List.forall_mem_cons.mpr ⟨mTBL_of (tb_6 _ (List.mem_of_getElem? (i := 153) rfl)) rfl, List.forall_mem_cons.mpr ⟨mTBL_of (tb_6 _ (List.mem_of_getElem? (i := 155) rfl)) rfl, List.forall_mem_cons.mpr ⟨mTBL_of (tb_6 _ (List.mem_of_getElem? (i := 157) rfl)) rfl, List.forall_mem_cons.mpr ⟨mTBL_of (tb_6 _ (List.mem_of_getElem? (i := 159) rfl)) rfl, List.forall_mem_cons.mpr ⟨mTBL_of (tb_6 _ (List.mem_of_getElem? (i := 161) rfl)) rfl, List.forall_mem_cons.mpr ⟨mTBL_of (tb_6 _ (List.mem_of_getElem? (i := 163) rfl)) rfl, List.forall_mem_cons.mpr ⟨mTBL_of (tb_6 _ (List.mem_of_getElem? (i := 165) rfl)) rfl, List.forall_mem_cons.mpr ⟨mTBL_of (tb_6 _ (List.mem_of_getElem? (i := 167) rfl)) rfl, List.forall_mem_cons.mpr ⟨mTBL_of (tb_6 _ (List.mem_of_getElem? (i := 169) rfl)) rfl, List.forall_mem_cons.mpr ⟨mTBL_of (tb_6 _ (List.mem_of_getElem? (i := 171) rfl)) rfl, List.forall_mem_cons.mpr ⟨mTBL_of (tb_6 _ (List.mem_of_getElem? (i := 173) rfl)) rfl, List.forall_mem_cons.mpr ⟨mTBL_of (tb_6 _ (List.mem_of_getElem? (i := 175) rfl)) rfl, List.forall_mem_cons.mpr ⟨mTBL_of (tb_6 _ (List.mem_of_getElem? (i := 177) rfl)) rfl, List.forall_mem_cons.mpr ⟨mTBL_of (tb_6 _ (List.mem_of_getElem? (i := 179) rfl)) rfl, List.forall_mem_cons.mpr ⟨mTBL_of (tb_6 _ (List.mem_of_getElem? (i := 181) rfl)) rfl, List.forall_mem_cons.mpr ⟨mTBL_of (tb_6 _ (List.mem_of_getElem? (i := 183) rfl)) rfl, List.forall_mem_cons.mpr ⟨mTBL_of (tb_6 _ (List.mem_of_getElem? (i := 185) rfl)) rfl, List.forall_mem_cons.mpr ⟨mTBL_of (tb_6 _ (List.mem_of_getElem? (i := 187) rfl)) rfl, List.forall_mem_cons.mpr ⟨mTBL_of (tb_6 _ (List.mem_of_getElem? (i := 189) rfl)) rfl, List.forall_mem_cons.mpr ⟨mTBL_of (tb_6 _ (List.mem_of_getElem? (i := 191) rfl)) rfl, List.forall_mem_cons.mpr ⟨mTBL_of (tb_6 _ (List.mem_of_getElem? (i := 193) rfl)) rfl, List.forall_mem_cons.mpr ⟨mTBL_of (tb_6 _ (List.mem_of_getElem? (i := 195) rfl)) rfl, List.forall_mem_cons.mpr ⟨mTBL_of (tb_6 _ (List.mem_of_getElem? (i := 197) rfl)) rfl, List.forall_mem_cons.mpr ⟨mTBL_of (tb_6 _ (List.mem_of_getElem? (i := 199) rfl)) rfl, List.forall_mem_cons.mpr ⟨mTBL_of (tb_6 _ (List.mem_of_getElem? (i := 201) rfl)) rfl, List.forall_mem_cons.mpr ⟨mTBL_of (tb_6 _ (List.mem_of_getElem? (i := 203) rfl)) rfl, List.forall_mem_cons.mpr ⟨mTBL_of (tb_6 _ (List.mem_of_getElem? (i := 205) rfl)) rfl, fun _ h => absurd h List.not_mem_nil⟩⟩⟩⟩⟩⟩⟩⟩⟩⟩⟩⟩⟩⟩⟩⟩⟩⟩⟩⟩⟩⟩⟩⟩⟩⟩⟩⟩⟩⟩⟩⟩⟩⟩⟩⟩
theorem f_X11_10 : mFld RX11 10 11 0 := ⟨RX11, TX11, 12, rfl, by decide, iw_X11, mTBL_of (tb_2 _ (List.mem_of_getElem? (i := 87) rfl)) rfl⟩
theorem f_X11_19 : mFld RX11 19 11 1 := ⟨RX11, TX11, 12, rfl, by decide, iw_X11, mTBL_of (tb_2 _ (List.mem_of_getElem? (i := 88) rfl)) rfl⟩
theorem f_X11_26 : mFld RX11 26 11 2 := ⟨RX11, TX11, 12, rfl, by decide, iw_X11, mTBL_of (tb_2 _ (List.mem_of_getElem? (i := 89) rfl)) rfl⟩
theorem f_X11_30 : mFld RX11 30 11 3 := ⟨RX11, TX11, 12, rfl, by decide, iw_X11, mTBL_of (tb_2 _ (List.mem_of_getElem? (i := 90) rfl)) rfl⟩
theorem f_X11_36 : mFld RX11 36 11 4 := ⟨RX11, TX11, 12, rfl, by decide, iw_X11, mTBL_of (tb_2 _ (List.mem_of_getElem? (i := 91) rfl)) rfl⟩
theorem f_X11_42 : mFld RX11 42 0 0 := ⟨RX0, TX0, 7, rfl, by decide, iw_X0, mTBL_of (tb_1 _ (List.mem_of_getElem? (i := 186) rfl)) rfl⟩
theorem f_X11_49 : mFld RX11 49 11 5 := ⟨RX11, TX11, 12, rfl, by decide, iw_X11, mTBL_of (tb_2 _ (List.mem_of_getElem? (i := 92) rfl)) rfl⟩
theorem f_X11_56 : mFld RX11 56 11 6 := ⟨RX11, TX11, 12, rfl, by decide, iw_X11, mTBL_of (tb_2 _ (List.mem_of_getElem? (i := 93) rfl)) rfl⟩
theorem f_X11_63 : mFld RX11 63 11 7 := ⟨RX11, TX11, 12, rfl, by decide, iw_X11, mTBL_of (tb_2 _ (List.mem_of_getElem? (i := 94) rfl)) rfl⟩
theorem f_X11_70 : mFld RX11 70 11 8 := ⟨RX11, TX11, 12, rfl, by decide, iw_X11, mTBL_of (tb_2 _ (List.mem_of_getElem? (i := 95) rfl)) rfl⟩
theorem f_X11_74 : mFld RX11 74 11 9 := ⟨RX11, TX11, 12, rfl, by decide, iw_X11, mTBL_of (tb_2 _ (List.mem_of_getElem? (i := 96) rfl)) rfl⟩
theorem p_X11_74 : mPut RX11 74 11 9 .int := ⟨RX11, TX11, 12, tyX11, rfl, by decide, iw_X11, mTBL_of (tb_2 _ (List.mem_of_getElem? (i := 96) rfl)) rfl, tyX11_ok, nmX11, rfl, rfl⟩
theorem f_X11_78 : mFld RX11 78 11 10 := ⟨RX11, TX11, 12, rfl, by decide, iw_X11, mTBL_of (tb_2 _ (List.mem_of_getElem? (i := 97) rfl)) rfl⟩
theorem p_X11_78 : mPut RX11 78 11 10 .int := ⟨RX11, TX11, 12, tyX11, rfl, by decide, iw_X11, mTBL_of (tb_2 _ (List.mem_of_getElem? (i := 97) rfl)) rfl, tyX11_ok, nmX11, rfl, rfl⟩
theorem f_X11_81 : mFld RX11 81 11 11 := ⟨RX11, TX11, 12, rfl, by decide, iw_X11, mTBL_of (tb_2 _ (List.mem_of_getElem? (i := 98) rfl)) rfl⟩
theorem p_X11_81 : mPut RX11 81 11 11 .int := ⟨RX11, TX11, 12, tyX11, rfl, by decide, iw_X11, mTBL_of (tb_2 _ (List.mem_of_getElem? (i := 98) rfl)) rfl, tyX11_ok, nmX11, rfl, rfl⟩
theorem f_X11_91 : mFld RX11 91 10 1 := ⟨RX10, TX10, 2, rfl, by decide, iw_X10, mTBL_of (tb_1 _ (List.mem_of_getElem? (i := 46) rfl)) rfl⟩
theorem f_X11_127 : mFld RX11 127 2 2 := ⟨RX2, TX2, 7, rfl, by decide, iw_X2, mTBL_of (tb_1 _ (List.mem_of_getElem? (i := 118) rfl)) rfl⟩
theorem f_X11_151 : mFld RX11 151 2 1 := ⟨RX2, TX2, 7, rfl, by decide, iw_X2, mTBL_of (tb_1 _ (List.mem_of_getElem? (i := 115) rfl)) rfl⟩
theorem f_X11_158 : mFld RX11 158 0 1 := ⟨RX0, TX0, 7, rfl, by decide, iw_X0, mTBL_of (tb_1 _ (List.mem_of_getElem? (i := 189) rfl)) rfl⟩
theorem f_X11_162 : mFld RX11 162 6 1 := ⟨RX6, TX6, 3, rfl, by decide, iw_X6, mTBL_of (tb_1 _ (List.mem_of_getElem? (i := 158) rfl)) rfl⟩
theorem f_X11_167 : mFld RX11 167 2 3 := ⟨RX2, TX2, 7, rfl, by decide, iw_X2, mTBL_of (tb_1 _ (List.mem_of_getElem? (i := 127) rfl)) rfl⟩
theorem f_X11_174 : mFld RX11 174 2 4 := ⟨RX2, TX2, 7, rfl, by decide, iw_X2, mTBL_of (tb_1 _ (List.mem_of_getElem? (i := 129) rfl)) rfl⟩
theorem f_X11_189 : mFld RX11 189 2 0 := ⟨RX2, TX2, 7, rfl, by decide, iw_X2, mTBL_of (tb_1 _ (List.mem_of_getElem? (i := 113) rfl)) rfl⟩
theorem f_X11_192 : mFld RX11 192 6 2 := ⟨RX6, TX6, 3, rfl, by decide, iw_X6, mTBL_of (tb_1 _ (List.mem_of_getElem? (i := 162) rfl)) rfl⟩
theorem f_X11_195 : mFld RX11 195 0 6 := ⟨RX0, TX0, 7, rfl, by decide, iw_X0, mTBL_of (tb_1 _ (List.mem_of_getElem? (i := 197) rfl)) rfl⟩
theorem f_X11_201 : mFld RX11 201 3 3 := ⟨RX3, TX3, 4, rfl, by decide, iw_X3, mTBL_of (tb_1 _ (List.mem_of_getElem? (i := 224) rfl)) rfl⟩
theorem f_X11_340 : mFld RX11 340 9 1 := ⟨RX9, TX9, 3, rfl, by decide, iw_X9, mTBL_of (tb_2 _ (List.mem_of_getElem? (i := 77) rfl)) rfl⟩
theorem f_X11_344 : mFld RX11 344 9 2 := ⟨RX9, TX9, 3, rfl, by decide, iw_X9, mTBL_of (tb_2 _ (List.mem_of_getElem? (i := 79) rfl)) rfl⟩
theorem f_X11_355 : mFld RX11 355 0 5 := ⟨RX0, TX0, 7, rfl, by decide, iw_X0, mTBL_of (tb_1 _ (List.mem_of_getElem? (i := 194) rfl)) rfl⟩
theorem f_X11_399 : mFld RX11 399 8 10 := ⟨RX8, TX8, 11, rfl, by decide, iw_X8, mTBL_of (tb_2 _ (List.mem_of_getElem? (i := 45) rfl)) rfl⟩
theorem f_X11_405 : mFld RX11 405 8 9 := ⟨RX8, TX8, 11, rfl, by decide, iw_X8, mTBL_of (tb_2 _ (List.mem_of_getElem? (i := 43) rfl)) rfl⟩
theorem f_X0_12 : mFld RX0 12 0 0 := ⟨RX0, TX0, 7, rfl, by decide, iw_X0, mTBL_of (tb_1 _ (List.mem_of_getElem? (i := 185) rfl)) rfl⟩
theorem f_X0_23 : mFld RX0 23 0 1 := ⟨RX0, TX0, 7, rfl, by decide, iw_X0, mTBL_of (tb_1 _ (List.mem_of_getElem? (i := 187) rfl)) rfl⟩
theorem f_X0_27 : mFld RX0 27 0 2 := ⟨RX0, TX0, 7, rfl, by decide, iw_X0, mTBL_of (tb_1 _ (List.mem_of_getElem? (i := 190) rfl)) rfl⟩
theorem f_X0_30 : mFld RX0 30 0 3 := ⟨RX0, TX0, 7, rfl, by decide, iw_X0, mTBL_of (tb_1 _ (List.mem_of_getElem? (i := 191) rfl)) rfl⟩
theorem f_X0_36 : mFld RX0 36 0 4 := ⟨RX0, TX0, 7, rfl, by decide, iw_X0, mTBL_of (tb_1 _ (List.mem_of_getElem? (i := 192) rfl)) rfl⟩
theorem f_X0_40 : mFld RX0 40 0 5 := ⟨RX0, TX0, 7, rfl, by decide, iw_X0, mTBL_of (tb_1 _ (List.mem_of_getElem? (i := 193) rfl)) rfl⟩
theorem f_X0_44 : mFld RX0 44 0 6 := ⟨RX0, TX0, 7, rfl, by decide, iw_X0, mTBL_of (tb_1 _ (List.mem_of_getElem? (i := 195) rfl)) rfl⟩
theorem p_X0_44 : mPut RX0 44 0 6 .int := ⟨RX0, TX0, 7, tyX0, rfl, by decide, iw_X0, mTBL_of (tb_1 _ (List.mem_of_getElem? (i := 195) rfl)) rfl, tyX0_ok, nmX0, rfl, rfl⟩
theorem f_X0_52 : mFld RX0 52 7 4 := ⟨RX7, TX7, 10, rfl, by decide, iw_X7, mTBL_of (tb_1 _ (List.mem_of_getElem? (i := 71) rfl)) rfl⟩
theorem f_X0_58 : mFld RX0 58 7 5 := ⟨RX7, TX7, 10, rfl, by decide, iw_X7, mTBL_of (tb_1 _ (List.mem_of_getElem? (i := 73) rfl)) rfl⟩
theorem f_X0_72 : mFld RX0 72 6 1 := ⟨RX6, TX6, 3, rfl, by decide, iw_X6, mTBL_of (tb_1 _ (List.mem_of_getElem? (i := 157) rfl)) rfl⟩
theorem f_X0_73 : mFld RX0 73 6 2 := ⟨RX6, TX6, 3, rfl, by decide, iw_X6, mTBL_of (tb_1 _ (List.mem_of_getElem? (i := 160) rfl)) rfl⟩
theorem f_X0_82 : mFld RX0 82 2 3 := ⟨RX2, TX2, 7, rfl, by decide, iw_X2, mTBL_of (tb_1 _ (List.mem_of_getElem? (i := 126) rfl)) rfl⟩
theorem f_X0_89 : mFld RX0 89 2 2 := ⟨RX2, TX2, 7, rfl, by decide, iw_X2, mTBL_of (tb_1 _ (List.mem_of_getElem? (i := 120) rfl)) rfl⟩
theorem f_X1_9 : mFld RX1 9 1 0 := ⟨RX1, TX1, 2, rfl, by decide, iw_X1, mTBL_of (tb_2 _ (List.mem_of_getElem? (i := 2) rfl)) rfl⟩
theorem f_X1_18 : mFld RX1 18 1 1 := ⟨RX1, TX1, 2, rfl, by decide, iw_X1, mTBL_of (tb_2 _ (List.mem_of_getElem? (i := 3) rfl)) rfl⟩
theorem f_X1_26 : mFld RX1 26 2 3 := ⟨RX2, TX2, 7, rfl, by decide, iw_X2, mTBL_of (tb_1 _ (List.mem_of_getElem? (i := 123) rfl)) rfl⟩
theorem f_X1_55 : mFld RX1 55 4 1 := ⟨RX4, TX4, 2, rfl, by decide, iw_X4, mTBL_of (tb_1 _ (List.mem_of_getElem? (i := 178) rfl)) rfl⟩
theorem f_X2_9 : mFld RX2 9 2 0 := ⟨RX2, TX2, 7, rfl, by decide, iw_X2, mTBL_of (tb_1 _ (List.mem_of_getElem? (i := 112) rfl)) rfl⟩
theorem p_X2_9 : mPut RX2 9 2 0 .int := ⟨RX2, TX2, 7, tyX2, rfl, by decide, iw_X2, mTBL_of (tb_1 _ (List.mem_of_getElem? (i := 112) rfl)) rfl, tyX2_ok, nmX2, rfl, rfl⟩
theorem f_X2_15 : mFld RX2 15 2 1 := ⟨RX2, TX2, 7, rfl, by decide, iw_X2, mTBL_of (tb_1 _ (List.mem_of_getElem? (i := 114) rfl)) rfl⟩
theorem p_X2_15 : mPut RX2 15 2 1 .int := ⟨RX2, TX2, 7, tyX2, rfl, by decide, iw_X2, mTBL_of (tb_1 _ (List.mem_of_getElem? (i := 114) rfl)) rfl, tyX2_ok, nmX2, rfl, rfl⟩
theorem f_X2_18 : mFld RX2 18 2 2 := ⟨RX2, TX2, 7, rfl, by decide, iw_X2, mTBL_of (tb_1 _ (List.mem_of_getElem? (i := 116) rfl)) rfl⟩
theorem p_X2_18 : mPut RX2 18 2 2 .long := ⟨RX2, TX2, 7, tyX2, rfl, by decide, iw_X2, mTBL_of (tb_1 _ (List.mem_of_getElem? (i := 116) rfl)) rfl, tyX2_ok, nmX2, rfl, rfl⟩
theorem f_X2_22 : mFld RX2 22 2 3 := ⟨RX2, TX2, 7, rfl, by decide, iw_X2, mTBL_of (tb_1 _ (List.mem_of_getElem? (i := 121) rfl)) rfl⟩
theorem p_X2_22 : mPut RX2 22 2 3 .long := ⟨RX2, TX2, 7, tyX2, rfl, by decide, iw_X2, mTBL_of (tb_1 _ (List.mem_of_getElem? (i := 121) rfl)) rfl, tyX2_ok, nmX2, rfl, rfl⟩
theorem f_X2_25 : mFld RX2 25 2 4 := ⟨RX2, TX2, 7, rfl, by decide, iw_X2, mTBL_of (tb_1 _ (List.mem_of_getElem? (i := 128) rfl)) rfl⟩
theorem p_X2_25 : mPut RX2 25 2 4 .long := ⟨RX2, TX2, 7, tyX2, rfl, by decide, iw_X2, mTBL_of (tb_1 _ (List.mem_of_getElem? (i := 128) rfl)) rfl, tyX2_ok, nmX2, rfl, rfl⟩
theorem f_X2_28 : mFld RX2 28 2 5 := ⟨RX2, TX2, 7, rfl, by decide, iw_X2, mTBL_of (tb_1 _ (List.mem_of_getElem? (i := 130) rfl)) rfl⟩
theorem p_X2_28 : mPut RX2 28 2 5 .long := ⟨RX2, TX2, 7, tyX2, rfl, by decide, iw_X2, mTBL_of (tb_1 _ (List.mem_of_getElem? (i := 130) rfl)) rfl, tyX2_ok, nmX2, rfl, rfl⟩
theorem f_X2_31 : mFld RX2 31 2 6 := ⟨RX2, TX2, 7, rfl, by decide, iw_X2, mTBL_of (tb_1 _ (List.mem_of_getElem? (i := 131) rfl)) rfl⟩
theorem p_X2_31 : mPut RX2 31 2 6 .long := ⟨RX2, TX2, 7, tyX2, rfl, by decide, iw_X2, mTBL_of (tb_1 _ (List.mem_of_getElem? (i := 131) rfl)) rfl, tyX2_ok, nmX2, rfl, rfl⟩
theorem f_X2_34 : mFld RX2 34 7 0 := ⟨RX7, TX7, 10, rfl, by decide, iw_X7, mTBL_of (tb_1 _ (List.mem_of_getElem? (i := 64) rfl)) rfl⟩
theorem f_X2_37 : mFld RX2 37 7 1 := ⟨RX7, TX7, 10, rfl, by decide, iw_X7, mTBL_of (tb_1 _ (List.mem_of_getElem? (i := 66) rfl)) rfl⟩
theorem f_X2_38 : mFld RX2 38 7 2 := ⟨RX7, TX7, 10, rfl, by decide, iw_X7, mTBL_of (tb_1 _ (List.mem_of_getElem? (i := 68) rfl)) rfl⟩
theorem f_X2_39 : mFld RX2 39 7 3 := ⟨RX7, TX7, 10, rfl, by decide, iw_X7, mTBL_of (tb_1 _ (List.mem_of_getElem? (i := 70) rfl)) rfl⟩
theorem f_X3_9 : mFld RX3 9 3 0 := ⟨RX3, TX3, 4, rfl, by decide, iw_X3, mTBL_of (tb_1 _ (List.mem_of_getElem? (i := 220) rfl)) rfl⟩
theorem f_X3_15 : mFld RX3 15 3 1 := ⟨RX3, TX3, 4, rfl, by decide, iw_X3, mTBL_of (tb_1 _ (List.mem_of_getElem? (i := 221) rfl)) rfl⟩
theorem f_X3_19 : mFld RX3 19 3 2 := ⟨RX3, TX3, 4, rfl, by decide, iw_X3, mTBL_of (tb_1 _ (List.mem_of_getElem? (i := 222) rfl)) rfl⟩
theorem f_X3_22 : mFld RX3 22 3 3 := ⟨RX3, TX3, 4, rfl, by decide, iw_X3, mTBL_of (tb_1 _ (List.mem_of_getElem? (i := 223) rfl)) rfl⟩
theorem p_X3_22 : mPut RX3 22 3 3 .int := ⟨RX3, TX3, 4, tyX3, rfl, by decide, iw_X3, mTBL_of (tb_1 _ (List.mem_of_getElem? (i := 223) rfl)) rfl, tyX3_ok, nmX3, rfl, rfl⟩
theorem f_X3_26 : mFld RX3 26 0 1 := ⟨RX0, TX0, 7, rfl, by decide, iw_X0, mTBL_of (tb_1 _ (List.mem_of_getElem? (i := 188) rfl)) rfl⟩
theorem f_X3_32 : mFld RX3 32 6 1 := ⟨RX6, TX6, 3, rfl, by decide, iw_X6, mTBL_of (tb_1 _ (List.mem_of_getElem? (i := 156) rfl)) rfl⟩
theorem f_X3_41 : mFld RX3 41 6 2 := ⟨RX6, TX6, 3, rfl, by decide, iw_X6, mTBL_of (tb_1 _ (List.mem_of_getElem? (i := 161) rfl)) rfl⟩
theorem f_X3_48 : mFld RX3 48 0 6 := ⟨RX0, TX0, 7, rfl, by decide, iw_X0, mTBL_of (tb_1 _ (List.mem_of_getElem? (i := 196) rfl)) rfl⟩
theorem f_X4_9 : mFld RX4 9 4 0 := ⟨RX4, TX4, 2, rfl, by decide, iw_X4, mTBL_of (tb_1 _ (List.mem_of_getElem? (i := 176) rfl)) rfl⟩
theorem f_X4_15 : mFld RX4 15 4 1 := ⟨RX4, TX4, 2, rfl, by decide, iw_X4, mTBL_of (tb_1 _ (List.mem_of_getElem? (i := 177) rfl)) rfl⟩
theorem p_X4_15 : mPut RX4 15 4 1 .int := ⟨RX4, TX4, 2, tyX4, rfl, by decide, iw_X4, mTBL_of (tb_1 _ (List.mem_of_getElem? (i := 177) rfl)) rfl, tyX4_ok, nmX4, rfl, rfl⟩
theorem f_X5_9 : mFld RX5 9 5 0 := ⟨RX5, TX5, 3, rfl, by decide, iw_X5, mTBL_of (tb_2 _ (List.mem_of_getElem? (i := 15) rfl)) rfl⟩
theorem f_X5_15 : mFld RX5 15 5 1 := ⟨RX5, TX5, 3, rfl, by decide, iw_X5, mTBL_of (tb_2 _ (List.mem_of_getElem? (i := 16) rfl)) rfl⟩
theorem f_X5_19 : mFld RX5 19 5 2 := ⟨RX5, TX5, 3, rfl, by decide, iw_X5, mTBL_of (tb_2 _ (List.mem_of_getElem? (i := 17) rfl)) rfl⟩
theorem f_X5_30 : mFld RX5 30 2 3 := ⟨RX2, TX2, 7, rfl, by decide, iw_X2, mTBL_of (tb_1 _ (List.mem_of_getElem? (i := 122) rfl)) rfl⟩
theorem f_X6_9 : mFld RX6 9 6 0 := ⟨RX6, TX6, 3, rfl, by decide, iw_X6, mTBL_of (tb_1 _ (List.mem_of_getElem? (i := 153) rfl)) rfl⟩
theorem f_X6_15 : mFld RX6 15 6 1 := ⟨RX6, TX6, 3, rfl, by decide, iw_X6, mTBL_of (tb_1 _ (List.mem_of_getElem? (i := 154) rfl)) rfl⟩
theorem p_X6_15 : mPut RX6 15 6 1 .long := ⟨RX6, TX6, 3, tyX6, rfl, by decide, iw_X6, mTBL_of (tb_1 _ (List.mem_of_getElem? (i := 154) rfl)) rfl, tyX6_ok, nmX6, rfl, rfl⟩
theorem f_X6_19 : mFld RX6 19 6 2 := ⟨RX6, TX6, 3, rfl, by decide, iw_X6, mTBL_of (tb_1 _ (List.mem_of_getElem? (i := 159) rfl)) rfl⟩
theorem p_X6_19 : mPut RX6 19 6 2 .int := ⟨RX6, TX6, 3, tyX6, rfl, by decide, iw_X6, mTBL_of (tb_1 _ (List.mem_of_getElem? (i := 159) rfl)) rfl, tyX6_ok, nmX6, rfl, rfl⟩
theorem f_X6_23 : mFld RX6 23 2 3 := ⟨RX2, TX2, 7, rfl, by decide, iw_X2, mTBL_of (tb_1 _ (List.mem_of_getElem? (i := 125) rfl)) rfl⟩
theorem f_X6_30 : mFld RX6 30 2 2 := ⟨RX2, TX2, 7, rfl, by decide, iw_X2, mTBL_of (tb_1 _ (List.mem_of_getElem? (i := 119) rfl)) rfl⟩
theorem f_X7_14 : mFld RX7 14 7 0 := ⟨RX7, TX7, 10, rfl, by decide, iw_X7, mTBL_of (tb_1 _ (List.mem_of_getElem? (i := 63) rfl)) rfl⟩
theorem p_X7_14 : mPut RX7 14 7 0 .int := ⟨RX7, TX7, 10, tyX7, rfl, by decide, iw_X7, mTBL_of (tb_1 _ (List.mem_of_getElem? (i := 63) rfl)) rfl, tyX7_ok, nmX7, rfl, rfl⟩
theorem f_X7_18 : mFld RX7 18 7 1 := ⟨RX7, TX7, 10, rfl, by decide, iw_X7, mTBL_of (tb_1 _ (List.mem_of_getElem? (i := 65) rfl)) rfl⟩
theorem p_X7_18 : mPut RX7 18 7 1 .int := ⟨RX7, TX7, 10, tyX7, rfl, by decide, iw_X7, mTBL_of (tb_1 _ (List.mem_of_getElem? (i := 65) rfl)) rfl, tyX7_ok, nmX7, rfl, rfl⟩
theorem f_X7_21 : mFld RX7 21 7 2 := ⟨RX7, TX7, 10, rfl, by decide, iw_X7, mTBL_of (tb_1 _ (List.mem_of_getElem? (i := 67) rfl)) rfl⟩
theorem p_X7_21 : mPut RX7 21 7 2 .long := ⟨RX7, TX7, 10, tyX7, rfl, by decide, iw_X7, mTBL_of (tb_1 _ (List.mem_of_getElem? (i := 67) rfl)) rfl, tyX7_ok, nmX7, rfl, rfl⟩
theorem f_X7_25 : mFld RX7 25 7 3 := ⟨RX7, TX7, 10, rfl, by decide, iw_X7, mTBL_of (tb_1 _ (List.mem_of_getElem? (i := 69) rfl)) rfl⟩
theorem p_X7_25 : mPut RX7 25 7 3 .long := ⟨RX7, TX7, 10, tyX7, rfl, by decide, iw_X7, mTBL_of (tb_1 _ (List.mem_of_getElem? (i := 69) rfl)) rfl, tyX7_ok, nmX7, rfl, rfl⟩
theorem f_X7_28 : mFld RX7 28 7 4 := ⟨RX7, TX7, 10, rfl, by decide, iw_X7, mTBL_of (tb_1 _ (List.mem_of_getElem? (i := 72) rfl)) rfl⟩
theorem p_X7_28 : mPut RX7 28 7 4 .long := ⟨RX7, TX7, 10, tyX7, rfl, by decide, iw_X7, mTBL_of (tb_1 _ (List.mem_of_getElem? (i := 72) rfl)) rfl, tyX7_ok, nmX7, rfl, rfl⟩
theorem f_X7_31 : mFld RX7 31 7 5 := ⟨RX7, TX7, 10, rfl, by decide, iw_X7, mTBL_of (tb_1 _ (List.mem_of_getElem? (i := 74) rfl)) rfl⟩
theorem p_X7_31 : mPut RX7 31 7 5 .int := ⟨RX7, TX7, 10, tyX7, rfl, by decide, iw_X7, mTBL_of (tb_1 _ (List.mem_of_getElem? (i := 74) rfl)) rfl, tyX7_ok, nmX7, rfl, rfl⟩
theorem f_X7_34 : mFld RX7 34 7 6 := ⟨RX7, TX7, 10, rfl, by decide, iw_X7, mTBL_of (tb_1 _ (List.mem_of_getElem? (i := 75) rfl)) rfl⟩
theorem p_X7_34 : mPut RX7 34 7 6 .int := ⟨RX7, TX7, 10, tyX7, rfl, by decide, iw_X7, mTBL_of (tb_1 _ (List.mem_of_getElem? (i := 75) rfl)) rfl, tyX7_ok, nmX7, rfl, rfl⟩
theorem f_X7_37 : mFld RX7 37 7 7 := ⟨RX7, TX7, 10, rfl, by decide, iw_X7, mTBL_of (tb_1 _ (List.mem_of_getElem? (i := 76) rfl)) rfl⟩
theorem p_X7_37 : mPut RX7 37 7 7 .int := ⟨RX7, TX7, 10, tyX7, rfl, by decide, iw_X7, mTBL_of (tb_1 _ (List.mem_of_getElem? (i := 76) rfl)) rfl, tyX7_ok, nmX7, rfl, rfl⟩
theorem f_X7_40 : mFld RX7 40 7 8 := ⟨RX7, TX7, 10, rfl, by decide, iw_X7, mTBL_of (tb_1 _ (List.mem_of_getElem? (i := 77) rfl)) rfl⟩
theorem p_X7_40 : mPut RX7 40 7 8 .int := ⟨RX7, TX7, 10, tyX7, rfl, by decide, iw_X7, mTBL_of (tb_1 _ (List.mem_of_getElem? (i := 77) rfl)) rfl, tyX7_ok, nmX7, rfl, rfl⟩
theorem f_X7_43 : mFld RX7 43 7 9 := ⟨RX7, TX7, 10, rfl, by decide, iw_X7, mTBL_of (tb_1 _ (List.mem_of_getElem? (i := 78) rfl)) rfl⟩
theorem p_X7_43 : mPut RX7 43 7 9 .int := ⟨RX7, TX7, 10, tyX7, rfl, by decide, iw_X7, mTBL_of (tb_1 _ (List.mem_of_getElem? (i := 78) rfl)) rfl, tyX7_ok, nmX7, rfl, rfl⟩
theorem f_X8_9 : mFld RX8 9 8 0 := ⟨RX8, TX8, 11, rfl, by decide, iw_X8, mTBL_of (tb_2 _ (List.mem_of_getElem? (i := 31) rfl)) rfl⟩
theorem f_X8_15 : mFld RX8 15 8 1 := ⟨RX8, TX8, 11, rfl, by decide, iw_X8, mTBL_of (tb_2 _ (List.mem_of_getElem? (i := 32) rfl)) rfl⟩
theorem f_X8_19 : mFld RX8 19 8 2 := ⟨RX8, TX8, 11, rfl, by decide, iw_X8, mTBL_of (tb_2 _ (List.mem_of_getElem? (i := 33) rfl)) rfl⟩
theorem f_X8_23 : mFld RX8 23 8 3 := ⟨RX8, TX8, 11, rfl, by decide, iw_X8, mTBL_of (tb_2 _ (List.mem_of_getElem? (i := 34) rfl)) rfl⟩
theorem f_X8_26 : mFld RX8 26 8 4 := ⟨RX8, TX8, 11, rfl, by decide, iw_X8, mTBL_of (tb_2 _ (List.mem_of_getElem? (i := 35) rfl)) rfl⟩
theorem f_X8_29 : mFld RX8 29 8 5 := ⟨RX8, TX8, 11, rfl, by decide, iw_X8, mTBL_of (tb_2 _ (List.mem_of_getElem? (i := 36) rfl)) rfl⟩
theorem f_X8_32 : mFld RX8 32 8 6 := ⟨RX8, TX8, 11, rfl, by decide, iw_X8, mTBL_of (tb_2 _ (List.mem_of_getElem? (i := 37) rfl)) rfl⟩
theorem p_X8_32 : mPut RX8 32 8 6 .int := ⟨RX8, TX8, 11, tyX8, rfl, by decide, iw_X8, mTBL_of (tb_2 _ (List.mem_of_getElem? (i := 37) rfl)) rfl, tyX8_ok, nmX8, rfl, rfl⟩
theorem f_X8_36 : mFld RX8 36 8 7 := ⟨RX8, TX8, 11, rfl, by decide, iw_X8, mTBL_of (tb_2 _ (List.mem_of_getElem? (i := 38) rfl)) rfl⟩
theorem p_X8_36 : mPut RX8 36 8 7 .boolean := ⟨RX8, TX8, 11, tyX8, rfl, by decide, iw_X8, mTBL_of (tb_2 _ (List.mem_of_getElem? (i := 38) rfl)) rfl, tyX8_ok, nmX8, rfl, rfl⟩
theorem f_X8_40 : mFld RX8 40 8 8 := ⟨RX8, TX8, 11, rfl, by decide, iw_X8, mTBL_of (tb_2 _ (List.mem_of_getElem? (i := 39) rfl)) rfl⟩
theorem p_X8_40 : mPut RX8 40 8 8 .int := ⟨RX8, TX8, 11, tyX8, rfl, by decide, iw_X8, mTBL_of (tb_2 _ (List.mem_of_getElem? (i := 39) rfl)) rfl, tyX8_ok, nmX8, rfl, rfl⟩
theorem f_X8_43 : mFld RX8 43 8 9 := ⟨RX8, TX8, 11, rfl, by decide, iw_X8, mTBL_of (tb_2 _ (List.mem_of_getElem? (i := 41) rfl)) rfl⟩
theorem p_X8_43 : mPut RX8 43 8 9 .int := ⟨RX8, TX8, 11, tyX8, rfl, by decide, iw_X8, mTBL_of (tb_2 _ (List.mem_of_getElem? (i := 41) rfl)) rfl, tyX8_ok, nmX8, rfl, rfl⟩
theorem f_X8_46 : mFld RX8 46 8 10 := ⟨RX8, TX8, 11, rfl, by decide, iw_X8, mTBL_of (tb_2 _ (List.mem_of_getElem? (i := 44) rfl)) rfl⟩
theorem p_X8_46 : mPut RX8 46 8 10 .boolean := ⟨RX8, TX8, 11, tyX8, rfl, by decide, iw_X8, mTBL_of (tb_2 _ (List.mem_of_getElem? (i := 44) rfl)) rfl, tyX8_ok, nmX8, rfl, rfl⟩
theorem f_X8_53 : mFld RX8 53 6 1 := ⟨RX6, TX6, 3, rfl, by decide, iw_X6, mTBL_of (tb_1 _ (List.mem_of_getElem? (i := 155) rfl)) rfl⟩
theorem f_X8_78 : mFld RX8 78 2 3 := ⟨RX2, TX2, 7, rfl, by decide, iw_X2, mTBL_of (tb_1 _ (List.mem_of_getElem? (i := 124) rfl)) rfl⟩
theorem f_X8_93 : mFld RX8 93 2 2 := ⟨RX2, TX2, 7, rfl, by decide, iw_X2, mTBL_of (tb_1 _ (List.mem_of_getElem? (i := 117) rfl)) rfl⟩
theorem f_X9_9 : mFld RX9 9 9 0 := ⟨RX9, TX9, 3, rfl, by decide, iw_X9, mTBL_of (tb_2 _ (List.mem_of_getElem? (i := 75) rfl)) rfl⟩
theorem f_X9_15 : mFld RX9 15 9 1 := ⟨RX9, TX9, 3, rfl, by decide, iw_X9, mTBL_of (tb_2 _ (List.mem_of_getElem? (i := 76) rfl)) rfl⟩
theorem p_X9_15 : mPut RX9 15 9 1 .int := ⟨RX9, TX9, 3, tyX9, rfl, by decide, iw_X9, mTBL_of (tb_2 _ (List.mem_of_getElem? (i := 76) rfl)) rfl, tyX9_ok, nmX9, rfl, rfl⟩
theorem f_X9_19 : mFld RX9 19 9 2 := ⟨RX9, TX9, 3, rfl, by decide, iw_X9, mTBL_of (tb_2 _ (List.mem_of_getElem? (i := 78) rfl)) rfl⟩
theorem p_X9_19 : mPut RX9 19 9 2 .int := ⟨RX9, TX9, 3, tyX9, rfl, by decide, iw_X9, mTBL_of (tb_2 _ (List.mem_of_getElem? (i := 78) rfl)) rfl, tyX9_ok, nmX9, rfl, rfl⟩
theorem f_X9_22 : mFld RX9 22 8 8 := ⟨RX8, TX8, 11, rfl, by decide, iw_X8, mTBL_of (tb_2 _ (List.mem_of_getElem? (i := 40) rfl)) rfl⟩
theorem f_X9_31 : mFld RX9 31 8 9 := ⟨RX8, TX8, 11, rfl, by decide, iw_X8, mTBL_of (tb_2 _ (List.mem_of_getElem? (i := 42) rfl)) rfl⟩
theorem f_X10_9 : mFld RX10 9 10 0 := ⟨RX10, TX10, 2, rfl, by decide, iw_X10, mTBL_of (tb_1 _ (List.mem_of_getElem? (i := 44) rfl)) rfl⟩
theorem f_X10_15 : mFld RX10 15 10 1 := ⟨RX10, TX10, 2, rfl, by decide, iw_X10, mTBL_of (tb_1 _ (List.mem_of_getElem? (i := 45) rfl)) rfl⟩
theorem p_X10_15 : mPut RX10 15 10 1 .int := ⟨RX10, TX10, 2, tyX10, rfl, by decide, iw_X10, mTBL_of (tb_1 _ (List.mem_of_getElem? (i := 45) rfl)) rfl, tyX10_ok, nmX10, rfl, rfl⟩
theorem f_X12_7 : mFld RX12 7 12 0 := ⟨RX12, TX12, 36, rfl, by decide, iw_X12, mTBL_of (tb_6 _ (List.mem_of_getElem? (i := 100) rfl)) rfl⟩
theorem f_X12_13 : mFld RX12 13 12 1 := ⟨RX12, TX12, 36, rfl, by decide, iw_X12, mTBL_of (tb_6 _ (List.mem_of_getElem? (i := 101) rfl)) rfl⟩
theorem f_X12_16 : mFld RX12 16 12 2 := ⟨RX12, TX12, 36, rfl, by decide, iw_X12, mTBL_of (tb_6 _ (List.mem_of_getElem? (i := 102) rfl)) rfl⟩
theorem f_X12_19 : mFld RX12 19 12 4 := ⟨RX12, TX12, 36, rfl, by decide, iw_X12, mTBL_of (tb_6 _ (List.mem_of_getElem? (i := 104) rfl)) rfl⟩
theorem f_X12_22 : mFld RX12 22 12 8 := ⟨RX12, TX12, 36, rfl, by decide, iw_X12, mTBL_of (tb_6 _ (List.mem_of_getElem? (i := 108) rfl)) rfl⟩
theorem p_X12_22 : mPut RX12 22 12 8 .int := ⟨RX12, TX12, 36, tyX12, rfl, by decide, iw_X12, mTBL_of (tb_6 _ (List.mem_of_getElem? (i := 108) rfl)) rfl, tyX12_ok, nmX12, rfl, rfl⟩
theorem f_X12_26 : mFld RX12 26 12 10 := ⟨RX12, TX12, 36, rfl, by decide, iw_X12, mTBL_of (tb_6 _ (List.mem_of_getElem? (i := 110) rfl)) rfl⟩
theorem f_X12_29 : mFld RX12 29 12 15 := ⟨RX12, TX12, 36, rfl, by decide, iw_X12, mTBL_of (tb_6 _ (List.mem_of_getElem? (i := 114) rfl)) rfl⟩
theorem f_X12_32 : mFld RX12 32 12 17 := ⟨RX12, TX12, 36, rfl, by decide, iw_X12, mTBL_of (tb_6 _ (List.mem_of_getElem? (i := 116) rfl)) rfl⟩
theorem f_X12_35 : mFld RX12 35 12 18 := ⟨RX12, TX12, 36, rfl, by decide, iw_X12, mTBL_of (tb_6 _ (List.mem_of_getElem? (i := 117) rfl)) rfl⟩
theorem f_X12_38 : mFld RX12 38 12 19 := ⟨RX12, TX12, 36, rfl, by decide, iw_X12, mTBL_of (tb_6 _ (List.mem_of_getElem? (i := 118) rfl)) rfl⟩
theorem f_X12_42 : mFld RX12 42 12 20 := ⟨RX12, TX12, 36, rfl, by decide, iw_X12, mTBL_of (tb_6 _ (List.mem_of_getElem? (i := 119) rfl)) rfl⟩
theorem f_X12_45 : mFld RX12 45 12 22 := ⟨RX12, TX12, 36, rfl, by decide, iw_X12, mTBL_of (tb_6 _ (List.mem_of_getElem? (i := 121) rfl)) rfl⟩
theorem f_X12_48 : mFld RX12 48 12 23 := ⟨RX12, TX12, 36, rfl, by decide, iw_X12, mTBL_of (tb_6 _ (List.mem_of_getElem? (i := 122) rfl)) rfl⟩
theorem f_X12_51 : mFld RX12 51 12 25 := ⟨RX12, TX12, 36, rfl, by decide, iw_X12, mTBL_of (tb_6 _ (List.mem_of_getElem? (i := 124) rfl)) rfl⟩
theorem f_X12_54 : mFld RX12 54 12 27 := ⟨RX12, TX12, 36, rfl, by decide, iw_X12, mTBL_of (tb_6 _ (List.mem_of_getElem? (i := 126) rfl)) rfl⟩
theorem f_X12_58 : mFld RX12 58 12 28 := ⟨RX12, TX12, 36, rfl, by decide, iw_X12, mTBL_of (tb_6 _ (List.mem_of_getElem? (i := 127) rfl)) rfl⟩
theorem f_X12_61 : mFld RX12 61 12 29 := ⟨RX12, TX12, 36, rfl, by decide, iw_X12, mTBL_of (tb_6 _ (List.mem_of_getElem? (i := 128) rfl)) rfl⟩
theorem f_X12_64 : mFld RX12 64 12 30 := ⟨RX12, TX12, 36, rfl, by decide, iw_X12, mTBL_of (tb_6 _ (List.mem_of_getElem? (i := 129) rfl)) rfl⟩
theorem f_X12_67 : mFld RX12 67 12 32 := ⟨RX12, TX12, 36, rfl, by decide, iw_X12, mTBL_of (tb_6 _ (List.mem_of_getElem? (i := 131) rfl)) rfl⟩
theorem f_X12_70 : mFld RX12 70 12 33 := ⟨RX12, TX12, 36, rfl, by decide, iw_X12, mTBL_of (tb_6 _ (List.mem_of_getElem? (i := 132) rfl)) rfl⟩
theorem p_X12_70 : mPut RX12 70 12 33 .int := ⟨RX12, TX12, 36, tyX12, rfl, by decide, iw_X12, mTBL_of (tb_6 _ (List.mem_of_getElem? (i := 132) rfl)) rfl, tyX12_ok, nmX12, rfl, rfl⟩
theorem f_X12_73 : mFld RX12 73 12 9 := ⟨RX12, TX12, 36, rfl, by decide, iw_X12, mTBL_of (tb_6 _ (List.mem_of_getElem? (i := 109) rfl)) rfl⟩
theorem p_X12_73 : mPut RX12 73 12 9 .int := ⟨RX12, TX12, 36, tyX12, rfl, by decide, iw_X12, mTBL_of (tb_6 _ (List.mem_of_getElem? (i := 109) rfl)) rfl, tyX12_ok, nmX12, rfl, rfl⟩
theorem f_X12_80 : mFld RX12 80 12 5 := ⟨RX12, TX12, 36, rfl, by decide, iw_X12, mTBL_of (tb_6 _ (List.mem_of_getElem? (i := 105) rfl)) rfl⟩
theorem p_X12_80 : mPut RX12 80 12 5 .int := ⟨RX12, TX12, 36, tyX12, rfl, by decide, iw_X12, mTBL_of (tb_6 _ (List.mem_of_getElem? (i := 105) rfl)) rfl, tyX12_ok, nmX12, rfl, rfl⟩
theorem f_X12_87 : mFld RX12 87 12 3 := ⟨RX12, TX12, 36, rfl, by decide, iw_X12, mTBL_of (tb_6 _ (List.mem_of_getElem? (i := 103) rfl)) rfl⟩
theorem p_X12_87 : mPut RX12 87 12 3 .boolean := ⟨RX12, TX12, 36, tyX12, rfl, by decide, iw_X12, mTBL_of (tb_6 _ (List.mem_of_getElem? (i := 103) rfl)) rfl, tyX12_ok, nmX12, rfl, rfl⟩
theorem f_X12_91 : mFld RX12 91 12 11 := ⟨RX12, TX12, 36, rfl, by decide, iw_X12, mTBL_of (tb_6 _ (List.mem_of_getElem? (i := 111) rfl)) rfl⟩
theorem p_X12_91 : mPut RX12 91 12 11 .int := ⟨RX12, TX12, 36, tyX12, rfl, by decide, iw_X12, mTBL_of (tb_6 _ (List.mem_of_getElem? (i := 111) rfl)) rfl, tyX12_ok, nmX12, rfl, rfl⟩
theorem f_X12_94 : mFld RX12 94 12 13 := ⟨RX12, TX12, 36, rfl, by decide, iw_X12, mTBL_of (tb_6 _ (List.mem_of_getElem? (i := 112) rfl)) rfl⟩
theorem p_X12_94 : mPut RX12 94 12 13 .int := ⟨RX12, TX12, 36, tyX12, rfl, by decide, iw_X12, mTBL_of (tb_6 _ (List.mem_of_getElem? (i := 112) rfl)) rfl, tyX12_ok, nmX12, rfl, rfl⟩
theorem f_X12_97 : mFld RX12 97 12 14 := ⟨RX12, TX12, 36, rfl, by decide, iw_X12, mTBL_of (tb_6 _ (List.mem_of_getElem? (i := 113) rfl)) rfl⟩
theorem p_X12_97 : mPut RX12 97 12 14 .int := ⟨RX12, TX12, 36, tyX12, rfl, by decide, iw_X12, mTBL_of (tb_6 _ (List.mem_of_getElem? (i := 113) rfl)) rfl, tyX12_ok, nmX12, rfl, rfl⟩
theorem f_X12_133 : mFld RX12 133 12 16 := ⟨RX12, TX12, 36, rfl, by decide, iw_X12, mTBL_of (tb_6 _ (List.mem_of_getElem? (i := 115) rfl)) rfl⟩
theorem p_X12_133 : mPut RX12 133 12 16 .int := ⟨RX12, TX12, 36, tyX12, rfl, by decide, iw_X12, mTBL_of (tb_6 _ (List.mem_of_getElem? (i := 115) rfl)) rfl, tyX12_ok, nmX12, rfl, rfl⟩
theorem f_X12_154 : mFld RX12 154 12 21 := ⟨RX12, TX12, 36, rfl, by decide, iw_X12, mTBL_of (tb_6 _ (List.mem_of_getElem? (i := 120) rfl)) rfl⟩
theorem p_X12_154 : mPut RX12 154 12 21 .int := ⟨RX12, TX12, 36, tyX12, rfl, by decide, iw_X12, mTBL_of (tb_6 _ (List.mem_of_getElem? (i := 120) rfl)) rfl, tyX12_ok, nmX12, rfl, rfl⟩
theorem f_X12_191 : mFld RX12 191 12 24 := ⟨RX12, TX12, 36, rfl, by decide, iw_X12, mTBL_of (tb_6 _ (List.mem_of_getElem? (i := 123) rfl)) rfl⟩
theorem p_X12_191 : mPut RX12 191 12 24 .int := ⟨RX12, TX12, 36, tyX12, rfl, by decide, iw_X12, mTBL_of (tb_6 _ (List.mem_of_getElem? (i := 123) rfl)) rfl, tyX12_ok, nmX12, rfl, rfl⟩
theorem f_X12_203 : mFld RX12 203 12 26 := ⟨RX12, TX12, 36, rfl, by decide, iw_X12, mTBL_of (tb_6 _ (List.mem_of_getElem? (i := 125) rfl)) rfl⟩
theorem p_X12_203 : mPut RX12 203 12 26 .int := ⟨RX12, TX12, 36, tyX12, rfl, by decide, iw_X12, mTBL_of (tb_6 _ (List.mem_of_getElem? (i := 125) rfl)) rfl, tyX12_ok, nmX12, rfl, rfl⟩
theorem f_X12_209 : mFld RX12 209 12 6 := ⟨RX12, TX12, 36, rfl, by decide, iw_X12, mTBL_of (tb_6 _ (List.mem_of_getElem? (i := 106) rfl)) rfl⟩
theorem p_X12_209 : mPut RX12 209 12 6 .int := ⟨RX12, TX12, 36, tyX12, rfl, by decide, iw_X12, mTBL_of (tb_6 _ (List.mem_of_getElem? (i := 106) rfl)) rfl, tyX12_ok, nmX12, rfl, rfl⟩
theorem f_X12_212 : mFld RX12 212 12 7 := ⟨RX12, TX12, 36, rfl, by decide, iw_X12, mTBL_of (tb_6 _ (List.mem_of_getElem? (i := 107) rfl)) rfl⟩
theorem p_X12_212 : mPut RX12 212 12 7 .int := ⟨RX12, TX12, 36, tyX12, rfl, by decide, iw_X12, mTBL_of (tb_6 _ (List.mem_of_getElem? (i := 107) rfl)) rfl, tyX12_ok, nmX12, rfl, rfl⟩
theorem f_X12_266 : mFld RX12 266 12 31 := ⟨RX12, TX12, 36, rfl, by decide, iw_X12, mTBL_of (tb_6 _ (List.mem_of_getElem? (i := 130) rfl)) rfl⟩
theorem p_X12_266 : mPut RX12 266 12 31 .int := ⟨RX12, TX12, 36, tyX12, rfl, by decide, iw_X12, mTBL_of (tb_6 _ (List.mem_of_getElem? (i := 130) rfl)) rfl, tyX12_ok, nmX12, rfl, rfl⟩
theorem f_X12_269 : mFld RX12 269 12 35 := ⟨RX12, TX12, 36, rfl, by decide, iw_X12, mTBL_of (tb_6 _ (List.mem_of_getElem? (i := 134) rfl)) rfl⟩
theorem p_X12_269 : mPut RX12 269 12 35 .int := ⟨RX12, TX12, 36, tyX12, rfl, by decide, iw_X12, mTBL_of (tb_6 _ (List.mem_of_getElem? (i := 134) rfl)) rfl, tyX12_ok, nmX12, rfl, rfl⟩
theorem f_X12_283 : mFld RX12 283 12 34 := ⟨RX12, TX12, 36, rfl, by decide, iw_X12, mTBL_of (tb_6 _ (List.mem_of_getElem? (i := 133) rfl)) rfl⟩
theorem p_X12_283 : mPut RX12 283 12 34 .int := ⟨RX12, TX12, 36, tyX12, rfl, by decide, iw_X12, mTBL_of (tb_6 _ (List.mem_of_getElem? (i := 133) rfl)) rfl, tyX12_ok, nmX12, rfl, rfl⟩
theorem o_J0_charAt_5068e : mOkV M_J0_charAt_5068e 1 := ⟨⟨mTBL_of (tb_6 _ (List.mem_of_getElem? (i := 24) rfl)) rfl, in_J0, ⟨by decide, by decide⟩, by decide +kernel⟩, mTBL_of (tb_6 _ (List.mem_of_getElem? (i := 22) rfl)) rfl, mTBL_of (tb_6 _ (List.mem_of_getElem? (i := 23) rfl)) rfl⟩
theorem o_J0_checkIndex_df160 : mOkS M_J0_checkIndex_df160 2 := ⟨⟨mTBL_of (tb_6 _ (List.mem_of_getElem? (i := 30) rfl)) rfl, in_J0, ⟨by decide, by decide⟩, by decide +kernel⟩, mTBL_of (tb_6 _ (List.mem_of_getElem? (i := 29) rfl)) rfl⟩
theorem o_J0_coder_7d493 : mOkV M_J0_coder_7d493 0 := ⟨⟨mTBL_of (tb_3 _ (List.mem_of_getElem? (i := 34) rfl)) rfl, in_J0, ⟨by decide, by decide⟩, by decide +kernel⟩, mTBL_of (tb_3 _ (List.mem_of_getElem? (i := 32) rfl)) rfl, mTBL_of (tb_3 _ (List.mem_of_getElem? (i := 33) rfl)) rfl⟩
theorem o_J0_indexOf_0f7a4 : mOkV M_J0_indexOf_0f7a4 1 := ⟨⟨mTBL_of (tb_3 _ (List.mem_of_getElem? (i := 16) rfl)) rfl, in_J0, ⟨by decide, by decide⟩, by decide +kernel⟩, mTBL_of (tb_3 _ (List.mem_of_getElem? (i := 14) rfl)) rfl, mTBL_of (tb_3 _ (List.mem_of_getElem? (i := 15) rfl)) rfl⟩
theorem o_J0_indexOf_7cf53 : mOkV M_J0_indexOf_7cf53 2 := ⟨⟨mTBL_of (tb_3 _ (List.mem_of_getElem? (i := 20) rfl)) rfl, in_J0, ⟨by decide, by decide⟩, by decide +kernel⟩, mTBL_of (tb_3 _ (List.mem_of_getElem? (i := 18) rfl)) rfl, mTBL_of (tb_3 _ (List.mem_of_getElem? (i := 19) rfl)) rfl⟩
theorem o_J0_isLatin1_aae02 : mOkV M_J0_isLatin1_aae02 0 := ⟨⟨mTBL_of (tb_3 _ (List.mem_of_getElem? (i := 24) rfl)) rfl, in_J0, ⟨by decide, by decide⟩, by decide +kernel⟩, mTBL_of (tb_3 _ (List.mem_of_getElem? (i := 22) rfl)) rfl, mTBL_of (tb_3 _ (List.mem_of_getElem? (i := 23) rfl)) rfl⟩
theorem o_J0_length_8abf5 : mOkV M_J0_length_8abf5 0 := ⟨⟨mTBL_of (tb_3 _ (List.mem_of_getElem? (i := 30) rfl)) rfl, in_J0, ⟨by decide, by decide⟩, by decide +kernel⟩, mTBL_of (tb_3 _ (List.mem_of_getElem? (i := 28) rfl)) rfl, mTBL_of (tb_3 _ (List.mem_of_getElem? (i := 29) rfl)) rfl⟩
theorem o_J13_bitCount_95d88 : mOkS M_J13_bitCount_95d88 1 := ⟨⟨mTBL_of (tb_3 _ (List.mem_of_getElem? (i := 160) rfl)) rfl, in_J13, ⟨by decide, by decide⟩, by decide +kernel⟩, mTBL_of (tb_3 _ (List.mem_of_getElem? (i := 159) rfl)) rfl⟩
theorem o_J1_canEncode_9a6ad : mOkS M_J1_canEncode_9a6ad 1 := ⟨⟨mTBL_of (tb_3 _ (List.mem_of_getElem? (i := 40) rfl)) rfl, in_J1, ⟨by decide, by decide⟩, by decide +kernel⟩, mTBL_of (tb_3 _ (List.mem_of_getElem? (i := 39) rfl)) rfl⟩
theorem o_J1_charAt_3b067 : mOkS M_J1_charAt_3b067 2 := ⟨⟨mTBL_of (tb_6 _ (List.mem_of_getElem? (i := 27) rfl)) rfl, in_J1, ⟨by decide, by decide⟩, by decide +kernel⟩, mTBL_of (tb_6 _ (List.mem_of_getElem? (i := 26) rfl)) rfl⟩
theorem o_J1_indexOfChar_4cfef : mOkS M_J1_indexOfChar_4cfef 4 := ⟨⟨mTBL_of (tb_3 _ (List.mem_of_getElem? (i := 49) rfl)) rfl, in_J1, ⟨by decide, by decide⟩, by decide +kernel⟩, mTBL_of (tb_3 _ (List.mem_of_getElem? (i := 48) rfl)) rfl⟩
theorem o_J1_indexOf_4cfef : mOkS M_J1_indexOf_4cfef 4 := ⟨⟨mTBL_of (tb_3 _ (List.mem_of_getElem? (i := 37) rfl)) rfl, in_J1, ⟨by decide, by decide⟩, by decide +kernel⟩, mTBL_of (tb_3 _ (List.mem_of_getElem? (i := 36) rfl)) rfl⟩
theorem o_L_bound : mOkH M_L_bound 2 := ⟨mTBL_of (tb_4 _ (List.mem_of_getElem? (i := 88) rfl)) rfl, in_L, ⟨by decide, by decide⟩, by decide +kernel, mTBL_of (tb_4 _ (List.mem_of_getElem? (i := 87) rfl)) rfl⟩
theorem o_L_cell : mOkH M_L_cell 4 := ⟨mTBL_of (tb_3 _ (List.mem_of_getElem? (i := 166) rfl)) rfl, in_L, ⟨by decide, by decide⟩, by decide +kernel, mTBL_of (tb_3 _ (List.mem_of_getElem? (i := 165) rfl)) rfl⟩
theorem o_L_cells : mOkH M_L_cells 3 := ⟨mTBL_of (tb_3 _ (List.mem_of_getElem? (i := 211) rfl)) rfl, in_L, ⟨by decide, by decide⟩, by decide +kernel, mTBL_of (tb_3 _ (List.mem_of_getElem? (i := 210) rfl)) rfl⟩
theorem o_L_count : mOkH M_L_count 3 := ⟨mTBL_of (tb_4 _ (List.mem_of_getElem? (i := 9) rfl)) rfl, in_L, ⟨by decide, by decide⟩, by decide +kernel, mTBL_of (tb_4 _ (List.mem_of_getElem? (i := 8) rfl)) rfl⟩
theorem o_L_distance : mOkH M_L_distance 4 := ⟨mTBL_of (tb_4 _ (List.mem_of_getElem? (i := 53) rfl)) rfl, in_L, ⟨by decide, by decide⟩, by decide +kernel, mTBL_of (tb_4 _ (List.mem_of_getElem? (i := 52) rfl)) rfl⟩
theorem o_L_feed : mOkH M_L_feed 3 := ⟨mTBL_of (tb_2 _ (List.mem_of_getElem? (i := 126) rfl)) rfl, in_L, ⟨by decide, by decide⟩, by decide +kernel, mTBL_of (tb_2 _ (List.mem_of_getElem? (i := 125) rfl)) rfl⟩
theorem o_L_finish : mOkH M_L_finish 3 := ⟨mTBL_of (tb_6 _ (List.mem_of_getElem? (i := 3) rfl)) rfl, in_L, ⟨by decide, by decide⟩, by decide +kernel, mTBL_of (tb_6 _ (List.mem_of_getElem? (i := 2) rfl)) rfl⟩
theorem o_L_goalRoom : mOkH M_L_goalRoom 4 := ⟨mTBL_of (tb_4 _ (List.mem_of_getElem? (i := 144) rfl)) rfl, in_L, ⟨by decide, by decide⟩, by decide +kernel, mTBL_of (tb_4 _ (List.mem_of_getElem? (i := 143) rfl)) rfl⟩
theorem o_L_isReplayed : mOkH M_L_isReplayed 2 := ⟨mTBL_of (tb_6 _ (List.mem_of_getElem? (i := 43) rfl)) rfl, in_L, ⟨by decide, by decide⟩, by decide +kernel, mTBL_of (tb_6 _ (List.mem_of_getElem? (i := 42) rfl)) rfl⟩
theorem o_L_longPush : mOkH M_L_longPush 4 := ⟨mTBL_of (tb_5 _ (List.mem_of_getElem? (i := 81) rfl)) rfl, in_L, ⟨by decide, by decide⟩, by decide +kernel, mTBL_of (tb_5 _ (List.mem_of_getElem? (i := 80) rfl)) rfl⟩
theorem o_L_play : mOkH M_L_play 2 := ⟨mTBL_of (tb_5 _ (List.mem_of_getElem? (i := 100) rfl)) rfl, in_L, ⟨by decide, by decide⟩, by decide +kernel, mTBL_of (tb_5 _ (List.mem_of_getElem? (i := 99) rfl)) rfl⟩
theorem o_L_push : mOkH M_L_push 4 := ⟨mTBL_of (tb_5 _ (List.mem_of_getElem? (i := 15) rfl)) rfl, in_L, ⟨by decide, by decide⟩, by decide +kernel, mTBL_of (tb_5 _ (List.mem_of_getElem? (i := 14) rfl)) rfl⟩
theorem o_L_readRoom : mOkH M_L_readRoom 2 := ⟨mTBL_of (tb_2 _ (List.mem_of_getElem? (i := 226) rfl)) rfl, in_L, ⟨by decide, by decide⟩, by decide +kernel, mTBL_of (tb_2 _ (List.mem_of_getElem? (i := 225) rfl)) rfl⟩
theorem o_L_recorded : mOkH M_L_recorded 3 := ⟨mTBL_of (tb_6 _ (List.mem_of_getElem? (i := 10) rfl)) rfl, in_L, ⟨by decide, by decide⟩, by decide +kernel, mTBL_of (tb_6 _ (List.mem_of_getElem? (i := 9) rfl)) rfl⟩
theorem o_L_refusal : mOkH M_L_refusal 3 := ⟨mTBL_of (tb_5 _ (List.mem_of_getElem? (i := 147) rfl)) rfl, in_L, ⟨by decide, by decide⟩, by decide +kernel, mTBL_of (tb_5 _ (List.mem_of_getElem? (i := 146) rfl)) rfl⟩
theorem o_L_refused : mOkH M_L_refused 2 := ⟨mTBL_of (tb_5 _ (List.mem_of_getElem? (i := 139) rfl)) rfl, in_L, ⟨by decide, by decide⟩, by decide +kernel, mTBL_of (tb_5 _ (List.mem_of_getElem? (i := 138) rfl)) rfl⟩
theorem o_L_refuses : mOkH M_L_refuses 4 := ⟨mTBL_of (tb_5 _ (List.mem_of_getElem? (i := 155) rfl)) rfl, in_L, ⟨by decide, by decide⟩, by decide +kernel, mTBL_of (tb_5 _ (List.mem_of_getElem? (i := 154) rfl)) rfl⟩
theorem o_L_restoreSnapshot : mOkH M_L_restoreSnapshot 2 := ⟨mTBL_of (tb_6 _ (List.mem_of_getElem? (i := 88) rfl)) rfl, in_L, ⟨by decide, by decide⟩, by decide +kernel, mTBL_of (tb_6 _ (List.mem_of_getElem? (i := 87) rfl)) rfl⟩
theorem o_L_saveSnapshot : mOkH M_L_saveSnapshot 2 := ⟨mTBL_of (tb_6 _ (List.mem_of_getElem? (i := 73) rfl)) rfl, in_L, ⟨by decide, by decide⟩, by decide +kernel, mTBL_of (tb_6 _ (List.mem_of_getElem? (i := 72) rfl)) rfl⟩
theorem o_L_solution : mOkH M_L_solution 4 := ⟨mTBL_of (tb_5 _ (List.mem_of_getElem? (i := 226) rfl)) rfl, in_L, ⟨by decide, by decide⟩, by decide +kernel, mTBL_of (tb_5 _ (List.mem_of_getElem? (i := 225) rfl)) rfl⟩
theorem o_L_solve : mOkH M_L_solve 4 := ⟨mTBL_of (tb_5 _ (List.mem_of_getElem? (i := 162) rfl)) rfl, in_L, ⟨by decide, by decide⟩, by decide +kernel, mTBL_of (tb_5 _ (List.mem_of_getElem? (i := 161) rfl)) rfl⟩
theorem o_L_step : mOkH M_L_step 3 := ⟨mTBL_of (tb_4 _ (List.mem_of_getElem? (i := 176) rfl)) rfl, in_L, ⟨by decide, by decide⟩, by decide +kernel, mTBL_of (tb_4 _ (List.mem_of_getElem? (i := 175) rfl)) rfl⟩
theorem o_L_stuck : mOkH M_L_stuck 3 := ⟨mTBL_of (tb_4 _ (List.mem_of_getElem? (i := 124) rfl)) rfl, in_L, ⟨by decide, by decide⟩, by decide +kernel, mTBL_of (tb_4 _ (List.mem_of_getElem? (i := 123) rfl)) rfl⟩
theorem o_L_undo : mOkH M_L_undo 2 := ⟨mTBL_of (tb_6 _ (List.mem_of_getElem? (i := 60) rfl)) rfl, in_L, ⟨by decide, by decide⟩, by decide +kernel, mTBL_of (tb_6 _ (List.mem_of_getElem? (i := 59) rfl)) rfl⟩
theorem o_X0_begin : mOkV M_X0_begin 1 := ⟨⟨mTBL_of (tb_3 _ (List.mem_of_getElem? (i := 128) rfl)) rfl, in_X0, ⟨by decide, by decide⟩, by decide +kernel⟩, mTBL_of (tb_3 _ (List.mem_of_getElem? (i := 126) rfl)) rfl, mTBL_of (tb_3 _ (List.mem_of_getElem? (i := 127) rfl)) rfl⟩
theorem o_X0_comesOutAgain : mOkV M_X0_comesOutAgain 0 := ⟨⟨mTBL_of (tb_6 _ (List.mem_of_getElem? (i := 51) rfl)) rfl, in_X0, ⟨by decide, by decide⟩, by decide +kernel⟩, mTBL_of (tb_6 _ (List.mem_of_getElem? (i := 49) rfl)) rfl, mTBL_of (tb_6 _ (List.mem_of_getElem? (i := 50) rfl)) rfl⟩
theorem o_X0_copy : mOkV M_X0_copy 1 := ⟨⟨mTBL_of (tb_6 _ (List.mem_of_getElem? (i := 81) rfl)) rfl, in_X0, ⟨by decide, by decide⟩, by decide +kernel⟩, mTBL_of (tb_6 _ (List.mem_of_getElem? (i := 79) rfl)) rfl, mTBL_of (tb_6 _ (List.mem_of_getElem? (i := 80) rfl)) rfl⟩
theorem o_X0_directionInto : mOkV M_X0_directionInto 1 := ⟨⟨mTBL_of (tb_5 _ (List.mem_of_getElem? (i := 65) rfl)) rfl, in_X0, ⟨by decide, by decide⟩, by decide +kernel⟩, mTBL_of (tb_5 _ (List.mem_of_getElem? (i := 64) rfl)) rfl, mTBL_of (List.mem_append_left _ (List.mem_of_getElem? (i := 17) rfl)) rfl⟩
theorem o_X0_makeStep : mOkV M_X0_makeStep 1 := ⟨⟨mTBL_of (tb_4 _ (List.mem_of_getElem? (i := 234) rfl)) rfl, in_X0, ⟨by decide, by decide⟩, by decide +kernel⟩, mTBL_of (tb_4 _ (List.mem_of_getElem? (i := 232) rfl)) rfl, mTBL_of (tb_4 _ (List.mem_of_getElem? (i := 233) rfl)) rfl⟩
theorem o_X0_pushBox : mOkV M_X0_pushBox 2 := ⟨⟨mTBL_of (tb_5 _ (List.mem_of_getElem? (i := 47) rfl)) rfl, in_X0, ⟨by decide, by decide⟩, by decide +kernel⟩, mTBL_of (tb_5 _ (List.mem_of_getElem? (i := 45) rfl)) rfl, mTBL_of (tb_5 _ (List.mem_of_getElem? (i := 46) rfl)) rfl⟩
theorem o_X0_pushBoxOn : mOkV M_X0_pushBoxOn 2 := ⟨⟨mTBL_of (tb_5 _ (List.mem_of_getElem? (i := 89) rfl)) rfl, in_X0, ⟨by decide, by decide⟩, by decide +kernel⟩, mTBL_of (tb_5 _ (List.mem_of_getElem? (i := 87) rfl)) rfl, mTBL_of (tb_5 _ (List.mem_of_getElem? (i := 88) rfl)) rfl⟩
theorem o_X0_pushes : mOkV M_X0_pushes 0 := ⟨⟨mTBL_of (tb_4 _ (List.mem_of_getElem? (i := 17) rfl)) rfl, in_X0, ⟨by decide, by decide⟩, by decide +kernel⟩, mTBL_of (tb_4 _ (List.mem_of_getElem? (i := 15) rfl)) rfl, mTBL_of (tb_4 _ (List.mem_of_getElem? (i := 16) rfl)) rfl⟩
theorem o_X0_returnTo : mOkV M_X0_returnTo 3 := ⟨⟨mTBL_of (tb_3 _ (List.mem_of_getElem? (i := 153) rfl)) rfl, in_X0, ⟨by decide, by decide⟩, by decide +kernel⟩, mTBL_of (tb_3 _ (List.mem_of_getElem? (i := 151) rfl)) rfl, mTBL_of (tb_3 _ (List.mem_of_getElem? (i := 152) rfl)) rfl⟩
theorem o_X0_signOf : mOkV M_X0_signOf 1 := ⟨⟨mTBL_of (tb_3 _ (List.mem_of_getElem? (i := 204) rfl)) rfl, in_X0, ⟨by decide, by decide⟩, by decide +kernel⟩, mTBL_of (tb_3 _ (List.mem_of_getElem? (i := 202) rfl)) rfl, mTBL_of (tb_3 _ (List.mem_of_getElem? (i := 203) rfl)) rfl⟩
theorem o_X0_walkTo : mOkV M_X0_walkTo 1 := ⟨⟨mTBL_of (tb_5 _ (List.mem_of_getElem? (i := 52) rfl)) rfl, in_X0, ⟨by decide, by decide⟩, by decide +kernel⟩, mTBL_of (tb_5 _ (List.mem_of_getElem? (i := 51) rfl)) rfl, mTBL_of (List.mem_append_left _ (List.mem_of_getElem? (i := 16) rfl)) rfl⟩
theorem o_X10_add : mOkV M_X10_add 1 := ⟨⟨mTBL_of (tb_2 _ (List.mem_of_getElem? (i := 223) rfl)) rfl, in_X10, ⟨by decide, by decide⟩, by decide +kernel⟩, mTBL_of (tb_2 _ (List.mem_of_getElem? (i := 221) rfl)) rfl, mTBL_of (tb_2 _ (List.mem_of_getElem? (i := 222) rfl)) rfl⟩
theorem o_X10_at : mOkV M_X10_at 1 := ⟨⟨mTBL_of (tb_3 _ (List.mem_of_getElem? (i := 3) rfl)) rfl, in_X10, ⟨by decide, by decide⟩, by decide +kernel⟩, mTBL_of (tb_3 _ (List.mem_of_getElem? (i := 1) rfl)) rfl, mTBL_of (tb_3 _ (List.mem_of_getElem? (i := 2) rfl)) rfl⟩
theorem o_X10_faultAsSteps : mOkV M_X10_faultAsSteps 1 := ⟨⟨mTBL_of (tb_5 _ (List.mem_of_getElem? (i := 108) rfl)) rfl, in_X10, ⟨by decide, by decide⟩, by decide +kernel⟩, mTBL_of (tb_5 _ (List.mem_of_getElem? (i := 106) rfl)) rfl, mTBL_of (tb_5 _ (List.mem_of_getElem? (i := 107) rfl)) rfl⟩
theorem o_X10_isDigit : mOkS M_X10_isDigit 2 := ⟨⟨mTBL_of (tb_5 _ (List.mem_of_getElem? (i := 114) rfl)) rfl, in_X10, ⟨by decide, by decide⟩, by decide +kernel⟩, mTBL_of (tb_5 _ (List.mem_of_getElem? (i := 113) rfl)) rfl⟩
theorem o_X10_take : mOkV M_X10_take 0 := ⟨⟨mTBL_of (tb_2 _ (List.mem_of_getElem? (i := 235) rfl)) rfl, in_X10, ⟨by decide, by decide⟩, by decide +kernel⟩, mTBL_of (tb_2 _ (List.mem_of_getElem? (i := 233) rfl)) rfl, mTBL_of (tb_2 _ (List.mem_of_getElem? (i := 234) rfl)) rfl⟩
theorem o_X11_bit : mOkS M_X11_bit 1 := ⟨⟨mTBL_of (tb_3 _ (List.mem_of_getElem? (i := 101) rfl)) rfl, in_X11, ⟨by decide, by decide⟩, by decide +kernel⟩, mTBL_of (tb_3 _ (List.mem_of_getElem? (i := 100) rfl)) rfl⟩
theorem o_X11_bound : mOkV M_X11_bound 0 := ⟨⟨mTBL_of (tb_4 _ (List.mem_of_getElem? (i := 92) rfl)) rfl, in_X11, ⟨by decide, by decide⟩, by decide +kernel⟩, mTBL_of (tb_4 _ (List.mem_of_getElem? (i := 90) rfl)) rfl, mTBL_of (tb_4 _ (List.mem_of_getElem? (i := 91) rfl)) rfl⟩
theorem o_X11_cell : mOkV M_X11_cell 2 := ⟨⟨mTBL_of (tb_3 _ (List.mem_of_getElem? (i := 171) rfl)) rfl, in_X11, ⟨by decide, by decide⟩, by decide +kernel⟩, mTBL_of (tb_3 _ (List.mem_of_getElem? (i := 169) rfl)) rfl, mTBL_of (tb_3 _ (List.mem_of_getElem? (i := 170) rfl)) rfl⟩
theorem o_X11_cells : mOkV M_X11_cells 1 := ⟨⟨mTBL_of (tb_3 _ (List.mem_of_getElem? (i := 215) rfl)) rfl, in_X11, ⟨by decide, by decide⟩, by decide +kernel⟩, mTBL_of (tb_3 _ (List.mem_of_getElem? (i := 213) rfl)) rfl, mTBL_of (tb_3 _ (List.mem_of_getElem? (i := 214) rfl)) rfl⟩
theorem o_X11_codeOf : mOkS M_X11_codeOf 2 := ⟨⟨mTBL_of (tb_5 _ (List.mem_of_getElem? (i := 1) rfl)) rfl, in_X11, ⟨by decide, by decide⟩, by decide +kernel⟩, mTBL_of (tb_5 _ (List.mem_of_getElem? (i := 0) rfl)) rfl⟩
theorem o_X11_commitOrThrow : mOkV M_X11_commitOrThrow 0 := ⟨⟨mTBL_of (tb_5 _ (List.mem_of_getElem? (i := 72) rfl)) rfl, in_X11, ⟨by decide, by decide⟩, by decide +kernel⟩, mTBL_of (tb_5 _ (List.mem_of_getElem? (i := 71) rfl)) rfl, mTBL_of (List.mem_append_left _ (List.mem_of_getElem? (i := 18) rfl)) rfl⟩
theorem o_X11_count : mOkV M_X11_count 1 := ⟨⟨mTBL_of (tb_4 _ (List.mem_of_getElem? (i := 13) rfl)) rfl, in_X11, ⟨by decide, by decide⟩, by decide +kernel⟩, mTBL_of (tb_4 _ (List.mem_of_getElem? (i := 11) rfl)) rfl, mTBL_of (tb_4 _ (List.mem_of_getElem? (i := 12) rfl)) rfl⟩
theorem o_X11_directionOf : mOkS M_X11_directionOf 1 := ⟨⟨mTBL_of (tb_5 _ (List.mem_of_getElem? (i := 129) rfl)) rfl, in_X11, ⟨by decide, by decide⟩, by decide +kernel⟩, mTBL_of (tb_5 _ (List.mem_of_getElem? (i := 128) rfl)) rfl⟩
theorem o_X11_distance : mOkV M_X11_distance 2 := ⟨⟨mTBL_of (tb_4 _ (List.mem_of_getElem? (i := 58) rfl)) rfl, in_X11, ⟨by decide, by decide⟩, by decide +kernel⟩, mTBL_of (tb_4 _ (List.mem_of_getElem? (i := 56) rfl)) rfl, mTBL_of (tb_4 _ (List.mem_of_getElem? (i := 57) rfl)) rfl⟩
theorem o_X11_feed : mOkV M_X11_feed 1 := ⟨⟨mTBL_of (tb_2 _ (List.mem_of_getElem? (i := 132) rfl)) rfl, in_X11, ⟨by decide, by decide⟩, by decide +kernel⟩, mTBL_of (tb_2 _ (List.mem_of_getElem? (i := 130) rfl)) rfl, mTBL_of (tb_2 _ (List.mem_of_getElem? (i := 131) rfl)) rfl⟩
theorem o_X11_finish : mOkV M_X11_finish 1 := ⟨⟨mTBL_of (tb_6 _ (List.mem_of_getElem? (i := 7) rfl)) rfl, in_X11, ⟨by decide, by decide⟩, by decide +kernel⟩, mTBL_of (tb_6 _ (List.mem_of_getElem? (i := 5) rfl)) rfl, mTBL_of (tb_6 _ (List.mem_of_getElem? (i := 6) rfl)) rfl⟩
theorem o_X11_goalRoom : mOkV M_X11_goalRoom 2 := ⟨⟨mTBL_of (tb_4 _ (List.mem_of_getElem? (i := 148) rfl)) rfl, in_X11, ⟨by decide, by decide⟩, by decide +kernel⟩, mTBL_of (tb_4 _ (List.mem_of_getElem? (i := 146) rfl)) rfl, mTBL_of (tb_4 _ (List.mem_of_getElem? (i := 147) rfl)) rfl⟩
theorem o_X11_has : mOkS M_X11_has 2 := ⟨⟨mTBL_of (tb_3 _ (List.mem_of_getElem? (i := 207) rfl)) rfl, in_X11, ⟨by decide, by decide⟩, by decide +kernel⟩, mTBL_of (tb_3 _ (List.mem_of_getElem? (i := 206) rfl)) rfl⟩
theorem o_X11_intAt : mOkS M_X11_intAt 2 := ⟨⟨mTBL_of (tb_4 _ (List.mem_of_getElem? (i := 20) rfl)) rfl, in_X11, ⟨by decide, by decide⟩, by decide +kernel⟩, mTBL_of (tb_4 _ (List.mem_of_getElem? (i := 19) rfl)) rfl⟩
theorem o_X11_isPushCode : mOkS M_X11_isPushCode 1 := ⟨⟨mTBL_of (tb_4 _ (List.mem_of_getElem? (i := 23) rfl)) rfl, in_X11, ⟨by decide, by decide⟩, by decide +kernel⟩, mTBL_of (tb_4 _ (List.mem_of_getElem? (i := 22) rfl)) rfl⟩
theorem o_X11_isReplayed : mOkV M_X11_isReplayed 0 := ⟨⟨mTBL_of (tb_6 _ (List.mem_of_getElem? (i := 47) rfl)) rfl, in_X11, ⟨by decide, by decide⟩, by decide +kernel⟩, mTBL_of (tb_6 _ (List.mem_of_getElem? (i := 45) rfl)) rfl, mTBL_of (tb_6 _ (List.mem_of_getElem? (i := 46) rfl)) rfl⟩
theorem o_X11_keepRefusal : mOkV M_X11_keepRefusal 2 := ⟨⟨mTBL_of (tb_4 _ (List.mem_of_getElem? (i := 208) rfl)) rfl, in_X11, ⟨by decide, by decide⟩, by decide +kernel⟩, mTBL_of (tb_4 _ (List.mem_of_getElem? (i := 207) rfl)) rfl, mTBL_of (List.mem_append_left _ (List.mem_of_getElem? (i := 12) rfl)) rfl⟩
theorem o_X11_letterOf : mOkS M_X11_letterOf 1 := ⟨⟨mTBL_of (tb_6 _ (List.mem_of_getElem? (i := 19) rfl)) rfl, in_X11, ⟨by decide, by decide⟩, by decide +kernel⟩, mTBL_of (tb_6 _ (List.mem_of_getElem? (i := 18) rfl)) rfl⟩
theorem o_X11_longAt : mOkS M_X11_longAt 2 := ⟨⟨mTBL_of (tb_4 _ (List.mem_of_getElem? (i := 172) rfl)) rfl, in_X11, ⟨by decide, by decide⟩, by decide +kernel⟩, mTBL_of (tb_4 _ (List.mem_of_getElem? (i := 171) rfl)) rfl⟩
theorem o_X11_longPush : mOkV M_X11_longPush 2 := ⟨⟨mTBL_of (tb_5 _ (List.mem_of_getElem? (i := 85) rfl)) rfl, in_X11, ⟨by decide, by decide⟩, by decide +kernel⟩, mTBL_of (tb_5 _ (List.mem_of_getElem? (i := 83) rfl)) rfl, mTBL_of (tb_5 _ (List.mem_of_getElem? (i := 84) rfl)) rfl⟩
theorem o_X11_lowest : mOkS M_X11_lowest 1 := ⟨⟨mTBL_of (tb_4 _ (List.mem_of_getElem? (i := 141) rfl)) rfl, in_X11, ⟨by decide, by decide⟩, by decide +kernel⟩, mTBL_of (tb_4 _ (List.mem_of_getElem? (i := 140) rfl)) rfl⟩
theorem o_X11_opposite : mOkS M_X11_opposite 1 := ⟨⟨mTBL_of (tb_3 _ (List.mem_of_getElem? (i := 140) rfl)) rfl, in_X11, ⟨by decide, by decide⟩, by decide +kernel⟩, mTBL_of (tb_3 _ (List.mem_of_getElem? (i := 139) rfl)) rfl⟩
theorem o_X11_play : mOkV M_X11_play 0 := ⟨⟨mTBL_of (tb_5 _ (List.mem_of_getElem? (i := 104) rfl)) rfl, in_X11, ⟨by decide, by decide⟩, by decide +kernel⟩, mTBL_of (tb_5 _ (List.mem_of_getElem? (i := 102) rfl)) rfl, mTBL_of (tb_5 _ (List.mem_of_getElem? (i := 103) rfl)) rfl⟩
theorem o_X11_playElement : mOkV M_X11_playElement 2 := ⟨⟨mTBL_of (tb_5 _ (List.mem_of_getElem? (i := 126) rfl)) rfl, in_X11, ⟨by decide, by decide⟩, by decide +kernel⟩, mTBL_of (tb_5 _ (List.mem_of_getElem? (i := 125) rfl)) rfl, mTBL_of (List.mem_append_left _ (List.mem_of_getElem? (i := 20) rfl)) rfl⟩
theorem o_X11_playElements : mOkV M_X11_playElements 1 := ⟨⟨mTBL_of (tb_5 _ (List.mem_of_getElem? (i := 118) rfl)) rfl, in_X11, ⟨by decide, by decide⟩, by decide +kernel⟩, mTBL_of (tb_5 _ (List.mem_of_getElem? (i := 117) rfl)) rfl, mTBL_of (List.mem_append_left _ (List.mem_of_getElem? (i := 19) rfl)) rfl⟩
theorem o_X11_push : mOkV M_X11_push 2 := ⟨⟨mTBL_of (tb_5 _ (List.mem_of_getElem? (i := 19) rfl)) rfl, in_X11, ⟨by decide, by decide⟩, by decide +kernel⟩, mTBL_of (tb_5 _ (List.mem_of_getElem? (i := 17) rfl)) rfl, mTBL_of (tb_5 _ (List.mem_of_getElem? (i := 18) rfl)) rfl⟩
theorem o_X11_readRoom : mOkV M_X11_readRoom 0 := ⟨⟨mTBL_of (tb_2 _ (List.mem_of_getElem? (i := 231) rfl)) rfl, in_X11, ⟨by decide, by decide⟩, by decide +kernel⟩, mTBL_of (tb_2 _ (List.mem_of_getElem? (i := 229) rfl)) rfl, mTBL_of (tb_2 _ (List.mem_of_getElem? (i := 230) rfl)) rfl⟩
theorem o_X11_recorded : mOkV M_X11_recorded 1 := ⟨⟨mTBL_of (tb_6 _ (List.mem_of_getElem? (i := 14) rfl)) rfl, in_X11, ⟨by decide, by decide⟩, by decide +kernel⟩, mTBL_of (tb_6 _ (List.mem_of_getElem? (i := 12) rfl)) rfl, mTBL_of (tb_6 _ (List.mem_of_getElem? (i := 13) rfl)) rfl⟩
theorem o_X11_refusal : mOkV M_X11_refusal 1 := ⟨⟨mTBL_of (tb_5 _ (List.mem_of_getElem? (i := 151) rfl)) rfl, in_X11, ⟨by decide, by decide⟩, by decide +kernel⟩, mTBL_of (tb_5 _ (List.mem_of_getElem? (i := 149) rfl)) rfl, mTBL_of (tb_5 _ (List.mem_of_getElem? (i := 150) rfl)) rfl⟩
theorem o_X11_refused : mOkV M_X11_refused 0 := ⟨⟨mTBL_of (tb_5 _ (List.mem_of_getElem? (i := 143) rfl)) rfl, in_X11, ⟨by decide, by decide⟩, by decide +kernel⟩, mTBL_of (tb_5 _ (List.mem_of_getElem? (i := 141) rfl)) rfl, mTBL_of (tb_5 _ (List.mem_of_getElem? (i := 142) rfl)) rfl⟩
theorem o_X11_refuses : mOkV M_X11_refuses 2 := ⟨⟨mTBL_of (tb_5 _ (List.mem_of_getElem? (i := 159) rfl)) rfl, in_X11, ⟨by decide, by decide⟩, by decide +kernel⟩, mTBL_of (tb_5 _ (List.mem_of_getElem? (i := 157) rfl)) rfl, mTBL_of (tb_5 _ (List.mem_of_getElem? (i := 158) rfl)) rfl⟩
theorem o_X11_requireBox : mOkV M_X11_requireBox 2 := ⟨⟨mTBL_of (tb_5 _ (List.mem_of_getElem? (i := 27) rfl)) rfl, in_X11, ⟨by decide, by decide⟩, by decide +kernel⟩, mTBL_of (tb_5 _ (List.mem_of_getElem? (i := 26) rfl)) rfl, mTBL_of (List.mem_append_left _ (List.mem_of_getElem? (i := 15) rfl)) rfl⟩
theorem o_X11_requireDirection : mOkS M_X11_requireDirection 1 := ⟨⟨mTBL_of (tb_4 _ (List.mem_of_getElem? (i := 184) rfl)) rfl, in_X11, ⟨by decide, by decide⟩, by decide +kernel⟩, mTBL_of (tb_4 _ (List.mem_of_getElem? (i := 183) rfl)) rfl⟩
theorem o_X11_requirePush : mOkV M_X11_requirePush 2 := ⟨⟨mTBL_of (tb_5 _ (List.mem_of_getElem? (i := 23) rfl)) rfl, in_X11, ⟨by decide, by decide⟩, by decide +kernel⟩, mTBL_of (tb_5 _ (List.mem_of_getElem? (i := 22) rfl)) rfl, mTBL_of (List.mem_append_left _ (List.mem_of_getElem? (i := 14) rfl)) rfl⟩
theorem o_X11_requireRoom : mOkV M_X11_requireRoom 0 := ⟨⟨mTBL_of (tb_3 _ (List.mem_of_getElem? (i := 175) rfl)) rfl, in_X11, ⟨by decide, by decide⟩, by decide +kernel⟩, mTBL_of (tb_3 _ (List.mem_of_getElem? (i := 174) rfl)) rfl, mTBL_of (List.mem_append_left _ (List.mem_of_getElem? (i := 5) rfl)) rfl⟩
theorem o_X11_restoreSnapshot : mOkV M_X11_restoreSnapshot 0 := ⟨⟨mTBL_of (tb_6 _ (List.mem_of_getElem? (i := 92) rfl)) rfl, in_X11, ⟨by decide, by decide⟩, by decide +kernel⟩, mTBL_of (tb_6 _ (List.mem_of_getElem? (i := 90) rfl)) rfl, mTBL_of (tb_6 _ (List.mem_of_getElem? (i := 91) rfl)) rfl⟩
theorem o_X11_saveSnapshot : mOkV M_X11_saveSnapshot 0 := ⟨⟨mTBL_of (tb_6 _ (List.mem_of_getElem? (i := 77) rfl)) rfl, in_X11, ⟨by decide, by decide⟩, by decide +kernel⟩, mTBL_of (tb_6 _ (List.mem_of_getElem? (i := 75) rfl)) rfl, mTBL_of (tb_6 _ (List.mem_of_getElem? (i := 76) rfl)) rfl⟩
theorem o_X11_searchAndKeep : mOkV M_X11_searchAndKeep 2 := ⟨⟨mTBL_of (tb_5 _ (List.mem_of_getElem? (i := 170) rfl)) rfl, in_X11, ⟨by decide, by decide⟩, by decide +kernel⟩, mTBL_of (tb_5 _ (List.mem_of_getElem? (i := 169) rfl)) rfl, mTBL_of (List.mem_append_left _ (List.mem_of_getElem? (i := 21) rfl)) rfl⟩
theorem o_X11_setInt : mOkS M_X11_setInt 3 := ⟨⟨mTBL_of (tb_4 _ (List.mem_of_getElem? (i := 108) rfl)) rfl, in_X11, ⟨by decide, by decide⟩, by decide +kernel⟩, mTBL_of (tb_4 _ (List.mem_of_getElem? (i := 107) rfl)) rfl⟩
theorem o_X11_setLong : mOkS M_X11_setLong 3 := ⟨⟨mTBL_of (tb_4 _ (List.mem_of_getElem? (i := 163) rfl)) rfl, in_X11, ⟨by decide, by decide⟩, by decide +kernel⟩, mTBL_of (tb_4 _ (List.mem_of_getElem? (i := 162) rfl)) rfl⟩
theorem o_X11_solution : mOkV M_X11_solution 2 := ⟨⟨mTBL_of (tb_5 _ (List.mem_of_getElem? (i := 230) rfl)) rfl, in_X11, ⟨by decide, by decide⟩, by decide +kernel⟩, mTBL_of (tb_5 _ (List.mem_of_getElem? (i := 228) rfl)) rfl, mTBL_of (tb_5 _ (List.mem_of_getElem? (i := 229) rfl)) rfl⟩
theorem o_X11_solve : mOkV M_X11_solve 2 := ⟨⟨mTBL_of (tb_5 _ (List.mem_of_getElem? (i := 166) rfl)) rfl, in_X11, ⟨by decide, by decide⟩, by decide +kernel⟩, mTBL_of (tb_5 _ (List.mem_of_getElem? (i := 164) rfl)) rfl, mTBL_of (tb_5 _ (List.mem_of_getElem? (i := 165) rfl)) rfl⟩
theorem o_X11_step : mOkV M_X11_step 1 := ⟨⟨mTBL_of (tb_4 _ (List.mem_of_getElem? (i := 181) rfl)) rfl, in_X11, ⟨by decide, by decide⟩, by decide +kernel⟩, mTBL_of (tb_4 _ (List.mem_of_getElem? (i := 179) rfl)) rfl, mTBL_of (tb_4 _ (List.mem_of_getElem? (i := 180) rfl)) rfl⟩
theorem o_X11_stuck : mOkV M_X11_stuck 1 := ⟨⟨mTBL_of (tb_4 _ (List.mem_of_getElem? (i := 128) rfl)) rfl, in_X11, ⟨by decide, by decide⟩, by decide +kernel⟩, mTBL_of (tb_4 _ (List.mem_of_getElem? (i := 126) rfl)) rfl, mTBL_of (tb_4 _ (List.mem_of_getElem? (i := 127) rfl)) rfl⟩
theorem o_X11_undo : mOkV M_X11_undo 0 := ⟨⟨mTBL_of (tb_6 _ (List.mem_of_getElem? (i := 64) rfl)) rfl, in_X11, ⟨by decide, by decide⟩, by decide +kernel⟩, mTBL_of (tb_6 _ (List.mem_of_getElem? (i := 62) rfl)) rfl, mTBL_of (tb_6 _ (List.mem_of_getElem? (i := 63) rfl)) rfl⟩
theorem o_X12_beside : mOkV M_X12_beside 2 := ⟨⟨mTBL_of (tb_7 _ (List.mem_of_getElem? (i := 59) rfl)) rfl, in_X12, ⟨by decide, by decide⟩, by decide +kernel⟩, mTBL_of (tb_7 _ (List.mem_of_getElem? (i := 58) rfl)) rfl, mTBL_of (List.mem_append_left _ (List.mem_of_getElem? (i := 36) rfl)) rfl⟩
theorem o_X12_bound : mOkV M_X12_bound 0 := ⟨⟨mTBL_of (tb_7 _ (List.mem_of_getElem? (i := 115) rfl)) rfl, in_X12, ⟨by decide, by decide⟩, by decide +kernel⟩, mTBL_of (tb_7 _ (List.mem_of_getElem? (i := 113) rfl)) rfl, mTBL_of (tb_7 _ (List.mem_of_getElem? (i := 114) rfl)) rfl⟩
theorem o_X12_boxSet : mOkV M_X12_boxSet 0 := ⟨⟨mTBL_of (tb_8 _ (List.mem_of_getElem? (i := 2) rfl)) rfl, in_X12, ⟨by decide, by decide⟩, by decide +kernel⟩, mTBL_of (tb_8 _ (List.mem_of_getElem? (i := 1) rfl)) rfl, mTBL_of (List.mem_append_left _ (List.mem_of_getElem? (i := 68) rfl)) rfl⟩
theorem o_X12_cell : mOkV M_X12_cell 2 := ⟨⟨mTBL_of (tb_7 _ (List.mem_of_getElem? (i := 24) rfl)) rfl, in_X12, ⟨by decide, by decide⟩, by decide +kernel⟩, mTBL_of (tb_7 _ (List.mem_of_getElem? (i := 22) rfl)) rfl, mTBL_of (tb_7 _ (List.mem_of_getElem? (i := 23) rfl)) rfl⟩
theorem o_X12_cells : mOkV M_X12_cells 1 := ⟨⟨mTBL_of (tb_7 _ (List.mem_of_getElem? (i := 40) rfl)) rfl, in_X12, ⟨by decide, by decide⟩, by decide +kernel⟩, mTBL_of (tb_7 _ (List.mem_of_getElem? (i := 38) rfl)) rfl, mTBL_of (tb_7 _ (List.mem_of_getElem? (i := 39) rfl)) rfl⟩
theorem o_X12_commands : mOkV M_X12_commands 0 := ⟨⟨mTBL_of (tb_7 _ (List.mem_of_getElem? (i := 163) rfl)) rfl, in_X12, ⟨by decide, by decide⟩, by decide +kernel⟩, mTBL_of (tb_7 _ (List.mem_of_getElem? (i := 162) rfl)) rfl, mTBL_of (List.mem_append_left _ (List.mem_of_getElem? (i := 56) rfl)) rfl⟩
theorem o_X12_count : mOkV M_X12_count 1 := ⟨⟨mTBL_of (tb_7 _ (List.mem_of_getElem? (i := 83) rfl)) rfl, in_X12, ⟨by decide, by decide⟩, by decide +kernel⟩, mTBL_of (tb_7 _ (List.mem_of_getElem? (i := 81) rfl)) rfl, mTBL_of (tb_7 _ (List.mem_of_getElem? (i := 82) rfl)) rfl⟩
theorem o_X12_counted : mOkV M_X12_counted 1 := ⟨⟨mTBL_of (tb_7 _ (List.mem_of_getElem? (i := 87) rfl)) rfl, in_X12, ⟨by decide, by decide⟩, by decide +kernel⟩, mTBL_of (tb_7 _ (List.mem_of_getElem? (i := 86) rfl)) rfl, mTBL_of (List.mem_append_left _ (List.mem_of_getElem? (i := 42) rfl)) rfl⟩
theorem o_X12_dies : mOkV M_X12_dies 0 := ⟨⟨mTBL_of (tb_7 _ (List.mem_of_getElem? (i := 44) rfl)) rfl, in_X12, ⟨by decide, by decide⟩, by decide +kernel⟩, mTBL_of (tb_7 _ (List.mem_of_getElem? (i := 43) rfl)) rfl, mTBL_of (List.mem_append_left _ (List.mem_of_getElem? (i := 33) rfl)) rfl⟩
theorem o_X12_directionOf : mOkS M_X12_directionOf 1 := ⟨⟨mTBL_of (tb_7 _ (List.mem_of_getElem? (i := 214) rfl)) rfl, in_X12, ⟨by decide, by decide⟩, by decide +kernel⟩, mTBL_of (tb_7 _ (List.mem_of_getElem? (i := 213) rfl)) rfl⟩
theorem o_X12_distance : mOkV M_X12_distance 2 := ⟨⟨mTBL_of (tb_7 _ (List.mem_of_getElem? (i := 111) rfl)) rfl, in_X12, ⟨by decide, by decide⟩, by decide +kernel⟩, mTBL_of (tb_7 _ (List.mem_of_getElem? (i := 109) rfl)) rfl, mTBL_of (tb_7 _ (List.mem_of_getElem? (i := 110) rfl)) rfl⟩
theorem o_X12_fails : mOkV M_X12_fails 1 := ⟨⟨mTBL_of (tb_7 _ (List.mem_of_getElem? (i := 16) rfl)) rfl, in_X12, ⟨by decide, by decide⟩, by decide +kernel⟩, mTBL_of (tb_7 _ (List.mem_of_getElem? (i := 15) rfl)) rfl, mTBL_of (List.mem_append_left _ (List.mem_of_getElem? (i := 28) rfl)) rfl⟩
theorem o_X12_feed : mOkV M_X12_feed 1 := ⟨⟨mTBL_of (tb_6 _ (List.mem_of_getElem? (i := 232) rfl)) rfl, in_X12, ⟨by decide, by decide⟩, by decide +kernel⟩, mTBL_of (tb_6 _ (List.mem_of_getElem? (i := 230) rfl)) rfl, mTBL_of (tb_6 _ (List.mem_of_getElem? (i := 231) rfl)) rfl⟩
theorem o_X12_finds : mOkV M_X12_finds 3 := ⟨⟨mTBL_of (tb_7 _ (List.mem_of_getElem? (i := 238) rfl)) rfl, in_X12, ⟨by decide, by decide⟩, by decide +kernel⟩, mTBL_of (tb_7 _ (List.mem_of_getElem? (i := 237) rfl)) rfl, mTBL_of (List.mem_append_left _ (List.mem_of_getElem? (i := 67) rfl)) rfl⟩
theorem o_X12_finish : mOkV M_X12_finish 1 := ⟨⟨mTBL_of (tb_8 _ (List.mem_of_getElem? (i := 22) rfl)) rfl, in_X12, ⟨by decide, by decide⟩, by decide +kernel⟩, mTBL_of (tb_8 _ (List.mem_of_getElem? (i := 20) rfl)) rfl, mTBL_of (tb_8 _ (List.mem_of_getElem? (i := 21) rfl)) rfl⟩
theorem o_X12_freezes : mOkV M_X12_freezes 0 := ⟨⟨mTBL_of (tb_7 _ (List.mem_of_getElem? (i := 67) rfl)) rfl, in_X12, ⟨by decide, by decide⟩, by decide +kernel⟩, mTBL_of (tb_7 _ (List.mem_of_getElem? (i := 66) rfl)) rfl, mTBL_of (List.mem_append_left _ (List.mem_of_getElem? (i := 38) rfl)) rfl⟩
theorem o_X12_gathers : mOkV M_X12_gathers 1 := ⟨⟨mTBL_of (tb_7 _ (List.mem_of_getElem? (i := 103) rfl)) rfl, in_X12, ⟨by decide, by decide⟩, by decide +kernel⟩, mTBL_of (tb_7 _ (List.mem_of_getElem? (i := 102) rfl)) rfl, mTBL_of (List.mem_append_left _ (List.mem_of_getElem? (i := 46) rfl)) rfl⟩
theorem o_X12_goalRoom : mOkV M_X12_goalRoom 2 := ⟨⟨mTBL_of (tb_7 _ (List.mem_of_getElem? (i := 131) rfl)) rfl, in_X12, ⟨by decide, by decide⟩, by decide +kernel⟩, mTBL_of (tb_7 _ (List.mem_of_getElem? (i := 129) rfl)) rfl, mTBL_of (tb_7 _ (List.mem_of_getElem? (i := 130) rfl)) rfl⟩
theorem o_X12_goalRooms : mOkV M_X12_goalRooms 1 := ⟨⟨mTBL_of (tb_7 _ (List.mem_of_getElem? (i := 99) rfl)) rfl, in_X12, ⟨by decide, by decide⟩, by decide +kernel⟩, mTBL_of (tb_7 _ (List.mem_of_getElem? (i := 98) rfl)) rfl, mTBL_of (List.mem_append_left _ (List.mem_of_getElem? (i := 45) rfl)) rfl⟩
theorem o_X12_goes : mOkV M_X12_goes 1 := ⟨⟨mTBL_of (tb_7 _ (List.mem_of_getElem? (i := 167) rfl)) rfl, in_X12, ⟨by decide, by decide⟩, by decide +kernel⟩, mTBL_of (tb_7 _ (List.mem_of_getElem? (i := 166) rfl)) rfl, mTBL_of (List.mem_append_left _ (List.mem_of_getElem? (i := 57) rfl)) rfl⟩
theorem o_X12_goesBack : mOkV M_X12_goesBack 0 := ⟨⟨mTBL_of (tb_7 _ (List.mem_of_getElem? (i := 195) rfl)) rfl, in_X12, ⟨by decide, by decide⟩, by decide +kernel⟩, mTBL_of (tb_7 _ (List.mem_of_getElem? (i := 194) rfl)) rfl, mTBL_of (List.mem_append_left _ (List.mem_of_getElem? (i := 63) rfl)) rfl⟩
theorem o_X12_groups : mOkV M_X12_groups 0 := ⟨⟨mTBL_of (tb_7 _ (List.mem_of_getElem? (i := 95) rfl)) rfl, in_X12, ⟨by decide, by decide⟩, by decide +kernel⟩, mTBL_of (tb_7 _ (List.mem_of_getElem? (i := 94) rfl)) rfl, mTBL_of (List.mem_append_left _ (List.mem_of_getElem? (i := 44) rfl)) rfl⟩
theorem o_X12_hasRoom : mOkV M_X12_hasRoom 0 := ⟨⟨mTBL_of (tb_6 _ (List.mem_of_getElem? (i := 224) rfl)) rfl, in_X12, ⟨by decide, by decide⟩, by decide +kernel⟩, mTBL_of (tb_6 _ (List.mem_of_getElem? (i := 223) rfl)) rfl, mTBL_of (List.mem_append_left _ (List.mem_of_getElem? (i := 26) rfl)) rfl⟩
theorem o_X12_in : mOkS M_X12_in 3 := ⟨⟨mTBL_of (tb_6 _ (List.mem_of_getElem? (i := 235) rfl)) rfl, in_X12, ⟨by decide, by decide⟩, by decide +kernel⟩, mTBL_of (tb_6 _ (List.mem_of_getElem? (i := 234) rfl)) rfl⟩
theorem o_X12_isBlocked : mOkV M_X12_isBlocked 2 := ⟨⟨mTBL_of (tb_7 _ (List.mem_of_getElem? (i := 71) rfl)) rfl, in_X12, ⟨by decide, by decide⟩, by decide +kernel⟩, mTBL_of (tb_7 _ (List.mem_of_getElem? (i := 70) rfl)) rfl, mTBL_of (List.mem_append_left _ (List.mem_of_getElem? (i := 39) rfl)) rfl⟩
theorem o_X12_isBox : mOkV M_X12_isBox 1 := ⟨⟨mTBL_of (tb_7 _ (List.mem_of_getElem? (i := 32) rfl)) rfl, in_X12, ⟨by decide, by decide⟩, by decide +kernel⟩, mTBL_of (tb_7 _ (List.mem_of_getElem? (i := 31) rfl)) rfl, mTBL_of (List.mem_append_left _ (List.mem_of_getElem? (i := 31) rfl)) rfl⟩
theorem o_X12_isBoxText : mOkS M_X12_isBoxText 1 := ⟨⟨mTBL_of (tb_7 _ (List.mem_of_getElem? (i := 6) rfl)) rfl, in_X12, ⟨by decide, by decide⟩, by decide +kernel⟩, mTBL_of (tb_7 _ (List.mem_of_getElem? (i := 5) rfl)) rfl⟩
theorem o_X12_isCell : mOkS M_X12_isCell 1 := ⟨⟨mTBL_of (tb_7 _ (List.mem_of_getElem? (i := 12) rfl)) rfl, in_X12, ⟨by decide, by decide⟩, by decide +kernel⟩, mTBL_of (tb_7 _ (List.mem_of_getElem? (i := 11) rfl)) rfl⟩
theorem o_X12_isGoal : mOkV M_X12_isGoal 1 := ⟨⟨mTBL_of (tb_7 _ (List.mem_of_getElem? (i := 36) rfl)) rfl, in_X12, ⟨by decide, by decide⟩, by decide +kernel⟩, mTBL_of (tb_7 _ (List.mem_of_getElem? (i := 35) rfl)) rfl, mTBL_of (List.mem_append_left _ (List.mem_of_getElem? (i := 32) rfl)) rfl⟩
theorem o_X12_isIn : mOkV M_X12_isIn 2 := ⟨⟨mTBL_of (tb_7 _ (List.mem_of_getElem? (i := 75) rfl)) rfl, in_X12, ⟨by decide, by decide⟩, by decide +kernel⟩, mTBL_of (tb_7 _ (List.mem_of_getElem? (i := 74) rfl)) rfl, mTBL_of (List.mem_append_left _ (List.mem_of_getElem? (i := 40) rfl)) rfl⟩
theorem o_X12_isNearer : mOkV M_X12_isNearer 1 := ⟨⟨mTBL_of (tb_7 _ (List.mem_of_getElem? (i := 191) rfl)) rfl, in_X12, ⟨by decide, by decide⟩, by decide +kernel⟩, mTBL_of (tb_7 _ (List.mem_of_getElem? (i := 190) rfl)) rfl, mTBL_of (List.mem_append_left _ (List.mem_of_getElem? (i := 62) rfl)) rfl⟩
theorem o_X12_isOpen : mOkV M_X12_isOpen 1 := ⟨⟨mTBL_of (tb_7 _ (List.mem_of_getElem? (i := 28) rfl)) rfl, in_X12, ⟨by decide, by decide⟩, by decide +kernel⟩, mTBL_of (tb_7 _ (List.mem_of_getElem? (i := 27) rfl)) rfl, mTBL_of (List.mem_append_left _ (List.mem_of_getElem? (i := 30) rfl)) rfl⟩
theorem o_X12_isPlayerText : mOkS M_X12_isPlayerText 1 := ⟨⟨mTBL_of (tb_7 _ (List.mem_of_getElem? (i := 9) rfl)) rfl, in_X12, ⟨by decide, by decide⟩, by decide +kernel⟩, mTBL_of (tb_7 _ (List.mem_of_getElem? (i := 8) rfl)) rfl⟩
theorem o_X12_isReplayed : mOkV M_X12_isReplayed 0 := ⟨⟨mTBL_of (tb_8 _ (List.mem_of_getElem? (i := 31) rfl)) rfl, in_X12, ⟨by decide, by decide⟩, by decide +kernel⟩, mTBL_of (tb_8 _ (List.mem_of_getElem? (i := 29) rfl)) rfl, mTBL_of (tb_8 _ (List.mem_of_getElem? (i := 30) rfl)) rfl⟩
theorem o_X12_isSolved : mOkV M_X12_isSolved 0 := ⟨⟨mTBL_of (tb_7 _ (List.mem_of_getElem? (i := 107) rfl)) rfl, in_X12, ⟨by decide, by decide⟩, by decide +kernel⟩, mTBL_of (tb_7 _ (List.mem_of_getElem? (i := 106) rfl)) rfl, mTBL_of (List.mem_append_left _ (List.mem_of_getElem? (i := 47) rfl)) rfl⟩
theorem o_X12_isTunnel : mOkV M_X12_isTunnel 2 := ⟨⟨mTBL_of (tb_7 _ (List.mem_of_getElem? (i := 79) rfl)) rfl, in_X12, ⟨by decide, by decide⟩, by decide +kernel⟩, mTBL_of (tb_7 _ (List.mem_of_getElem? (i := 78) rfl)) rfl, mTBL_of (List.mem_append_left _ (List.mem_of_getElem? (i := 41) rfl)) rfl⟩
theorem o_X12_keeps : mOkV M_X12_keeps 2 := ⟨⟨mTBL_of (tb_7 _ (List.mem_of_getElem? (i := 155) rfl)) rfl, in_X12, ⟨by decide, by decide⟩, by decide +kernel⟩, mTBL_of (tb_7 _ (List.mem_of_getElem? (i := 154) rfl)) rfl, mTBL_of (List.mem_append_left _ (List.mem_of_getElem? (i := 54) rfl)) rfl⟩
theorem o_X12_lays : mOkV M_X12_lays 1 := ⟨⟨mTBL_of (tb_7 _ (List.mem_of_getElem? (i := 20) rfl)) rfl, in_X12, ⟨by decide, by decide⟩, by decide +kernel⟩, mTBL_of (tb_7 _ (List.mem_of_getElem? (i := 19) rfl)) rfl, mTBL_of (List.mem_append_left _ (List.mem_of_getElem? (i := 29) rfl)) rfl⟩
theorem o_X12_longPush : mOkV M_X12_longPush 2 := ⟨⟨mTBL_of (tb_7 _ (List.mem_of_getElem? (i := 199) rfl)) rfl, in_X12, ⟨by decide, by decide⟩, by decide +kernel⟩, mTBL_of (tb_7 _ (List.mem_of_getElem? (i := 197) rfl)) rfl, mTBL_of (tb_7 _ (List.mem_of_getElem? (i := 198) rfl)) rfl⟩
theorem o_X12_lowestHere : mOkV M_X12_lowestHere 0 := ⟨⟨mTBL_of (tb_8 _ (List.mem_of_getElem? (i := 6) rfl)) rfl, in_X12, ⟨by decide, by decide⟩, by decide +kernel⟩, mTBL_of (tb_8 _ (List.mem_of_getElem? (i := 5) rfl)) rfl, mTBL_of (List.mem_append_left _ (List.mem_of_getElem? (i := 69) rfl)) rfl⟩
theorem o_X12_oneMore : mOkV M_X12_oneMore 1 := ⟨⟨mTBL_of (tb_7 _ (List.mem_of_getElem? (i := 119) rfl)) rfl, in_X12, ⟨by decide, by decide⟩, by decide +kernel⟩, mTBL_of (tb_7 _ (List.mem_of_getElem? (i := 118) rfl)) rfl, mTBL_of (List.mem_append_left _ (List.mem_of_getElem? (i := 48) rfl)) rfl⟩
theorem o_X12_opposite : mOkS M_X12_opposite 1 := ⟨⟨mTBL_of (tb_7 _ (List.mem_of_getElem? (i := 55) rfl)) rfl, in_X12, ⟨by decide, by decide⟩, by decide +kernel⟩, mTBL_of (tb_7 _ (List.mem_of_getElem? (i := 54) rfl)) rfl⟩
theorem o_X12_ordered : mOkV M_X12_ordered 1 := ⟨⟨mTBL_of (tb_7 _ (List.mem_of_getElem? (i := 135) rfl)) rfl, in_X12, ⟨by decide, by decide⟩, by decide +kernel⟩, mTBL_of (tb_7 _ (List.mem_of_getElem? (i := 134) rfl)) rfl, mTBL_of (List.mem_append_left _ (List.mem_of_getElem? (i := 50) rfl)) rfl⟩
theorem o_X12_plainSteps : mOkV M_X12_plainSteps 1 := ⟨⟨mTBL_of (tb_7 _ (List.mem_of_getElem? (i := 139) rfl)) rfl, in_X12, ⟨by decide, by decide⟩, by decide +kernel⟩, mTBL_of (tb_7 _ (List.mem_of_getElem? (i := 138) rfl)) rfl, mTBL_of (List.mem_append_left _ (List.mem_of_getElem? (i := 51) rfl)) rfl⟩
theorem o_X12_play : mOkV M_X12_play 0 := ⟨⟨mTBL_of (tb_7 _ (List.mem_of_getElem? (i := 207) rfl)) rfl, in_X12, ⟨by decide, by decide⟩, by decide +kernel⟩, mTBL_of (tb_7 _ (List.mem_of_getElem? (i := 205) rfl)) rfl, mTBL_of (tb_7 _ (List.mem_of_getElem? (i := 206) rfl)) rfl⟩
theorem o_X12_push : mOkV M_X12_push 2 := ⟨⟨mTBL_of (tb_7 _ (List.mem_of_getElem? (i := 171) rfl)) rfl, in_X12, ⟨by decide, by decide⟩, by decide +kernel⟩, mTBL_of (tb_7 _ (List.mem_of_getElem? (i := 169) rfl)) rfl, mTBL_of (tb_7 _ (List.mem_of_getElem? (i := 170) rfl)) rfl⟩
theorem o_X12_pushStops : mOkV M_X12_pushStops 2 := ⟨⟨mTBL_of (tb_7 _ (List.mem_of_getElem? (i := 179) rfl)) rfl, in_X12, ⟨by decide, by decide⟩, by decide +kernel⟩, mTBL_of (tb_7 _ (List.mem_of_getElem? (i := 178) rfl)) rfl, mTBL_of (List.mem_append_left _ (List.mem_of_getElem? (i := 59) rfl)) rfl⟩
theorem o_X12_pushesTo : mOkV M_X12_pushesTo 1 := ⟨⟨mTBL_of (tb_7 _ (List.mem_of_getElem? (i := 52) rfl)) rfl, in_X12, ⟨by decide, by decide⟩, by decide +kernel⟩, mTBL_of (tb_7 _ (List.mem_of_getElem? (i := 51) rfl)) rfl, mTBL_of (List.mem_append_left _ (List.mem_of_getElem? (i := 35) rfl)) rfl⟩
theorem o_X12_pushing : mOkV M_X12_pushing 3 := ⟨⟨mTBL_of (tb_7 _ (List.mem_of_getElem? (i := 175) rfl)) rfl, in_X12, ⟨by decide, by decide⟩, by decide +kernel⟩, mTBL_of (tb_7 _ (List.mem_of_getElem? (i := 174) rfl)) rfl, mTBL_of (List.mem_append_left _ (List.mem_of_getElem? (i := 58) rfl)) rfl⟩
theorem o_X12_readRoom : mOkV M_X12_readRoom 0 := ⟨⟨mTBL_of (tb_6 _ (List.mem_of_getElem? (i := 239) rfl)) rfl, in_X12, ⟨by decide, by decide⟩, by decide +kernel⟩, mTBL_of (tb_6 _ (List.mem_of_getElem? (i := 237) rfl)) rfl, mTBL_of (tb_6 _ (List.mem_of_getElem? (i := 238) rfl)) rfl⟩
theorem o_X12_reasonForBox : mOkV M_X12_reasonForBox 2 := ⟨⟨mTBL_of (tb_7 _ (List.mem_of_getElem? (i := 151) rfl)) rfl, in_X12, ⟨by decide, by decide⟩, by decide +kernel⟩, mTBL_of (tb_7 _ (List.mem_of_getElem? (i := 150) rfl)) rfl, mTBL_of (List.mem_append_left _ (List.mem_of_getElem? (i := 53) rfl)) rfl⟩
theorem o_X12_reasonForLetter : mOkV M_X12_reasonForLetter 1 := ⟨⟨mTBL_of (tb_7 _ (List.mem_of_getElem? (i := 218) rfl)) rfl, in_X12, ⟨by decide, by decide⟩, by decide +kernel⟩, mTBL_of (tb_7 _ (List.mem_of_getElem? (i := 217) rfl)) rfl, mTBL_of (List.mem_append_left _ (List.mem_of_getElem? (i := 65) rfl)) rfl⟩
theorem o_X12_reasonForPush : mOkV M_X12_reasonForPush 2 := ⟨⟨mTBL_of (tb_7 _ (List.mem_of_getElem? (i := 183) rfl)) rfl, in_X12, ⟨by decide, by decide⟩, by decide +kernel⟩, mTBL_of (tb_7 _ (List.mem_of_getElem? (i := 182) rfl)) rfl, mTBL_of (List.mem_append_left _ (List.mem_of_getElem? (i := 60) rfl)) rfl⟩
theorem o_X12_reasonForStep : mOkV M_X12_reasonForStep 1 := ⟨⟨mTBL_of (tb_7 _ (List.mem_of_getElem? (i := 147) rfl)) rfl, in_X12, ⟨by decide, by decide⟩, by decide +kernel⟩, mTBL_of (tb_7 _ (List.mem_of_getElem? (i := 146) rfl)) rfl, mTBL_of (List.mem_append_left _ (List.mem_of_getElem? (i := 52) rfl)) rfl⟩
theorem o_X12_recorded : mOkV M_X12_recorded 1 := ⟨⟨mTBL_of (tb_8 _ (List.mem_of_getElem? (i := 27) rfl)) rfl, in_X12, ⟨by decide, by decide⟩, by decide +kernel⟩, mTBL_of (tb_8 _ (List.mem_of_getElem? (i := 25) rfl)) rfl, mTBL_of (tb_8 _ (List.mem_of_getElem? (i := 26) rfl)) rfl⟩
theorem o_X12_recordedPushes : mOkV M_X12_recordedPushes 0 := ⟨⟨mTBL_of (tb_7 _ (List.mem_of_getElem? (i := 91) rfl)) rfl, in_X12, ⟨by decide, by decide⟩, by decide +kernel⟩, mTBL_of (tb_7 _ (List.mem_of_getElem? (i := 90) rfl)) rfl, mTBL_of (List.mem_append_left _ (List.mem_of_getElem? (i := 43) rfl)) rfl⟩
theorem o_X12_refusal : mOkV M_X12_refusal 1 := ⟨⟨mTBL_of (tb_7 _ (List.mem_of_getElem? (i := 226) rfl)) rfl, in_X12, ⟨by decide, by decide⟩, by decide +kernel⟩, mTBL_of (tb_7 _ (List.mem_of_getElem? (i := 224) rfl)) rfl, mTBL_of (tb_7 _ (List.mem_of_getElem? (i := 225) rfl)) rfl⟩
theorem o_X12_refused : mOkV M_X12_refused 0 := ⟨⟨mTBL_of (tb_7 _ (List.mem_of_getElem? (i := 222) rfl)) rfl, in_X12, ⟨by decide, by decide⟩, by decide +kernel⟩, mTBL_of (tb_7 _ (List.mem_of_getElem? (i := 220) rfl)) rfl, mTBL_of (tb_7 _ (List.mem_of_getElem? (i := 221) rfl)) rfl⟩
theorem o_X12_refuses : mOkV M_X12_refuses 2 := ⟨⟨mTBL_of (tb_7 _ (List.mem_of_getElem? (i := 203) rfl)) rfl, in_X12, ⟨by decide, by decide⟩, by decide +kernel⟩, mTBL_of (tb_7 _ (List.mem_of_getElem? (i := 201) rfl)) rfl, mTBL_of (tb_7 _ (List.mem_of_getElem? (i := 202) rfl)) rfl⟩
theorem o_X12_remembers : mOkV M_X12_remembers 0 := ⟨⟨mTBL_of (tb_7 _ (List.mem_of_getElem? (i := 159) rfl)) rfl, in_X12, ⟨by decide, by decide⟩, by decide +kernel⟩, mTBL_of (tb_7 _ (List.mem_of_getElem? (i := 158) rfl)) rfl, mTBL_of (List.mem_append_left _ (List.mem_of_getElem? (i := 55) rfl)) rfl⟩
theorem o_X12_restoreSnapshot : mOkV M_X12_restoreSnapshot 0 := ⟨⟨mTBL_of (tb_6 _ (List.mem_of_getElem? (i := 228) rfl)) rfl, in_X12, ⟨by decide, by decide⟩, by decide +kernel⟩, mTBL_of (tb_6 _ (List.mem_of_getElem? (i := 226) rfl)) rfl, mTBL_of (tb_6 _ (List.mem_of_getElem? (i := 227) rfl)) rfl⟩
theorem o_X12_roomFault : mOkV M_X12_roomFault 0 := ⟨⟨mTBL_of (tb_7 _ (List.mem_of_getElem? (i := 3) rfl)) rfl, in_X12, ⟨by decide, by decide⟩, by decide +kernel⟩, mTBL_of (tb_7 _ (List.mem_of_getElem? (i := 2) rfl)) rfl, mTBL_of (List.mem_append_left _ (List.mem_of_getElem? (i := 27) rfl)) rfl⟩
theorem o_X12_saveSnapshot : mOkV M_X12_saveSnapshot 0 := ⟨⟨mTBL_of (tb_6 _ (List.mem_of_getElem? (i := 220) rfl)) rfl, in_X12, ⟨by decide, by decide⟩, by decide +kernel⟩, mTBL_of (tb_6 _ (List.mem_of_getElem? (i := 218) rfl)) rfl, mTBL_of (tb_6 _ (List.mem_of_getElem? (i := 219) rfl)) rfl⟩
theorem o_X12_searches : mOkV M_X12_searches 2 := ⟨⟨mTBL_of (tb_7 _ (List.mem_of_getElem? (i := 234) rfl)) rfl, in_X12, ⟨by decide, by decide⟩, by decide +kernel⟩, mTBL_of (tb_7 _ (List.mem_of_getElem? (i := 233) rfl)) rfl, mTBL_of (List.mem_append_left _ (List.mem_of_getElem? (i := 66) rfl)) rfl⟩
theorem o_X12_size : mOkV M_X12_size 0 := ⟨⟨mTBL_of (tb_7 _ (List.mem_of_getElem? (i := 48) rfl)) rfl, in_X12, ⟨by decide, by decide⟩, by decide +kernel⟩, mTBL_of (tb_7 _ (List.mem_of_getElem? (i := 47) rfl)) rfl, mTBL_of (List.mem_append_left _ (List.mem_of_getElem? (i := 34) rfl)) rfl⟩
theorem o_X12_solution : mOkV M_X12_solution 2 := ⟨⟨mTBL_of (tb_8 _ (List.mem_of_getElem? (i := 18) rfl)) rfl, in_X12, ⟨by decide, by decide⟩, by decide +kernel⟩, mTBL_of (tb_8 _ (List.mem_of_getElem? (i := 16) rfl)) rfl, mTBL_of (tb_8 _ (List.mem_of_getElem? (i := 17) rfl)) rfl⟩
theorem o_X12_solve : mOkV M_X12_solve 2 := ⟨⟨mTBL_of (tb_7 _ (List.mem_of_getElem? (i := 230) rfl)) rfl, in_X12, ⟨by decide, by decide⟩, by decide +kernel⟩, mTBL_of (tb_7 _ (List.mem_of_getElem? (i := 228) rfl)) rfl, mTBL_of (tb_7 _ (List.mem_of_getElem? (i := 229) rfl)) rfl⟩
theorem o_X12_step : mOkV M_X12_step 1 := ⟨⟨mTBL_of (tb_7 _ (List.mem_of_getElem? (i := 143) rfl)) rfl, in_X12, ⟨by decide, by decide⟩, by decide +kernel⟩, mTBL_of (tb_7 _ (List.mem_of_getElem? (i := 141) rfl)) rfl, mTBL_of (tb_7 _ (List.mem_of_getElem? (i := 142) rfl)) rfl⟩
theorem o_X12_stepsFault : mOkV M_X12_stepsFault 0 := ⟨⟨mTBL_of (tb_7 _ (List.mem_of_getElem? (i := 211) rfl)) rfl, in_X12, ⟨by decide, by decide⟩, by decide +kernel⟩, mTBL_of (tb_7 _ (List.mem_of_getElem? (i := 210) rfl)) rfl, mTBL_of (List.mem_append_left _ (List.mem_of_getElem? (i := 64) rfl)) rfl⟩
theorem o_X12_stuck : mOkV M_X12_stuck 1 := ⟨⟨mTBL_of (tb_7 _ (List.mem_of_getElem? (i := 123) rfl)) rfl, in_X12, ⟨by decide, by decide⟩, by decide +kernel⟩, mTBL_of (tb_7 _ (List.mem_of_getElem? (i := 121) rfl)) rfl, mTBL_of (tb_7 _ (List.mem_of_getElem? (i := 122) rfl)) rfl⟩
theorem o_X12_stuckFor : mOkV M_X12_stuckFor 0 := ⟨⟨mTBL_of (tb_7 _ (List.mem_of_getElem? (i := 127) rfl)) rfl, in_X12, ⟨by decide, by decide⟩, by decide +kernel⟩, mTBL_of (tb_7 _ (List.mem_of_getElem? (i := 126) rfl)) rfl, mTBL_of (List.mem_append_left _ (List.mem_of_getElem? (i := 49) rfl)) rfl⟩
theorem o_X12_takes : mOkV M_X12_takes 1 := ⟨⟨mTBL_of (tb_8 _ (List.mem_of_getElem? (i := 10) rfl)) rfl, in_X12, ⟨by decide, by decide⟩, by decide +kernel⟩, mTBL_of (tb_8 _ (List.mem_of_getElem? (i := 9) rfl)) rfl, mTBL_of (List.mem_append_left _ (List.mem_of_getElem? (i := 70) rfl)) rfl⟩
theorem o_X12_thrown : mOkV M_X12_thrown 0 := ⟨⟨mTBL_of (tb_6 _ (List.mem_of_getElem? (i := 212) rfl)) rfl, in_X12, ⟨by decide, by decide⟩, by decide +kernel⟩, mTBL_of (tb_6 _ (List.mem_of_getElem? (i := 210) rfl)) rfl, mTBL_of (tb_6 _ (List.mem_of_getElem? (i := 211) rfl)) rfl⟩
theorem o_X12_undo : mOkV M_X12_undo 0 := ⟨⟨mTBL_of (tb_6 _ (List.mem_of_getElem? (i := 216) rfl)) rfl, in_X12, ⟨by decide, by decide⟩, by decide +kernel⟩, mTBL_of (tb_6 _ (List.mem_of_getElem? (i := 214) rfl)) rfl, mTBL_of (tb_6 _ (List.mem_of_getElem? (i := 215) rfl)) rfl⟩
theorem o_X12_visits : mOkV M_X12_visits 3 := ⟨⟨mTBL_of (tb_8 _ (List.mem_of_getElem? (i := 14) rfl)) rfl, in_X12, ⟨by decide, by decide⟩, by decide +kernel⟩, mTBL_of (tb_8 _ (List.mem_of_getElem? (i := 13) rfl)) rfl, mTBL_of (List.mem_append_left _ (List.mem_of_getElem? (i := 71) rfl)) rfl⟩
theorem o_X12_walksAndPushes : mOkV M_X12_walksAndPushes 2 := ⟨⟨mTBL_of (tb_7 _ (List.mem_of_getElem? (i := 187) rfl)) rfl, in_X12, ⟨by decide, by decide⟩, by decide +kernel⟩, mTBL_of (tb_7 _ (List.mem_of_getElem? (i := 186) rfl)) rfl, mTBL_of (List.mem_append_left _ (List.mem_of_getElem? (i := 61) rfl)) rfl⟩
theorem o_X12_walksFrom : mOkV M_X12_walksFrom 1 := ⟨⟨mTBL_of (tb_7 _ (List.mem_of_getElem? (i := 63) rfl)) rfl, in_X12, ⟨by decide, by decide⟩, by decide +kernel⟩, mTBL_of (tb_7 _ (List.mem_of_getElem? (i := 62) rfl)) rfl, mTBL_of (List.mem_append_left _ (List.mem_of_getElem? (i := 37) rfl)) rfl⟩
theorem o_X1_entrances : mOkV M_X1_entrances 1 := ⟨⟨mTBL_of (tb_4 _ (List.mem_of_getElem? (i := 43) rfl)) rfl, in_X1, ⟨by decide, by decide⟩, by decide +kernel⟩, mTBL_of (tb_4 _ (List.mem_of_getElem? (i := 41) rfl)) rfl, mTBL_of (tb_4 _ (List.mem_of_getElem? (i := 42) rfl)) rfl⟩
theorem o_X1_goalAt : mOkV M_X1_goalAt 2 := ⟨⟨mTBL_of (tb_4 _ (List.mem_of_getElem? (i := 156) rfl)) rfl, in_X1, ⟨by decide, by decide⟩, by decide +kernel⟩, mTBL_of (tb_4 _ (List.mem_of_getElem? (i := 154) rfl)) rfl, mTBL_of (tb_4 _ (List.mem_of_getElem? (i := 155) rfl)) rfl⟩
theorem o_X1_goalsOf : mOkV M_X1_goalsOf 1 := ⟨⟨mTBL_of (tb_4 _ (List.mem_of_getElem? (i := 37) rfl)) rfl, in_X1, ⟨by decide, by decide⟩, by decide +kernel⟩, mTBL_of (tb_4 _ (List.mem_of_getElem? (i := 35) rfl)) rfl, mTBL_of (tb_4 _ (List.mem_of_getElem? (i := 36) rfl)) rfl⟩
theorem o_X1_howMany : mOkV M_X1_howMany 0 := ⟨⟨mTBL_of (tb_4 _ (List.mem_of_getElem? (i := 33) rfl)) rfl, in_X1, ⟨by decide, by decide⟩, by decide +kernel⟩, mTBL_of (tb_4 _ (List.mem_of_getElem? (i := 31) rfl)) rfl, mTBL_of (tb_4 _ (List.mem_of_getElem? (i := 32) rfl)) rfl⟩
theorem o_X2_beside : mOkV M_X2_beside 1 := ⟨⟨mTBL_of (tb_3 _ (List.mem_of_getElem? (i := 233) rfl)) rfl, in_X2, ⟨by decide, by decide⟩, by decide +kernel⟩, mTBL_of (tb_3 _ (List.mem_of_getElem? (i := 231) rfl)) rfl, mTBL_of (tb_3 _ (List.mem_of_getElem? (i := 232) rfl)) rfl⟩
theorem o_X2_copy : mOkV M_X2_copy 1 := ⟨⟨mTBL_of (tb_6 _ (List.mem_of_getElem? (i := 85) rfl)) rfl, in_X2, ⟨by decide, by decide⟩, by decide +kernel⟩, mTBL_of (tb_6 _ (List.mem_of_getElem? (i := 83) rfl)) rfl, mTBL_of (tb_6 _ (List.mem_of_getElem? (i := 84) rfl)) rfl⟩
theorem o_X2_frozen : mOkV M_X2_frozen 1 := ⟨⟨mTBL_of (tb_3 _ (List.mem_of_getElem? (i := 237) rfl)) rfl, in_X2, ⟨by decide, by decide⟩, by decide +kernel⟩, mTBL_of (tb_3 _ (List.mem_of_getElem? (i := 235) rfl)) rfl, mTBL_of (tb_3 _ (List.mem_of_getElem? (i := 236) rfl)) rfl⟩
theorem o_X2_groups : mOkV M_X2_groups 1 := ⟨⟨mTBL_of (tb_4 _ (List.mem_of_getElem? (i := 28) rfl)) rfl, in_X2, ⟨by decide, by decide⟩, by decide +kernel⟩, mTBL_of (tb_4 _ (List.mem_of_getElem? (i := 26) rfl)) rfl, mTBL_of (tb_4 _ (List.mem_of_getElem? (i := 27) rfl)) rfl⟩
theorem o_X2_hasPlace : mOkV M_X2_hasPlace 2 := ⟨⟨mTBL_of (tb_3 _ (List.mem_of_getElem? (i := 184) rfl)) rfl, in_X2, ⟨by decide, by decide⟩, by decide +kernel⟩, mTBL_of (tb_3 _ (List.mem_of_getElem? (i := 182) rfl)) rfl, mTBL_of (tb_3 _ (List.mem_of_getElem? (i := 183) rfl)) rfl⟩
theorem o_X2_isLaid : mOkV M_X2_isLaid 0 := ⟨⟨mTBL_of (tb_3 _ (List.mem_of_getElem? (i := 179) rfl)) rfl, in_X2, ⟨by decide, by decide⟩, by decide +kernel⟩, mTBL_of (tb_3 _ (List.mem_of_getElem? (i := 177) rfl)) rfl, mTBL_of (tb_3 _ (List.mem_of_getElem? (i := 178) rfl)) rfl⟩
theorem o_X2_lay : mOkV M_X2_lay 1 := ⟨⟨mTBL_of (tb_3 _ (List.mem_of_getElem? (i := 132) rfl)) rfl, in_X2, ⟨by decide, by decide⟩, by decide +kernel⟩, mTBL_of (tb_3 _ (List.mem_of_getElem? (i := 130) rfl)) rfl, mTBL_of (tb_3 _ (List.mem_of_getElem? (i := 131) rfl)) rfl⟩
theorem o_X2_leastPushes : mOkV M_X2_leastPushes 2 := ⟨⟨mTBL_of (tb_4 _ (List.mem_of_getElem? (i := 65) rfl)) rfl, in_X2, ⟨by decide, by decide⟩, by decide +kernel⟩, mTBL_of (tb_4 _ (List.mem_of_getElem? (i := 63) rfl)) rfl, mTBL_of (tb_4 _ (List.mem_of_getElem? (i := 64) rfl)) rfl⟩
theorem o_X2_lonePushed : mOkV M_X2_lonePushed 1 := ⟨⟨mTBL_of (tb_4 _ (List.mem_of_getElem? (i := 69) rfl)) rfl, in_X2, ⟨by decide, by decide⟩, by decide +kernel⟩, mTBL_of (tb_4 _ (List.mem_of_getElem? (i := 67) rfl)) rfl, mTBL_of (tb_4 _ (List.mem_of_getElem? (i := 68) rfl)) rfl⟩
theorem o_X2_moved : mOkV M_X2_moved 2 := ⟨⟨mTBL_of (tb_3 _ (List.mem_of_getElem? (i := 144) rfl)) rfl, in_X2, ⟨by decide, by decide⟩, by decide +kernel⟩, mTBL_of (tb_3 _ (List.mem_of_getElem? (i := 142) rfl)) rfl, mTBL_of (tb_3 _ (List.mem_of_getElem? (i := 143) rfl)) rfl⟩
theorem o_X2_pulled : mOkV M_X2_pulled 1 := ⟨⟨mTBL_of (tb_3 _ (List.mem_of_getElem? (i := 137) rfl)) rfl, in_X2, ⟨by decide, by decide⟩, by decide +kernel⟩, mTBL_of (tb_3 _ (List.mem_of_getElem? (i := 136) rfl)) rfl, mTBL_of (List.mem_append_left _ (List.mem_of_getElem? (i := 4) rfl)) rfl⟩
theorem o_X2_spread : mOkV M_X2_spread 2 := ⟨⟨mTBL_of (tb_3 _ (List.mem_of_getElem? (i := 229) rfl)) rfl, in_X2, ⟨by decide, by decide⟩, by decide +kernel⟩, mTBL_of (tb_3 _ (List.mem_of_getElem? (i := 227) rfl)) rfl, mTBL_of (tb_3 _ (List.mem_of_getElem? (i := 228) rfl)) rfl⟩
theorem o_X2_stuckDetail : mOkV M_X2_stuckDetail 2 := ⟨⟨mTBL_of (tb_4 _ (List.mem_of_getElem? (i := 138) rfl)) rfl, in_X2, ⟨by decide, by decide⟩, by decide +kernel⟩, mTBL_of (tb_4 _ (List.mem_of_getElem? (i := 136) rfl)) rfl, mTBL_of (tb_4 _ (List.mem_of_getElem? (i := 137) rfl)) rfl⟩
theorem o_X2_stuckReason : mOkV M_X2_stuckReason 1 := ⟨⟨mTBL_of (tb_4 _ (List.mem_of_getElem? (i := 132) rfl)) rfl, in_X2, ⟨by decide, by decide⟩, by decide +kernel⟩, mTBL_of (tb_4 _ (List.mem_of_getElem? (i := 130) rfl)) rfl, mTBL_of (tb_4 _ (List.mem_of_getElem? (i := 131) rfl)) rfl⟩
theorem o_X2_tunnelsAlong : mOkV M_X2_tunnelsAlong 1 := ⟨⟨mTBL_of (tb_5 _ (List.mem_of_getElem? (i := 94) rfl)) rfl, in_X2, ⟨by decide, by decide⟩, by decide +kernel⟩, mTBL_of (tb_5 _ (List.mem_of_getElem? (i := 92) rfl)) rfl, mTBL_of (tb_5 _ (List.mem_of_getElem? (i := 93) rfl)) rfl⟩
theorem o_X2_tunnelsInColumn : mOkV M_X2_tunnelsInColumn 0 := ⟨⟨mTBL_of (tb_4 _ (List.mem_of_getElem? (i := 5) rfl)) rfl, in_X2, ⟨by decide, by decide⟩, by decide +kernel⟩, mTBL_of (tb_4 _ (List.mem_of_getElem? (i := 3) rfl)) rfl, mTBL_of (tb_4 _ (List.mem_of_getElem? (i := 4) rfl)) rfl⟩
theorem o_X2_tunnelsInRow : mOkV M_X2_tunnelsInRow 0 := ⟨⟨mTBL_of (tb_4 _ (List.mem_of_getElem? (i := 1) rfl)) rfl, in_X2, ⟨by decide, by decide⟩, by decide +kernel⟩, mTBL_of (tb_3 _ (List.mem_of_getElem? (i := 239) rfl)) rfl, mTBL_of (tb_4 _ (List.mem_of_getElem? (i := 0) rfl)) rfl⟩
theorem o_X3_begin : mOkV M_X3_begin 1 := ⟨⟨mTBL_of (tb_4 _ (List.mem_of_getElem? (i := 228) rfl)) rfl, in_X3, ⟨by decide, by decide⟩, by decide +kernel⟩, mTBL_of (tb_4 _ (List.mem_of_getElem? (i := 226) rfl)) rfl, mTBL_of (tb_4 _ (List.mem_of_getElem? (i := 227) rfl)) rfl⟩
theorem o_X3_clear : mOkV M_X3_clear 0 := ⟨⟨mTBL_of (tb_3 _ (List.mem_of_getElem? (i := 157) rfl)) rfl, in_X3, ⟨by decide, by decide⟩, by decide +kernel⟩, mTBL_of (tb_3 _ (List.mem_of_getElem? (i := 155) rfl)) rfl, mTBL_of (tb_3 _ (List.mem_of_getElem? (i := 156) rfl)) rfl⟩
theorem o_X3_commit : mOkV M_X3_commit 0 := ⟨⟨mTBL_of (tb_5 _ (List.mem_of_getElem? (i := 6) rfl)) rfl, in_X3, ⟨by decide, by decide⟩, by decide +kernel⟩, mTBL_of (tb_5 _ (List.mem_of_getElem? (i := 4) rfl)) rfl, mTBL_of (tb_5 _ (List.mem_of_getElem? (i := 5) rfl)) rfl⟩
theorem o_X3_forgetOldest : mOkV M_X3_forgetOldest 0 := ⟨⟨mTBL_of (tb_5 _ (List.mem_of_getElem? (i := 10) rfl)) rfl, in_X3, ⟨by decide, by decide⟩, by decide +kernel⟩, mTBL_of (tb_5 _ (List.mem_of_getElem? (i := 9) rfl)) rfl, mTBL_of (List.mem_append_left _ (List.mem_of_getElem? (i := 13) rfl)) rfl⟩
theorem o_X3_goBack : mOkV M_X3_goBack 1 := ⟨⟨mTBL_of (tb_6 _ (List.mem_of_getElem? (i := 69) rfl)) rfl, in_X3, ⟨by decide, by decide⟩, by decide +kernel⟩, mTBL_of (tb_6 _ (List.mem_of_getElem? (i := 67) rfl)) rfl, mTBL_of (tb_6 _ (List.mem_of_getElem? (i := 68) rfl)) rfl⟩
theorem o_X3_rollBack : mOkV M_X3_rollBack 1 := ⟨⟨mTBL_of (tb_5 _ (List.mem_of_getElem? (i := 76) rfl)) rfl, in_X3, ⟨by decide, by decide⟩, by decide +kernel⟩, mTBL_of (tb_5 _ (List.mem_of_getElem? (i := 74) rfl)) rfl, mTBL_of (tb_5 _ (List.mem_of_getElem? (i := 75) rfl)) rfl⟩
theorem o_X4_at : mOkV M_X4_at 1 := ⟨⟨mTBL_of (tb_4 _ (List.mem_of_getElem? (i := 169) rfl)) rfl, in_X4, ⟨by decide, by decide⟩, by decide +kernel⟩, mTBL_of (tb_4 _ (List.mem_of_getElem? (i := 167) rfl)) rfl, mTBL_of (tb_4 _ (List.mem_of_getElem? (i := 168) rfl)) rfl⟩
theorem o_X4_find : mOkV M_X4_find 1 := ⟨⟨mTBL_of (tb_5 _ (List.mem_of_getElem? (i := 58) rfl)) rfl, in_X4, ⟨by decide, by decide⟩, by decide +kernel⟩, mTBL_of (tb_5 _ (List.mem_of_getElem? (i := 56) rfl)) rfl, mTBL_of (tb_5 _ (List.mem_of_getElem? (i := 57) rfl)) rfl⟩
theorem o_X4_lay : mOkV M_X4_lay 3 := ⟨⟨mTBL_of (tb_4 _ (List.mem_of_getElem? (i := 160) rfl)) rfl, in_X4, ⟨by decide, by decide⟩, by decide +kernel⟩, mTBL_of (tb_4 _ (List.mem_of_getElem? (i := 158) rfl)) rfl, mTBL_of (tb_4 _ (List.mem_of_getElem? (i := 159) rfl)) rfl⟩
theorem o_X5_leastSum : mOkV M_X5_leastSum 1 := ⟨⟨mTBL_of (tb_4 _ (List.mem_of_getElem? (i := 96) rfl)) rfl, in_X5, ⟨by decide, by decide⟩, by decide +kernel⟩, mTBL_of (tb_4 _ (List.mem_of_getElem? (i := 94) rfl)) rfl, mTBL_of (tb_4 _ (List.mem_of_getElem? (i := 95) rfl)) rfl⟩
theorem o_X5_measure : mOkV M_X5_measure 1 := ⟨⟨mTBL_of (tb_4 _ (List.mem_of_getElem? (i := 100) rfl)) rfl, in_X5, ⟨by decide, by decide⟩, by decide +kernel⟩, mTBL_of (tb_4 _ (List.mem_of_getElem? (i := 99) rfl)) rfl, mTBL_of (List.mem_append_left _ (List.mem_of_getElem? (i := 6) rfl)) rfl⟩
theorem o_X5_measureFrom : mOkV M_X5_measureFrom 2 := ⟨⟨mTBL_of (tb_4 _ (List.mem_of_getElem? (i := 105) rfl)) rfl, in_X5, ⟨by decide, by decide⟩, by decide +kernel⟩, mTBL_of (tb_4 _ (List.mem_of_getElem? (i := 104) rfl)) rfl, mTBL_of (List.mem_append_left _ (List.mem_of_getElem? (i := 7) rfl)) rfl⟩
theorem o_X5_offer : mOkV M_X5_offer 2 := ⟨⟨mTBL_of (tb_4 _ (List.mem_of_getElem? (i := 115) rfl)) rfl, in_X5, ⟨by decide, by decide⟩, by decide +kernel⟩, mTBL_of (tb_4 _ (List.mem_of_getElem? (i := 114) rfl)) rfl, mTBL_of (List.mem_append_left _ (List.mem_of_getElem? (i := 8) rfl)) rfl⟩
theorem o_X5_offerTo : mOkV M_X5_offerTo 3 := ⟨⟨mTBL_of (tb_4 _ (List.mem_of_getElem? (i := 120) rfl)) rfl, in_X5, ⟨by decide, by decide⟩, by decide +kernel⟩, mTBL_of (tb_4 _ (List.mem_of_getElem? (i := 119) rfl)) rfl, mTBL_of (List.mem_append_left _ (List.mem_of_getElem? (i := 9) rfl)) rfl⟩
theorem o_X6_ahead : mOkV M_X6_ahead 1 := ⟨⟨mTBL_of (tb_4 _ (List.mem_of_getElem? (i := 194) rfl)) rfl, in_X6, ⟨by decide, by decide⟩, by decide +kernel⟩, mTBL_of (tb_4 _ (List.mem_of_getElem? (i := 193) rfl)) rfl, mTBL_of (List.mem_append_left _ (List.mem_of_getElem? (i := 10) rfl)) rfl⟩
theorem o_X6_area : mOkV M_X6_area 0 := ⟨⟨mTBL_of (tb_3 _ (List.mem_of_getElem? (i := 219) rfl)) rfl, in_X6, ⟨by decide, by decide⟩, by decide +kernel⟩, mTBL_of (tb_3 _ (List.mem_of_getElem? (i := 217) rfl)) rfl, mTBL_of (tb_3 _ (List.mem_of_getElem? (i := 218) rfl)) rfl⟩
theorem o_X6_behind : mOkV M_X6_behind 2 := ⟨⟨mTBL_of (tb_5 _ (List.mem_of_getElem? (i := 36) rfl)) rfl, in_X6, ⟨by decide, by decide⟩, by decide +kernel⟩, mTBL_of (tb_5 _ (List.mem_of_getElem? (i := 34) rfl)) rfl, mTBL_of (tb_5 _ (List.mem_of_getElem? (i := 35) rfl)) rfl⟩
theorem o_X6_boxReason : mOkV M_X6_boxReason 2 := ⟨⟨mTBL_of (tb_4 _ (List.mem_of_getElem? (i := 199) rfl)) rfl, in_X6, ⟨by decide, by decide⟩, by decide +kernel⟩, mTBL_of (tb_4 _ (List.mem_of_getElem? (i := 198) rfl)) rfl, mTBL_of (List.mem_append_left _ (List.mem_of_getElem? (i := 11) rfl)) rfl⟩
theorem o_X6_free : mOkV M_X6_free 0 := ⟨⟨mTBL_of (tb_3 _ (List.mem_of_getElem? (i := 224) rfl)) rfl, in_X6, ⟨by decide, by decide⟩, by decide +kernel⟩, mTBL_of (tb_3 _ (List.mem_of_getElem? (i := 222) rfl)) rfl, mTBL_of (tb_3 _ (List.mem_of_getElem? (i := 223) rfl)) rfl⟩
theorem o_X6_isLike : mOkV M_X6_isLike 1 := ⟨⟨mTBL_of (tb_6 _ (List.mem_of_getElem? (i := 57) rfl)) rfl, in_X6, ⟨by decide, by decide⟩, by decide +kernel⟩, mTBL_of (tb_6 _ (List.mem_of_getElem? (i := 55) rfl)) rfl, mTBL_of (tb_6 _ (List.mem_of_getElem? (i := 56) rfl)) rfl⟩
theorem o_X6_isSolved : mOkV M_X6_isSolved 0 := ⟨⟨mTBL_of (tb_4 _ (List.mem_of_getElem? (i := 49) rfl)) rfl, in_X6, ⟨by decide, by decide⟩, by decide +kernel⟩, mTBL_of (tb_4 _ (List.mem_of_getElem? (i := 47) rfl)) rfl, mTBL_of (tb_4 _ (List.mem_of_getElem? (i := 48) rfl)) rfl⟩
theorem o_X6_letterReason : mOkV M_X6_letterReason 2 := ⟨⟨mTBL_of (tb_5 _ (List.mem_of_getElem? (i := 134) rfl)) rfl, in_X6, ⟨by decide, by decide⟩, by decide +kernel⟩, mTBL_of (tb_5 _ (List.mem_of_getElem? (i := 132) rfl)) rfl, mTBL_of (tb_5 _ (List.mem_of_getElem? (i := 133) rfl)) rfl⟩
theorem o_X6_move : mOkV M_X6_move 1 := ⟨⟨mTBL_of (tb_4 _ (List.mem_of_getElem? (i := 238) rfl)) rfl, in_X6, ⟨by decide, by decide⟩, by decide +kernel⟩, mTBL_of (tb_4 _ (List.mem_of_getElem? (i := 236) rfl)) rfl, mTBL_of (tb_4 _ (List.mem_of_getElem? (i := 237) rfl)) rfl⟩
theorem o_X6_pushDetail : mOkV M_X6_pushDetail 3 := ⟨⟨mTBL_of (tb_5 _ (List.mem_of_getElem? (i := 42) rfl)) rfl, in_X6, ⟨by decide, by decide⟩, by decide +kernel⟩, mTBL_of (tb_5 _ (List.mem_of_getElem? (i := 40) rfl)) rfl, mTBL_of (tb_5 _ (List.mem_of_getElem? (i := 41) rfl)) rfl⟩
theorem o_X6_pushReason : mOkV M_X6_pushReason 2 := ⟨⟨mTBL_of (tb_5 _ (List.mem_of_getElem? (i := 32) rfl)) rfl, in_X6, ⟨by decide, by decide⟩, by decide +kernel⟩, mTBL_of (tb_5 _ (List.mem_of_getElem? (i := 30) rfl)) rfl, mTBL_of (tb_5 _ (List.mem_of_getElem? (i := 31) rfl)) rfl⟩
theorem o_X6_put : mOkV M_X6_put 2 := ⟨⟨mTBL_of (tb_3 _ (List.mem_of_getElem? (i := 149) rfl)) rfl, in_X6, ⟨by decide, by decide⟩, by decide +kernel⟩, mTBL_of (tb_3 _ (List.mem_of_getElem? (i := 147) rfl)) rfl, mTBL_of (tb_3 _ (List.mem_of_getElem? (i := 148) rfl)) rfl⟩
theorem o_X6_stepDetail : mOkV M_X6_stepDetail 2 := ⟨⟨mTBL_of (tb_4 _ (List.mem_of_getElem? (i := 203) rfl)) rfl, in_X6, ⟨by decide, by decide⟩, by decide +kernel⟩, mTBL_of (tb_4 _ (List.mem_of_getElem? (i := 201) rfl)) rfl, mTBL_of (tb_4 _ (List.mem_of_getElem? (i := 202) rfl)) rfl⟩
theorem o_X6_stepReason : mOkV M_X6_stepReason 1 := ⟨⟨mTBL_of (tb_4 _ (List.mem_of_getElem? (i := 190) rfl)) rfl, in_X6, ⟨by decide, by decide⟩, by decide +kernel⟩, mTBL_of (tb_4 _ (List.mem_of_getElem? (i := 188) rfl)) rfl, mTBL_of (tb_4 _ (List.mem_of_getElem? (i := 189) rfl)) rfl⟩
theorem o_X7_addCell : mOkV M_X7_addCell 1 := ⟨⟨mTBL_of (tb_3 _ (List.mem_of_getElem? (i := 11) rfl)) rfl, in_X7, ⟨by decide, by decide⟩, by decide +kernel⟩, mTBL_of (tb_3 _ (List.mem_of_getElem? (i := 10) rfl)) rfl, mTBL_of (List.mem_append_left _ (List.mem_of_getElem? (i := 3) rfl)) rfl⟩
theorem o_X7_clear : mOkV M_X7_clear 0 := ⟨⟨mTBL_of (tb_1 _ (List.mem_of_getElem? (i := 62) rfl)) rfl, in_X7, ⟨by decide, by decide⟩, by decide +kernel⟩, mTBL_of (tb_1 _ (List.mem_of_getElem? (i := 61) rfl)) rfl, mTBL_of (List.mem_append_left _ (List.mem_of_getElem? (i := 0) rfl)) rfl⟩
theorem o_X7_endRow : mOkV M_X7_endRow 0 := ⟨⟨mTBL_of (tb_3 _ (List.mem_of_getElem? (i := 7) rfl)) rfl, in_X7, ⟨by decide, by decide⟩, by decide +kernel⟩, mTBL_of (tb_3 _ (List.mem_of_getElem? (i := 6) rfl)) rfl, mTBL_of (List.mem_append_left _ (List.mem_of_getElem? (i := 2) rfl)) rfl⟩
theorem o_X7_isRoom : mOkV M_X7_isRoom 0 := ⟨⟨mTBL_of (tb_3 _ (List.mem_of_getElem? (i := 105) rfl)) rfl, in_X7, ⟨by decide, by decide⟩, by decide +kernel⟩, mTBL_of (tb_3 _ (List.mem_of_getElem? (i := 103) rfl)) rfl, mTBL_of (tb_3 _ (List.mem_of_getElem? (i := 104) rfl)) rfl⟩
theorem o_X7_isSide : mOkS M_X7_isSide 1 := ⟨⟨mTBL_of (tb_3 _ (List.mem_of_getElem? (i := 108) rfl)) rfl, in_X7, ⟨by decide, by decide⟩, by decide +kernel⟩, mTBL_of (tb_3 _ (List.mem_of_getElem? (i := 107) rfl)) rfl⟩
theorem o_X7_read : mOkV M_X7_read 2 := ⟨⟨mTBL_of (tb_2 _ (List.mem_of_getElem? (i := 239) rfl)) rfl, in_X7, ⟨by decide, by decide⟩, by decide +kernel⟩, mTBL_of (tb_2 _ (List.mem_of_getElem? (i := 237) rfl)) rfl, mTBL_of (tb_2 _ (List.mem_of_getElem? (i := 238) rfl)) rfl⟩
theorem o_X8_add : mOkV M_X8_add 4 := ⟨⟨mTBL_of (tb_5 _ (List.mem_of_getElem? (i := 182) rfl)) rfl, in_X8, ⟨by decide, by decide⟩, by decide +kernel⟩, mTBL_of (tb_5 _ (List.mem_of_getElem? (i := 181) rfl)) rfl, mTBL_of (List.mem_append_left _ (List.mem_of_getElem? (i := 22) rfl)) rfl⟩
theorem o_X8_lookAt : mOkV M_X8_lookAt 4 := ⟨⟨mTBL_of (tb_5 _ (List.mem_of_getElem? (i := 202) rfl)) rfl, in_X8, ⟨by decide, by decide⟩, by decide +kernel⟩, mTBL_of (tb_5 _ (List.mem_of_getElem? (i := 201) rfl)) rfl, mTBL_of (List.mem_append_left _ (List.mem_of_getElem? (i := 25) rfl)) rfl⟩
theorem o_X8_parentOf : mOkV M_X8_parentOf 1 := ⟨⟨mTBL_of (tb_5 _ (List.mem_of_getElem? (i := 218) rfl)) rfl, in_X8, ⟨by decide, by decide⟩, by decide +kernel⟩, mTBL_of (tb_5 _ (List.mem_of_getElem? (i := 216) rfl)) rfl, mTBL_of (tb_5 _ (List.mem_of_getElem? (i := 217) rfl)) rfl⟩
theorem o_X8_pushTo : mOkV M_X8_pushTo 1 := ⟨⟨mTBL_of (tb_5 _ (List.mem_of_getElem? (i := 222) rfl)) rfl, in_X8, ⟨by decide, by decide⟩, by decide +kernel⟩, mTBL_of (tb_5 _ (List.mem_of_getElem? (i := 220) rfl)) rfl, mTBL_of (tb_5 _ (List.mem_of_getElem? (i := 221) rfl)) rfl⟩
theorem o_X8_run : mOkV M_X8_run 3 := ⟨⟨mTBL_of (tb_5 _ (List.mem_of_getElem? (i := 175) rfl)) rfl, in_X8, ⟨by decide, by decide⟩, by decide +kernel⟩, mTBL_of (tb_5 _ (List.mem_of_getElem? (i := 173) rfl)) rfl, mTBL_of (tb_5 _ (List.mem_of_getElem? (i := 174) rfl)) rfl⟩
theorem o_X8_slotFor : mOkV M_X8_slotFor 2 := ⟨⟨mTBL_of (tb_5 _ (List.mem_of_getElem? (i := 186) rfl)) rfl, in_X8, ⟨by decide, by decide⟩, by decide +kernel⟩, mTBL_of (tb_5 _ (List.mem_of_getElem? (i := 185) rfl)) rfl, mTBL_of (List.mem_append_left _ (List.mem_of_getElem? (i := 23) rfl)) rfl⟩
theorem o_X8_visit : mOkV M_X8_visit 1 := ⟨⟨mTBL_of (tb_5 _ (List.mem_of_getElem? (i := 194) rfl)) rfl, in_X8, ⟨by decide, by decide⟩, by decide +kernel⟩, mTBL_of (tb_5 _ (List.mem_of_getElem? (i := 193) rfl)) rfl, mTBL_of (List.mem_append_left _ (List.mem_of_getElem? (i := 24) rfl)) rfl⟩
theorem o_X9_cellAt : mOkV M_X9_cellAt 1 := ⟨⟨mTBL_of (tb_6 _ (List.mem_of_getElem? (i := 0) rfl)) rfl, in_X9, ⟨by decide, by decide⟩, by decide +kernel⟩, mTBL_of (tb_5 _ (List.mem_of_getElem? (i := 238) rfl)) rfl, mTBL_of (tb_5 _ (List.mem_of_getElem? (i := 239) rfl)) rfl⟩
theorem o_X9_depthOf : mOkS M_X9_depthOf 1 := ⟨⟨mTBL_of (tb_5 _ (List.mem_of_getElem? (i := 214) rfl)) rfl, in_X9, ⟨by decide, by decide⟩, by decide +kernel⟩, mTBL_of (tb_5 _ (List.mem_of_getElem? (i := 213) rfl)) rfl⟩
theorem o_X9_directionAt : mOkV M_X9_directionAt 1 := ⟨⟨mTBL_of (tb_5 _ (List.mem_of_getElem? (i := 235) rfl)) rfl, in_X9, ⟨by decide, by decide⟩, by decide +kernel⟩, mTBL_of (tb_5 _ (List.mem_of_getElem? (i := 233) rfl)) rfl, mTBL_of (tb_5 _ (List.mem_of_getElem? (i := 234) rfl)) rfl⟩
theorem o_X9_keep : mOkV M_X9_keep 1 := ⟨⟨mTBL_of (tb_5 _ (List.mem_of_getElem? (i := 211) rfl)) rfl, in_X9, ⟨by decide, by decide⟩, by decide +kernel⟩, mTBL_of (tb_5 _ (List.mem_of_getElem? (i := 209) rfl)) rfl, mTBL_of (tb_5 _ (List.mem_of_getElem? (i := 210) rfl)) rfl⟩
theorem l_X11_99 : Cond.methodLink RX11 99 yX10_add ∈ mTBL := mTBL_of (tb_2 _ (List.mem_of_getElem? (i := 220) rfl)) rfl
theorem l_X11_103 : Cond.methodLink RX11 103 yX10_take ∈ mTBL := mTBL_of (tb_2 _ (List.mem_of_getElem? (i := 232) rfl)) rfl
theorem l_X11_107 : Cond.methodLink RX11 107 yX7_read ∈ mTBL := mTBL_of (tb_2 _ (List.mem_of_getElem? (i := 236) rfl)) rfl
theorem l_X11_111 : Cond.methodLink RX11 111 yX7_isRoom ∈ mTBL := mTBL_of (tb_3 _ (List.mem_of_getElem? (i := 102) rfl)) rfl
theorem l_X11_120 : Cond.methodLink RX11 120 yX0_begin ∈ mTBL := mTBL_of (tb_3 _ (List.mem_of_getElem? (i := 125) rfl)) rfl
theorem l_X11_124 : Cond.methodLink RX11 124 yX3_clear ∈ mTBL := mTBL_of (tb_3 _ (List.mem_of_getElem? (i := 154) rfl)) rfl
theorem l_X11_133 : Cond.methodLink RX11 133 yJ13_bitCount_95d88 ∈ mTBL := mTBL_of (tb_3 _ (List.mem_of_getElem? (i := 158) rfl)) rfl
theorem l_X11_139 : Cond.methodLink RX11 139 yX11_requireRoom ∈ mTBL := mTBL_of (tb_3 _ (List.mem_of_getElem? (i := 172) rfl)) rfl
theorem l_X11_142 : Cond.methodLink RX11 142 yX2_hasPlace ∈ mTBL := mTBL_of (tb_3 _ (List.mem_of_getElem? (i := 181) rfl)) rfl
theorem l_X11_154 : Cond.methodLink RX11 154 yX0_signOf ∈ mTBL := mTBL_of (tb_3 _ (List.mem_of_getElem? (i := 201) rfl)) rfl
theorem l_X11_170 : Cond.methodLink RX11 170 yX6_area ∈ mTBL := mTBL_of (tb_3 _ (List.mem_of_getElem? (i := 216) rfl)) rfl
theorem l_X11_177 : Cond.methodLink RX11 177 yX2_frozen ∈ mTBL := mTBL_of (tb_3 _ (List.mem_of_getElem? (i := 234) rfl)) rfl
theorem l_X11_181 : Cond.methodLink RX11 181 yX2_tunnelsInRow ∈ mTBL := mTBL_of (tb_3 _ (List.mem_of_getElem? (i := 238) rfl)) rfl
theorem l_X11_184 : Cond.methodLink RX11 184 yX2_tunnelsInColumn ∈ mTBL := mTBL_of (tb_4 _ (List.mem_of_getElem? (i := 2) rfl)) rfl
theorem l_X11_198 : Cond.methodLink RX11 198 yX0_pushes ∈ mTBL := mTBL_of (tb_4 _ (List.mem_of_getElem? (i := 14) rfl)) rfl
theorem l_X11_204 : Cond.methodLink RX11 204 yX6_free ∈ mTBL := mTBL_of (tb_4 _ (List.mem_of_getElem? (i := 24) rfl)) rfl
theorem l_X11_207 : Cond.methodLink RX11 207 yX2_groups ∈ mTBL := mTBL_of (tb_4 _ (List.mem_of_getElem? (i := 25) rfl)) rfl
theorem l_X11_210 : Cond.methodLink RX11 210 yX1_howMany ∈ mTBL := mTBL_of (tb_4 _ (List.mem_of_getElem? (i := 30) rfl)) rfl
theorem l_X11_213 : Cond.methodLink RX11 213 yX2_isLaid ∈ mTBL := mTBL_of (tb_3 _ (List.mem_of_getElem? (i := 176) rfl)) rfl
theorem l_X11_216 : Cond.methodLink RX11 216 yX6_isSolved ∈ mTBL := mTBL_of (tb_4 _ (List.mem_of_getElem? (i := 46) rfl)) rfl
theorem l_X11_221 : Cond.methodLink RX11 221 yX11_has ∈ mTBL := mTBL_of (tb_4 _ (List.mem_of_getElem? (i := 59) rfl)) rfl
theorem l_X11_229 : Cond.methodLink RX11 229 yX11_bit ∈ mTBL := mTBL_of (tb_3 _ (List.mem_of_getElem? (i := 208) rfl)) rfl
theorem l_X11_233 : Cond.methodLink RX11 233 yX2_leastPushes ∈ mTBL := mTBL_of (tb_4 _ (List.mem_of_getElem? (i := 62) rfl)) rfl
theorem l_X11_242 : Cond.methodLink RX11 242 yX5_leastSum ∈ mTBL := mTBL_of (tb_4 _ (List.mem_of_getElem? (i := 93) rfl)) rfl
theorem l_X11_247 : Cond.methodLink RX11 247 yX2_stuckReason ∈ mTBL := mTBL_of (tb_4 _ (List.mem_of_getElem? (i := 129) rfl)) rfl
theorem l_X11_252 : Cond.methodLink RX11 252 yX2_stuckDetail ∈ mTBL := mTBL_of (tb_4 _ (List.mem_of_getElem? (i := 135) rfl)) rfl
theorem l_X11_256 : Cond.methodLink RX11 256 yX1_goalsOf ∈ mTBL := mTBL_of (tb_4 _ (List.mem_of_getElem? (i := 149) rfl)) rfl
theorem l_X11_261 : Cond.methodLink RX11 261 yX1_entrances ∈ mTBL := mTBL_of (tb_4 _ (List.mem_of_getElem? (i := 151) rfl)) rfl
theorem l_X11_264 : Cond.methodLink RX11 264 yX11_lowest ∈ mTBL := mTBL_of (tb_4 _ (List.mem_of_getElem? (i := 152) rfl)) rfl
theorem l_X11_267 : Cond.methodLink RX11 267 yX1_goalAt ∈ mTBL := mTBL_of (tb_4 _ (List.mem_of_getElem? (i := 153) rfl)) rfl
theorem l_X11_270 : Cond.methodLink RX11 270 yX11_requireDirection ∈ mTBL := mTBL_of (tb_4 _ (List.mem_of_getElem? (i := 182) rfl)) rfl
theorem l_X11_276 : Cond.methodLink RX11 276 yX6_stepReason ∈ mTBL := mTBL_of (tb_4 _ (List.mem_of_getElem? (i := 187) rfl)) rfl
theorem l_X11_280 : Cond.methodLink RX11 280 yX6_stepDetail ∈ mTBL := mTBL_of (tb_4 _ (List.mem_of_getElem? (i := 200) rfl)) rfl
theorem l_X11_284 : Cond.methodLink RX11 284 yX11_keepRefusal ∈ mTBL := mTBL_of (tb_4 _ (List.mem_of_getElem? (i := 205) rfl)) rfl
theorem l_X11_293 : Cond.methodLink RX11 293 yX3_begin ∈ mTBL := mTBL_of (tb_4 _ (List.mem_of_getElem? (i := 225) rfl)) rfl
theorem l_X11_296 : Cond.methodLink RX11 296 yX0_makeStep ∈ mTBL := mTBL_of (tb_4 _ (List.mem_of_getElem? (i := 231) rfl)) rfl
theorem l_X11_300 : Cond.methodLink RX11 300 yX3_commit ∈ mTBL := mTBL_of (tb_5 _ (List.mem_of_getElem? (i := 3) rfl)) rfl
theorem l_X11_303 : Cond.methodLink RX11 303 yX11_requirePush ∈ mTBL := mTBL_of (tb_5 _ (List.mem_of_getElem? (i := 20) rfl)) rfl
theorem l_X11_306 : Cond.methodLink RX11 306 yX0_pushBox ∈ mTBL := mTBL_of (tb_5 _ (List.mem_of_getElem? (i := 44) rfl)) rfl
theorem l_X11_309 : Cond.methodLink RX11 309 yX11_commitOrThrow ∈ mTBL := mTBL_of (tb_5 _ (List.mem_of_getElem? (i := 69) rfl)) rfl
theorem l_X11_312 : Cond.methodLink RX11 312 yX0_pushBoxOn ∈ mTBL := mTBL_of (tb_5 _ (List.mem_of_getElem? (i := 86) rfl)) rfl
theorem l_X11_315 : Cond.methodLink RX11 315 yX10_faultAsSteps ∈ mTBL := mTBL_of (tb_5 _ (List.mem_of_getElem? (i := 105) rfl)) rfl
theorem l_X11_318 : Cond.methodLink RX11 318 yX11_playElements ∈ mTBL := mTBL_of (tb_5 _ (List.mem_of_getElem? (i := 115) rfl)) rfl
theorem l_X11_321 : Cond.methodLink RX11 321 yX3_rollBack ∈ mTBL := mTBL_of (tb_5 _ (List.mem_of_getElem? (i := 73) rfl)) rfl
theorem l_X11_330 : Cond.methodLink RX11 330 yX11_requireBox ∈ mTBL := mTBL_of (tb_5 _ (List.mem_of_getElem? (i := 24) rfl)) rfl
theorem l_X11_333 : Cond.methodLink RX11 333 yX6_pushReason ∈ mTBL := mTBL_of (tb_5 _ (List.mem_of_getElem? (i := 29) rfl)) rfl
theorem l_X11_336 : Cond.methodLink RX11 336 yX11_searchAndKeep ∈ mTBL := mTBL_of (tb_5 _ (List.mem_of_getElem? (i := 167) rfl)) rfl
theorem l_X11_347 : Cond.methodLink RX11 347 yX9_directionAt ∈ mTBL := mTBL_of (tb_5 _ (List.mem_of_getElem? (i := 232) rfl)) rfl
theorem l_X11_350 : Cond.methodLink RX11 350 yX9_cellAt ∈ mTBL := mTBL_of (tb_5 _ (List.mem_of_getElem? (i := 237) rfl)) rfl
theorem l_X11_359 : Cond.methodLink RX11 359 yX11_intAt ∈ mTBL := mTBL_of (tb_6 _ (List.mem_of_getElem? (i := 16) rfl)) rfl
theorem l_X11_363 : Cond.methodLink RX11 363 yX11_letterOf ∈ mTBL := mTBL_of (tb_6 _ (List.mem_of_getElem? (i := 17) rfl)) rfl
theorem l_X11_366 : Cond.methodLink RX11 366 yX0_comesOutAgain ∈ mTBL := mTBL_of (tb_6 _ (List.mem_of_getElem? (i := 48) rfl)) rfl
theorem l_X11_371 : Cond.methodLink RX11 371 yX3_goBack ∈ mTBL := mTBL_of (tb_6 _ (List.mem_of_getElem? (i := 66) rfl)) rfl
theorem l_X11_374 : Cond.methodLink RX11 374 yX0_copy ∈ mTBL := mTBL_of (tb_6 _ (List.mem_of_getElem? (i := 78) rfl)) rfl
theorem l_X11_385 : Cond.methodLink RX11 385 yX6_pushDetail ∈ mTBL := mTBL_of (tb_5 _ (List.mem_of_getElem? (i := 39) rfl)) rfl
theorem l_X11_395 : Cond.methodLink RX11 395 yX8_run ∈ mTBL := mTBL_of (tb_5 _ (List.mem_of_getElem? (i := 172) rfl)) rfl
theorem l_X11_410 : Cond.methodLink RX11 410 yX9_keep ∈ mTBL := mTBL_of (tb_5 _ (List.mem_of_getElem? (i := 208) rfl)) rfl
theorem l_X11_414 : Cond.methodLink RX11 414 yX10_at ∈ mTBL := mTBL_of (tb_5 _ (List.mem_of_getElem? (i := 119) rfl)) rfl
theorem l_X11_419 : Cond.methodLink RX11 419 yJ0_indexOf_0f7a4 ∈ mTBL := mTBL_of (tb_5 _ (List.mem_of_getElem? (i := 121) rfl)) rfl
theorem l_X11_424 : Cond.methodLink RX11 424 yJ9_max_7cf53 ∈ mTBL := mTBL_of (tb_5 _ (List.mem_of_getElem? (i := 122) rfl)) rfl
theorem l_X11_429 : Cond.methodLink RX11 429 yX11_playElement ∈ mTBL := mTBL_of (tb_5 _ (List.mem_of_getElem? (i := 123) rfl)) rfl
theorem l_X11_432 : Cond.methodLink RX11 432 yX11_directionOf ∈ mTBL := mTBL_of (tb_5 _ (List.mem_of_getElem? (i := 127) rfl)) rfl
theorem l_X11_435 : Cond.methodLink RX11 435 yX11_isPushCode ∈ mTBL := mTBL_of (tb_5 _ (List.mem_of_getElem? (i := 130) rfl)) rfl
theorem l_X11_438 : Cond.methodLink RX11 438 yX6_letterReason ∈ mTBL := mTBL_of (tb_5 _ (List.mem_of_getElem? (i := 131) rfl)) rfl
theorem l_X11_442 : Cond.methodLink RX11 442 yJ0_length_8abf5 ∈ mTBL := mTBL_of (tb_6 _ (List.mem_of_getElem? (i := 20) rfl)) rfl
theorem l_X11_444 : Cond.methodLink RX11 444 yJ0_charAt_5068e ∈ mTBL := mTBL_of (tb_6 _ (List.mem_of_getElem? (i := 21) rfl)) rfl
theorem l_X0_48 : Cond.methodLink RX0 48 yX2_lay ∈ mTBL := mTBL_of (tb_3 _ (List.mem_of_getElem? (i := 129) rfl)) rfl
theorem l_X0_61 : Cond.methodLink RX0 61 yX6_put ∈ mTBL := mTBL_of (tb_3 _ (List.mem_of_getElem? (i := 146) rfl)) rfl
theorem l_X0_65 : Cond.methodLink RX0 65 yX0_returnTo ∈ mTBL := mTBL_of (tb_3 _ (List.mem_of_getElem? (i := 150) rfl)) rfl
theorem l_X0_69 : Cond.methodLink RX0 69 yX2_copy ∈ mTBL := mTBL_of (tb_6 _ (List.mem_of_getElem? (i := 82) rfl)) rfl
theorem l_X0_92 : Cond.methodLink RX0 92 yX6_move ∈ mTBL := mTBL_of (tb_4 _ (List.mem_of_getElem? (i := 235) rfl)) rfl
theorem l_X0_100 : Cond.methodLink RX0 100 yX6_behind ∈ mTBL := mTBL_of (tb_5 _ (List.mem_of_getElem? (i := 48) rfl)) rfl
theorem l_X0_104 : Cond.methodLink RX0 104 yX0_walkTo ∈ mTBL := mTBL_of (tb_5 _ (List.mem_of_getElem? (i := 49) rfl)) rfl
theorem l_X0_108 : Cond.methodLink RX0 108 yX0_makeStep ∈ mTBL := mTBL_of (tb_5 _ (List.mem_of_getElem? (i := 68) rfl)) rfl
theorem l_X0_111 : Cond.methodLink RX0 111 yX0_pushBox ∈ mTBL := mTBL_of (tb_5 _ (List.mem_of_getElem? (i := 90) rfl)) rfl
theorem l_X0_115 : Cond.methodLink RX0 115 yX2_tunnelsAlong ∈ mTBL := mTBL_of (tb_5 _ (List.mem_of_getElem? (i := 91) rfl)) rfl
theorem l_X0_122 : Cond.methodLink RX0 122 yX2_moved ∈ mTBL := mTBL_of (tb_5 _ (List.mem_of_getElem? (i := 67) rfl)) rfl
theorem l_X0_126 : Cond.methodLink RX0 126 yX6_stepReason ∈ mTBL := mTBL_of (tb_5 _ (List.mem_of_getElem? (i := 97) rfl)) rfl
theorem l_X0_130 : Cond.methodLink RX0 130 yX6_free ∈ mTBL := mTBL_of (tb_5 _ (List.mem_of_getElem? (i := 53) rfl)) rfl
theorem l_X0_134 : Cond.methodLink RX0 134 yX4_lay ∈ mTBL := mTBL_of (tb_5 _ (List.mem_of_getElem? (i := 54) rfl)) rfl
theorem l_X0_137 : Cond.methodLink RX0 137 yX4_find ∈ mTBL := mTBL_of (tb_5 _ (List.mem_of_getElem? (i := 55) rfl)) rfl
theorem l_X0_140 : Cond.methodLink RX0 140 yX4_at ∈ mTBL := mTBL_of (tb_5 _ (List.mem_of_getElem? (i := 61) rfl)) rfl
theorem l_X0_143 : Cond.methodLink RX0 143 yX0_directionInto ∈ mTBL := mTBL_of (tb_5 _ (List.mem_of_getElem? (i := 62) rfl)) rfl
theorem l_X0_153 : Cond.methodLink RX0 153 yX6_letterReason ∈ mTBL := mTBL_of (tb_6 _ (List.mem_of_getElem? (i := 53) rfl)) rfl
theorem l_X0_156 : Cond.methodLink RX0 156 yX6_isLike ∈ mTBL := mTBL_of (tb_6 _ (List.mem_of_getElem? (i := 54) rfl)) rfl
theorem l_X1_22 : Cond.methodLink RX1 22 yX1_goalsOf ∈ mTBL := mTBL_of (tb_4 _ (List.mem_of_getElem? (i := 34) rfl)) rfl
theorem l_X1_32 : Cond.methodLink RX1 32 yX2_spread ∈ mTBL := mTBL_of (tb_4 _ (List.mem_of_getElem? (i := 38) rfl)) rfl
theorem l_X1_38 : Cond.methodLink RX1 38 yX1_entrances ∈ mTBL := mTBL_of (tb_4 _ (List.mem_of_getElem? (i := 40) rfl)) rfl
theorem l_X1_42 : Cond.methodLink RX1 42 yJ13_bitCount_95d88 ∈ mTBL := mTBL_of (tb_4 _ (List.mem_of_getElem? (i := 45) rfl)) rfl
theorem l_X1_48 : Cond.methodLink RX1 48 yX2_beside ∈ mTBL := mTBL_of (tb_4 _ (List.mem_of_getElem? (i := 44) rfl)) rfl
theorem l_X1_51 : Cond.methodLink RX1 51 yX4_lay ∈ mTBL := mTBL_of (tb_4 _ (List.mem_of_getElem? (i := 157) rfl)) rfl
theorem l_X1_59 : Cond.methodLink RX1 59 yX4_at ∈ mTBL := mTBL_of (tb_4 _ (List.mem_of_getElem? (i := 166) rfl)) rfl
theorem l_X2_44 : Cond.methodLink RX2 44 yX2_pulled ∈ mTBL := mTBL_of (tb_3 _ (List.mem_of_getElem? (i := 134) rfl)) rfl
theorem l_X2_50 : Cond.methodLink RX2 50 yX2_moved ∈ mTBL := mTBL_of (tb_3 _ (List.mem_of_getElem? (i := 141) rfl)) rfl
theorem l_X2_54 : Cond.methodLink RX2 54 yX2_beside ∈ mTBL := mTBL_of (tb_3 _ (List.mem_of_getElem? (i := 230) rfl)) rfl
theorem l_X2_57 : Cond.methodLink RX2 57 yX2_spread ∈ mTBL := mTBL_of (tb_4 _ (List.mem_of_getElem? (i := 29) rfl)) rfl
theorem l_X2_65 : Cond.methodLink RX2 65 yX2_lonePushed ∈ mTBL := mTBL_of (tb_4 _ (List.mem_of_getElem? (i := 66) rfl)) rfl
theorem l_X2_68 : Cond.methodLink RX2 68 yX2_frozen ∈ mTBL := mTBL_of (tb_4 _ (List.mem_of_getElem? (i := 133) rfl)) rfl
theorem l_X2_75 : Cond.methodLink RX2 75 yX2_tunnelsInRow ∈ mTBL := mTBL_of (tb_5 _ (List.mem_of_getElem? (i := 95) rfl)) rfl
theorem l_X2_79 : Cond.methodLink RX2 79 yX2_tunnelsInColumn ∈ mTBL := mTBL_of (tb_5 _ (List.mem_of_getElem? (i := 96) rfl)) rfl
theorem l_X3_58 : Cond.methodLink RX3 58 yX0_returnTo ∈ mTBL := mTBL_of (tb_5 _ (List.mem_of_getElem? (i := 77) rfl)) rfl
theorem l_X3_62 : Cond.methodLink RX3 62 yX3_forgetOldest ∈ mTBL := mTBL_of (tb_5 _ (List.mem_of_getElem? (i := 7) rfl)) rfl
theorem l_X3_65 : Cond.methodLink RX3 65 yX3_rollBack ∈ mTBL := mTBL_of (tb_6 _ (List.mem_of_getElem? (i := 70) rfl)) rfl
theorem l_X4_23 : Cond.methodLink RX4 23 yX2_beside ∈ mTBL := mTBL_of (tb_4 _ (List.mem_of_getElem? (i := 164) rfl)) rfl
theorem l_X4_35 : Cond.methodLink RX4 35 yX4_at ∈ mTBL := mTBL_of (tb_5 _ (List.mem_of_getElem? (i := 59) rfl)) rfl
theorem l_X5_22 : Cond.methodLink RX5 22 yX5_measure ∈ mTBL := mTBL_of (tb_4 _ (List.mem_of_getElem? (i := 97) rfl)) rfl
theorem l_X5_40 : Cond.methodLink RX5 40 yX5_offer ∈ mTBL := mTBL_of (tb_4 _ (List.mem_of_getElem? (i := 112) rfl)) rfl
theorem l_X5_48 : Cond.methodLink RX5 48 yX5_measureFrom ∈ mTBL := mTBL_of (tb_4 _ (List.mem_of_getElem? (i := 102) rfl)) rfl
theorem l_X5_55 : Cond.methodLink RX5 55 yX2_lonePushed ∈ mTBL := mTBL_of (tb_4 _ (List.mem_of_getElem? (i := 110) rfl)) rfl
theorem l_X5_61 : Cond.methodLink RX5 61 yX5_offerTo ∈ mTBL := mTBL_of (tb_4 _ (List.mem_of_getElem? (i := 117) rfl)) rfl
theorem l_X6_37 : Cond.methodLink RX6 37 yX6_free ∈ mTBL := mTBL_of (tb_3 _ (List.mem_of_getElem? (i := 221) rfl)) rfl
theorem l_X6_41 : Cond.methodLink RX6 41 yX2_spread ∈ mTBL := mTBL_of (tb_3 _ (List.mem_of_getElem? (i := 226) rfl)) rfl
theorem l_X6_45 : Cond.methodLink RX6 45 yX2_moved ∈ mTBL := mTBL_of (tb_4 _ (List.mem_of_getElem? (i := 195) rfl)) rfl
theorem l_X6_49 : Cond.methodLink RX6 49 yX6_ahead ∈ mTBL := mTBL_of (tb_4 _ (List.mem_of_getElem? (i := 191) rfl)) rfl
theorem l_X6_52 : Cond.methodLink RX6 52 yX6_boxReason ∈ mTBL := mTBL_of (tb_4 _ (List.mem_of_getElem? (i := 196) rfl)) rfl
theorem l_X6_60 : Cond.methodLink RX6 60 yX6_stepReason ∈ mTBL := mTBL_of (tb_5 _ (List.mem_of_getElem? (i := 135) rfl)) rfl
theorem l_X6_64 : Cond.methodLink RX6 64 yX6_behind ∈ mTBL := mTBL_of (tb_5 _ (List.mem_of_getElem? (i := 33) rfl)) rfl
theorem l_X6_68 : Cond.methodLink RX6 68 yX6_area ∈ mTBL := mTBL_of (tb_5 _ (List.mem_of_getElem? (i := 38) rfl)) rfl
theorem l_X7_9 : Cond.methodLink RX7 9 yX7_clear ∈ mTBL := mTBL_of (tb_1 _ (List.mem_of_getElem? (i := 59) rfl)) rfl
theorem l_X7_46 : Cond.methodLink RX7 46 yX10_at ∈ mTBL := mTBL_of (tb_3 _ (List.mem_of_getElem? (i := 0) rfl)) rfl
theorem l_X7_52 : Cond.methodLink RX7 52 yX7_endRow ∈ mTBL := mTBL_of (tb_3 _ (List.mem_of_getElem? (i := 4) rfl)) rfl
theorem l_X7_56 : Cond.methodLink RX7 56 yX7_addCell ∈ mTBL := mTBL_of (tb_3 _ (List.mem_of_getElem? (i := 8) rfl)) rfl
theorem l_X7_62 : Cond.methodLink RX7 62 yJ0_indexOf_0f7a4 ∈ mTBL := mTBL_of (tb_3 _ (List.mem_of_getElem? (i := 13) rfl)) rfl
theorem l_X7_72 : Cond.methodLink RX7 72 yX7_isSide ∈ mTBL := mTBL_of (tb_3 _ (List.mem_of_getElem? (i := 106) rfl)) rfl
theorem l_X8_58 : Cond.methodLink RX8 58 yX6_area ∈ mTBL := mTBL_of (tb_5 _ (List.mem_of_getElem? (i := 177) rfl)) rfl
theorem l_X8_66 : Cond.methodLink RX8 66 yX8_add ∈ mTBL := mTBL_of (tb_5 _ (List.mem_of_getElem? (i := 179) rfl)) rfl
theorem l_X8_70 : Cond.methodLink RX8 70 yX8_visit ∈ mTBL := mTBL_of (tb_5 _ (List.mem_of_getElem? (i := 191) rfl)) rfl
theorem l_X8_96 : Cond.methodLink RX8 96 yX2_spread ∈ mTBL := mTBL_of (tb_5 _ (List.mem_of_getElem? (i := 197) rfl)) rfl
theorem l_X8_104 : Cond.methodLink RX8 104 yX8_lookAt ∈ mTBL := mTBL_of (tb_5 _ (List.mem_of_getElem? (i := 199) rfl)) rfl
theorem l_X8_108 : Cond.methodLink RX8 108 yX2_moved ∈ mTBL := mTBL_of (tb_5 _ (List.mem_of_getElem? (i := 203) rfl)) rfl
theorem l_X8_116 : Cond.methodLink RX8 116 yX2_stuckReason ∈ mTBL := mTBL_of (tb_5 _ (List.mem_of_getElem? (i := 205) rfl)) rfl
theorem l_X8_119 : Cond.methodLink RX8 119 yX8_slotFor ∈ mTBL := mTBL_of (tb_5 _ (List.mem_of_getElem? (i := 183) rfl)) rfl
theorem l_X9_27 : Cond.methodLink RX9 27 yX9_depthOf ∈ mTBL := mTBL_of (tb_5 _ (List.mem_of_getElem? (i := 212) rfl)) rfl
theorem l_X9_34 : Cond.methodLink RX9 34 yX8_pushTo ∈ mTBL := mTBL_of (tb_5 _ (List.mem_of_getElem? (i := 219) rfl)) rfl
theorem l_X9_42 : Cond.methodLink RX9 42 yX8_parentOf ∈ mTBL := mTBL_of (tb_5 _ (List.mem_of_getElem? (i := 215) rfl)) rfl
theorem l_X10_19 : Cond.methodLink RX10 19 yX10_at ∈ mTBL := mTBL_of (tb_5 _ (List.mem_of_getElem? (i := 109) rfl)) rfl
theorem l_X10_25 : Cond.methodLink RX10 25 yJ0_indexOf_0f7a4 ∈ mTBL := mTBL_of (tb_5 _ (List.mem_of_getElem? (i := 111) rfl)) rfl
theorem l_X10_31 : Cond.methodLink RX10 31 yX10_isDigit ∈ mTBL := mTBL_of (tb_5 _ (List.mem_of_getElem? (i := 112) rfl)) rfl
theorem l_L_7 : Cond.methodLink RL 7 yX11_feed ∈ mTBL := mTBL_of (tb_2 _ (List.mem_of_getElem? (i := 129) rfl)) rfl
theorem l_L_17 : Cond.methodLink RL 17 yX11_readRoom ∈ mTBL := mTBL_of (tb_2 _ (List.mem_of_getElem? (i := 228) rfl)) rfl
theorem l_L_23 : Cond.methodLink RL 23 yX11_cell ∈ mTBL := mTBL_of (tb_3 _ (List.mem_of_getElem? (i := 168) rfl)) rfl
theorem l_L_29 : Cond.methodLink RL 29 yX11_cells ∈ mTBL := mTBL_of (tb_3 _ (List.mem_of_getElem? (i := 212) rfl)) rfl
theorem l_L_33 : Cond.methodLink RL 33 yX11_count ∈ mTBL := mTBL_of (tb_4 _ (List.mem_of_getElem? (i := 10) rfl)) rfl
theorem l_L_37 : Cond.methodLink RL 37 yX11_distance ∈ mTBL := mTBL_of (tb_4 _ (List.mem_of_getElem? (i := 55) rfl)) rfl
theorem l_L_43 : Cond.methodLink RL 43 yX11_bound ∈ mTBL := mTBL_of (tb_4 _ (List.mem_of_getElem? (i := 89) rfl)) rfl
theorem l_L_46 : Cond.methodLink RL 46 yX11_stuck ∈ mTBL := mTBL_of (tb_4 _ (List.mem_of_getElem? (i := 125) rfl)) rfl
theorem l_L_50 : Cond.methodLink RL 50 yX11_goalRoom ∈ mTBL := mTBL_of (tb_4 _ (List.mem_of_getElem? (i := 145) rfl)) rfl
theorem l_L_53 : Cond.methodLink RL 53 yX11_step ∈ mTBL := mTBL_of (tb_4 _ (List.mem_of_getElem? (i := 178) rfl)) rfl
theorem l_L_58 : Cond.methodLink RL 58 yX11_push ∈ mTBL := mTBL_of (tb_5 _ (List.mem_of_getElem? (i := 16) rfl)) rfl
theorem l_L_61 : Cond.methodLink RL 61 yX11_longPush ∈ mTBL := mTBL_of (tb_5 _ (List.mem_of_getElem? (i := 82) rfl)) rfl
theorem l_L_64 : Cond.methodLink RL 64 yX11_play ∈ mTBL := mTBL_of (tb_5 _ (List.mem_of_getElem? (i := 101) rfl)) rfl
theorem l_L_67 : Cond.methodLink RL 67 yX11_refused ∈ mTBL := mTBL_of (tb_5 _ (List.mem_of_getElem? (i := 140) rfl)) rfl
theorem l_L_70 : Cond.methodLink RL 70 yX11_refusal ∈ mTBL := mTBL_of (tb_5 _ (List.mem_of_getElem? (i := 148) rfl)) rfl
theorem l_L_73 : Cond.methodLink RL 73 yX11_refuses ∈ mTBL := mTBL_of (tb_5 _ (List.mem_of_getElem? (i := 156) rfl)) rfl
theorem l_L_76 : Cond.methodLink RL 76 yX11_solve ∈ mTBL := mTBL_of (tb_5 _ (List.mem_of_getElem? (i := 163) rfl)) rfl
theorem l_L_80 : Cond.methodLink RL 80 yX11_solution ∈ mTBL := mTBL_of (tb_5 _ (List.mem_of_getElem? (i := 227) rfl)) rfl
theorem l_L_83 : Cond.methodLink RL 83 yX11_finish ∈ mTBL := mTBL_of (tb_6 _ (List.mem_of_getElem? (i := 4) rfl)) rfl
theorem l_L_86 : Cond.methodLink RL 86 yX11_recorded ∈ mTBL := mTBL_of (tb_6 _ (List.mem_of_getElem? (i := 11) rfl)) rfl
theorem l_L_90 : Cond.methodLink RL 90 yX11_isReplayed ∈ mTBL := mTBL_of (tb_6 _ (List.mem_of_getElem? (i := 44) rfl)) rfl
theorem l_L_94 : Cond.methodLink RL 94 yX11_undo ∈ mTBL := mTBL_of (tb_6 _ (List.mem_of_getElem? (i := 61) rfl)) rfl
theorem l_L_97 : Cond.methodLink RL 97 yX11_saveSnapshot ∈ mTBL := mTBL_of (tb_6 _ (List.mem_of_getElem? (i := 74) rfl)) rfl
theorem l_L_100 : Cond.methodLink RL 100 yX11_restoreSnapshot ∈ mTBL := mTBL_of (tb_6 _ (List.mem_of_getElem? (i := 89) rfl)) rfl
theorem l_L_107 : Cond.methodLink RL 107 yL_feed ∈ mTBL := mTBL_of (tb_2 _ (List.mem_of_getElem? (i := 124) rfl)) rfl
theorem l_L_112 : Cond.methodLink RL 112 yX12_feed ∈ mTBL := mTBL_of (tb_6 _ (List.mem_of_getElem? (i := 229) rfl)) rfl
theorem l_L_113 : Cond.methodLink RL 113 yX12_thrown ∈ mTBL := mTBL_of (tb_6 _ (List.mem_of_getElem? (i := 209) rfl)) rfl
theorem l_L_116 : Cond.methodLink RL 116 yL_readRoom ∈ mTBL := mTBL_of (tb_2 _ (List.mem_of_getElem? (i := 224) rfl)) rfl
theorem l_L_119 : Cond.methodLink RL 119 yX12_readRoom ∈ mTBL := mTBL_of (tb_6 _ (List.mem_of_getElem? (i := 236) rfl)) rfl
theorem l_L_120 : Cond.methodLink RL 120 yL_cell ∈ mTBL := mTBL_of (tb_3 _ (List.mem_of_getElem? (i := 164) rfl)) rfl
theorem l_L_123 : Cond.methodLink RL 123 yX12_cell ∈ mTBL := mTBL_of (tb_7 _ (List.mem_of_getElem? (i := 21) rfl)) rfl
theorem l_L_124 : Cond.methodLink RL 124 yL_cells ∈ mTBL := mTBL_of (tb_3 _ (List.mem_of_getElem? (i := 209) rfl)) rfl
theorem l_L_127 : Cond.methodLink RL 127 yX12_cells ∈ mTBL := mTBL_of (tb_7 _ (List.mem_of_getElem? (i := 37) rfl)) rfl
theorem l_L_128 : Cond.methodLink RL 128 yL_count ∈ mTBL := mTBL_of (tb_4 _ (List.mem_of_getElem? (i := 7) rfl)) rfl
theorem l_L_130 : Cond.methodLink RL 130 yX12_count ∈ mTBL := mTBL_of (tb_7 _ (List.mem_of_getElem? (i := 80) rfl)) rfl
theorem l_L_131 : Cond.methodLink RL 131 yL_distance ∈ mTBL := mTBL_of (tb_4 _ (List.mem_of_getElem? (i := 51) rfl)) rfl
theorem l_L_133 : Cond.methodLink RL 133 yX12_distance ∈ mTBL := mTBL_of (tb_7 _ (List.mem_of_getElem? (i := 108) rfl)) rfl
theorem l_L_134 : Cond.methodLink RL 134 yL_bound ∈ mTBL := mTBL_of (tb_4 _ (List.mem_of_getElem? (i := 86) rfl)) rfl
theorem l_L_136 : Cond.methodLink RL 136 yX12_bound ∈ mTBL := mTBL_of (tb_7 _ (List.mem_of_getElem? (i := 112) rfl)) rfl
theorem l_L_137 : Cond.methodLink RL 137 yL_stuck ∈ mTBL := mTBL_of (tb_4 _ (List.mem_of_getElem? (i := 122) rfl)) rfl
theorem l_L_140 : Cond.methodLink RL 140 yX12_stuck ∈ mTBL := mTBL_of (tb_7 _ (List.mem_of_getElem? (i := 120) rfl)) rfl
theorem l_L_141 : Cond.methodLink RL 141 yL_goalRoom ∈ mTBL := mTBL_of (tb_4 _ (List.mem_of_getElem? (i := 142) rfl)) rfl
theorem l_L_143 : Cond.methodLink RL 143 yX12_goalRoom ∈ mTBL := mTBL_of (tb_7 _ (List.mem_of_getElem? (i := 128) rfl)) rfl
theorem l_L_144 : Cond.methodLink RL 144 yL_step ∈ mTBL := mTBL_of (tb_4 _ (List.mem_of_getElem? (i := 174) rfl)) rfl
theorem l_L_146 : Cond.methodLink RL 146 yX12_step ∈ mTBL := mTBL_of (tb_7 _ (List.mem_of_getElem? (i := 140) rfl)) rfl
theorem l_L_147 : Cond.methodLink RL 147 yL_push ∈ mTBL := mTBL_of (tb_5 _ (List.mem_of_getElem? (i := 13) rfl)) rfl
theorem l_L_149 : Cond.methodLink RL 149 yX12_push ∈ mTBL := mTBL_of (tb_7 _ (List.mem_of_getElem? (i := 168) rfl)) rfl
theorem l_L_150 : Cond.methodLink RL 150 yL_longPush ∈ mTBL := mTBL_of (tb_5 _ (List.mem_of_getElem? (i := 79) rfl)) rfl
theorem l_L_152 : Cond.methodLink RL 152 yX12_longPush ∈ mTBL := mTBL_of (tb_7 _ (List.mem_of_getElem? (i := 196) rfl)) rfl
theorem l_L_153 : Cond.methodLink RL 153 yL_play ∈ mTBL := mTBL_of (tb_5 _ (List.mem_of_getElem? (i := 98) rfl)) rfl
theorem l_L_155 : Cond.methodLink RL 155 yX12_play ∈ mTBL := mTBL_of (tb_7 _ (List.mem_of_getElem? (i := 204) rfl)) rfl
theorem l_L_156 : Cond.methodLink RL 156 yL_refused ∈ mTBL := mTBL_of (tb_5 _ (List.mem_of_getElem? (i := 137) rfl)) rfl
theorem l_L_158 : Cond.methodLink RL 158 yX12_refused ∈ mTBL := mTBL_of (tb_7 _ (List.mem_of_getElem? (i := 219) rfl)) rfl
theorem l_L_159 : Cond.methodLink RL 159 yL_refusal ∈ mTBL := mTBL_of (tb_5 _ (List.mem_of_getElem? (i := 145) rfl)) rfl
theorem l_L_161 : Cond.methodLink RL 161 yX12_refusal ∈ mTBL := mTBL_of (tb_7 _ (List.mem_of_getElem? (i := 223) rfl)) rfl
theorem l_L_162 : Cond.methodLink RL 162 yL_refuses ∈ mTBL := mTBL_of (tb_5 _ (List.mem_of_getElem? (i := 153) rfl)) rfl
theorem l_L_164 : Cond.methodLink RL 164 yX12_refuses ∈ mTBL := mTBL_of (tb_7 _ (List.mem_of_getElem? (i := 200) rfl)) rfl
theorem l_L_165 : Cond.methodLink RL 165 yL_solve ∈ mTBL := mTBL_of (tb_5 _ (List.mem_of_getElem? (i := 160) rfl)) rfl
theorem l_L_168 : Cond.methodLink RL 168 yX12_solve ∈ mTBL := mTBL_of (tb_7 _ (List.mem_of_getElem? (i := 227) rfl)) rfl
theorem l_L_169 : Cond.methodLink RL 169 yL_solution ∈ mTBL := mTBL_of (tb_5 _ (List.mem_of_getElem? (i := 224) rfl)) rfl
theorem l_L_171 : Cond.methodLink RL 171 yX12_solution ∈ mTBL := mTBL_of (tb_8 _ (List.mem_of_getElem? (i := 15) rfl)) rfl
theorem l_L_172 : Cond.methodLink RL 172 yL_finish ∈ mTBL := mTBL_of (tb_6 _ (List.mem_of_getElem? (i := 1) rfl)) rfl
theorem l_L_174 : Cond.methodLink RL 174 yX12_finish ∈ mTBL := mTBL_of (tb_8 _ (List.mem_of_getElem? (i := 19) rfl)) rfl
theorem l_L_175 : Cond.methodLink RL 175 yL_recorded ∈ mTBL := mTBL_of (tb_6 _ (List.mem_of_getElem? (i := 8) rfl)) rfl
theorem l_L_177 : Cond.methodLink RL 177 yX12_recorded ∈ mTBL := mTBL_of (tb_8 _ (List.mem_of_getElem? (i := 24) rfl)) rfl
theorem l_L_178 : Cond.methodLink RL 178 yL_isReplayed ∈ mTBL := mTBL_of (tb_6 _ (List.mem_of_getElem? (i := 41) rfl)) rfl
theorem l_L_180 : Cond.methodLink RL 180 yX12_isReplayed ∈ mTBL := mTBL_of (tb_8 _ (List.mem_of_getElem? (i := 28) rfl)) rfl
theorem l_L_181 : Cond.methodLink RL 181 yL_undo ∈ mTBL := mTBL_of (tb_6 _ (List.mem_of_getElem? (i := 58) rfl)) rfl
theorem l_L_183 : Cond.methodLink RL 183 yX12_undo ∈ mTBL := mTBL_of (tb_6 _ (List.mem_of_getElem? (i := 213) rfl)) rfl
theorem l_L_184 : Cond.methodLink RL 184 yL_saveSnapshot ∈ mTBL := mTBL_of (tb_6 _ (List.mem_of_getElem? (i := 71) rfl)) rfl
theorem l_L_186 : Cond.methodLink RL 186 yX12_saveSnapshot ∈ mTBL := mTBL_of (tb_6 _ (List.mem_of_getElem? (i := 217) rfl)) rfl
theorem l_L_187 : Cond.methodLink RL 187 yL_restoreSnapshot ∈ mTBL := mTBL_of (tb_6 _ (List.mem_of_getElem? (i := 86) rfl)) rfl
theorem l_L_189 : Cond.methodLink RL 189 yX12_restoreSnapshot ∈ mTBL := mTBL_of (tb_6 _ (List.mem_of_getElem? (i := 225) rfl)) rfl
theorem l_X12_76 : Cond.methodLink RX12 76 yX12_in ∈ mTBL := mTBL_of (tb_6 _ (List.mem_of_getElem? (i := 233) rfl)) rfl
theorem l_X12_83 : Cond.methodLink RX12 83 yX12_hasRoom ∈ mTBL := mTBL_of (tb_6 _ (List.mem_of_getElem? (i := 221) rfl)) rfl
theorem l_X12_100 : Cond.methodLink RX12 100 yX12_isBoxText ∈ mTBL := mTBL_of (tb_7 _ (List.mem_of_getElem? (i := 4) rfl)) rfl
theorem l_X12_104 : Cond.methodLink RX12 104 yX12_isPlayerText ∈ mTBL := mTBL_of (tb_7 _ (List.mem_of_getElem? (i := 7) rfl)) rfl
theorem l_X12_107 : Cond.methodLink RX12 107 yX12_isCell ∈ mTBL := mTBL_of (tb_7 _ (List.mem_of_getElem? (i := 10) rfl)) rfl
theorem l_X12_110 : Cond.methodLink RX12 110 yX12_roomFault ∈ mTBL := mTBL_of (tb_7 _ (List.mem_of_getElem? (i := 0) rfl)) rfl
theorem l_X12_114 : Cond.methodLink RX12 114 yX12_fails ∈ mTBL := mTBL_of (tb_7 _ (List.mem_of_getElem? (i := 13) rfl)) rfl
theorem l_X12_118 : Cond.methodLink RX12 118 yX12_lays ∈ mTBL := mTBL_of (tb_7 _ (List.mem_of_getElem? (i := 17) rfl)) rfl
theorem l_X12_121 : Cond.methodLink RX12 121 yX12_isOpen ∈ mTBL := mTBL_of (tb_7 _ (List.mem_of_getElem? (i := 25) rfl)) rfl
theorem l_X12_124 : Cond.methodLink RX12 124 yX12_isBox ∈ mTBL := mTBL_of (tb_7 _ (List.mem_of_getElem? (i := 29) rfl)) rfl
theorem l_X12_127 : Cond.methodLink RX12 127 yX12_isGoal ∈ mTBL := mTBL_of (tb_7 _ (List.mem_of_getElem? (i := 33) rfl)) rfl
theorem l_X12_130 : Cond.methodLink RX12 130 yX12_size ∈ mTBL := mTBL_of (tb_7 _ (List.mem_of_getElem? (i := 45) rfl)) rfl
theorem l_X12_136 : Cond.methodLink RX12 136 yX12_beside ∈ mTBL := mTBL_of (tb_7 _ (List.mem_of_getElem? (i := 56) rfl)) rfl
theorem l_X12_140 : Cond.methodLink RX12 140 yX12_opposite ∈ mTBL := mTBL_of (tb_7 _ (List.mem_of_getElem? (i := 53) rfl)) rfl
theorem l_X12_143 : Cond.methodLink RX12 143 yX12_pushesTo ∈ mTBL := mTBL_of (tb_7 _ (List.mem_of_getElem? (i := 49) rfl)) rfl
theorem l_X12_147 : Cond.methodLink RX12 147 yX12_isBlocked ∈ mTBL := mTBL_of (tb_7 _ (List.mem_of_getElem? (i := 68) rfl)) rfl
theorem l_X12_151 : Cond.methodLink RX12 151 yX12_freezes ∈ mTBL := mTBL_of (tb_7 _ (List.mem_of_getElem? (i := 64) rfl)) rfl
theorem l_X12_157 : Cond.methodLink RX12 157 yX12_isTunnel ∈ mTBL := mTBL_of (tb_7 _ (List.mem_of_getElem? (i := 76) rfl)) rfl
theorem l_X12_160 : Cond.methodLink RX12 160 yX12_dies ∈ mTBL := mTBL_of (tb_7 _ (List.mem_of_getElem? (i := 41) rfl)) rfl
theorem l_X12_163 : Cond.methodLink RX12 163 yX12_walksFrom ∈ mTBL := mTBL_of (tb_7 _ (List.mem_of_getElem? (i := 60) rfl)) rfl
theorem l_X12_166 : Cond.methodLink RX12 166 yX12_isIn ∈ mTBL := mTBL_of (tb_7 _ (List.mem_of_getElem? (i := 72) rfl)) rfl
theorem l_X12_169 : Cond.methodLink RX12 169 yX12_counted ∈ mTBL := mTBL_of (tb_7 _ (List.mem_of_getElem? (i := 84) rfl)) rfl
theorem l_X12_173 : Cond.methodLink RX12 173 yX12_recordedPushes ∈ mTBL := mTBL_of (tb_7 _ (List.mem_of_getElem? (i := 88) rfl)) rfl
theorem l_X12_176 : Cond.methodLink RX12 176 yX12_groups ∈ mTBL := mTBL_of (tb_7 _ (List.mem_of_getElem? (i := 92) rfl)) rfl
theorem l_X12_179 : Cond.methodLink RX12 179 yX12_goalRooms ∈ mTBL := mTBL_of (tb_7 _ (List.mem_of_getElem? (i := 96) rfl)) rfl
theorem l_X12_182 : Cond.methodLink RX12 182 yX12_isSolved ∈ mTBL := mTBL_of (tb_7 _ (List.mem_of_getElem? (i := 104) rfl)) rfl
theorem l_X12_185 : Cond.methodLink RX12 185 yX12_oneMore ∈ mTBL := mTBL_of (tb_7 _ (List.mem_of_getElem? (i := 116) rfl)) rfl
theorem l_X12_188 : Cond.methodLink RX12 188 yX12_stuckFor ∈ mTBL := mTBL_of (tb_7 _ (List.mem_of_getElem? (i := 124) rfl)) rfl
theorem l_X12_194 : Cond.methodLink RX12 194 yX12_gathers ∈ mTBL := mTBL_of (tb_7 _ (List.mem_of_getElem? (i := 100) rfl)) rfl
theorem l_X12_197 : Cond.methodLink RX12 197 yX12_plainSteps ∈ mTBL := mTBL_of (tb_7 _ (List.mem_of_getElem? (i := 136) rfl)) rfl
theorem l_X12_200 : Cond.methodLink RX12 200 yX12_ordered ∈ mTBL := mTBL_of (tb_7 _ (List.mem_of_getElem? (i := 132) rfl)) rfl
theorem l_X12_206 : Cond.methodLink RX12 206 yX12_reasonForBox ∈ mTBL := mTBL_of (tb_7 _ (List.mem_of_getElem? (i := 148) rfl)) rfl
theorem l_X12_215 : Cond.methodLink RX12 215 yX12_reasonForStep ∈ mTBL := mTBL_of (tb_7 _ (List.mem_of_getElem? (i := 144) rfl)) rfl
theorem l_X12_218 : Cond.methodLink RX12 218 yX12_keeps ∈ mTBL := mTBL_of (tb_7 _ (List.mem_of_getElem? (i := 152) rfl)) rfl
theorem l_X12_221 : Cond.methodLink RX12 221 yX12_remembers ∈ mTBL := mTBL_of (tb_7 _ (List.mem_of_getElem? (i := 156) rfl)) rfl
theorem l_X12_224 : Cond.methodLink RX12 224 yX12_commands ∈ mTBL := mTBL_of (tb_7 _ (List.mem_of_getElem? (i := 160) rfl)) rfl
theorem l_X12_227 : Cond.methodLink RX12 227 yX12_goes ∈ mTBL := mTBL_of (tb_7 _ (List.mem_of_getElem? (i := 164) rfl)) rfl
theorem l_X12_230 : Cond.methodLink RX12 230 yX12_isNearer ∈ mTBL := mTBL_of (tb_7 _ (List.mem_of_getElem? (i := 188) rfl)) rfl
theorem l_X12_233 : Cond.methodLink RX12 233 yX12_pushStops ∈ mTBL := mTBL_of (tb_7 _ (List.mem_of_getElem? (i := 176) rfl)) rfl
theorem l_X12_236 : Cond.methodLink RX12 236 yX12_reasonForPush ∈ mTBL := mTBL_of (tb_7 _ (List.mem_of_getElem? (i := 180) rfl)) rfl
theorem l_X12_239 : Cond.methodLink RX12 239 yX12_walksAndPushes ∈ mTBL := mTBL_of (tb_7 _ (List.mem_of_getElem? (i := 184) rfl)) rfl
theorem l_X12_243 : Cond.methodLink RX12 243 yX12_goesBack ∈ mTBL := mTBL_of (tb_7 _ (List.mem_of_getElem? (i := 192) rfl)) rfl
theorem l_X12_246 : Cond.methodLink RX12 246 yX12_pushing ∈ mTBL := mTBL_of (tb_7 _ (List.mem_of_getElem? (i := 172) rfl)) rfl
theorem l_X12_250 : Cond.methodLink RX12 250 yX12_directionOf ∈ mTBL := mTBL_of (tb_7 _ (List.mem_of_getElem? (i := 212) rfl)) rfl
theorem l_X12_253 : Cond.methodLink RX12 253 yX12_stepsFault ∈ mTBL := mTBL_of (tb_7 _ (List.mem_of_getElem? (i := 208) rfl)) rfl
theorem l_X12_256 : Cond.methodLink RX12 256 yX12_reasonForLetter ∈ mTBL := mTBL_of (tb_7 _ (List.mem_of_getElem? (i := 215) rfl)) rfl
theorem l_X12_259 : Cond.methodLink RX12 259 yX12_boxSet ∈ mTBL := mTBL_of (tb_7 _ (List.mem_of_getElem? (i := 239) rfl)) rfl
theorem l_X12_263 : Cond.methodLink RX12 263 yX12_lowestHere ∈ mTBL := mTBL_of (tb_8 _ (List.mem_of_getElem? (i := 3) rfl)) rfl
theorem l_X12_272 : Cond.methodLink RX12 272 yX12_takes ∈ mTBL := mTBL_of (tb_8 _ (List.mem_of_getElem? (i := 7) rfl)) rfl
theorem l_X12_275 : Cond.methodLink RX12 275 yX12_finds ∈ mTBL := mTBL_of (tb_7 _ (List.mem_of_getElem? (i := 235) rfl)) rfl
theorem l_X12_279 : Cond.methodLink RX12 279 yX12_visits ∈ mTBL := mTBL_of (tb_8 _ (List.mem_of_getElem? (i := 11) rfl)) rfl
theorem l_X12_286 : Cond.methodLink RX12 286 yX12_searches ∈ mTBL := mTBL_of (tb_7 _ (List.mem_of_getElem? (i := 231) rfl)) rfl
theorem l_X12_290 : Cond.methodLink RX12 290 yX12_solve ∈ mTBL := mTBL_of (tb_8 _ (List.mem_of_getElem? (i := 23) rfl)) rfl
theorem l_J0_335 : Cond.methodLink RJ0 335 yJ0_coder_7d493 ∈ mTBL := mTBL_of (tb_3 _ (List.mem_of_getElem? (i := 31) rfl)) rfl
theorem l_J0_492 : Cond.methodLink RJ0 492 yJ0_isLatin1_aae02 ∈ mTBL := mTBL_of (tb_3 _ (List.mem_of_getElem? (i := 21) rfl)) rfl
theorem l_J0_495 : Cond.methodLink RJ0 495 yJ1_charAt_3b067 ∈ mTBL := mTBL_of (tb_6 _ (List.mem_of_getElem? (i := 25) rfl)) rfl
theorem l_J0_505 : Cond.methodLink RJ0 505 yJ0_length_8abf5 ∈ mTBL := mTBL_of (tb_3 _ (List.mem_of_getElem? (i := 27) rfl)) rfl
theorem l_J0_633 : Cond.methodLink RJ0 633 yJ0_indexOf_7cf53 ∈ mTBL := mTBL_of (tb_3 _ (List.mem_of_getElem? (i := 17) rfl)) rfl
theorem l_J0_637 : Cond.methodLink RJ0 637 yJ1_indexOf_4cfef ∈ mTBL := mTBL_of (tb_3 _ (List.mem_of_getElem? (i := 35) rfl)) rfl
theorem l_J1_9 : Cond.methodLink RJ1 9 yJ0_checkIndex_df160 ∈ mTBL := mTBL_of (tb_6 _ (List.mem_of_getElem? (i := 28) rfl)) rfl
theorem l_J1_38 : Cond.methodLink RJ1 38 yJ9_min_7cf53 ∈ mTBL := mTBL_of (tb_3 _ (List.mem_of_getElem? (i := 44) rfl)) rfl
theorem l_J1_88 : Cond.methodLink RJ1 88 yJ1_canEncode_9a6ad ∈ mTBL := mTBL_of (tb_3 _ (List.mem_of_getElem? (i := 38) rfl)) rfl
theorem l_J1_92 : Cond.methodLink RJ1 92 yJ9_max_7cf53 ∈ mTBL := mTBL_of (tb_3 _ (List.mem_of_getElem? (i := 41) rfl)) rfl
theorem l_J1_95 : Cond.methodLink RJ1 95 yJ1_indexOfChar_4cfef ∈ mTBL := mTBL_of (tb_3 _ (List.mem_of_getElem? (i := 47) rfl)) rfl
theorem n_X0_74 : (RX0, 74, yX11_intAt, "PusherRoom") ∈ mNest := List.mem_of_getElem? (i := 5) rfl
theorem n_X0_78 : (RX0, 78, yX11_setInt, "PusherRoom") ∈ mNest := List.mem_of_getElem? (i := 19) rfl
theorem n_X0_85 : (RX0, 85, yX11_has, "PusherRoom") ∈ mNest := List.mem_of_getElem? (i := 3) rfl
theorem n_X0_96 : (RX0, 96, yX11_codeOf, "PusherRoom") ∈ mNest := List.mem_of_getElem? (i := 18) rfl
theorem n_X0_119 : (RX0, 119, yX11_bit, "PusherRoom") ∈ mNest := List.mem_of_getElem? (i := 24) rfl
theorem n_X0_147 : (RX0, 147, yX11_isPushCode, "PusherRoom") ∈ mNest := List.mem_of_getElem? (i := 6) rfl
theorem n_X0_150 : (RX0, 150, yX11_directionOf, "PusherRoom") ∈ mNest := List.mem_of_getElem? (i := 35) rfl
theorem n_X1_62 : (RX1, 62, yX11_has, "PusherRoom") ∈ mNest := List.mem_of_getElem? (i := 14) rfl
theorem n_X2_40 : (RX2, 40, yX11_bit, "PusherRoom") ∈ mNest := List.mem_of_getElem? (i := 1) rfl
theorem n_X2_61 : (RX2, 61, yX11_opposite, "PusherRoom") ∈ mNest := List.mem_of_getElem? (i := 2) rfl
theorem n_X2_71 : (RX2, 71, yX11_lowest, "PusherRoom") ∈ mNest := List.mem_of_getElem? (i := 11) rfl
theorem n_X3_37 : (RX3, 37, yX11_setLong, "PusherRoom") ∈ mNest := List.mem_of_getElem? (i := 16) rfl
theorem n_X3_44 : (RX3, 44, yX11_setInt, "PusherRoom") ∈ mNest := List.mem_of_getElem? (i := 17) rfl
theorem n_X3_50 : (RX3, 50, yX11_longAt, "PusherRoom") ∈ mNest := List.mem_of_getElem? (i := 20) rfl
theorem n_X3_54 : (RX3, 54, yX11_intAt, "PusherRoom") ∈ mNest := List.mem_of_getElem? (i := 21) rfl
theorem n_X4_19 : (RX4, 19, yX11_setLong, "PusherRoom") ∈ mNest := List.mem_of_getElem? (i := 12) rfl
theorem n_X4_31 : (RX4, 31, yX11_longAt, "PusherRoom") ∈ mNest := List.mem_of_getElem? (i := 13) rfl
theorem n_X4_39 : (RX4, 39, yX11_has, "PusherRoom") ∈ mNest := List.mem_of_getElem? (i := 23) rfl
theorem n_X5_26 : (RX5, 26, yX11_setInt, "PusherRoom") ∈ mNest := List.mem_of_getElem? (i := 8) rfl
theorem n_X5_36 : (RX5, 36, yX11_has, "PusherRoom") ∈ mNest := List.mem_of_getElem? (i := 7) rfl
theorem n_X5_44 : (RX5, 44, yX11_intAt, "PusherRoom") ∈ mNest := List.mem_of_getElem? (i := 10) rfl
theorem n_X5_51 : (RX5, 51, yX11_bit, "PusherRoom") ∈ mNest := List.mem_of_getElem? (i := 9) rfl
theorem n_X6_33 : (RX6, 33, yX11_bit, "PusherRoom") ∈ mNest := List.mem_of_getElem? (i := 4) rfl
theorem n_X6_56 : (RX6, 56, yX11_lowest, "PusherRoom") ∈ mNest := List.mem_of_getElem? (i := 15) rfl
theorem n_X6_71 : (RX6, 71, yX11_opposite, "PusherRoom") ∈ mNest := List.mem_of_getElem? (i := 22) rfl
theorem n_X7_68 : (RX7, 68, yX11_bit, "PusherRoom") ∈ mNest := List.mem_of_getElem? (i := 0) rfl
theorem n_X8_49 : (RX8, 49, yX11_setInt, "PusherRoom") ∈ mNest := List.mem_of_getElem? (i := 25) rfl
theorem n_X8_62 : (RX8, 62, yX11_lowest, "PusherRoom") ∈ mNest := List.mem_of_getElem? (i := 26) rfl
theorem n_X8_74 : (RX8, 74, yX11_longAt, "PusherRoom") ∈ mNest := List.mem_of_getElem? (i := 28) rfl
theorem n_X8_85 : (RX8, 85, yX11_intAt, "PusherRoom") ∈ mNest := List.mem_of_getElem? (i := 27) rfl
theorem n_X8_89 : (RX8, 89, yX11_bit, "PusherRoom") ∈ mNest := List.mem_of_getElem? (i := 30) rfl
theorem n_X8_100 : (RX8, 100, yX11_has, "PusherRoom") ∈ mNest := List.mem_of_getElem? (i := 31) rfl
theorem n_X8_112 : (RX8, 112, yX11_opposite, "PusherRoom") ∈ mNest := List.mem_of_getElem? (i := 32) rfl
theorem n_X8_123 : (RX8, 123, yX11_setLong, "PusherRoom") ∈ mNest := List.mem_of_getElem? (i := 29) rfl
theorem n_X9_38 : (RX9, 38, yX11_setInt, "PusherRoom") ∈ mNest := List.mem_of_getElem? (i := 33) rfl
theorem n_X9_45 : (RX9, 45, yX11_intAt, "PusherRoom") ∈ mNest := List.mem_of_getElem? (i := 34) rfl
theorem k_X1_36 : Cond.constantLong RX1 36 (-1) ∈ mTBL := mTBL_of (tb_4 _ (List.mem_of_getElem? (i := 39) rfl)) rfl
theorem k_X2_48 : Cond.constantLong RX2 48 (-1) ∈ mTBL := mTBL_of (tb_3 _ (List.mem_of_getElem? (i := 145) rfl)) rfl
theorem k_X4_29 : Cond.constantLong RX4 29 (-1) ∈ mTBL := mTBL_of (tb_4 _ (List.mem_of_getElem? (i := 165) rfl)) rfl
theorem k_X5_59 : Cond.constantLong RX5 59 (-1) ∈ mTBL := mTBL_of (tb_4 _ (List.mem_of_getElem? (i := 111) rfl)) rfl
theorem k_X6_28 : Cond.constantLong RX6 28 (-1) ∈ mTBL := mTBL_of (tb_3 _ (List.mem_of_getElem? (i := 225) rfl)) rfl
theorem k_X8_83 : Cond.constantLong RX8 83 (-1) ∈ mTBL := mTBL_of (tb_5 _ (List.mem_of_getElem? (i := 195) rfl)) rfl
theorem k_X8_127 : Cond.constantLong RX8 127 (-7046029254386353131) ∈ mTBL := mTBL_of (tb_5 _ (List.mem_of_getElem? (i := 187) rfl)) rfl
theorem k_J13_314 : Cond.constantLong RJ13 314 (6148914691236517205) ∈ mTBL := mTBL_of (tb_3 _ (List.mem_of_getElem? (i := 161) rfl)) rfl
theorem k_J13_316 : Cond.constantLong RJ13 316 (3689348814741910323) ∈ mTBL := mTBL_of (tb_3 _ (List.mem_of_getElem? (i := 162) rfl)) rfl
theorem k_J13_318 : Cond.constantLong RJ13 318 (1085102592571150095) ∈ mTBL := mTBL_of (tb_3 _ (List.mem_of_getElem? (i := 163) rfl)) rfl
