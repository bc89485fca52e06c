set_option maxRecDepth 20000 in
theorem ggX0_solve_J7_fill_53178 : GoodIn wsX0_solve wsJ7_fill_53178 := goodIn_r _ [10] (by decide +kernel) (by decide +kernel)
set_option maxRecDepth 20000 in
theorem gX0_solve_J7_fill_53178 : GoodIn wsX0_solve (va_wsS RX0 37 yJ7_fill_53178 wsJ7_fill_53178) := goodIn_app (goodIn_of _ (by decide +kernel)) ggX0_solve_J7_fill_53178
set_option maxRecDepth 20000 in
theorem ggX0_solve_J7_fill_d0a16 : GoodIn wsX0_solve wsJ7_fill_d0a16 := goodIn_r _ [13] (by decide +kernel) (by decide +kernel)
set_option maxRecDepth 20000 in
theorem gX0_solve_J7_fill_d0a16 : GoodIn wsX0_solve (va_wsS RX0 43 yJ7_fill_d0a16 wsJ7_fill_d0a16) := goodIn_app (goodIn_of _ (by decide +kernel)) ggX0_solve_J7_fill_d0a16
set_option maxRecDepth 20000 in
theorem ggX0_solve_X5_change : GoodIn wsX0_solve wsX5_change := goodIn_r _ [18, 19, 20, 21, 22, 23, 59, 60, 61, 62, 63, 64, 65, 66, 67, 68, 69, 70, 71, 72] (by decide +kernel) (by decide +kernel)
set_option maxRecDepth 20000 in
theorem gX0_solve_X5_change : GoodIn wsX0_solve (wsV RX0 46 RX5 yX5_change wsX5_change) := goodIn_app (goodIn_of _ (by decide +kernel)) ggX0_solve_X5_change
set_option maxRecDepth 20000 in
theorem ggX0_solve_X0_clearColumn : GoodIn wsX0_solve wsX0_clearColumn := goodIn_r _ [28, 5, 4, 6, 29, 30, 31, 27, 32, 33, 34, 35, 36, 37, 38, 39, 40, 41, 42, 43, 44, 54, 55, 56, 57, 58] (by decide +kernel) (by decide +kernel)
set_option maxRecDepth 20000 in
theorem gX0_solve_X0_clearColumn : GoodIn wsX0_solve (wsV RX0 50 RX0 yX0_clearColumn wsX0_clearColumn) := goodIn_app (goodIn_of _ (by decide +kernel)) ggX0_solve_X0_clearColumn
set_option maxRecDepth 20000 in
theorem ggX0_solve_X0_keepRest : GoodIn wsX0_solve wsX0_keepRest := goodIn_r _ [48, 4, 5, 49, 1, 6, 50, 51, 52, 27, 53, 54, 55, 56, 57, 58] (by decide +kernel) (by decide +kernel)
set_option maxRecDepth 20000 in
theorem gX0_solve_X0_keepRest : GoodIn wsX0_solve (wsV RX0 54 RX0 yX0_keepRest wsX0_keepRest) := goodIn_app (goodIn_of _ (by decide +kernel)) ggX0_solve_X0_keepRest
set_option maxRecDepth 20000 in
theorem ggX0_clearColumn_X0_firstWith : GoodIn wsX0_clearColumn wsX0_firstWith := goodIn_r _ [8, 2, 1, 3, 21, 22, 23, 24, 25] (by decide +kernel) (by decide +kernel)
set_option maxRecDepth 20000 in
theorem gX0_clearColumn_X0_firstWith : GoodIn wsX0_clearColumn (wsV RX0 57 RX0 yX0_firstWith wsX0_firstWith) := goodIn_app (goodIn_of _ (by decide +kernel)) ggX0_clearColumn_X0_firstWith
set_option maxRecDepth 20000 in
theorem ggX0_clearColumn_X0_combine : GoodIn wsX0_clearColumn wsX0_combine := goodIn_r _ [12, 3, 13, 14, 15, 16, 17, 18, 19, 7, 20, 21, 22, 23, 24, 25] (by decide +kernel) (by decide +kernel)
set_option maxRecDepth 20000 in
theorem gX0_clearColumn_X0_combine : GoodIn wsX0_clearColumn (wsV RX0 61 RX0 yX0_combine wsX0_combine) := goodIn_app (goodIn_of _ (by decide +kernel)) ggX0_clearColumn_X0_combine
set_option maxRecDepth 20000 in
theorem ggX0_combine_X0_commonDivisor : GoodIn wsX0_combine wsX0_commonDivisor := goodIn_r _ [10] (by decide +kernel) (by decide +kernel)
set_option maxRecDepth 20000 in
theorem gX0_combine_X0_commonDivisor : GoodIn wsX0_combine (va_wsS RX0 71 yX0_commonDivisor wsX0_commonDivisor) := goodIn_app (goodIn_of _ (by decide +kernel)) ggX0_combine_X0_commonDivisor
set_option maxRecDepth 20000 in
theorem ggX0_keepRest_X0_signOf : GoodIn wsX0_keepRest wsX0_signOf := goodIn_r _ [10, 1, 5, 11, 12, 13, 14, 15] (by decide +kernel) (by decide +kernel)
set_option maxRecDepth 20000 in
theorem gX0_keepRest_X0_signOf : GoodIn wsX0_keepRest (wsV RX0 77 RX0 yX0_signOf wsX0_signOf) := goodIn_app (goodIn_of _ (by decide +kernel)) ggX0_keepRest_X0_signOf
set_option maxRecDepth 20000 in
theorem ggX1_init_X4_init : GoodIn wsX1_init wsX4_init := goodIn_r _ [25, 26, 2, 3, 14, 27, 28, 29, 30, 31, 32, 33, 34, 35, 36, 37, 38, 39, 40, 48, 49, 50, 51, 52, 53, 54] (by decide +kernel) (by decide +kernel)
set_option maxRecDepth 20000 in
theorem gX1_init_X4_init : GoodIn wsX1_init (wsX4_init) := ggX1_init_X4_init
set_option maxRecDepth 20000 in
theorem ggX1_init_X3_init : GoodIn wsX1_init wsX3_init := goodIn_r _ [43, 44, 2, 3, 14, 45, 46, 47, 66, 67] (by decide +kernel) (by decide +kernel)
set_option maxRecDepth 20000 in
theorem gX1_init_X3_init : GoodIn wsX1_init (wsX3_init) := ggX1_init_X3_init
set_option maxRecDepth 20000 in
theorem ggX1_make_X4_begin : GoodIn wsX1_make wsX4_begin := goodIn_r _ [13, 14, 15, 16, 17, 18, 19, 20, 161, 162, 163, 164, 165, 166, 167] (by decide +kernel) (by decide +kernel)
set_option maxRecDepth 20000 in
theorem gX1_make_X4_begin : GoodIn wsX1_make (wsV RX1 69 RX4 yX4_begin wsX4_begin) := goodIn_app (goodIn_of _ (by decide +kernel)) ggX1_make_X4_begin
set_option maxRecDepth 20000 in
theorem ggX1_make_X4_add : GoodIn wsX1_make wsX4_add := goodIn_r _ [24, 25, 26, 15, 14, 27, 28, 29, 30, 31, 32, 33, 16, 34, 35, 36, 12, 37, 38, 168, 169, 161, 162, 163, 164, 165, 166, 167] (by decide +kernel) (by decide +kernel)
set_option maxRecDepth 20000 in
theorem gX1_make_X4_add : GoodIn wsX1_make (wsV RX1 73 RX4 yX4_add wsX4_add) := goodIn_app (goodIn_of _ (by decide +kernel)) ggX1_make_X4_add
set_option maxRecDepth 20000 in
theorem ggX1_make_X1_follow : GoodIn wsX1_make wsX1_follow := goodIn_r _ [43, 5, 44, 4, 7, 45, 8, 46, 47, 48, 49, 12, 50, 26, 14, 25, 27, 28, 29, 30, 51, 52, 53, 54, 55, 56, 57, 58, 59, 60, 61, 62, 63, 64, 65, 66, 67, 68, 69, 70, 71, 72, 73, 74, 75, 76, 77, 78, 79, 80, 81, 82, 83, 84, 85, 86, 87, 88, 89, 90, 91, 92, 93, 94, 95, 96, 97, 98, 99, 100, 101, 102, 103, 104, 105, 106, 107, 108, 109, 110, 111, 112, 113, 114, 115, 116, 117, 118, 119, 120, 121, 122, 123, 124, 125, 126, 127, 128, 129, 130, 131, 16, 15, 33, 34, 35, 36, 37, 38, 132, 133, 134, 135, 21, 22, 23, 24, 31, 32, 136, 137, 138, 139, 140, 141, 142, 143, 144, 145, 146, 161, 162, 163, 164, 165, 166, 167, 168, 169, 147, 148, 149, 150, 151, 152, 153, 154, 155, 156, 157, 158, 159, 160] (by decide +kernel) (by decide +kernel)
set_option maxRecDepth 20000 in
theorem gX1_make_X1_follow : GoodIn wsX1_make (wsV RX1 77 RX1 yX1_follow wsX1_follow) := goodIn_app (goodIn_of _ (by decide +kernel)) ggX1_make_X1_follow
set_option maxRecDepth 20000 in
theorem ggX1_follow_X4_load : GoodIn wsX1_follow wsX4_load := goodIn_r _ [12, 13, 14, 15, 16, 17, 18, 19, 130, 131, 132, 133, 134, 135, 136, 137, 138] (by decide +kernel) (by decide +kernel)
set_option maxRecDepth 20000 in
theorem gX1_follow_X4_load : GoodIn wsX1_follow (wsV RX1 81 RX4 yX4_load wsX4_load) := goodIn_app (goodIn_of _ (by decide +kernel)) ggX1_follow_X4_load
set_option maxRecDepth 20000 in
theorem ggX1_follow_X5_urges : GoodIn wsX1_follow wsX5_urges := goodIn_r _ [24, 25, 26, 27, 28, 29, 23, 30, 31, 32, 33, 34, 35, 36, 37, 38, 39, 40, 41, 42, 43, 44, 45, 46, 47, 48, 49, 50, 51, 52, 53, 54, 55, 56, 57, 58, 139, 140, 141, 142, 143, 144, 145, 146, 147, 148, 149, 150, 151, 152, 137, 138] (by decide +kernel) (by decide +kernel)
set_option maxRecDepth 20000 in
theorem gX1_follow_X5_urges : GoodIn wsX1_follow (wsV RX1 85 RX5 yX5_urges wsX5_urges) := goodIn_app (goodIn_of _ (by decide +kernel)) ggX1_follow_X5_urges
set_option maxRecDepth 20000 in
theorem ggX1_follow_X5_goesWhere : GoodIn wsX1_follow wsX5_goesWhere := goodIn_r _ [62, 26, 27, 28, 29, 23, 30, 31, 32, 33, 34, 35, 36, 37, 38, 39, 40, 41, 42, 43, 44, 45, 46, 47, 48, 49, 50, 51, 52, 53, 54, 55, 56, 57, 58, 139, 140, 141, 142, 143, 144, 145, 146, 147, 148, 149, 150, 151, 152, 137, 138] (by decide +kernel) (by decide +kernel)
set_option maxRecDepth 20000 in
theorem gX1_follow_X5_goesWhere : GoodIn wsX1_follow (wsV RX1 89 RX5 yX5_goesWhere wsX5_goesWhere) := goodIn_app (goodIn_of _ (by decide +kernel)) ggX1_follow_X5_goesWhere
set_option maxRecDepth 20000 in
theorem ggX1_follow_X3_become : GoodIn wsX1_follow wsX3_become := goodIn_r _ [66, 51, 67, 17, 18, 19, 137, 138] (by decide +kernel) (by decide +kernel)
set_option maxRecDepth 20000 in
theorem gX1_follow_X3_become : GoodIn wsX1_follow (wsV RX1 93 RX3 yX3_become wsX3_become) := goodIn_app (goodIn_of _ (by decide +kernel)) ggX1_follow_X3_become
set_option maxRecDepth 20000 in
theorem ggX1_follow_X5_move : GoodIn wsX1_follow wsX5_move := goodIn_r _ [71, 72, 73, 32, 38, 39, 40, 74, 75, 76, 23, 77, 34, 37, 78, 79, 33, 80, 41, 42, 43, 44, 45, 81, 82, 83, 49, 84, 51, 52, 85, 86, 87, 88, 53, 54, 55, 56, 57, 58, 89, 90, 91, 92, 93, 94, 95, 96, 139, 140, 141, 142, 143, 144, 145, 146, 147, 148, 149, 150, 151, 152, 137, 138] (by decide +kernel) (by decide +kernel)
set_option maxRecDepth 20000 in
theorem gX1_follow_X5_move : GoodIn wsX1_follow (wsV RX1 97 RX5 yX5_move wsX5_move) := goodIn_app (goodIn_of _ (by decide +kernel)) ggX1_follow_X5_move
set_option maxRecDepth 20000 in
theorem ggX1_follow_X4_indexOf : GoodIn wsX1_follow wsX4_indexOf := goodIn_r _ [100, 101, 102, 103, 104, 105, 106, 11, 107, 14, 15, 108, 109, 110, 111, 112, 13, 130, 131, 132, 133, 134, 135, 136, 137, 138] (by decide +kernel) (by decide +kernel)
set_option maxRecDepth 20000 in
theorem gX1_follow_X4_indexOf : GoodIn wsX1_follow (wsV RX1 101 RX4 yX4_indexOf wsX4_indexOf) := goodIn_app (goodIn_of _ (by decide +kernel)) ggX1_follow_X4_indexOf
set_option maxRecDepth 20000 in
theorem ggX1_follow_X4_add : GoodIn wsX1_follow wsX4_add := goodIn_r _ [116, 15, 13, 102, 14, 16, 17, 18, 19, 117, 118, 103, 101, 104, 105, 106, 11, 107, 108, 137, 138, 130, 131, 132, 133, 134, 135, 136] (by decide +kernel) (by decide +kernel)
set_option maxRecDepth 20000 in
theorem gX1_follow_X4_add : GoodIn wsX1_follow (wsV RX1 73 RX4 yX4_add wsX4_add) := goodIn_app (goodIn_of _ (by decide +kernel)) ggX1_follow_X4_add
set_option maxRecDepth 20000 in
theorem ggX1_deadOne_X1_isDeadAt : GoodIn wsX1_deadOne wsX1_isDeadAt := goodIn_r _ [8, 9, 10, 11, 12, 7, 13, 14, 15, 16, 17, 18, 19, 20, 21, 22, 23, 24, 25] (by decide +kernel) (by decide +kernel)
set_option maxRecDepth 20000 in
theorem gX1_deadOne_X1_isDeadAt : GoodIn wsX1_deadOne (wsV RX1 105 RX1 yX1_isDeadAt wsX1_isDeadAt) := goodIn_app (goodIn_of _ (by decide +kernel)) ggX1_deadOne_X1_isDeadAt
set_option maxRecDepth 20000 in
theorem ggX1_isDeadAt_X1_leadsFrom : GoodIn wsX1_isDeadAt wsX1_leadsFrom := goodIn_r _ [6, 7, 1, 8, 9, 10, 11, 12, 13, 14, 15, 16, 17, 18] (by decide +kernel) (by decide +kernel)
set_option maxRecDepth 20000 in
theorem gX1_isDeadAt_X1_leadsFrom : GoodIn wsX1_isDeadAt (wsV RX1 109 RX1 yX1_leadsFrom wsX1_leadsFrom) := goodIn_app (goodIn_of _ (by decide +kernel)) ggX1_isDeadAt_X1_leadsFrom
set_option maxRecDepth 20000 in
theorem ggX1_leastWithout_X1_turnRound : GoodIn wsX1_leastWithout wsX1_turnRound := goodIn_r _ [9, 10, 1, 2, 11, 12, 13, 14, 28, 29, 30, 31, 32, 33, 34, 35, 36, 37, 38, 39, 40, 41, 42, 43, 44, 45] (by decide +kernel) (by decide +kernel)
set_option maxRecDepth 20000 in
theorem gX1_leastWithout_X1_turnRound : GoodIn wsX1_leastWithout (wsV RX1 113 RX1 yX1_turnRound wsX1_turnRound) := goodIn_app (goodIn_of _ (by decide +kernel)) ggX1_leastWithout_X1_turnRound
set_option maxRecDepth 20000 in
theorem ggX1_leastWithout_X1_leadsFrom : GoodIn wsX1_leastWithout wsX1_leadsFrom := goodIn_r _ [18, 13, 12, 28, 29, 30, 31, 32, 33, 34, 35, 36, 37, 38] (by decide +kernel) (by decide +kernel)
set_option maxRecDepth 20000 in
theorem gX1_leastWithout_X1_leadsFrom : GoodIn wsX1_leastWithout (wsV RX1 109 RX1 yX1_leadsFrom wsX1_leadsFrom) := goodIn_app (goodIn_of _ (by decide +kernel)) ggX1_leastWithout_X1_leadsFrom
set_option maxRecDepth 20000 in
theorem ggX1_leastWithout_X1_leastNotLeading : GoodIn wsX1_leastWithout wsX1_leastNotLeading := goodIn_r _ [22, 1, 2, 4, 3, 23, 24, 25, 26, 8, 27, 11, 12, 14, 28, 29, 30, 31, 32, 33, 34, 35, 36, 37, 38, 39, 40, 41, 42, 43, 44, 45] (by decide +kernel) (by decide +kernel)
set_option maxRecDepth 20000 in
theorem gX1_leastWithout_X1_leastNotLeading : GoodIn wsX1_leastWithout (wsV RX1 116 RX1 yX1_leastNotLeading wsX1_leastNotLeading) := goodIn_app (goodIn_of _ (by decide +kernel)) ggX1_leastWithout_X1_leastNotLeading
set_option maxRecDepth 20000 in
theorem ggX1_leastAstray_X1_turnRound : GoodIn wsX1_leastAstray wsX1_turnRound := goodIn_r _ [9, 10, 1, 2, 11, 12, 13, 14, 24, 25, 26, 27, 28, 29, 30, 31, 32, 33, 34, 35, 36, 37, 38, 39, 40, 41] (by decide +kernel) (by decide +kernel)
set_option maxRecDepth 20000 in
theorem gX1_leastAstray_X1_turnRound : GoodIn wsX1_leastAstray (wsV RX1 113 RX1 yX1_turnRound wsX1_turnRound) := goodIn_app (goodIn_of _ (by decide +kernel)) ggX1_leastAstray_X1_turnRound
set_option maxRecDepth 20000 in
theorem ggX1_leastAstray_X1_leastNotLeading : GoodIn wsX1_leastAstray wsX1_leastNotLeading := goodIn_r _ [18, 1, 2, 4, 3, 19, 20, 21, 22, 8, 23, 11, 12, 14, 24, 25, 26, 27, 28, 29, 30, 31, 32, 33, 34, 35, 36, 37, 38, 39, 40, 41] (by decide +kernel) (by decide +kernel)
set_option maxRecDepth 20000 in
theorem gX1_leastAstray_X1_leastNotLeading : GoodIn wsX1_leastAstray (wsV RX1 116 RX1 yX1_leastNotLeading wsX1_leastNotLeading) := goodIn_app (goodIn_of _ (by decide +kernel)) ggX1_leastAstray_X1_leastNotLeading
set_option maxRecDepth 20000 in
theorem ggX1_leastNotLeading_X1_queueThoseBefore : GoodIn wsX1_leastNotLeading wsX1_queueThoseBefore := goodIn_r _ [10, 11, 1, 2, 12, 4, 3, 13, 14, 15, 16, 17, 18, 19, 20, 21, 22, 23, 24, 25, 26, 27, 28, 29, 30, 31] (by decide +kernel) (by decide +kernel)
set_option maxRecDepth 20000 in
theorem gX1_leastNotLeading_X1_queueThoseBefore : GoodIn wsX1_leastNotLeading (wsV RX1 120 RX1 yX1_queueThoseBefore wsX1_queueThoseBefore) := goodIn_app (goodIn_of _ (by decide +kernel)) ggX1_leastNotLeading_X1_queueThoseBefore
set_option maxRecDepth 20000 in
theorem ggX1_leastOtherWith_X4_cellAt : GoodIn wsX1_leastOtherWith wsX4_cellAt := goodIn_r _ [8, 9, 10, 22, 23, 24, 25, 26, 27, 28] (by decide +kernel) (by decide +kernel)
set_option maxRecDepth 20000 in
theorem gX1_leastOtherWith_X4_cellAt : GoodIn wsX1_leastOtherWith (wsV RX1 123 RX4 yX4_cellAt wsX4_cellAt) := goodIn_app (goodIn_of _ (by decide +kernel)) ggX1_leastOtherWith_X4_cellAt
set_option maxRecDepth 20000 in
theorem ggX1_leastIdleStep_X1_goesNowhere : GoodIn wsX1_leastIdleStep wsX1_goesNowhere := goodIn_r _ [7, 8, 9, 10, 11, 12, 6, 13, 14, 1, 15, 16, 17, 18, 19, 20, 21, 22, 23, 24, 25, 26, 27, 28, 29, 30, 31, 32] (by decide +kernel) (by decide +kernel)
set_option maxRecDepth 20000 in
theorem gX1_leastIdleStep_X1_goesNowhere : GoodIn wsX1_leastIdleStep (wsV RX1 126 RX1 yX1_goesNowhere wsX1_goesNowhere) := goodIn_app (goodIn_of _ (by decide +kernel)) ggX1_leastIdleStep_X1_goesNowhere
set_option maxRecDepth 20000 in
theorem ggX1_goesNowhere_X1_leadsFrom : GoodIn wsX1_goesNowhere wsX1_leadsFrom := goodIn_r _ [7, 8, 9, 10, 11, 12, 13, 14, 15, 16, 17, 18, 19, 20] (by decide +kernel) (by decide +kernel)
set_option maxRecDepth 20000 in
theorem gX1_goesNowhere_X1_leadsFrom : GoodIn wsX1_goesNowhere (wsV RX1 109 RX1 yX1_leadsFrom wsX1_leadsFrom) := goodIn_app (goodIn_of _ (by decide +kernel)) ggX1_goesNowhere_X1_leadsFrom
set_option maxRecDepth 20000 in
theorem ggX2_numberFor_X2_hasNumber : GoodIn wsX2_numberFor wsX2_hasNumber := goodIn_r _ [6, 7, 8, 9, 10, 11] (by decide +kernel) (by decide +kernel)
set_option maxRecDepth 20000 in
theorem gX2_numberFor_X2_hasNumber : GoodIn wsX2_numberFor (wsV RX2 25 RX2 yX2_hasNumber wsX2_hasNumber) := goodIn_app (goodIn_of _ (by decide +kernel)) ggX2_numberFor_X2_hasNumber
set_option maxRecDepth 20000 in
theorem ggX3_becomeOneAt_J7_fill_53178 : GoodIn wsX3_becomeOneAt wsJ7_fill_53178 := goodIn_r _ [5] (by decide +kernel) (by decide +kernel)
set_option maxRecDepth 20000 in
theorem gX3_becomeOneAt_J7_fill_53178 : GoodIn wsX3_becomeOneAt (va_wsS RX3 25 yJ7_fill_53178 wsJ7_fill_53178) := goodIn_app (goodIn_of _ (by decide +kernel)) ggX3_becomeOneAt_J7_fill_53178
set_option maxRecDepth 20000 in
theorem ggX3_kindAt_X3_kindIn : GoodIn wsX3_kindAt wsX3_kindIn := goodIn_r _ [5] (by decide +kernel) (by decide +kernel)
set_option maxRecDepth 20000 in
theorem gX3_kindAt_X3_kindIn : GoodIn wsX3_kindAt (va_wsS RX3 31 yX3_kindIn wsX3_kindIn) := goodIn_app (goodIn_of _ (by decide +kernel)) ggX3_kindAt_X3_kindIn
set_option maxRecDepth 20000 in
theorem ggX3_manyOf_X3_kindIn : GoodIn wsX3_manyOf wsX3_kindIn := goodIn_r _ [6] (by decide +kernel) (by decide +kernel)
set_option maxRecDepth 20000 in
theorem gX3_manyOf_X3_kindIn : GoodIn wsX3_manyOf (va_wsS RX3 31 yX3_kindIn wsX3_kindIn) := goodIn_app (goodIn_of _ (by decide +kernel)) ggX3_manyOf_X3_kindIn
set_option maxRecDepth 20000 in
theorem ggX3_manyOf_X3_isOfKind : GoodIn wsX3_manyOf wsX3_isOfKind := goodIn_r _ [9] (by decide +kernel) (by decide +kernel)
set_option maxRecDepth 20000 in
theorem gX3_manyOf_X3_isOfKind : GoodIn wsX3_manyOf (va_wsS RX3 35 yX3_isOfKind wsX3_isOfKind) := goodIn_app (goodIn_of _ (by decide +kernel)) ggX3_manyOf_X3_isOfKind
set_option maxRecDepth 20000 in
theorem ggX3_appendMany_X3_append : GoodIn wsX3_appendMany wsX3_append := goodIn_r _ [5, 6, 7, 8, 9] (by decide +kernel) (by decide +kernel)
set_option maxRecDepth 20000 in
theorem gX3_appendMany_X3_append : GoodIn wsX3_appendMany (wsV RX3 39 RX3 yX3_append wsX3_append) := goodIn_app (goodIn_of _ (by decide +kernel)) ggX3_appendMany_X3_append
set_option maxRecDepth 20000 in
theorem ggX3_takeFirst_X3_empty : GoodIn wsX3_takeFirst wsX3_empty := goodIn_r _ [7, 1, 2, 18, 19] (by decide +kernel) (by decide +kernel)
set_option maxRecDepth 20000 in
theorem gX3_takeFirst_X3_empty : GoodIn wsX3_takeFirst (wsV RX3 43 RX3 yX3_empty wsX3_empty) := goodIn_app (goodIn_of _ (by decide +kernel)) ggX3_takeFirst_X3_empty
set_option maxRecDepth 20000 in
theorem ggX3_takeFirst_X3_kindIn : GoodIn wsX3_takeFirst wsX3_kindIn := goodIn_r _ [10] (by decide +kernel) (by decide +kernel)
set_option maxRecDepth 20000 in
theorem gX3_takeFirst_X3_kindIn : GoodIn wsX3_takeFirst (va_wsS RX3 31 yX3_kindIn wsX3_kindIn) := goodIn_app (goodIn_of _ (by decide +kernel)) ggX3_takeFirst_X3_kindIn
set_option maxRecDepth 20000 in
theorem ggX3_takeFirst_X3_isOfKind : GoodIn wsX3_takeFirst wsX3_isOfKind := goodIn_r _ [13] (by decide +kernel) (by decide +kernel)
set_option maxRecDepth 20000 in
theorem gX3_takeFirst_X3_isOfKind : GoodIn wsX3_takeFirst (va_wsS RX3 35 yX3_isOfKind wsX3_isOfKind) := goodIn_app (goodIn_of _ (by decide +kernel)) ggX3_takeFirst_X3_isOfKind
set_option maxRecDepth 20000 in
theorem ggX3_takeFirst_X3_append : GoodIn wsX3_takeFirst wsX3_append := goodIn_r _ [17, 2, 1, 18, 19] (by decide +kernel) (by decide +kernel)
set_option maxRecDepth 20000 in
theorem gX3_takeFirst_X3_append : GoodIn wsX3_takeFirst (wsV RX3 39 RX3 yX3_append wsX3_append) := goodIn_app (goodIn_of _ (by decide +kernel)) ggX3_takeFirst_X3_append
set_option maxRecDepth 20000 in
theorem ggX4_begin_J7_fill_53178 : GoodIn wsX4_begin wsJ7_fill_53178 := goodIn_r _ [7] (by decide +kernel) (by decide +kernel)
set_option maxRecDepth 20000 in
theorem gX4_begin_J7_fill_53178 : GoodIn wsX4_begin (va_wsS RX4 43 yJ7_fill_53178 wsJ7_fill_53178) := goodIn_app (goodIn_of _ (by decide +kernel)) ggX4_begin_J7_fill_53178
set_option maxRecDepth 20000 in
theorem ggX4_indexOf_X4_bucketOf : GoodIn wsX4_indexOf wsX4_bucketOf := goodIn_r _ [8, 9, 10, 11, 17, 18, 19, 20, 21, 22, 23, 24, 25] (by decide +kernel) (by decide +kernel)
set_option maxRecDepth 20000 in
theorem gX4_indexOf_X4_bucketOf : GoodIn wsX4_indexOf (wsV RX4 55 RX4 yX4_bucketOf wsX4_bucketOf) := goodIn_app (goodIn_of _ (by decide +kernel)) ggX4_indexOf_X4_bucketOf
set_option maxRecDepth 20000 in
theorem ggX4_indexOf_X4_isSame : GoodIn wsX4_indexOf wsX4_isSame := goodIn_r _ [15, 9, 16, 10, 17, 18, 19, 20, 21, 22, 23, 24, 25] (by decide +kernel) (by decide +kernel)
set_option maxRecDepth 20000 in
theorem gX4_indexOf_X4_isSame : GoodIn wsX4_indexOf (wsV RX4 59 RX4 yX4_isSame wsX4_isSame) := goodIn_app (goodIn_of _ (by decide +kernel)) ggX4_indexOf_X4_isSame
set_option maxRecDepth 20000 in
theorem ggX4_add_X4_bucketOf : GoodIn wsX4_add wsX4_bucketOf := goodIn_r _ [17, 4, 1, 18, 21, 22, 23, 24, 25, 26, 27, 19, 20] (by decide +kernel) (by decide +kernel)
set_option maxRecDepth 20000 in
theorem gX4_add_X4_bucketOf : GoodIn wsX4_add (wsV RX4 55 RX4 yX4_bucketOf wsX4_bucketOf) := goodIn_app (goodIn_of _ (by decide +kernel)) ggX4_add_X4_bucketOf
set_option maxRecDepth 20000 in
theorem ggX4_isNowhereBelow_X4_cellAt : GoodIn wsX4_isNowhereBelow wsX4_cellAt := goodIn_r _ [7, 8, 1, 9, 10, 11, 12, 13, 14, 15] (by decide +kernel) (by decide +kernel)
set_option maxRecDepth 20000 in
theorem gX4_isNowhereBelow_X4_cellAt : GoodIn wsX4_isNowhereBelow (wsV RX4 69 RX4 yX4_cellAt wsX4_cellAt) := goodIn_app (goodIn_of _ (by decide +kernel)) ggX4_isNowhereBelow_X4_cellAt
set_option maxRecDepth 20000 in
theorem ggX4_isNowhereAbove_X4_cellAt : GoodIn wsX4_isNowhereAbove wsX4_cellAt := goodIn_r _ [7, 8, 1, 9, 10, 11, 12, 13, 14, 15] (by decide +kernel) (by decide +kernel)
set_option maxRecDepth 20000 in
theorem gX4_isNowhereAbove_X4_cellAt : GoodIn wsX4_isNowhereAbove (wsV RX4 69 RX4 yX4_cellAt wsX4_cellAt) := goodIn_app (goodIn_of _ (by decide +kernel)) ggX4_isNowhereAbove_X4_cellAt
set_option maxRecDepth 20000 in
theorem ggX4_mostAt_X4_cellAt : GoodIn wsX4_mostAt wsX4_cellAt := goodIn_r _ [10, 11, 12, 13, 14, 15, 16, 17, 18, 19] (by decide +kernel) (by decide +kernel)
set_option maxRecDepth 20000 in
theorem gX4_mostAt_X4_cellAt : GoodIn wsX4_mostAt (wsV RX4 69 RX4 yX4_cellAt wsX4_cellAt) := goodIn_app (goodIn_of _ (by decide +kernel)) ggX4_mostAt_X4_cellAt
set_option maxRecDepth 20000 in
theorem ggX4_retrace_X4_depthOf : GoodIn wsX4_retrace wsX4_depthOf := goodIn_r _ [9, 10, 4, 15, 16, 17, 18, 19, 20, 21] (by decide +kernel) (by decide +kernel)
set_option maxRecDepth 20000 in
theorem gX4_retrace_X4_depthOf : GoodIn wsX4_retrace (wsV RX4 72 RX4 yX4_depthOf wsX4_depthOf) := goodIn_app (goodIn_of _ (by decide +kernel)) ggX4_retrace_X4_depthOf
set_option maxRecDepth 20000 in
theorem ggX5_connect_X9_crossing : GoodIn wsX5_connect wsX9_crossing := goodIn_r _ [7] (by decide +kernel) (by decide +kernel)
set_option maxRecDepth 20000 in
theorem gX5_connect_X9_crossing_n55 : GoodIn wsX5_connect (wsX9_crossing) := ggX5_connect_X9_crossing
set_option maxRecDepth 20000 in
theorem ggX5_connect_X5_withBit : GoodIn wsX5_connect wsX5_withBit := goodIn_r _ [11] (by decide +kernel) (by decide +kernel)
set_option maxRecDepth 20000 in
theorem gX5_connect_X5_withBit : GoodIn wsX5_connect (va_wsS RX5 59 yX5_withBit wsX5_withBit) := goodIn_app (goodIn_of _ (by decide +kernel)) ggX5_connect_X5_withBit
set_option maxRecDepth 20000 in
theorem ggX5_connect_X5_heedIfAsked : GoodIn wsX5_connect wsX5_heedIfAsked := goodIn_r _ [15, 16, 1, 17, 18, 5, 6, 7, 8, 9, 10, 11, 19, 20, 21, 22, 23, 24, 25, 26, 27, 28, 29, 30, 31, 32] (by decide +kernel) (by decide +kernel)
set_option maxRecDepth 20000 in
theorem gX5_connect_X5_heedIfAsked : GoodIn wsX5_connect (wsV RX5 63 RX5 yX5_heedIfAsked wsX5_heedIfAsked) := goodIn_app (goodIn_of _ (by decide +kernel)) ggX5_connect_X5_heedIfAsked
set_option maxRecDepth 20000 in
theorem ggX5_tellNeed_X9_crossing : GoodIn wsX5_tellNeed wsX9_crossing := goodIn_r _ [4] (by decide +kernel) (by decide +kernel)
set_option maxRecDepth 20000 in
theorem gX5_tellNeed_X9_crossing_n55 : GoodIn wsX5_tellNeed (wsX9_crossing) := ggX5_tellNeed_X9_crossing
set_option maxRecDepth 20000 in
theorem ggX5_tellNeed_X5_heedIfAsked : GoodIn wsX5_tellNeed wsX5_heedIfAsked := goodIn_r _ [9, 10, 11, 1, 12, 2, 3, 4, 13, 14, 8, 15, 16, 17, 18, 19, 20, 21, 22, 23, 24, 25, 26, 27, 28, 29] (by decide +kernel) (by decide +kernel)
set_option maxRecDepth 20000 in
theorem gX5_tellNeed_X5_heedIfAsked : GoodIn wsX5_tellNeed (wsV RX5 63 RX5 yX5_heedIfAsked wsX5_heedIfAsked) := goodIn_app (goodIn_of _ (by decide +kernel)) ggX5_tellNeed_X5_heedIfAsked
set_option maxRecDepth 20000 in
theorem ggX5_tellClosed_X9_crossing : GoodIn wsX5_tellClosed wsX9_crossing := goodIn_r _ [4] (by decide +kernel) (by decide +kernel)
set_option maxRecDepth 20000 in
theorem gX5_tellClosed_X9_crossing_n55 : GoodIn wsX5_tellClosed (wsX9_crossing) := ggX5_tellClosed_X9_crossing
set_option maxRecDepth 20000 in
theorem ggX5_tellClosed_X5_heedIfAsked : GoodIn wsX5_tellClosed wsX5_heedIfAsked := goodIn_r _ [9, 10, 11, 12, 1, 2, 3, 4, 13, 14, 8, 15, 16, 17, 18, 19, 20, 21, 22, 23, 24, 25, 26, 27, 28, 29] (by decide +kernel) (by decide +kernel)
set_option maxRecDepth 20000 in
theorem gX5_tellClosed_X5_heedIfAsked : GoodIn wsX5_tellClosed (wsV RX5 63 RX5 yX5_heedIfAsked wsX5_heedIfAsked) := goodIn_app (goodIn_of _ (by decide +kernel)) ggX5_tellClosed_X5_heedIfAsked
set_option maxRecDepth 20000 in
theorem ggX5_heedIfAsked_X9_crossing : GoodIn wsX5_heedIfAsked wsX9_crossing := goodIn_r _ [7] (by decide +kernel) (by decide +kernel)
set_option maxRecDepth 20000 in
theorem gX5_heedIfAsked_X9_crossing_n55 : GoodIn wsX5_heedIfAsked (wsX9_crossing) := ggX5_heedIfAsked_X9_crossing
set_option maxRecDepth 20000 in
theorem ggX5_heedIfAsked_X5_withBit : GoodIn wsX5_heedIfAsked wsX5_withBit := goodIn_r _ [11] (by decide +kernel) (by decide +kernel)
set_option maxRecDepth 20000 in
theorem gX5_heedIfAsked_X5_withBit : GoodIn wsX5_heedIfAsked (va_wsS RX5 59 yX5_withBit wsX5_withBit) := goodIn_app (goodIn_of _ (by decide +kernel)) ggX5_heedIfAsked_X5_withBit
set_option maxRecDepth 20000 in
theorem ggX5_hasBoth_X5_hasStep : GoodIn wsX5_hasBoth wsX5_hasStep := goodIn_r _ [5, 6, 12, 13, 14, 15, 16, 17, 18, 19, 20, 21, 22, 23, 24, 25] (by decide +kernel) (by decide +kernel)
set_option maxRecDepth 20000 in
theorem gX5_hasBoth_X5_hasStep : GoodIn wsX5_hasBoth (wsV RX5 67 RX5 yX5_hasStep wsX5_hasStep) := goodIn_app (goodIn_of _ (by decide +kernel)) ggX5_hasBoth_X5_hasStep
set_option maxRecDepth 20000 in
theorem ggX5_hasBoth_X5_hasPlace : GoodIn wsX5_hasBoth wsX5_hasPlace := goodIn_r _ [10, 11, 12, 13, 14, 15, 16, 17, 18, 19, 20, 21, 22, 23, 24, 25] (by decide +kernel) (by decide +kernel)
set_option maxRecDepth 20000 in
theorem gX5_hasBoth_X5_hasPlace : GoodIn wsX5_hasBoth (wsV RX5 71 RX5 yX5_hasPlace wsX5_hasPlace) := goodIn_app (goodIn_of _ (by decide +kernel)) ggX5_hasBoth_X5_hasPlace
set_option maxRecDepth 20000 in
theorem ggX5_change_X9_crossing : GoodIn wsX5_change wsX9_crossing := goodIn_r _ [5] (by decide +kernel) (by decide +kernel)
set_option maxRecDepth 20000 in
theorem gX5_change_X9_crossing_n55 : GoodIn wsX5_change (wsX9_crossing) := ggX5_change_X9_crossing
set_option maxRecDepth 20000 in
theorem ggX5_allows_X9_crossing : GoodIn wsX5_allows wsX9_crossing := goodIn_r _ [10] (by decide +kernel) (by decide +kernel)
set_option maxRecDepth 20000 in
theorem gX5_allows_X9_crossing_n55 : GoodIn wsX5_allows (wsX9_crossing) := ggX5_allows_X9_crossing
set_option maxRecDepth 20000 in
theorem ggX5_allows_X5_isColoured : GoodIn wsX5_allows wsX5_isColoured := goodIn_r _ [15, 16, 30, 31, 32, 33, 34, 35, 36, 37, 38, 39, 40, 41, 42, 43] (by decide +kernel) (by decide +kernel)
set_option maxRecDepth 20000 in
theorem gX5_allows_X5_isColoured : GoodIn wsX5_allows (wsV RX5 79 RX5 yX5_isColoured wsX5_isColoured) := goodIn_app (goodIn_of _ (by decide +kernel)) ggX5_allows_X5_isColoured
set_option maxRecDepth 20000 in
theorem ggX5_allows_X3_manyOf : GoodIn wsX5_allows wsX3_manyOf := goodIn_r _ [21, 22, 23, 24, 25, 20, 26, 27, 28, 29, 44, 45] (by decide +kernel) (by decide +kernel)
set_option maxRecDepth 20000 in
theorem gX5_allows_X3_manyOf : GoodIn wsX5_allows (wsV RX5 82 RX3 yX3_manyOf wsX3_manyOf) := goodIn_app (goodIn_of _ (by decide +kernel)) ggX5_allows_X3_manyOf
set_option maxRecDepth 20000 in
theorem ggX5_urges_X5_allows : GoodIn wsX5_urges wsX5_allows := goodIn_r _ [7, 8, 9, 10, 11, 12, 13, 14, 15, 16, 17, 18, 19, 20, 6, 21, 22, 23, 24, 25, 26, 27, 28, 29, 30, 31, 32, 33, 34, 35, 36, 37, 38, 39, 40, 41, 42, 43, 44, 45, 46, 47, 48, 49, 50, 51] (by decide +kernel) (by decide +kernel)
set_option maxRecDepth 20000 in
theorem gX5_urges_X5_allows : GoodIn wsX5_urges (wsV RX5 85 RX5 yX5_allows wsX5_allows) := goodIn_app (goodIn_of _ (by decide +kernel)) ggX5_urges_X5_allows
set_option maxRecDepth 20000 in
theorem ggX5_goes_X5_allows : GoodIn wsX5_goes wsX5_allows := goodIn_r _ [6, 7, 8, 9, 10, 11, 12, 13, 14, 15, 16, 17, 18, 19, 5, 20, 21, 22, 23, 24, 25, 26, 27, 28, 29, 30, 31, 32, 33, 34, 40, 41, 42, 43, 44, 45, 46, 47, 48, 49, 50, 51, 52, 53, 54, 55] (by decide +kernel) (by decide +kernel)
set_option maxRecDepth 20000 in
theorem gX5_goes_X5_allows : GoodIn wsX5_goes (wsV RX5 85 RX5 yX5_allows wsX5_allows) := goodIn_app (goodIn_of _ (by decide +kernel)) ggX5_goes_X5_allows
set_option maxRecDepth 20000 in
theorem ggX5_goes_X5_urges : GoodIn wsX5_goes wsX5_urges := goodIn_r _ [38, 39, 1, 2, 3, 4, 5, 6, 7, 8, 9, 10, 11, 12, 13, 14, 15, 16, 17, 18, 19, 20, 21, 22, 23, 24, 25, 26, 27, 28, 29, 30, 31, 32, 33, 34, 40, 41, 42, 43, 44, 45, 46, 47, 48, 49, 50, 51, 52, 53, 54, 55] (by decide +kernel) (by decide +kernel)
set_option maxRecDepth 20000 in
theorem gX5_goes_X5_urges : GoodIn wsX5_goes (wsV RX5 89 RX5 yX5_urges wsX5_urges) := goodIn_app (goodIn_of _ (by decide +kernel)) ggX5_goes_X5_urges
set_option maxRecDepth 20000 in
theorem ggX5_goesWhere_X5_allows : GoodIn wsX5_goesWhere wsX5_allows := goodIn_r _ [6, 7, 8, 9, 10, 11, 12, 13, 14, 15, 16, 17, 18, 19, 5, 20, 21, 22, 23, 24, 25, 26, 27, 28, 29, 30, 31, 32, 33, 34, 35, 36, 37, 38, 39, 40, 41, 42, 43, 44, 45, 46, 47, 48, 49, 50] (by decide +kernel) (by decide +kernel)
set_option maxRecDepth 20000 in
theorem gX5_goesWhere_X5_allows : GoodIn wsX5_goesWhere (wsV RX5 85 RX5 yX5_allows wsX5_allows) := goodIn_app (goodIn_of _ (by decide +kernel)) ggX5_goesWhere_X5_allows
set_option maxRecDepth 20000 in
theorem ggX5_leastGoing_X5_urges : GoodIn wsX5_leastGoing wsX5_urges := goodIn_r _ [6, 1, 7, 8, 9, 10, 5, 11, 12, 13, 14, 15, 16, 17, 18, 19, 20, 21, 22, 23, 24, 25, 26, 27, 28, 29, 30, 31, 32, 33, 34, 35, 36, 37, 38, 39, 44, 45, 46, 47, 48, 49, 50, 51, 52, 53, 54, 55, 56, 57, 58, 59] (by decide +kernel) (by decide +kernel)
set_option maxRecDepth 20000 in
theorem gX5_leastGoing_X5_urges : GoodIn wsX5_leastGoing (wsV RX5 89 RX5 yX5_urges wsX5_urges) := goodIn_app (goodIn_of _ (by decide +kernel)) ggX5_leastGoing_X5_urges
set_option maxRecDepth 20000 in
theorem ggX5_leastGoing_X5_goesWhere : GoodIn wsX5_leastGoing wsX5_goesWhere := goodIn_r _ [43, 7, 8, 9, 10, 5, 11, 12, 13, 14, 15, 16, 17, 18, 19, 20, 21, 22, 23, 24, 25, 26, 27, 28, 29, 30, 31, 32, 33, 34, 35, 36, 37, 38, 39, 44, 45, 46, 47, 48, 49, 50, 51, 52, 53, 54, 55, 56, 57, 58, 59] (by decide +kernel) (by decide +kernel)
set_option maxRecDepth 20000 in
theorem gX5_leastGoing_X5_goesWhere : GoodIn wsX5_leastGoing (wsV RX5 93 RX5 yX5_goesWhere wsX5_goesWhere) := goodIn_app (goodIn_of _ (by decide +kernel)) ggX5_leastGoing_X5_goesWhere
set_option maxRecDepth 20000 in
theorem ggX5_overfills_X5_isColoured : GoodIn wsX5_overfills wsX5_isColoured := goodIn_r _ [8, 9, 19, 20, 21, 22, 23, 24, 25, 26, 27, 28, 29, 30, 31, 32] (by decide +kernel) (by decide +kernel)
set_option maxRecDepth 20000 in
theorem gX5_overfills_X5_isColoured : GoodIn wsX5_overfills (wsV RX5 79 RX5 yX5_isColoured wsX5_isColoured) := goodIn_app (goodIn_of _ (by decide +kernel)) ggX5_overfills_X5_isColoured
set_option maxRecDepth 20000 in
theorem ggX5_overfills_X5_change : GoodIn wsX5_overfills wsX5_change := goodIn_r _ [13, 14, 15, 16, 17, 18, 19, 20, 21, 22, 23, 24, 25, 26, 27, 28, 29, 30, 31, 32] (by decide +kernel) (by decide +kernel)
set_option maxRecDepth 20000 in
theorem gX5_overfills_X5_change : GoodIn wsX5_overfills (wsV RX5 98 RX5 yX5_change wsX5_change) := goodIn_app (goodIn_of _ (by decide +kernel)) ggX5_overfills_X5_change
set_option maxRecDepth 20000 in
theorem ggX5_move_X9_crossing : GoodIn wsX5_move wsX9_crossing := goodIn_r _ [6] (by decide +kernel) (by decide +kernel)
set_option maxRecDepth 20000 in
theorem gX5_move_X9_crossing_n55 : GoodIn wsX5_move (wsX9_crossing) := ggX5_move_X9_crossing
set_option maxRecDepth 20000 in
theorem ggX5_move_X5_moveAt : GoodIn wsX5_move wsX5_moveAt := goodIn_r _ [11, 12, 13, 14, 15, 16, 17, 18, 19, 20, 10, 21, 22, 23, 24, 25, 26, 27, 28, 29, 30, 31, 32, 33, 34, 35, 36, 37, 38, 39, 40, 41, 42, 43, 44, 45, 46, 47, 48, 49, 50, 51, 52, 53, 54, 55, 56, 57, 58, 59, 60, 61, 62, 63] (by decide +kernel) (by decide +kernel)
set_option maxRecDepth 20000 in
theorem gX5_move_X5_moveAt : GoodIn wsX5_move (wsV RX5 101 RX5 yX5_moveAt wsX5_moveAt) := goodIn_app (goodIn_of _ (by decide +kernel)) ggX5_move_X5_moveAt
set_option maxRecDepth 20000 in
theorem ggX5_moveAt_X5_isColoured : GoodIn wsX5_moveAt wsX5_isColoured := goodIn_r _ [11, 12, 38, 39, 40, 41, 42, 43, 44, 45, 46, 47, 48, 49, 50, 51] (by decide +kernel) (by decide +kernel)
set_option maxRecDepth 20000 in
theorem gX5_moveAt_X5_isColoured : GoodIn wsX5_moveAt (wsV RX5 79 RX5 yX5_isColoured wsX5_isColoured) := goodIn_app (goodIn_of _ (by decide +kernel)) ggX5_moveAt_X5_isColoured
set_option maxRecDepth 20000 in
theorem ggX5_moveAt_X3_takeFirst : GoodIn wsX5_moveAt wsX3_takeFirst := goodIn_r _ [17, 18, 19, 20, 21, 22, 16, 23, 24, 25, 26, 27, 28, 29, 30, 31, 32, 33, 52, 53] (by decide +kernel) (by decide +kernel)
set_option maxRecDepth 20000 in
theorem gX5_moveAt_X3_takeFirst : GoodIn wsX5_moveAt (wsV RX5 105 RX3 yX3_takeFirst wsX3_takeFirst) := goodIn_app (goodIn_of _ (by decide +kernel)) ggX5_moveAt_X3_takeFirst
set_option maxRecDepth 20000 in
theorem ggX5_moveAt_X3_appendMany : GoodIn wsX5_moveAt wsX3_appendMany := goodIn_r _ [37, 30, 31, 32, 16, 33, 19, 18, 52, 53] (by decide +kernel) (by decide +kernel)
set_option maxRecDepth 20000 in
theorem gX5_moveAt_X3_appendMany : GoodIn wsX5_moveAt (wsV RX5 109 RX3 yX3_appendMany wsX3_appendMany) := goodIn_app (goodIn_of _ (by decide +kernel)) ggX5_moveAt_X3_appendMany
set_option maxRecDepth 20000 in
theorem ggX5_greatestWithin_X5_entries : GoodIn wsX5_greatestWithin wsX5_entries := goodIn_r _ [7, 8, 9, 14, 15, 16, 17, 18, 19, 20, 21, 22, 23, 24, 25, 26, 27] (by decide +kernel) (by decide +kernel)
set_option maxRecDepth 20000 in
theorem gX5_greatestWithin_X5_entries : GoodIn wsX5_greatestWithin (wsV RX5 113 RX5 yX5_entries wsX5_entries) := goodIn_app (goodIn_of _ (by decide +kernel)) ggX5_greatestWithin_X5_entries
set_option maxRecDepth 20000 in
theorem ggX5_greatestWithin_X5_exits : GoodIn wsX5_greatestWithin wsX5_exits := goodIn_r _ [13, 9, 8, 14, 15, 16, 17, 18, 19, 20, 21, 22, 23, 24, 25, 26, 27] (by decide +kernel) (by decide +kernel)
set_option maxRecDepth 20000 in
theorem gX5_greatestWithin_X5_exits : GoodIn wsX5_greatestWithin (wsV RX5 117 RX5 yX5_exits wsX5_exits) := goodIn_app (goodIn_of _ (by decide +kernel)) ggX5_greatestWithin_X5_exits
set_option maxRecDepth 20000 in
theorem ggX5_isLeast_X5_greatestWithin : GoodIn wsX5_isLeast wsX5_greatestWithin := goodIn_r _ [6, 1, 7, 8, 9, 10, 5, 11, 12, 13, 14, 15, 16, 17, 18, 19, 20, 21, 22, 23, 24, 25, 26, 27, 28, 29, 30, 31] (by decide +kernel) (by decide +kernel)
set_option maxRecDepth 20000 in
theorem gX5_isLeast_X5_greatestWithin : GoodIn wsX5_isLeast (wsV RX5 120 RX5 yX5_greatestWithin wsX5_greatestWithin) := goodIn_app (goodIn_of _ (by decide +kernel)) ggX5_isLeast_X5_greatestWithin
set_option maxRecDepth 20000 in
theorem ggX5_isFree_X5_hasStepAbove : GoodIn wsX5_isFree wsX5_hasStepAbove := goodIn_r _ [10, 2, 11, 17, 18, 19, 20, 21, 22, 23, 24, 25, 26, 27, 28, 29, 30] (by decide +kernel) (by decide +kernel)
set_option maxRecDepth 20000 in
theorem gX5_isFree_X5_hasStepAbove : GoodIn wsX5_isFree (wsV RX5 123 RX5 yX5_hasStepAbove wsX5_hasStepAbove) := goodIn_app (goodIn_of _ (by decide +kernel)) ggX5_isFree_X5_hasStepAbove
set_option maxRecDepth 20000 in
theorem ggX5_isFree_X5_isFreeAt : GoodIn wsX5_isFree wsX5_isFreeAt := goodIn_r _ [15, 2, 16, 17, 18, 19, 20, 21, 22, 23, 24, 25, 26, 27, 28, 29, 30] (by decide +kernel) (by decide +kernel)
set_option maxRecDepth 20000 in
theorem gX5_isFree_X5_isFreeAt : GoodIn wsX5_isFree (wsV RX5 126 RX5 yX5_isFreeAt wsX5_isFreeAt) := goodIn_app (goodIn_of _ (by decide +kernel)) ggX5_isFree_X5_isFreeAt
set_option maxRecDepth 20000 in
theorem ggX6_undo_X5_change : GoodIn wsX6_undo wsX5_change := goodIn_r _ [17, 18, 19, 20, 21, 22, 27, 28, 29, 30, 31, 32, 33, 34, 35, 36, 37, 38, 39, 40] (by decide +kernel) (by decide +kernel)
set_option maxRecDepth 20000 in
theorem gX6_undo_X5_change : GoodIn wsX6_undo (wsV RX6 52 RX5 yX5_change wsX5_change) := goodIn_app (goodIn_of _ (by decide +kernel)) ggX6_undo_X5_change
set_option maxRecDepth 20000 in
theorem ggX7_collect_X9_leastBehind : GoodIn wsX7_collect wsX9_leastBehind := goodIn_r _ [6, 7, 8, 9, 10, 11, 12, 13, 14, 15, 16, 17, 18, 19, 20, 21, 22, 23, 24, 25, 26, 27, 28, 29, 4, 5, 32, 33, 34, 35, 36, 37, 38, 39, 40, 41, 42, 43, 44, 45] (by decide +kernel) (by decide +kernel)
set_option maxRecDepth 20000 in
theorem gX7_collect_X9_leastBehind_n24 : GoodIn wsX7_collect (wsX9_leastBehind) := ggX7_collect_X9_leastBehind
set_option maxRecDepth 20000 in
theorem ggX8_init_X4_init : GoodIn wsX8_init wsX4_init := goodIn_r _ [19, 20, 2, 3, 12, 21, 22, 23, 24, 25, 26, 27, 28, 29, 30, 31, 32, 33, 34, 42, 43, 44, 45, 46, 47, 48] (by decide +kernel) (by decide +kernel)
set_option maxRecDepth 20000 in
theorem gX8_init_X4_init : GoodIn wsX8_init (wsX4_init) := ggX8_init_X4_init
set_option maxRecDepth 20000 in
theorem ggX8_init_X3_init : GoodIn wsX8_init wsX3_init := goodIn_r _ [37, 38, 2, 3, 12, 39, 40, 41, 55, 56] (by decide +kernel) (by decide +kernel)
set_option maxRecDepth 20000 in
theorem gX8_init_X3_init : GoodIn wsX8_init (wsX3_init) := ggX8_init_X3_init
set_option maxRecDepth 20000 in
theorem ggX8_make_X4_begin : GoodIn wsX8_make wsX4_begin := goodIn_r _ [14, 15, 16, 17, 18, 19, 20, 21, 170, 171, 172, 173, 174, 175, 176] (by decide +kernel) (by decide +kernel)
set_option maxRecDepth 20000 in
theorem gX8_make_X4_begin : GoodIn wsX8_make (wsV RX8 52 RX4 yX4_begin wsX4_begin) := goodIn_app (goodIn_of _ (by decide +kernel)) ggX8_make_X4_begin
set_option maxRecDepth 20000 in
theorem ggX8_make_X3_become : GoodIn wsX8_make wsX3_become := goodIn_r _ [26, 27, 28, 29, 30, 31, 177, 178] (by decide +kernel) (by decide +kernel)
set_option maxRecDepth 20000 in
theorem gX8_make_X3_become : GoodIn wsX8_make (wsV RX8 55 RX3 yX3_become wsX3_become) := goodIn_app (goodIn_of _ (by decide +kernel)) ggX8_make_X3_become
set_option maxRecDepth 20000 in
theorem ggX8_make_X8_addChild : GoodIn wsX8_make wsX8_addChild := goodIn_r _ [36, 9, 4, 8, 6, 37, 38, 39, 13, 40, 17, 16, 41, 42, 43, 44, 45, 15, 46, 47, 48, 49, 50, 51, 52, 53, 54, 55, 56, 57, 29, 30, 31, 58, 59, 150, 151, 152, 153, 154, 155, 170, 171, 172, 173, 174, 175, 176, 177, 178] (by decide +kernel) (by decide +kernel)
set_option maxRecDepth 20000 in
theorem gX8_make_X8_addChild : GoodIn wsX8_make (wsV RX8 60 RX8 yX8_addChild wsX8_addChild) := goodIn_app (goodIn_of _ (by decide +kernel)) ggX8_make_X8_addChild
set_option maxRecDepth 20000 in
theorem ggX8_make_X8_branch : GoodIn wsX8_make wsX8_branch := goodIn_r _ [63, 64, 4, 6, 8, 2, 3, 65, 66, 67, 13, 68, 52, 15, 46, 57, 29, 30, 31, 69, 70, 71, 72, 73, 74, 75, 76, 77, 78, 79, 80, 81, 82, 83, 84, 85, 86, 87, 88, 89, 90, 91, 25, 92, 27, 93, 94, 95, 96, 97, 98, 99, 100, 101, 102, 103, 104, 105, 106, 107, 108, 109, 110, 111, 112, 113, 114, 115, 116, 117, 118, 119, 120, 121, 122, 123, 124, 125, 126, 127, 128, 129, 130, 131, 35, 132, 133, 134, 135, 136, 137, 138, 139, 140, 141, 142, 143, 144, 145, 146, 147, 148, 149, 32, 33, 34, 36, 9, 37, 38, 39, 40, 17, 16, 41, 42, 43, 44, 45, 47, 48, 49, 50, 51, 53, 54, 55, 56, 58, 59, 156, 157, 158, 159, 160, 161, 162, 163, 164, 165, 166, 167, 168, 169, 150, 151, 152, 153, 154, 155, 170, 171, 172, 173, 174, 175, 176, 177, 178] (by decide +kernel) (by decide +kernel)
set_option maxRecDepth 20000 in
theorem gX8_make_X8_branch : GoodIn wsX8_make (wsV RX8 64 RX8 yX8_branch wsX8_branch) := goodIn_app (goodIn_of _ (by decide +kernel)) ggX8_make_X8_branch
set_option maxRecDepth 20000 in
theorem ggX8_branch_X4_load : GoodIn wsX8_branch wsX4_load := goodIn_r _ [11, 12, 13, 14, 15, 16, 17, 18, 150, 151, 152, 153, 154, 155, 156, 157, 158] (by decide +kernel) (by decide +kernel)
set_option maxRecDepth 20000 in
theorem gX8_branch_X4_load : GoodIn wsX8_branch (wsV RX8 71 RX4 yX4_load wsX4_load) := goodIn_app (goodIn_of _ (by decide +kernel)) ggX8_branch_X4_load
set_option maxRecDepth 20000 in
theorem ggX8_branch_X5_allows : GoodIn wsX8_branch wsX5_allows := goodIn_r _ [23, 24, 25, 26, 27, 28, 29, 30, 31, 32, 33, 34, 35, 36, 22, 37, 38, 39, 40, 41, 42, 43, 44, 45, 46, 47, 48, 49, 50, 51, 130, 131, 132, 133, 134, 135, 136, 137, 138, 139, 140, 141, 142, 143, 157, 158] (by decide +kernel) (by decide +kernel)
set_option maxRecDepth 20000 in
theorem gX8_branch_X5_allows : GoodIn wsX8_branch (wsV RX8 75 RX5 yX5_allows wsX5_allows) := goodIn_app (goodIn_of _ (by decide +kernel)) ggX8_branch_X5_allows
set_option maxRecDepth 20000 in
theorem ggX8_branch_X5_move : GoodIn wsX8_branch wsX5_move := goodIn_r _ [55, 56, 57, 25, 31, 32, 33, 58, 59, 60, 22, 61, 27, 30, 62, 63, 26, 64, 34, 35, 36, 37, 38, 65, 66, 67, 42, 68, 44, 45, 69, 70, 71, 72, 46, 47, 48, 49, 50, 51, 73, 74, 75, 76, 77, 78, 79, 80, 130, 131, 132, 133, 134, 135, 136, 137, 138, 139, 140, 141, 142, 143, 157, 158] (by decide +kernel) (by decide +kernel)
set_option maxRecDepth 20000 in
theorem gX8_branch_X5_move : GoodIn wsX8_branch (wsV RX8 79 RX5 yX5_move wsX5_move) := goodIn_app (goodIn_of _ (by decide +kernel)) ggX8_branch_X5_move
set_option maxRecDepth 20000 in
theorem ggX8_branch_X8_stretchAlong : GoodIn wsX8_branch wsX8_stretchAlong := goodIn_r _ [85, 2, 4, 3, 86, 87, 88, 89, 10, 90, 13, 14, 91, 92, 93, 94, 12, 95, 96, 97, 84, 98, 99, 100, 101, 102, 144, 145, 146, 147, 148, 149, 150, 151, 152, 153, 154, 155, 156, 157, 158] (by decide +kernel) (by decide +kernel)
set_option maxRecDepth 20000 in
theorem gX8_branch_X8_stretchAlong : GoodIn wsX8_branch (wsV RX8 83 RX8 yX8_stretchAlong wsX8_stretchAlong) := goodIn_app (goodIn_of _ (by decide +kernel)) ggX8_branch_X8_stretchAlong
set_option maxRecDepth 20000 in
theorem ggX8_branch_X8_addChild : GoodIn wsX8_branch wsX8_addChild := goodIn_r _ [106, 107, 2, 4, 3, 108, 109, 110, 10, 111, 112, 113, 114, 115, 116, 117, 118, 13, 14, 119, 120, 121, 122, 123, 12, 124, 125, 126, 127, 15, 16, 17, 18, 128, 129, 144, 145, 146, 147, 148, 149, 150, 151, 152, 153, 154, 155, 156, 157, 158] (by decide +kernel) (by decide +kernel)
set_option maxRecDepth 20000 in
theorem gX8_branch_X8_addChild : GoodIn wsX8_branch (wsV RX8 60 RX8 yX8_addChild wsX8_addChild) := goodIn_app (goodIn_of _ (by decide +kernel)) ggX8_branch_X8_addChild
set_option maxRecDepth 20000 in
theorem ggX8_addChild_X4_indexOf : GoodIn wsX8_addChild wsX4_indexOf := goodIn_r _ [9, 10, 11, 12, 13, 14, 15, 8, 16, 17, 18, 19, 20, 21, 22, 23, 24, 41, 42, 43, 44, 45, 46, 47, 48, 49] (by decide +kernel) (by decide +kernel)
set_option maxRecDepth 20000 in
theorem gX8_addChild_X4_indexOf : GoodIn wsX8_addChild (wsV RX8 87 RX4 yX4_indexOf wsX4_indexOf) := goodIn_app (goodIn_of _ (by decide +kernel)) ggX8_addChild_X4_indexOf
set_option maxRecDepth 20000 in
theorem ggX8_addChild_X4_add : GoodIn wsX8_addChild wsX4_add := goodIn_r _ [28, 18, 24, 11, 17, 29, 30, 31, 32, 33, 34, 12, 10, 13, 14, 15, 8, 16, 19, 48, 49, 41, 42, 43, 44, 45, 46, 47] (by decide +kernel) (by decide +kernel)
set_option maxRecDepth 20000 in
theorem gX8_addChild_X4_add : GoodIn wsX8_addChild (wsV RX8 91 RX4 yX4_add wsX4_add) := goodIn_app (goodIn_of _ (by decide +kernel)) ggX8_addChild_X4_add
set_option maxRecDepth 20000 in
theorem ggX8_stretchAlong_X4_isNowhereAbove : GoodIn wsX8_stretchAlong wsX4_isNowhereAbove := goodIn_r _ [9, 10, 11, 12, 13, 14, 8, 15, 16, 32, 33, 34, 35, 36, 37, 38, 39, 40] (by decide +kernel) (by decide +kernel)
set_option maxRecDepth 20000 in
theorem gX8_stretchAlong_X4_isNowhereAbove : GoodIn wsX8_stretchAlong (wsV RX8 95 RX4 yX4_isNowhereAbove wsX4_isNowhereAbove) := goodIn_app (goodIn_of _ (by decide +kernel)) ggX8_stretchAlong_X4_isNowhereAbove
set_option maxRecDepth 20000 in
theorem ggX8_stretchAlong_X8_stretch : GoodIn wsX8_stretchAlong wsX8_stretch := goodIn_r _ [21, 1, 22, 3, 23, 24, 25, 13, 14, 8, 15, 16, 10, 26, 27, 28, 29, 30, 31, 32, 33, 34, 35, 36, 37, 38, 39, 40] (by decide +kernel) (by decide +kernel)
set_option maxRecDepth 20000 in
theorem gX8_stretchAlong_X8_stretch : GoodIn wsX8_stretchAlong (wsV RX8 99 RX8 yX8_stretch wsX8_stretch) := goodIn_app (goodIn_of _ (by decide +kernel)) ggX8_stretchAlong_X8_stretch
set_option maxRecDepth 20000 in
theorem ggX8_stretch_X4_cellAt : GoodIn wsX8_stretch wsX4_cellAt := goodIn_r _ [10, 11, 12, 19, 20, 21, 22, 23, 24, 25] (by decide +kernel) (by decide +kernel)
set_option maxRecDepth 20000 in
theorem gX8_stretch_X4_cellAt : GoodIn wsX8_stretch (wsV RX8 113 RX4 yX4_cellAt wsX4_cellAt) := goodIn_app (goodIn_of _ (by decide +kernel)) ggX8_stretch_X4_cellAt
set_option maxRecDepth 20000 in
theorem ggX9_init_X5_init : GoodIn wsX9_init wsX5_init := goodIn_r _ [43, 44, 2, 3, 45, 46, 47, 48, 49, 50, 51, 52, 53, 54, 55, 56, 57, 58, 59, 151, 152, 153, 154, 155, 156, 157, 158, 159, 160, 161, 162, 163, 164] (by decide +kernel) (by decide +kernel)
set_option maxRecDepth 20000 in
theorem gX9_init_X5_init : GoodIn wsX9_init (wsX5_init) := ggX9_init_X5_init
set_option maxRecDepth 20000 in
theorem ggX9_init_X3_init : GoodIn wsX9_init wsX3_init := goodIn_r _ [62, 63, 2, 3, 45, 64, 65, 66, 177, 178] (by decide +kernel) (by decide +kernel)
set_option maxRecDepth 20000 in
theorem gX9_init_X3_init : GoodIn wsX9_init (wsX3_init) := ggX9_init_X3_init
set_option maxRecDepth 20000 in
theorem ggX9_init_X6_init : GoodIn wsX9_init wsX6_init := goodIn_r _ [69, 70, 2, 3, 45, 71, 65, 72, 73, 74, 179, 180, 181, 182] (by decide +kernel) (by decide +kernel)
set_option maxRecDepth 20000 in
theorem gX9_init_X6_init : GoodIn wsX9_init (wsX6_init) := ggX9_init_X6_init
set_option maxRecDepth 20000 in
theorem ggX9_init_X2_init : GoodIn wsX9_init wsX2_init := goodIn_r _ [77, 78, 2, 3, 45, 79, 80, 81, 82, 183, 184, 185, 186] (by decide +kernel) (by decide +kernel)
set_option maxRecDepth 20000 in
theorem gX9_init_X2_init : GoodIn wsX9_init (wsX2_init) := ggX9_init_X2_init
set_option maxRecDepth 20000 in
theorem ggX9_init_X1_init : GoodIn wsX9_init wsX1_init := goodIn_r _ [85, 86, 2, 3, 87, 88, 89, 90, 91, 9, 10, 92, 93, 94, 45, 95, 96, 97, 98, 99, 100, 101, 102, 103, 104, 105, 106, 107, 108, 109, 110, 111, 112, 113, 114, 115, 116, 117, 118, 119, 120, 121, 61, 62, 63, 64, 65, 66, 211, 212, 213, 214, 215, 216, 217, 187, 188, 189, 190, 191, 192, 193, 194, 195, 196, 197, 177, 178] (by decide +kernel) (by decide +kernel)
set_option maxRecDepth 20000 in
theorem gX9_init_X1_init : GoodIn wsX9_init (wsX1_init) := ggX9_init_X1_init
set_option maxRecDepth 20000 in
theorem ggX9_init_X8_init : GoodIn wsX9_init wsX8_init := goodIn_r _ [124, 125, 2, 3, 126, 88, 89, 127, 128, 9, 10, 129, 45, 130, 131, 132, 133, 134, 104, 105, 106, 107, 108, 109, 110, 111, 112, 113, 114, 115, 116, 117, 118, 119, 120, 135, 61, 62, 63, 64, 65, 66, 211, 212, 213, 214, 215, 216, 217, 198, 199, 200, 201, 202, 203, 177, 178] (by decide +kernel) (by decide +kernel)
set_option maxRecDepth 20000 in
theorem gX9_init_X8_init : GoodIn wsX9_init (wsX8_init) := ggX9_init_X8_init
set_option maxRecDepth 20000 in
theorem ggX9_init_X0_init : GoodIn wsX9_init wsX0_init := goodIn_r _ [138, 139, 2, 3, 45, 140, 65, 141, 142, 143, 144, 204, 205, 206, 207, 208] (by decide +kernel) (by decide +kernel)
set_option maxRecDepth 20000 in
theorem gX9_init_X0_init : GoodIn wsX9_init (wsX0_init) := ggX9_init_X0_init
set_option maxRecDepth 20000 in
theorem ggX9_init_X7_init : GoodIn wsX9_init wsX7_init := goodIn_r _ [147, 148, 2, 3, 45, 149, 150, 209, 210] (by decide +kernel) (by decide +kernel)
set_option maxRecDepth 20000 in
theorem gX9_init_X7_init : GoodIn wsX9_init (wsX7_init) := ggX9_init_X7_init
set_option maxRecDepth 20000 in
theorem ggX9_place_X5_addPlace : GoodIn wsX9_place wsX5_addPlace := goodIn_r _ [9, 10, 11, 12, 46, 47, 48, 49, 50, 51, 52, 53, 54, 55, 56, 57, 58, 59] (by decide +kernel) (by decide +kernel)
set_option maxRecDepth 20000 in
theorem gX9_place_X5_addPlace : GoodIn wsX9_place (wsV RX9 84 RX5 yX5_addPlace wsX5_addPlace) := goodIn_app (goodIn_of _ (by decide +kernel)) ggX9_place_X5_addPlace
set_option maxRecDepth 20000 in
theorem ggX9_place_X9_netChanges : GoodIn wsX9_place wsX9_netChanges := goodIn_r _ [17, 18, 19, 20, 21, 22, 23, 24, 25, 26, 27, 28, 29, 30, 31, 32, 33, 34, 35, 36, 37, 38, 39, 40, 41, 42, 43, 44, 45, 60, 61, 62, 63, 64, 65, 66, 67, 68, 69, 70, 71, 72, 73, 74, 75, 76, 77, 78, 79, 80, 81, 82, 83, 84, 85, 86, 87] (by decide +kernel) (by decide +kernel)
set_option maxRecDepth 20000 in
theorem gX9_place_X9_netChanges : GoodIn wsX9_place (wsV RX9 88 RX9 yX9_netChanges wsX9_netChanges) := goodIn_app (goodIn_of _ (by decide +kernel)) ggX9_place_X9_netChanges
set_option maxRecDepth 20000 in
theorem ggX9_step_X5_addStep : GoodIn wsX9_step wsX5_addStep := goodIn_r _ [9, 10, 11, 45, 46, 47, 48, 49, 50, 51, 52, 53, 54, 55, 56, 57, 58] (by decide +kernel) (by decide +kernel)
set_option maxRecDepth 20000 in
theorem gX9_step_X5_addStep : GoodIn wsX9_step (wsV RX9 94 RX5 yX5_addStep wsX5_addStep) := goodIn_app (goodIn_of _ (by decide +kernel)) ggX9_step_X5_addStep
set_option maxRecDepth 20000 in
theorem ggX9_step_X9_netChanges : GoodIn wsX9_step wsX9_netChanges := goodIn_r _ [16, 17, 18, 19, 20, 21, 22, 23, 24, 25, 26, 27, 28, 29, 30, 31, 32, 33, 34, 35, 36, 37, 38, 39, 40, 41, 42, 43, 44, 59, 60, 61, 62, 63, 64, 65, 66, 67, 68, 69, 70, 71, 72, 73, 74, 75, 76, 77, 78, 79, 80, 81, 82, 83, 84, 85, 86] (by decide +kernel) (by decide +kernel)
set_option maxRecDepth 20000 in
theorem gX9_step_X9_netChanges : GoodIn wsX9_step (wsV RX9 88 RX9 yX9_netChanges wsX9_netChanges) := goodIn_app (goodIn_of _ (by decide +kernel)) ggX9_step_X9_netChanges
set_option maxRecDepth 20000 in
theorem ggX9_arc_X5_hasBoth : GoodIn wsX9_arc wsX5_hasBoth := goodIn_r _ [7, 8, 9, 10, 6, 11, 12, 13, 14, 15, 16, 17, 74, 75, 76, 77, 78, 79, 80, 81, 82, 83, 84, 85, 86, 87] (by decide +kernel) (by decide +kernel)
set_option maxRecDepth 20000 in
theorem gX9_arc_X5_hasBoth : GoodIn wsX9_arc (wsV RX9 97 RX5 yX5_hasBoth wsX5_hasBoth) := goodIn_app (goodIn_of _ (by decide +kernel)) ggX9_arc_X5_hasBoth
set_option maxRecDepth 20000 in
theorem ggX9_arc_X9_isArc : GoodIn wsX9_arc wsX9_isArc := goodIn_r _ [21] (by decide +kernel) (by decide +kernel)
set_option maxRecDepth 20000 in
theorem gX9_arc_X9_isArc : GoodIn wsX9_arc (va_wsS RX9 101 yX9_isArc wsX9_isArc) := goodIn_app (goodIn_of _ (by decide +kernel)) ggX9_arc_X9_isArc
set_option maxRecDepth 20000 in
theorem ggX9_arc_X5_connect : GoodIn wsX9_arc wsX5_connect := goodIn_r _ [25, 26, 27, 28, 29, 30, 20, 31, 32, 33, 6, 34, 35, 36, 37, 38, 39, 40, 41, 74, 75, 76, 77, 78, 79, 80, 81, 82, 83, 84, 85, 86, 87] (by decide +kernel) (by decide +kernel)
set_option maxRecDepth 20000 in
theorem gX9_arc_X5_connect : GoodIn wsX9_arc (wsV RX9 105 RX5 yX5_connect wsX5_connect) := goodIn_app (goodIn_of _ (by decide +kernel)) ggX9_arc_X5_connect
set_option maxRecDepth 20000 in
theorem ggX9_arc_X9_netChanges : GoodIn wsX9_arc wsX9_netChanges := goodIn_r _ [45, 46, 47, 48, 49, 50, 51, 52, 53, 54, 55, 56, 57, 58, 59, 60, 61, 62, 63, 64, 65, 66, 67, 68, 69, 70, 71, 72, 73, 88, 89, 90, 91, 92, 93, 94, 95, 96, 97, 98, 99, 100, 101, 102, 103, 104, 105, 106, 107, 108, 109, 110, 111, 112, 113, 114, 115] (by decide +kernel) (by decide +kernel)
set_option maxRecDepth 20000 in
theorem gX9_arc_X9_netChanges : GoodIn wsX9_arc (wsV RX9 88 RX9 yX9_netChanges wsX9_netChanges) := goodIn_app (goodIn_of _ (by decide +kernel)) ggX9_arc_X9_netChanges
set_option maxRecDepth 20000 in
theorem ggX9_need_X5_hasBoth : GoodIn wsX9_need wsX5_hasBoth := goodIn_r _ [9, 10, 11, 12, 8, 13, 14, 15, 16, 17, 18, 19, 73, 74, 75, 76, 77, 78, 79, 80, 81, 82, 83, 84, 85, 86] (by decide +kernel) (by decide +kernel)
set_option maxRecDepth 20000 in
theorem gX9_need_X5_hasBoth : GoodIn wsX9_need (wsV RX9 97 RX5 yX5_hasBoth wsX5_hasBoth) := goodIn_app (goodIn_of _ (by decide +kernel)) ggX9_need_X5_hasBoth
set_option maxRecDepth 20000 in
theorem ggX9_need_X9_isArc : GoodIn wsX9_need wsX9_isArc := goodIn_r _ [23] (by decide +kernel) (by decide +kernel)
set_option maxRecDepth 20000 in
theorem gX9_need_X9_isArc : GoodIn wsX9_need (va_wsS RX9 101 yX9_isArc wsX9_isArc) := goodIn_app (goodIn_of _ (by decide +kernel)) ggX9_need_X9_isArc
set_option maxRecDepth 20000 in
theorem ggX9_need_X5_tellNeed : GoodIn wsX9_need wsX5_tellNeed := goodIn_r _ [27, 28, 29, 22, 30, 31, 32, 33, 8, 34, 35, 36, 37, 38, 39, 40, 73, 74, 75, 76, 77, 78, 79, 80, 81, 82, 83, 84, 85, 86] (by decide +kernel) (by decide +kernel)
set_option maxRecDepth 20000 in
theorem gX9_need_X5_tellNeed : GoodIn wsX9_need (wsV RX9 114 RX5 yX5_tellNeed wsX5_tellNeed) := goodIn_app (goodIn_of _ (by decide +kernel)) ggX9_need_X5_tellNeed
set_option maxRecDepth 20000 in
theorem ggX9_need_X9_netChanges : GoodIn wsX9_need wsX9_netChanges := goodIn_r _ [44, 45, 46, 47, 48, 49, 50, 51, 52, 53, 54, 55, 56, 57, 58, 59, 60, 61, 62, 63, 64, 65, 66, 67, 68, 69, 70, 71, 72, 87, 88, 89, 90, 91, 92, 93, 94, 95, 96, 97, 98, 99, 100, 101, 102, 103, 104, 105, 106, 107, 108, 109, 110, 111, 112, 113, 114] (by decide +kernel) (by decide +kernel)
set_option maxRecDepth 20000 in
theorem gX9_need_X9_netChanges : GoodIn wsX9_need (wsV RX9 88 RX9 yX9_netChanges wsX9_netChanges) := goodIn_app (goodIn_of _ (by decide +kernel)) ggX9_need_X9_netChanges
set_option maxRecDepth 20000 in
theorem ggX9_close_X5_hasBoth : GoodIn wsX9_close wsX5_hasBoth := goodIn_r _ [9, 10, 11, 12, 8, 13, 14, 15, 16, 17, 18, 19, 70, 71, 72, 73, 74, 75, 76, 77, 78, 79, 80, 81, 82, 83] (by decide +kernel) (by decide +kernel)
set_option maxRecDepth 20000 in
theorem gX9_close_X5_hasBoth : GoodIn wsX9_close (wsV RX9 97 RX5 yX5_hasBoth wsX5_hasBoth) := goodIn_app (goodIn_of _ (by decide +kernel)) ggX9_close_X5_hasBoth
set_option maxRecDepth 20000 in
theorem ggX9_close_X5_tellClosed : GoodIn wsX9_close wsX5_tellClosed := goodIn_r _ [23, 24, 25, 26, 27, 28, 29, 30, 8, 31, 32, 33, 34, 35, 36, 37, 70, 71, 72, 73, 74, 75, 76, 77, 78, 79, 80, 81, 82, 83] (by decide +kernel) (by decide +kernel)
set_option maxRecDepth 20000 in
theorem gX9_close_X5_tellClosed : GoodIn wsX9_close (wsV RX9 118 RX5 yX5_tellClosed wsX5_tellClosed) := goodIn_app (goodIn_of _ (by decide +kernel)) ggX9_close_X5_tellClosed
set_option maxRecDepth 20000 in
theorem ggX9_close_X9_netChanges : GoodIn wsX9_close wsX9_netChanges := goodIn_r _ [41, 42, 43, 44, 45, 46, 47, 48, 49, 50, 51, 52, 53, 54, 55, 56, 57, 58, 59, 60, 61, 62, 63, 64, 65, 66, 67, 68, 69, 84, 85, 86, 87, 88, 89, 90, 91, 92, 93, 94, 95, 96, 97, 98, 99, 100, 101, 102, 103, 104, 105, 106, 107, 108, 109, 110, 111] (by decide +kernel) (by decide +kernel)
set_option maxRecDepth 20000 in
theorem gX9_close_X9_netChanges : GoodIn wsX9_close (wsV RX9 88 RX9 yX9_netChanges wsX9_netChanges) := goodIn_app (goodIn_of _ (by decide +kernel)) ggX9_close_X9_netChanges
set_option maxRecDepth 20000 in
theorem ggX9_want_X5_hasBoth : GoodIn wsX9_want wsX5_hasBoth := goodIn_r _ [10, 11, 12, 13, 9, 14, 15, 16, 17, 18, 19, 20, 65, 66, 67, 68, 69, 70, 71, 72, 73, 74, 75, 76, 77, 78] (by decide +kernel) (by decide +kernel)
set_option maxRecDepth 20000 in
theorem gX9_want_X5_hasBoth : GoodIn wsX9_want (wsV RX9 97 RX5 yX5_hasBoth wsX5_hasBoth) := goodIn_app (goodIn_of _ (by decide +kernel)) ggX9_want_X5_hasBoth
set_option maxRecDepth 20000 in
theorem ggX9_want_X9_isThingKind : GoodIn wsX9_want wsX9_isThingKind := goodIn_r _ [24] (by decide +kernel) (by decide +kernel)
set_option maxRecDepth 20000 in
theorem gX9_want_X9_isThingKind : GoodIn wsX9_want (va_wsS RX9 121 yX9_isThingKind wsX9_isThingKind) := goodIn_app (goodIn_of _ (by decide +kernel)) ggX9_want_X9_isThingKind
set_option maxRecDepth 20000 in
theorem ggX9_want_X5_isColoured : GoodIn wsX9_want wsX5_isColoured := goodIn_r _ [28, 29, 65, 66, 67, 68, 69, 70, 71, 72, 73, 74, 75, 76, 77, 78] (by decide +kernel) (by decide +kernel)
set_option maxRecDepth 20000 in
theorem gX9_want_X5_isColoured : GoodIn wsX9_want (wsV RX9 124 RX5 yX5_isColoured wsX5_isColoured) := goodIn_app (goodIn_of _ (by decide +kernel)) ggX9_want_X5_isColoured
set_option maxRecDepth 20000 in
theorem ggX9_want_X9_crossing : GoodIn wsX9_want wsX9_crossing := goodIn_r _ [32] (by decide +kernel) (by decide +kernel)
set_option maxRecDepth 20000 in
theorem gX9_want_X9_crossing : GoodIn wsX9_want (va_wsS RX9 130 yX9_crossing wsX9_crossing) := goodIn_app (goodIn_of _ (by decide +kernel)) ggX9_want_X9_crossing
set_option maxRecDepth 20000 in
theorem ggX9_want_X9_netChanges : GoodIn wsX9_want wsX9_netChanges := goodIn_r _ [36, 37, 38, 39, 40, 41, 42, 43, 44, 45, 46, 47, 48, 49, 50, 51, 52, 53, 54, 55, 56, 57, 58, 59, 60, 61, 62, 63, 64, 79, 80, 81, 82, 83, 84, 85, 86, 87, 88, 89, 90, 91, 92, 93, 94, 95, 96, 97, 98, 99, 100, 101, 102, 103, 104, 105, 106] (by decide +kernel) (by decide +kernel)
set_option maxRecDepth 20000 in
theorem gX9_want_X9_netChanges : GoodIn wsX9_want (wsV RX9 88 RX9 yX9_netChanges wsX9_netChanges) := goodIn_app (goodIn_of _ (by decide +kernel)) ggX9_want_X9_netChanges
set_option maxRecDepth 20000 in
theorem ggX9_asks_X5_hasBoth : GoodIn wsX9_asks wsX5_hasBoth := goodIn_r _ [13, 14, 15, 16, 12, 17, 18, 19, 20, 21, 22, 23, 40, 41, 42, 43, 44, 45, 46, 47, 48, 49, 50, 51, 52, 53] (by decide +kernel) (by decide +kernel)
set_option maxRecDepth 20000 in
theorem gX9_asks_X5_hasBoth : GoodIn wsX9_asks (wsV RX9 97 RX5 yX5_hasBoth wsX5_hasBoth) := goodIn_app (goodIn_of _ (by decide +kernel)) ggX9_asks_X5_hasBoth
set_option maxRecDepth 20000 in
theorem ggX9_asks_X9_crossing : GoodIn wsX9_asks wsX9_crossing := goodIn_r _ [27] (by decide +kernel) (by decide +kernel)
set_option maxRecDepth 20000 in
theorem gX9_asks_X9_crossing : GoodIn wsX9_asks (va_wsS RX9 130 yX9_crossing wsX9_crossing) := goodIn_app (goodIn_of _ (by decide +kernel)) ggX9_asks_X9_crossing
set_option maxRecDepth 20000 in
theorem ggX9_isOf_X5_hasStep : GoodIn wsX9_isOf wsX5_hasStep := goodIn_r _ [8, 9, 22, 23, 24, 25, 26, 27, 28, 29, 30, 31, 32, 33, 34, 35] (by decide +kernel) (by decide +kernel)
set_option maxRecDepth 20000 in
theorem gX9_isOf_X5_hasStep : GoodIn wsX9_isOf (wsV RX9 149 RX5 yX5_hasStep wsX5_hasStep) := goodIn_app (goodIn_of _ (by decide +kernel)) ggX9_isOf_X5_hasStep
set_option maxRecDepth 20000 in
theorem ggX9_mark_X5_hasPlace : GoodIn wsX9_mark wsX5_hasPlace := goodIn_r _ [12, 13, 39, 40, 41, 42, 43, 44, 45, 46, 47, 48, 49, 50, 51, 52] (by decide +kernel) (by decide +kernel)
set_option maxRecDepth 20000 in
theorem gX9_mark_X5_hasPlace : GoodIn wsX9_mark (wsV RX9 152 RX5 yX5_hasPlace wsX5_hasPlace) := goodIn_app (goodIn_of _ (by decide +kernel)) ggX9_mark_X5_hasPlace
set_option maxRecDepth 20000 in
theorem ggX9_mark_X5_isColoured : GoodIn wsX9_mark wsX5_isColoured := goodIn_r _ [17, 18, 39, 40, 41, 42, 43, 44, 45, 46, 47, 48, 49, 50, 51, 52] (by decide +kernel) (by decide +kernel)
set_option maxRecDepth 20000 in
theorem gX9_mark_X5_isColoured : GoodIn wsX9_mark (wsV RX9 124 RX5 yX5_isColoured wsX5_isColoured) := goodIn_app (goodIn_of _ (by decide +kernel)) ggX9_mark_X5_isColoured
set_option maxRecDepth 20000 in
theorem ggX9_mark_X6_clear : GoodIn wsX9_mark wsX6_clear := goodIn_r _ [23, 24, 53, 54, 55, 56] (by decide +kernel) (by decide +kernel)
set_option maxRecDepth 20000 in
theorem gX9_mark_X6_clear : GoodIn wsX9_mark (wsV RX9 159 RX6 yX6_clear wsX6_clear) := goodIn_app (goodIn_of _ (by decide +kernel)) ggX9_mark_X6_clear
set_option maxRecDepth 20000 in
theorem ggX9_thing_X5_hasPlace : GoodIn wsX9_thing wsX5_hasPlace := goodIn_r _ [12, 13, 50, 51, 52, 53, 54, 55, 56, 57, 58, 59, 60, 61, 62, 63] (by decide +kernel) (by decide +kernel)
set_option maxRecDepth 20000 in
theorem gX9_thing_X5_hasPlace : GoodIn wsX9_thing (wsV RX9 152 RX5 yX5_hasPlace wsX5_hasPlace) := goodIn_app (goodIn_of _ (by decide +kernel)) ggX9_thing_X5_hasPlace
set_option maxRecDepth 20000 in
theorem ggX9_thing_X9_isThingKind : GoodIn wsX9_thing wsX9_isThingKind := goodIn_r _ [17] (by decide +kernel) (by decide +kernel)
set_option maxRecDepth 20000 in
theorem gX9_thing_X9_isThingKind : GoodIn wsX9_thing (va_wsS RX9 121 yX9_isThingKind wsX9_isThingKind) := goodIn_app (goodIn_of _ (by decide +kernel)) ggX9_thing_X9_isThingKind
set_option maxRecDepth 20000 in
theorem ggX9_thing_X5_isColoured : GoodIn wsX9_thing wsX5_isColoured := goodIn_r _ [21, 22, 50, 51, 52, 53, 54, 55, 56, 57, 58, 59, 60, 61, 62, 63] (by decide +kernel) (by decide +kernel)
set_option maxRecDepth 20000 in
theorem gX9_thing_X5_isColoured : GoodIn wsX9_thing (wsV RX9 124 RX5 yX5_isColoured wsX5_isColoured) := goodIn_app (goodIn_of _ (by decide +kernel)) ggX9_thing_X5_isColoured
set_option maxRecDepth 20000 in
theorem ggX9_thing_X3_append : GoodIn wsX9_thing wsX3_append := goodIn_r _ [27, 28, 29, 48, 49] (by decide +kernel) (by decide +kernel)
set_option maxRecDepth 20000 in
theorem gX9_thing_X3_append : GoodIn wsX9_thing (wsV RX9 162 RX3 yX3_append wsX3_append) := goodIn_app (goodIn_of _ (by decide +kernel)) ggX9_thing_X3_append
set_option maxRecDepth 20000 in
theorem ggX9_thing_X6_clear : GoodIn wsX9_thing wsX6_clear := goodIn_r _ [34, 35, 64, 65, 66, 67] (by decide +kernel) (by decide +kernel)
set_option maxRecDepth 20000 in
theorem gX9_thing_X6_clear : GoodIn wsX9_thing (wsV RX9 159 RX6 yX6_clear wsX6_clear) := goodIn_app (goodIn_of _ (by decide +kernel)) ggX9_thing_X6_clear
set_option maxRecDepth 20000 in
theorem ggX9_sweep_X5_hasPlace : GoodIn wsX9_sweep wsX5_hasPlace := goodIn_r _ [11, 12, 45, 46, 47, 48, 49, 50, 51, 52, 53, 54, 55, 56, 57, 58] (by decide +kernel) (by decide +kernel)
set_option maxRecDepth 20000 in
theorem gX9_sweep_X5_hasPlace : GoodIn wsX9_sweep (wsV RX9 152 RX5 yX5_hasPlace wsX5_hasPlace) := goodIn_app (goodIn_of _ (by decide +kernel)) ggX9_sweep_X5_hasPlace
set_option maxRecDepth 20000 in
theorem ggX9_sweep_X5_isColoured : GoodIn wsX9_sweep wsX5_isColoured := goodIn_r _ [16, 17, 45, 46, 47, 48, 49, 50, 51, 52, 53, 54, 55, 56, 57, 58] (by decide +kernel) (by decide +kernel)
set_option maxRecDepth 20000 in
theorem gX9_sweep_X5_isColoured : GoodIn wsX9_sweep (wsV RX9 124 RX5 yX5_isColoured wsX5_isColoured) := goodIn_app (goodIn_of _ (by decide +kernel)) ggX9_sweep_X5_isColoured
set_option maxRecDepth 20000 in
theorem ggX9_sweep_X3_empty : GoodIn wsX9_sweep wsX3_empty := goodIn_r _ [22, 23, 24, 43, 44] (by decide +kernel) (by decide +kernel)
set_option maxRecDepth 20000 in
theorem gX9_sweep_X3_empty : GoodIn wsX9_sweep (wsV RX9 166 RX3 yX3_empty wsX3_empty) := goodIn_app (goodIn_of _ (by decide +kernel)) ggX9_sweep_X3_empty
set_option maxRecDepth 20000 in
theorem ggX9_sweep_X6_clear : GoodIn wsX9_sweep wsX6_clear := goodIn_r _ [29, 30, 59, 60, 61, 62] (by decide +kernel) (by decide +kernel)
set_option maxRecDepth 20000 in
theorem gX9_sweep_X6_clear : GoodIn wsX9_sweep (wsV RX9 159 RX6 yX6_clear wsX6_clear) := goodIn_app (goodIn_of _ (by decide +kernel)) ggX9_sweep_X6_clear
set_option maxRecDepth 20000 in
theorem ggX9_many_X5_hasPlace : GoodIn wsX9_many wsX5_hasPlace := goodIn_r _ [9, 10, 25, 26, 27, 28, 29, 30, 31, 32, 33, 34, 35, 36, 37, 38] (by decide +kernel) (by decide +kernel)
set_option maxRecDepth 20000 in
theorem gX9_many_X5_hasPlace : GoodIn wsX9_many (wsV RX9 152 RX5 yX5_hasPlace wsX5_hasPlace) := goodIn_app (goodIn_of _ (by decide +kernel)) ggX9_many_X5_hasPlace
set_option maxRecDepth 20000 in
theorem ggX9_kind_X5_hasPlace : GoodIn wsX9_kind wsX5_hasPlace := goodIn_r _ [10, 11, 40, 41, 42, 43, 44, 45, 46, 47, 48, 49, 50, 51, 52, 53] (by decide +kernel) (by decide +kernel)
set_option maxRecDepth 20000 in
theorem gX9_kind_X5_hasPlace : GoodIn wsX9_kind (wsV RX9 152 RX5 yX5_hasPlace wsX5_hasPlace) := goodIn_app (goodIn_of _ (by decide +kernel)) ggX9_kind_X5_hasPlace
set_option maxRecDepth 20000 in
theorem ggX9_kind_X5_isColoured : GoodIn wsX9_kind wsX5_isColoured := goodIn_r _ [15, 16, 40, 41, 42, 43, 44, 45, 46, 47, 48, 49, 50, 51, 52, 53] (by decide +kernel) (by decide +kernel)
set_option maxRecDepth 20000 in
theorem gX9_kind_X5_isColoured : GoodIn wsX9_kind (wsV RX9 124 RX5 yX5_isColoured wsX5_isColoured) := goodIn_app (goodIn_of _ (by decide +kernel)) ggX9_kind_X5_isColoured
set_option maxRecDepth 20000 in
theorem ggX9_kind_X3_kindAt : GoodIn wsX9_kind wsX3_kindAt := goodIn_r _ [21, 22, 23, 24, 20, 25, 38, 39] (by decide +kernel) (by decide +kernel)
set_option maxRecDepth 20000 in
theorem gX9_kind_X3_kindAt : GoodIn wsX9_kind (wsV RX9 169 RX3 yX3_kindAt wsX3_kindAt) := goodIn_app (goodIn_of _ (by decide +kernel)) ggX9_kind_X3_kindAt
set_option maxRecDepth 20000 in
theorem ggX9_share_X5_hasPlace : GoodIn wsX9_share wsX5_hasPlace := goodIn_r _ [12, 13, 26, 27, 28, 29, 30, 31, 32, 33, 34, 35, 36, 37, 38, 39] (by decide +kernel) (by decide +kernel)
set_option maxRecDepth 20000 in
theorem gX9_share_X5_hasPlace : GoodIn wsX9_share (wsV RX9 152 RX5 yX5_hasPlace wsX5_hasPlace) := goodIn_app (goodIn_of _ (by decide +kernel)) ggX9_share_X5_hasPlace
set_option maxRecDepth 20000 in
theorem ggX9_may_X5_hasStep : GoodIn wsX9_may wsX5_hasStep := goodIn_r _ [8, 9, 64, 65, 66, 67, 68, 69, 70, 71, 72, 73, 74, 75, 76, 77] (by decide +kernel) (by decide +kernel)
set_option maxRecDepth 20000 in
theorem gX9_may_X5_hasStep : GoodIn wsX9_may (wsV RX9 149 RX5 yX5_hasStep wsX5_hasStep) := goodIn_app (goodIn_of _ (by decide +kernel)) ggX9_may_X5_hasStep
set_option maxRecDepth 20000 in
theorem ggX9_may_X5_allows : GoodIn wsX9_may wsX5_allows := goodIn_r _ [13, 14, 15, 16, 17, 18, 19, 20, 21, 22, 23, 24, 25, 26, 7, 27, 28, 29, 30, 31, 32, 33, 34, 35, 36, 37, 38, 39, 40, 41, 64, 65, 66, 67, 68, 69, 70, 71, 72, 73, 74, 75, 76, 77, 78, 79] (by decide +kernel) (by decide +kernel)
set_option maxRecDepth 20000 in
theorem gX9_may_X5_allows : GoodIn wsX9_may (wsV RX9 174 RX5 yX5_allows wsX5_allows) := goodIn_app (goodIn_of _ (by decide +kernel)) ggX9_may_X5_allows
set_option maxRecDepth 20000 in
theorem ggX9_may_X5_goes : GoodIn wsX9_may wsX5_goes := goodIn_r _ [45, 46, 47, 11, 12, 7, 13, 14, 15, 16, 17, 18, 19, 20, 21, 22, 23, 24, 25, 26, 27, 28, 29, 30, 31, 32, 33, 34, 35, 36, 37, 38, 39, 40, 41, 48, 49, 50, 51, 9, 64, 65, 66, 67, 68, 69, 70, 71, 72, 73, 74, 75, 76, 77, 78, 79] (by decide +kernel) (by decide +kernel)
set_option maxRecDepth 20000 in
theorem gX9_may_X5_goes : GoodIn wsX9_may (wsV RX9 178 RX5 yX5_goes wsX5_goes) := goodIn_app (goodIn_of _ (by decide +kernel)) ggX9_may_X5_goes
set_option maxRecDepth 20000 in
theorem ggX9_go_X5_hasStep : GoodIn wsX9_go wsX5_hasStep := goodIn_r _ [10, 11, 128, 129, 130, 131, 132, 133, 134, 135, 136, 137, 138, 139, 140, 141] (by decide +kernel) (by decide +kernel)
set_option maxRecDepth 20000 in
theorem gX9_go_X5_hasStep : GoodIn wsX9_go (wsV RX9 149 RX5 yX5_hasStep wsX5_hasStep) := goodIn_app (goodIn_of _ (by decide +kernel)) ggX9_go_X5_hasStep
set_option maxRecDepth 20000 in
theorem ggX9_go_X5_goes : GoodIn wsX9_go wsX5_goes := goodIn_r _ [15, 16, 17, 18, 19, 9, 20, 21, 22, 23, 24, 25, 26, 27, 28, 29, 30, 31, 32, 33, 34, 35, 36, 37, 38, 39, 40, 41, 42, 43, 44, 45, 46, 47, 48, 49, 50, 51, 52, 11, 128, 129, 130, 131, 132, 133, 134, 135, 136, 137, 138, 139, 140, 141, 142, 143] (by decide +kernel) (by decide +kernel)
set_option maxRecDepth 20000 in
theorem gX9_go_X5_goes : GoodIn wsX9_go (wsV RX9 178 RX5 yX5_goes wsX5_goes) := goodIn_app (goodIn_of _ (by decide +kernel)) ggX9_go_X5_goes
set_option maxRecDepth 20000 in
theorem ggX9_go_X5_overfills : GoodIn wsX9_go wsX5_overfills := goodIn_r _ [56, 22, 57, 23, 31, 32, 33, 9, 34, 35, 58, 59, 60, 61, 62, 24, 28, 29, 30, 128, 129, 130, 131, 132, 133, 134, 135, 136, 137, 138, 139, 140, 141, 142, 143] (by decide +kernel) (by decide +kernel)
set_option maxRecDepth 20000 in
theorem gX9_go_X5_overfills : GoodIn wsX9_go (wsV RX9 181 RX5 yX5_overfills wsX5_overfills) := goodIn_app (goodIn_of _ (by decide +kernel)) ggX9_go_X5_overfills
set_option maxRecDepth 20000 in
theorem ggX9_go_X9_carryOut : GoodIn wsX9_go wsX9_carryOut := goodIn_r _ [66, 67, 1, 3, 68, 69, 70, 71, 72, 73, 74, 75, 76, 77, 78, 79, 80, 81, 82, 83, 84, 85, 86, 87, 88, 89, 90, 9, 91, 92, 93, 22, 28, 29, 30, 94, 95, 96, 97, 24, 27, 62, 98, 23, 99, 31, 32, 33, 34, 35, 100, 101, 102, 39, 103, 41, 42, 104, 105, 106, 107, 43, 44, 45, 46, 47, 48, 108, 109, 110, 111, 112, 113, 114, 115, 116, 117, 118, 119, 120, 121, 122, 123, 124, 125, 126, 127, 128, 129, 130, 131, 132, 133, 134, 135, 136, 137, 138, 139, 140, 141, 142, 143, 144, 145, 146, 147] (by decide +kernel) (by decide +kernel)
set_option maxRecDepth 20000 in
theorem gX9_go_X9_carryOut : GoodIn wsX9_go (wsV RX9 184 RX9 yX9_carryOut wsX9_carryOut) := goodIn_app (goodIn_of _ (by decide +kernel)) ggX9_go_X9_carryOut
set_option maxRecDepth 20000 in
theorem ggX9_run_X5_leastGoing : GoodIn wsX9_run wsX5_leastGoing := goodIn_r _ [8, 9, 10, 11, 12, 7, 13, 14, 15, 16, 17, 18, 19, 20, 21, 22, 23, 24, 25, 26, 27, 28, 29, 30, 31, 32, 33, 34, 35, 36, 37, 38, 39, 40, 41, 42, 43, 44, 45, 46, 47, 48, 49, 50, 126, 127, 128, 129, 130, 131, 132, 133, 134, 135, 136, 137, 138, 139, 140, 141] (by decide +kernel) (by decide +kernel)
set_option maxRecDepth 20000 in
theorem gX9_run_X5_leastGoing : GoodIn wsX9_run (wsV RX9 187 RX5 yX5_leastGoing wsX5_leastGoing) := goodIn_app (goodIn_of _ (by decide +kernel)) ggX9_run_X5_leastGoing
set_option maxRecDepth 20000 in
theorem ggX9_run_X5_overfills : GoodIn wsX9_run wsX5_overfills := goodIn_r _ [54, 20, 55, 21, 29, 30, 31, 7, 32, 33, 56, 57, 58, 59, 60, 22, 26, 27, 28, 126, 127, 128, 129, 130, 131, 132, 133, 134, 135, 136, 137, 138, 139, 140, 141] (by decide +kernel) (by decide +kernel)
set_option maxRecDepth 20000 in
theorem gX9_run_X5_overfills : GoodIn wsX9_run (wsV RX9 181 RX5 yX5_overfills wsX5_overfills) := goodIn_app (goodIn_of _ (by decide +kernel)) ggX9_run_X5_overfills
set_option maxRecDepth 20000 in
theorem ggX9_run_X9_carryOut : GoodIn wsX9_run wsX9_carryOut := goodIn_r _ [64, 65, 2, 3, 66, 67, 68, 69, 70, 71, 72, 73, 74, 75, 76, 77, 78, 79, 80, 81, 82, 83, 84, 85, 86, 87, 88, 7, 89, 90, 91, 20, 26, 27, 28, 92, 93, 94, 95, 22, 25, 60, 96, 21, 97, 29, 30, 31, 32, 33, 98, 99, 100, 37, 101, 39, 40, 102, 103, 104, 105, 41, 42, 43, 44, 45, 46, 106, 107, 108, 109, 110, 111, 112, 113, 114, 115, 116, 117, 118, 119, 120, 121, 122, 123, 124, 125, 126, 127, 128, 129, 130, 131, 132, 133, 134, 135, 136, 137, 138, 139, 140, 141, 142, 143, 144, 145] (by decide +kernel) (by decide +kernel)
set_option maxRecDepth 20000 in
theorem gX9_run_X9_carryOut : GoodIn wsX9_run (wsV RX9 184 RX9 yX9_carryOut wsX9_carryOut) := goodIn_app (goodIn_of _ (by decide +kernel)) ggX9_run_X9_carryOut
set_option maxRecDepth 20000 in
theorem ggX9_back_X6_undo : GoodIn wsX9_back wsX6_undo := goodIn_r _ [10, 11, 12, 13, 14, 15, 16, 17, 18, 19, 20, 21, 22, 23, 24, 25, 26, 27, 28, 29, 30, 31, 32, 45, 46, 47, 48, 49, 50, 51, 52, 53, 54, 55, 56, 57, 58, 59, 60, 61, 62, 63, 64] (by decide +kernel) (by decide +kernel)
set_option maxRecDepth 20000 in
theorem gX9_back_X6_undo : GoodIn wsX9_back (wsV RX9 194 RX6 yX6_undo wsX6_undo) := goodIn_app (goodIn_of _ (by decide +kernel)) ggX9_back_X6_undo
set_option maxRecDepth 20000 in
theorem ggX9_row_J7_fill_53178 : GoodIn wsX9_row wsJ7_fill_53178 := goodIn_r _ [8] (by decide +kernel) (by decide +kernel)
set_option maxRecDepth 20000 in
theorem gX9_row_J7_fill_53178 : GoodIn wsX9_row (va_wsS RX9 204 yJ7_fill_53178 wsJ7_fill_53178) := goodIn_app (goodIn_of _ (by decide +kernel)) ggX9_row_J7_fill_53178
set_option maxRecDepth 20000 in
theorem ggX9_set_X2_hasNumber : GoodIn wsX9_set wsX2_hasNumber := goodIn_r _ [10, 11, 24, 25, 26, 27] (by decide +kernel) (by decide +kernel)
set_option maxRecDepth 20000 in
theorem gX9_set_X2_hasNumber : GoodIn wsX9_set (wsV RX9 210 RX2 yX2_hasNumber wsX2_hasNumber) := goodIn_app (goodIn_of _ (by decide +kernel)) ggX9_set_X2_hasNumber
set_option maxRecDepth 20000 in
theorem ggX9_get_X2_hasNumber : GoodIn wsX9_get wsX2_hasNumber := goodIn_r _ [8, 9, 22, 23, 24, 25] (by decide +kernel) (by decide +kernel)
set_option maxRecDepth 20000 in
theorem gX9_get_X2_hasNumber : GoodIn wsX9_get (wsV RX9 210 RX2 yX2_hasNumber wsX2_hasNumber) := goodIn_app (goodIn_of _ (by decide +kernel)) ggX9_get_X2_hasNumber
set_option maxRecDepth 20000 in
theorem ggX9_copy_X2_hasStretch : GoodIn wsX9_copy wsX2_hasStretch := goodIn_r _ [12, 13, 26, 27, 28, 29] (by decide +kernel) (by decide +kernel)
set_option maxRecDepth 20000 in
theorem gX9_copy_X2_hasStretch : GoodIn wsX9_copy (wsV RX9 215 RX2 yX2_hasStretch wsX2_hasStretch) := goodIn_app (goodIn_of _ (by decide +kernel)) ggX9_copy_X2_hasStretch
set_option maxRecDepth 20000 in
theorem ggX9_lay_X5_hasStep : GoodIn wsX9_lay wsX5_hasStep := goodIn_r _ [10, 11, 35, 36, 37, 38, 39, 40, 41, 42, 43, 44, 45, 46, 47, 48] (by decide +kernel) (by decide +kernel)
set_option maxRecDepth 20000 in
theorem gX9_lay_X5_hasStep : GoodIn wsX9_lay (wsV RX9 149 RX5 yX5_hasStep wsX5_hasStep) := goodIn_app (goodIn_of _ (by decide +kernel)) ggX9_lay_X5_hasStep
set_option maxRecDepth 20000 in
theorem ggX9_lay_X2_layBehind : GoodIn wsX9_lay wsX2_layBehind := goodIn_r _ [16, 17, 18, 31, 32, 33, 34] (by decide +kernel) (by decide +kernel)
set_option maxRecDepth 20000 in
theorem gX9_lay_X2_layBehind : GoodIn wsX9_lay (wsV RX9 227 RX2 yX2_layBehind wsX2_layBehind) := goodIn_app (goodIn_of _ (by decide +kernel)) ggX9_lay_X2_layBehind
set_option maxRecDepth 20000 in
theorem ggX9_check_X3_become : GoodIn wsX9_check wsX3_become := goodIn_r _ [13, 14, 15, 16, 17, 18, 119, 120] (by decide +kernel) (by decide +kernel)
set_option maxRecDepth 20000 in
theorem gX9_check_X3_become : GoodIn wsX9_check (wsV RX9 236 RX3 yX3_become wsX3_become) := goodIn_app (goodIn_of _ (by decide +kernel)) ggX9_check_X3_become
set_option maxRecDepth 20000 in
theorem ggX9_check_X5_goes : GoodIn wsX9_check wsX5_goes := goodIn_r _ [23, 24, 25, 26, 27, 22, 28, 29, 30, 31, 32, 33, 34, 35, 36, 37, 38, 39, 40, 41, 42, 43, 44, 45, 46, 12, 47, 14, 48, 49, 50, 51, 52, 53, 54, 55, 56, 57, 58, 59, 101, 102, 103, 104, 105, 106, 107, 108, 109, 110, 111, 112, 113, 114, 119, 120] (by decide +kernel) (by decide +kernel)
set_option maxRecDepth 20000 in
theorem gX9_check_X5_goes : GoodIn wsX9_check (wsV RX9 178 RX5 yX5_goes wsX5_goes) := goodIn_app (goodIn_of _ (by decide +kernel)) ggX9_check_X5_goes
set_option maxRecDepth 20000 in
theorem ggX9_check_X5_move : GoodIn wsX9_check wsX5_move := goodIn_r _ [63, 64, 65, 30, 36, 37, 38, 66, 67, 68, 22, 69, 32, 35, 70, 71, 31, 72, 39, 40, 41, 42, 43, 73, 74, 75, 12, 76, 14, 48, 77, 78, 79, 80, 49, 50, 51, 52, 53, 54, 81, 82, 83, 84, 85, 86, 87, 88, 101, 102, 103, 104, 105, 106, 107, 108, 109, 110, 111, 112, 113, 114, 119, 120] (by decide +kernel) (by decide +kernel)
set_option maxRecDepth 20000 in
theorem gX9_check_X5_move : GoodIn wsX9_check (wsV RX9 240 RX5 yX5_move wsX5_move) := goodIn_app (goodIn_of _ (by decide +kernel)) ggX9_check_X5_move
set_option maxRecDepth 20000 in
theorem ggX9_field_X1_make : GoodIn wsX9_field wsX1_make := goodIn_r _ [14, 15, 16, 17, 18, 19, 20, 21, 22, 23, 24, 25, 26, 27, 28, 29, 30, 31, 32, 33, 34, 35, 36, 37, 38, 39, 40, 41, 42, 43, 44, 45, 46, 47, 48, 49, 50, 51, 52, 53, 54, 55, 13, 56, 57, 58, 59, 60, 61, 62, 63, 64, 65, 66, 67, 68, 69, 70, 71, 72, 73, 74, 75, 76, 77, 78, 79, 80, 81, 82, 83, 84, 85, 86, 87, 88, 89, 90, 91, 92, 93, 94, 95, 96, 97, 98, 99, 100, 101, 102, 103, 104, 105, 106, 107, 108, 109, 110, 111, 112, 113, 114, 115, 116, 117, 118, 119, 120, 121, 122, 123, 124, 125, 126, 127, 128, 129, 130, 131, 132, 133, 134, 135, 136, 137, 138, 139, 140, 141, 142, 143, 144, 145, 146, 147, 148, 175, 176, 177, 178, 179, 180, 181, 182, 183, 184, 185, 161, 162, 163, 164, 165, 166, 167, 168, 169, 170, 171, 172, 173, 174, 186, 187, 188, 189, 190, 191, 192, 193, 194] (by decide +kernel) (by decide +kernel)
set_option maxRecDepth 20000 in
theorem gX9_field_X1_make : GoodIn wsX9_field (wsV RX9 244 RX1 yX1_make wsX1_make) := goodIn_app (goodIn_of _ (by decide +kernel)) ggX9_field_X1_make
set_option maxRecDepth 20000 in
theorem ggX9_marking_X5_hasPlace : GoodIn wsX9_marking wsX5_hasPlace := goodIn_r _ [9, 10, 51, 52, 53, 54, 55, 56, 57, 58, 59, 60, 61, 62, 63, 64] (by decide +kernel) (by decide +kernel)
set_option maxRecDepth 20000 in
theorem gX9_marking_X5_hasPlace : GoodIn wsX9_marking (wsV RX9 152 RX5 yX5_hasPlace wsX5_hasPlace) := goodIn_app (goodIn_of _ (by decide +kernel)) ggX9_marking_X5_hasPlace
set_option maxRecDepth 20000 in
theorem ggX9_marking_X1_refusal : GoodIn wsX9_marking wsX1_refusal := goodIn_r _ [15, 16, 17, 18, 19, 20, 40, 41, 42, 43, 44, 45, 46, 47, 48, 49, 50, 65, 66, 67, 68, 69, 70, 71] (by decide +kernel) (by decide +kernel)
set_option maxRecDepth 20000 in
theorem gX9_marking_X1_refusal : GoodIn wsX9_marking (wsV RX9 256 RX1 yX1_refusal wsX1_refusal) := goodIn_app (goodIn_of _ (by decide +kernel)) ggX9_marking_X1_refusal
set_option maxRecDepth 20000 in
theorem ggX9_marking_X4_cellAt : GoodIn wsX9_marking wsX4_cellAt := goodIn_r _ [25, 26, 27, 65, 66, 67, 68, 69, 70, 71] (by decide +kernel) (by decide +kernel)
set_option maxRecDepth 20000 in
theorem gX9_marking_X4_cellAt : GoodIn wsX9_marking (wsV RX9 260 RX4 yX4_cellAt wsX4_cellAt) := goodIn_app (goodIn_of _ (by decide +kernel)) ggX9_marking_X4_cellAt
set_option maxRecDepth 20000 in
theorem ggX9_next_X5_hasStep : GoodIn wsX9_next wsX5_hasStep := goodIn_r _ [8, 9, 38, 39, 40, 41, 42, 43, 44, 45, 46, 47, 48, 49, 50, 51] (by decide +kernel) (by decide +kernel)
set_option maxRecDepth 20000 in
theorem gX9_next_X5_hasStep : GoodIn wsX9_next (wsV RX9 149 RX5 yX5_hasStep wsX5_hasStep) := goodIn_app (goodIn_of _ (by decide +kernel)) ggX9_next_X5_hasStep
set_option maxRecDepth 20000 in
theorem ggX9_next_X1_refusal : GoodIn wsX9_next wsX1_refusal := goodIn_r _ [14, 15, 16, 17, 18, 19, 52, 53, 54, 55, 56, 57, 58, 59, 60, 61, 62, 63, 64, 65, 66, 67, 68, 69] (by decide +kernel) (by decide +kernel)
set_option maxRecDepth 20000 in
theorem gX9_next_X1_refusal : GoodIn wsX9_next (wsV RX9 256 RX1 yX1_refusal wsX1_refusal) := goodIn_app (goodIn_of _ (by decide +kernel)) ggX9_next_X1_refusal
set_option maxRecDepth 20000 in
theorem ggX9_next_X1_leadsFrom : GoodIn wsX9_next wsX1_leadsFrom := goodIn_r _ [23, 24, 25, 52, 53, 54, 55, 56, 57, 58, 59, 60, 61, 62] (by decide +kernel) (by decide +kernel)
set_option maxRecDepth 20000 in
theorem gX9_next_X1_leadsFrom : GoodIn wsX9_next (wsV RX9 263 RX1 yX1_leadsFrom wsX1_leadsFrom) := goodIn_app (goodIn_of _ (by decide +kernel)) ggX9_next_X1_leadsFrom
set_option maxRecDepth 20000 in
theorem ggX9_way_X1_refusal : GoodIn wsX9_way wsX1_refusal := goodIn_r _ [9, 10, 11, 12, 13, 14, 41, 42, 43, 44, 45, 46, 47, 48, 49, 50, 51, 56, 57, 58, 59, 60, 61, 62] (by decide +kernel) (by decide +kernel)
set_option maxRecDepth 20000 in
theorem gX9_way_X1_refusal : GoodIn wsX9_way (wsV RX9 256 RX1 yX1_refusal wsX1_refusal) := goodIn_app (goodIn_of _ (by decide +kernel)) ggX9_way_X1_refusal
set_option maxRecDepth 20000 in
theorem ggX9_way_X4_retrace : GoodIn wsX9_way wsX4_retrace := goodIn_r _ [19, 20, 21, 22, 23, 24, 25, 26, 18, 27, 28, 52, 53, 54, 55, 56, 57, 58, 59, 60, 61, 62] (by decide +kernel) (by decide +kernel)
set_option maxRecDepth 20000 in
theorem gX9_way_X4_retrace : GoodIn wsX9_way (wsV RX9 266 RX4 yX4_retrace wsX4_retrace) := goodIn_app (goodIn_of _ (by decide +kernel)) ggX9_way_X4_retrace
set_option maxRecDepth 20000 in
theorem ggX9_find_X9_tryTheRow : GoodIn wsX9_find wsX9_tryTheRow := goodIn_r _ [11, 12, 13, 5, 14, 15, 16, 17, 18, 19, 20, 21, 22, 23, 24, 25, 26, 47, 48, 49, 50, 51, 52, 53, 54, 55, 56, 57, 58, 70, 71, 72, 73, 74, 75, 76, 77, 78, 79, 80, 81, 82, 83, 84, 85, 86, 87, 88, 89] (by decide +kernel) (by decide +kernel)
set_option maxRecDepth 20000 in
theorem gX9_find_X9_tryTheRow : GoodIn wsX9_find (wsV RX9 274 RX9 yX9_tryTheRow wsX9_tryTheRow) := goodIn_app (goodIn_of _ (by decide +kernel)) ggX9_find_X9_tryTheRow
set_option maxRecDepth 20000 in
theorem ggX9_find_X4_indexOf : GoodIn wsX9_find wsX4_indexOf := goodIn_r _ [31, 32, 33, 34, 35, 36, 37, 30, 38, 39, 40, 41, 42, 43, 44, 45, 46, 90, 91, 92, 93, 94, 95, 96, 84, 85] (by decide +kernel) (by decide +kernel)
set_option maxRecDepth 20000 in
theorem gX9_find_X4_indexOf : GoodIn wsX9_find (wsV RX9 277 RX4 yX4_indexOf wsX4_indexOf) := goodIn_app (goodIn_of _ (by decide +kernel)) ggX9_find_X4_indexOf
set_option maxRecDepth 20000 in
theorem ggX9_dead_X1_deadOne : GoodIn wsX9_dead wsX1_deadOne := goodIn_r _ [9, 10, 11, 12, 13, 14, 15, 8, 16, 17, 18, 19, 20, 21, 22, 35, 36, 37, 38, 39, 40, 41, 42, 43, 44, 45, 46, 47, 48, 49, 50, 51, 52] (by decide +kernel) (by decide +kernel)
set_option maxRecDepth 20000 in
theorem gX9_dead_X1_deadOne : GoodIn wsX9_dead (wsV RX9 280 RX1 yX1_deadOne wsX1_deadOne) := goodIn_app (goodIn_of _ (by decide +kernel)) ggX9_dead_X1_deadOne
set_option maxRecDepth 20000 in
theorem ggX9_stuck_X5_hasStep : GoodIn wsX9_stuck wsX5_hasStep := goodIn_r _ [10, 11, 66, 67, 68, 69, 70, 71, 72, 73, 74, 75, 76, 77, 78, 79] (by decide +kernel) (by decide +kernel)
set_option maxRecDepth 20000 in
theorem gX9_stuck_X5_hasStep : GoodIn wsX9_stuck (wsV RX9 149 RX5 yX5_hasStep wsX5_hasStep) := goodIn_app (goodIn_of _ (by decide +kernel)) ggX9_stuck_X5_hasStep
set_option maxRecDepth 20000 in
theorem ggX9_stuck_X1_leastWithout : GoodIn wsX9_stuck wsX1_leastWithout := goodIn_r _ [16, 17, 18, 19, 20, 21, 22, 23, 15, 24, 25, 26, 27, 28, 29, 30, 31, 32, 33, 34, 35, 36, 37, 38, 39, 40, 41, 42, 55, 56, 57, 58, 59, 60, 61, 62, 63, 64, 65, 80, 81, 82, 83, 84, 85, 86] (by decide +kernel) (by decide +kernel)
set_option maxRecDepth 20000 in
theorem gX9_stuck_X1_leastWithout : GoodIn wsX9_stuck (wsV RX9 283 RX1 yX1_leastWithout wsX1_leastWithout) := goodIn_app (goodIn_of _ (by decide +kernel)) ggX9_stuck_X1_leastWithout
set_option maxRecDepth 20000 in
theorem ggX9_home_X1_refusal : GoodIn wsX9_home wsX1_refusal := goodIn_r _ [7, 8, 9, 10, 11, 12, 49, 50, 51, 52, 53, 54, 55, 56, 57, 58, 59, 60, 61, 62, 63, 64, 65, 66] (by decide +kernel) (by decide +kernel)
set_option maxRecDepth 20000 in
theorem gX9_home_X1_refusal : GoodIn wsX9_home (wsV RX9 256 RX1 yX1_refusal wsX1_refusal) := goodIn_app (goodIn_of _ (by decide +kernel)) ggX9_home_X1_refusal
set_option maxRecDepth 20000 in
theorem ggX9_home_X1_leastAstray : GoodIn wsX9_home wsX1_leastAstray := goodIn_r _ [16, 10, 11, 17, 18, 19, 20, 21, 6, 22, 23, 24, 25, 26, 27, 28, 29, 30, 31, 32, 33, 34, 35, 36, 49, 50, 51, 52, 53, 54, 55, 56, 57, 58, 59, 60, 61, 62, 63, 64, 65, 66] (by decide +kernel) (by decide +kernel)
set_option maxRecDepth 20000 in
theorem gX9_home_X1_leastAstray : GoodIn wsX9_home (wsV RX9 286 RX1 yX1_leastAstray wsX1_leastAstray) := goodIn_app (goodIn_of _ (by decide +kernel)) ggX9_home_X1_leastAstray
set_option maxRecDepth 20000 in
theorem ggX9_works_X5_hasPlace : GoodIn wsX9_works wsX5_hasPlace := goodIn_r _ [15, 16, 212, 213, 214, 215, 216, 217, 218, 219, 220, 221, 222, 223, 224, 225] (by decide +kernel) (by decide +kernel)
set_option maxRecDepth 20000 in
theorem gX9_works_X5_hasPlace : GoodIn wsX9_works (wsV RX9 152 RX5 yX5_hasPlace wsX5_hasPlace) := goodIn_app (goodIn_of _ (by decide +kernel)) ggX9_works_X5_hasPlace
set_option maxRecDepth 20000 in
theorem ggX9_works_X3_becomeOneAt : GoodIn wsX9_works wsX3_becomeOneAt := goodIn_r _ [21, 22, 23, 24, 25, 26, 237, 238] (by decide +kernel) (by decide +kernel)
set_option maxRecDepth 20000 in
theorem gX9_works_X3_becomeOneAt : GoodIn wsX9_works (wsV RX9 289 RX3 yX3_becomeOneAt wsX3_becomeOneAt) := goodIn_app (goodIn_of _ (by decide +kernel)) ggX9_works_X3_becomeOneAt
set_option maxRecDepth 20000 in
theorem ggX9_works_X1_make : GoodIn wsX9_works wsX1_make := goodIn_r _ [31, 32, 33, 34, 35, 36, 37, 38, 39, 40, 41, 42, 43, 44, 45, 46, 47, 48, 24, 25, 26, 49, 50, 51, 52, 53, 54, 55, 56, 57, 58, 59, 60, 61, 62, 63, 64, 65, 66, 67, 68, 69, 30, 70, 71, 72, 73, 74, 75, 76, 77, 78, 79, 80, 14, 81, 82, 83, 84, 85, 86, 87, 88, 16, 89, 90, 91, 92, 93, 94, 95, 96, 97, 98, 99, 100, 101, 102, 103, 104, 20, 105, 22, 106, 107, 108, 109, 110, 111, 112, 113, 114, 115, 116, 117, 118, 119, 120, 121, 122, 123, 124, 125, 126, 127, 128, 129, 130, 131, 132, 133, 134, 135, 136, 137, 138, 139, 140, 141, 142, 143, 144, 145, 146, 147, 148, 149, 150, 151, 152, 153, 154, 155, 156, 157, 158, 226, 227, 228, 229, 230, 231, 232, 233, 234, 235, 236, 212, 213, 214, 215, 216, 217, 218, 219, 220, 221, 222, 223, 224, 225, 239, 240, 241, 242, 243, 244, 245, 237, 238] (by decide +kernel) (by decide +kernel)
set_option maxRecDepth 20000 in
theorem gX9_works_X1_make : GoodIn wsX9_works (wsV RX9 244 RX1 yX1_make wsX1_make) := goodIn_app (goodIn_of _ (by decide +kernel)) ggX9_works_X1_make
set_option maxRecDepth 20000 in
theorem ggX9_works_X4_indexOf : GoodIn wsX9_works wsX4_indexOf := goodIn_r _ [154, 47, 46, 61, 62, 63, 64, 43, 65, 45, 53, 66, 155, 156, 157, 158, 54, 239, 240, 241, 242, 243, 244, 245, 237, 238] (by decide +kernel) (by decide +kernel)
set_option maxRecDepth 20000 in
theorem gX9_works_X4_indexOf : GoodIn wsX9_works (wsV RX9 277 RX4 yX4_indexOf wsX4_indexOf) := goodIn_app (goodIn_of _ (by decide +kernel)) ggX9_works_X4_indexOf
set_option maxRecDepth 20000 in
theorem ggX9_works_X1_leastAstray : GoodIn wsX9_works wsX1_leastAstray := goodIn_r _ [163, 36, 39, 164, 165, 166, 167, 168, 30, 169, 33, 170, 35, 73, 171, 172, 173, 174, 175, 38, 176, 177, 178, 179, 226, 227, 228, 229, 230, 231, 232, 233, 234, 235, 236, 239, 240, 241, 242, 243, 244, 245] (by decide +kernel) (by decide +kernel)
set_option maxRecDepth 20000 in
theorem gX9_works_X1_leastAstray : GoodIn wsX9_works (wsV RX9 286 RX1 yX1_leastAstray wsX1_leastAstray) := goodIn_app (goodIn_of _ (by decide +kernel)) ggX9_works_X1_leastAstray
set_option maxRecDepth 20000 in
theorem ggX9_works_X1_leastOtherWith : GoodIn wsX9_works wsX1_leastOtherWith := goodIn_r _ [183, 36, 39, 38, 184, 185, 186, 43, 187, 54, 45, 226, 227, 228, 229, 230, 231, 232, 233, 234, 235, 236, 239, 240, 241, 242, 243, 244, 245] (by decide +kernel) (by decide +kernel)
set_option maxRecDepth 20000 in
theorem gX9_works_X1_leastOtherWith : GoodIn wsX9_works (wsV RX9 292 RX1 yX1_leastOtherWith wsX1_leastOtherWith) := goodIn_app (goodIn_of _ (by decide +kernel)) ggX9_works_X1_leastOtherWith
set_option maxRecDepth 20000 in
theorem ggX9_works_X1_leastIdleStep : GoodIn wsX9_works wsX1_leastIdleStep := goodIn_r _ [191, 35, 38, 192, 193, 194, 30, 195, 36, 39, 196, 197, 198, 199, 73, 226, 227, 228, 229, 230, 231, 232, 233, 234, 235, 236, 239, 240, 241, 242, 243, 244, 245] (by decide +kernel) (by decide +kernel)
set_option maxRecDepth 20000 in
theorem gX9_works_X1_leastIdleStep : GoodIn wsX9_works (wsV RX9 295 RX1 yX1_leastIdleStep wsX1_leastIdleStep) := goodIn_app (goodIn_of _ (by decide +kernel)) ggX9_works_X1_leastIdleStep
set_option maxRecDepth 20000 in
theorem ggX9_tree_X5_hasStepAbove : GoodIn wsX9_tree wsX5_hasStepAbove := goodIn_r _ [14, 15, 16, 181, 182, 183, 184, 185, 186, 187, 188, 189, 190, 191, 192, 193, 194] (by decide +kernel) (by decide +kernel)
set_option maxRecDepth 20000 in
theorem gX9_tree_X5_hasStepAbove : GoodIn wsX9_tree (wsV RX9 299 RX5 yX5_hasStepAbove wsX5_hasStepAbove) := goodIn_app (goodIn_of _ (by decide +kernel)) ggX9_tree_X5_hasStepAbove
set_option maxRecDepth 20000 in
theorem ggX9_tree_X8_make : GoodIn wsX9_tree wsX8_make := goodIn_r _ [21, 22, 23, 24, 25, 26, 27, 28, 29, 30, 31, 32, 33, 34, 35, 36, 37, 38, 39, 40, 41, 42, 43, 44, 45, 46, 47, 48, 49, 50, 51, 52, 53, 54, 55, 20, 56, 57, 58, 59, 60, 61, 62, 63, 64, 65, 66, 67, 68, 69, 70, 71, 72, 73, 74, 75, 76, 77, 78, 79, 80, 81, 82, 83, 84, 85, 86, 87, 88, 89, 90, 91, 13, 92, 93, 94, 95, 96, 97, 98, 99, 100, 101, 102, 103, 104, 105, 106, 107, 108, 109, 110, 111, 112, 113, 114, 115, 116, 117, 118, 119, 120, 121, 122, 123, 124, 125, 126, 127, 128, 129, 130, 131, 132, 133, 134, 135, 136, 137, 138, 139, 140, 141, 142, 143, 144, 145, 146, 147, 148, 149, 150, 151, 152, 153, 154, 155, 156, 157, 158, 159, 160, 161, 162, 163, 164, 165, 166, 167, 168, 195, 196, 197, 198, 199, 200, 181, 182, 183, 184, 185, 186, 187, 188, 189, 190, 191, 192, 193, 194, 201, 202, 203, 204, 205, 206, 207, 208, 209] (by decide +kernel) (by decide +kernel)
set_option maxRecDepth 20000 in
theorem gX9_tree_X8_make : GoodIn wsX9_tree (wsV RX9 302 RX8 yX8_make wsX8_make) := goodIn_app (goodIn_of _ (by decide +kernel)) ggX9_tree_X8_make
set_option maxRecDepth 20000 in
theorem ggX9_node_X5_hasPlace : GoodIn wsX9_node wsX5_hasPlace := goodIn_r _ [9, 10, 52, 53, 54, 55, 56, 57, 58, 59, 60, 61, 62, 63, 64, 65] (by decide +kernel) (by decide +kernel)
set_option maxRecDepth 20000 in
theorem gX9_node_X5_hasPlace : GoodIn wsX9_node (wsV RX9 152 RX5 yX5_hasPlace wsX5_hasPlace) := goodIn_app (goodIn_of _ (by decide +kernel)) ggX9_node_X5_hasPlace
set_option maxRecDepth 20000 in
theorem ggX9_node_X8_refusal : GoodIn wsX9_node wsX8_refusal := goodIn_r _ [15, 16, 17, 18, 19, 20, 46, 47, 48, 49, 50, 51, 66, 67, 68, 69, 70, 71, 72] (by decide +kernel) (by decide +kernel)
set_option maxRecDepth 20000 in
theorem gX9_node_X8_refusal : GoodIn wsX9_node (wsV RX9 306 RX8 yX8_refusal wsX8_refusal) := goodIn_app (goodIn_of _ (by decide +kernel)) ggX9_node_X8_refusal
set_option maxRecDepth 20000 in
theorem ggX9_node_X4_cellAt : GoodIn wsX9_node wsX4_cellAt := goodIn_r _ [25, 26, 27, 66, 67, 68, 69, 70, 71, 72] (by decide +kernel) (by decide +kernel)
set_option maxRecDepth 20000 in
theorem gX9_node_X4_cellAt : GoodIn wsX9_node (wsV RX9 260 RX4 yX4_cellAt wsX4_cellAt) := goodIn_app (goodIn_of _ (by decide +kernel)) ggX9_node_X4_cellAt
set_option maxRecDepth 20000 in
theorem ggX9_node_X9_asTold : GoodIn wsX9_node wsX9_asTold := goodIn_r _ [31, 32, 33] (by decide +kernel) (by decide +kernel)
set_option maxRecDepth 20000 in
theorem gX9_node_X9_asTold : GoodIn wsX9_node (va_wsS RX9 307 yX9_asTold wsX9_asTold) := goodIn_app (goodIn_of _ (by decide +kernel)) ggX9_node_X9_asTold
set_option maxRecDepth 20000 in
theorem ggX9_above_X8_refusal : GoodIn wsX9_above wsX8_refusal := goodIn_r _ [11, 12, 13, 14, 15, 16, 29, 30, 31, 32, 33, 34, 35, 36, 37, 38, 39, 40, 41] (by decide +kernel) (by decide +kernel)
set_option maxRecDepth 20000 in
theorem gX9_above_X8_refusal : GoodIn wsX9_above (wsV RX9 306 RX8 yX8_refusal wsX8_refusal) := goodIn_app (goodIn_of _ (by decide +kernel)) ggX9_above_X8_refusal
set_option maxRecDepth 20000 in
theorem ggX9_cover_X9_tryTheRow : GoodIn wsX9_cover wsX9_tryTheRow := goodIn_r _ [12, 13, 14, 6, 15, 16, 17, 18, 19, 20, 21, 22, 23, 24, 25, 26, 27, 40, 41, 42, 43, 44, 45, 46, 47, 48, 49, 50, 51, 65, 66, 67, 68, 69, 70, 71, 72, 73, 74, 75, 76, 77, 78, 79, 80, 81, 82, 83, 84] (by decide +kernel) (by decide +kernel)
set_option maxRecDepth 20000 in
theorem gX9_cover_X9_tryTheRow : GoodIn wsX9_cover (wsV RX9 274 RX9 yX9_tryTheRow wsX9_tryTheRow) := goodIn_app (goodIn_of _ (by decide +kernel)) ggX9_cover_X9_tryTheRow
set_option maxRecDepth 20000 in
theorem ggX9_cover_X4_isNowhereBelow : GoodIn wsX9_cover wsX4_isNowhereBelow := goodIn_r _ [32, 33, 34, 35, 36, 37, 31, 38, 39, 58, 59, 60, 61, 62, 63, 64, 79, 80] (by decide +kernel) (by decide +kernel)
set_option maxRecDepth 20000 in
theorem gX9_cover_X4_isNowhereBelow : GoodIn wsX9_cover (wsV RX9 320 RX4 yX4_isNowhereBelow wsX4_isNowhereBelow) := goodIn_app (goodIn_of _ (by decide +kernel)) ggX9_cover_X4_isNowhereBelow
set_option maxRecDepth 20000 in
theorem ggX9_bound_X5_hasPlace : GoodIn wsX9_bound wsX5_hasPlace := goodIn_r _ [11, 12, 53, 54, 55, 56, 57, 58, 59, 60, 61, 62, 63, 64, 65, 66] (by decide +kernel) (by decide +kernel)
set_option maxRecDepth 20000 in
theorem gX9_bound_X5_hasPlace : GoodIn wsX9_bound (wsV RX9 152 RX5 yX5_hasPlace wsX5_hasPlace) := goodIn_app (goodIn_of _ (by decide +kernel)) ggX9_bound_X5_hasPlace
set_option maxRecDepth 20000 in
theorem ggX9_bound_X4_mostAt : GoodIn wsX9_bound wsX4_mostAt := goodIn_r _ [17, 18, 19, 20, 21, 22, 23, 24, 25, 16, 26, 27, 28, 67, 68, 69, 70, 71, 72, 73] (by decide +kernel) (by decide +kernel)
set_option maxRecDepth 20000 in
theorem gX9_bound_X4_mostAt : GoodIn wsX9_bound (wsV RX9 324 RX4 yX4_mostAt wsX4_mostAt) := goodIn_app (goodIn_of _ (by decide +kernel)) ggX9_bound_X4_mostAt
set_option maxRecDepth 20000 in
theorem ggX9_bound_X9_asTold : GoodIn wsX9_bound wsX9_asTold := goodIn_r _ [32, 33, 34] (by decide +kernel) (by decide +kernel)
set_option maxRecDepth 20000 in
theorem gX9_bound_X9_asTold : GoodIn wsX9_bound (va_wsS RX9 307 yX9_asTold wsX9_asTold) := goodIn_app (goodIn_of _ (by decide +kernel)) ggX9_bound_X9_asTold
set_option maxRecDepth 20000 in
theorem ggX9_pump_X4_retrace : GoodIn wsX9_pump wsX4_retrace := goodIn_r _ [13, 14, 15, 16, 17, 18, 19, 20, 12, 21, 22, 42, 43, 44, 45, 46, 47, 48, 49, 50, 51, 52] (by decide +kernel) (by decide +kernel)
set_option maxRecDepth 20000 in
theorem gX9_pump_X4_retrace : GoodIn wsX9_pump (wsV RX9 266 RX4 yX4_retrace wsX4_retrace) := goodIn_app (goodIn_of _ (by decide +kernel)) ggX9_pump_X4_retrace
set_option maxRecDepth 20000 in
theorem ggX9_pump_X4_depthOf : GoodIn wsX9_pump wsX4_depthOf := goodIn_r _ [21, 22, 17, 46, 47, 48, 49, 50, 51, 52] (by decide +kernel) (by decide +kernel)
set_option maxRecDepth 20000 in
theorem gX9_pump_X4_depthOf : GoodIn wsX9_pump (wsV RX9 333 RX4 yX4_depthOf wsX4_depthOf) := goodIn_app (goodIn_of _ (by decide +kernel)) ggX9_pump_X4_depthOf
set_option maxRecDepth 20000 in
theorem ggX9_weights_X0_solve : GoodIn wsX9_weights wsX0_solve := goodIn_r _ [9, 10, 11, 12, 13, 14, 15, 16, 17, 18, 19, 20, 21, 22, 23, 24, 25, 26, 27, 28, 29, 30, 31, 32, 33, 34, 35, 8, 36, 37, 38, 39, 40, 41, 42, 43, 44, 45, 46, 47, 48, 49, 50, 51, 52, 53, 54, 55, 56, 57, 58, 59, 60, 61, 74, 75, 76, 77, 78, 79, 80, 81, 82, 83, 84, 85, 86, 87, 88, 89, 90, 91, 92] (by decide +kernel) (by decide +kernel)
set_option maxRecDepth 20000 in
theorem gX9_weights_X0_solve : GoodIn wsX9_weights (wsV RX9 336 RX0 yX0_solve wsX0_solve) := goodIn_app (goodIn_of _ (by decide +kernel)) ggX9_weights_X0_solve
set_option maxRecDepth 20000 in
theorem ggX9_weight_X5_hasPlace : GoodIn wsX9_weight wsX5_hasPlace := goodIn_r _ [8, 9, 33, 34, 35, 36, 37, 38, 39, 40, 41, 42, 43, 44, 45, 46] (by decide +kernel) (by decide +kernel)
set_option maxRecDepth 20000 in
theorem gX9_weight_X5_hasPlace : GoodIn wsX9_weight (wsV RX9 152 RX5 yX5_hasPlace wsX5_hasPlace) := goodIn_app (goodIn_of _ (by decide +kernel)) ggX9_weight_X5_hasPlace
set_option maxRecDepth 20000 in
theorem ggX9_weight_X0_has : GoodIn wsX9_weight wsX0_has := goodIn_r _ [14, 15, 47, 48, 49, 50, 51] (by decide +kernel) (by decide +kernel)
set_option maxRecDepth 20000 in
theorem gX9_weight_X0_has : GoodIn wsX9_weight (wsV RX9 341 RX0 yX0_has wsX0_has) := goodIn_app (goodIn_of _ (by decide +kernel)) ggX9_weight_X0_has
set_option maxRecDepth 20000 in
theorem ggX9_weight_X0_numberAt : GoodIn wsX9_weight wsX0_numberAt := goodIn_r _ [19, 20, 47, 48, 49, 50, 51] (by decide +kernel) (by decide +kernel)
set_option maxRecDepth 20000 in
theorem gX9_weight_X0_numberAt : GoodIn wsX9_weight (wsV RX9 344 RX0 yX0_numberAt wsX0_numberAt) := goodIn_app (goodIn_of _ (by decide +kernel)) ggX9_weight_X0_numberAt
set_option maxRecDepth 20000 in
theorem ggX9_rounds_X0_solve : GoodIn wsX9_rounds wsX0_solve := goodIn_r _ [9, 10, 11, 12, 13, 14, 15, 16, 17, 18, 19, 20, 21, 22, 23, 24, 25, 26, 27, 28, 29, 30, 31, 32, 33, 34, 35, 8, 36, 37, 38, 39, 40, 41, 42, 43, 44, 45, 46, 47, 48, 49, 50, 51, 52, 53, 54, 55, 56, 57, 58, 59, 60, 61, 74, 75, 76, 77, 78, 79, 80, 81, 82, 83, 84, 85, 86, 87, 88, 89, 90, 91, 92] (by decide +kernel) (by decide +kernel)
set_option maxRecDepth 20000 in
theorem gX9_rounds_X0_solve : GoodIn wsX9_rounds (wsV RX9 336 RX0 yX0_solve wsX0_solve) := goodIn_app (goodIn_of _ (by decide +kernel)) ggX9_rounds_X0_solve
set_option maxRecDepth 20000 in
theorem ggX9_round_X5_hasStep : GoodIn wsX9_round wsX5_hasStep := goodIn_r _ [8, 9, 33, 34, 35, 36, 37, 38, 39, 40, 41, 42, 43, 44, 45, 46] (by decide +kernel) (by decide +kernel)
set_option maxRecDepth 20000 in
theorem gX9_round_X5_hasStep : GoodIn wsX9_round (wsV RX9 149 RX5 yX5_hasStep wsX5_hasStep) := goodIn_app (goodIn_of _ (by decide +kernel)) ggX9_round_X5_hasStep
set_option maxRecDepth 20000 in
theorem ggX9_round_X0_has : GoodIn wsX9_round wsX0_has := goodIn_r _ [14, 15, 47, 48, 49, 50, 51] (by decide +kernel) (by decide +kernel)
set_option maxRecDepth 20000 in
theorem gX9_round_X0_has : GoodIn wsX9_round (wsV RX9 341 RX0 yX0_has wsX0_has) := goodIn_app (goodIn_of _ (by decide +kernel)) ggX9_round_X0_has
set_option maxRecDepth 20000 in
theorem ggX9_round_X0_numberAt : GoodIn wsX9_round wsX0_numberAt := goodIn_r _ [19, 20, 47, 48, 49, 50, 51] (by decide +kernel) (by decide +kernel)
set_option maxRecDepth 20000 in
theorem gX9_round_X0_numberAt : GoodIn wsX9_round (wsV RX9 344 RX0 yX0_numberAt wsX0_numberAt) := goodIn_app (goodIn_of _ (by decide +kernel)) ggX9_round_X0_numberAt
set_option maxRecDepth 20000 in
theorem ggX9_keeps_X2_numberFor : GoodIn wsX9_keeps wsX2_numberFor := goodIn_r _ [9, 10, 11, 12, 13, 8, 14, 15, 52, 53, 54, 55] (by decide +kernel) (by decide +kernel)
set_option maxRecDepth 20000 in
theorem gX9_keeps_X2_numberFor : GoodIn wsX9_keeps (wsV RX9 347 RX2 yX2_numberFor wsX2_numberFor) := goodIn_app (goodIn_of _ (by decide +kernel)) ggX9_keeps_X2_numberFor
set_option maxRecDepth 20000 in
theorem ggX9_keeps_X5_change : GoodIn wsX9_keeps wsX5_change := goodIn_r _ [20, 21, 22, 23, 24, 25, 38, 39, 40, 41, 42, 43, 44, 45, 46, 47, 48, 49, 50, 51] (by decide +kernel) (by decide +kernel)
set_option maxRecDepth 20000 in
theorem gX9_keeps_X5_change : GoodIn wsX9_keeps (wsV RX9 350 RX5 yX5_change wsX5_change) := goodIn_app (goodIn_of _ (by decide +kernel)) ggX9_keeps_X5_change
set_option maxRecDepth 20000 in
theorem ggX9_turns_X2_numberFor : GoodIn wsX9_turns wsX2_numberFor := goodIn_r _ [9, 10, 11, 12, 13, 8, 14, 15, 52, 53, 54, 55] (by decide +kernel) (by decide +kernel)
set_option maxRecDepth 20000 in
theorem gX9_turns_X2_numberFor : GoodIn wsX9_turns (wsV RX9 347 RX2 yX2_numberFor wsX2_numberFor) := goodIn_app (goodIn_of _ (by decide +kernel)) ggX9_turns_X2_numberFor
set_option maxRecDepth 20000 in
theorem ggX9_turns_X5_change : GoodIn wsX9_turns wsX5_change := goodIn_r _ [20, 21, 22, 23, 24, 25, 38, 39, 40, 41, 42, 43, 44, 45, 46, 47, 48, 49, 50, 51] (by decide +kernel) (by decide +kernel)
set_option maxRecDepth 20000 in
theorem gX9_turns_X5_change : GoodIn wsX9_turns (wsV RX9 350 RX5 yX5_change wsX5_change) := goodIn_app (goodIn_of _ (by decide +kernel)) ggX9_turns_X5_change
set_option maxRecDepth 20000 in
theorem ggX9_sets_X9_isSetKind : GoodIn wsX9_sets wsX9_isSetKind := goodIn_r _ [8] (by decide +kernel) (by decide +kernel)
set_option maxRecDepth 20000 in
theorem gX9_sets_X9_isSetKind : GoodIn wsX9_sets (va_wsS RX9 353 yX9_isSetKind wsX9_isSetKind) := goodIn_app (goodIn_of _ (by decide +kernel)) ggX9_sets_X9_isSetKind
set_option maxRecDepth 20000 in
theorem ggX9_sets_X7_collect : GoodIn wsX9_sets wsX7_collect := goodIn_r _ [13, 14, 15, 16, 17, 7, 18, 19, 20, 21, 22, 23, 24, 25, 26, 27, 28, 29, 30, 31, 32, 33, 34, 35, 36, 37, 38, 39, 40, 41, 54, 55, 56, 57, 58, 59, 60, 61, 62, 63, 64, 65, 66, 67, 68, 69] (by decide +kernel) (by decide +kernel)
set_option maxRecDepth 20000 in
theorem gX9_sets_X7_collect : GoodIn wsX9_sets (wsV RX9 356 RX7 yX7_collect wsX7_collect) := goodIn_app (goodIn_of _ (by decide +kernel)) ggX9_sets_X7_collect
set_option maxRecDepth 20000 in
theorem ggX9_isSet_X9_isSetKind : GoodIn wsX9_isSet wsX9_isSetKind := goodIn_r _ [6] (by decide +kernel) (by decide +kernel)
set_option maxRecDepth 20000 in
theorem gX9_isSet_X9_isSetKind : GoodIn wsX9_isSet (va_wsS RX9 353 yX9_isSetKind wsX9_isSetKind) := goodIn_app (goodIn_of _ (by decide +kernel)) ggX9_isSet_X9_isSetKind
set_option maxRecDepth 20000 in
theorem ggX9_isSet_X5_hasPlaces : GoodIn wsX9_isSet wsX5_hasPlaces := goodIn_r _ [11, 12, 40, 41, 42, 43, 44, 45, 46, 47, 48, 49, 50, 51, 52, 53] (by decide +kernel) (by decide +kernel)
set_option maxRecDepth 20000 in
theorem gX9_isSet_X5_hasPlaces : GoodIn wsX9_isSet (wsV RX9 364 RX5 yX5_hasPlaces wsX5_hasPlaces) := goodIn_app (goodIn_of _ (by decide +kernel)) ggX9_isSet_X5_hasPlaces
set_option maxRecDepth 20000 in
theorem ggX9_isSet_X5_greatestWithin : GoodIn wsX9_isSet wsX5_greatestWithin := goodIn_r _ [16, 12, 17, 18, 19, 20, 10, 21, 22, 23, 24, 25, 26, 27, 40, 41, 42, 43, 44, 45, 46, 47, 48, 49, 50, 51, 52, 53] (by decide +kernel) (by decide +kernel)
set_option maxRecDepth 20000 in
theorem gX9_isSet_X5_greatestWithin : GoodIn wsX9_isSet (wsV RX9 367 RX5 yX5_greatestWithin wsX5_greatestWithin) := goodIn_app (goodIn_of _ (by decide +kernel)) ggX9_isSet_X5_greatestWithin
set_option maxRecDepth 20000 in
theorem ggX9_greatest_X9_isSetKind : GoodIn wsX9_greatest wsX9_isSetKind := goodIn_r _ [6] (by decide +kernel) (by decide +kernel)
set_option maxRecDepth 20000 in
theorem gX9_greatest_X9_isSetKind : GoodIn wsX9_greatest (va_wsS RX9 353 yX9_isSetKind wsX9_isSetKind) := goodIn_app (goodIn_of _ (by decide +kernel)) ggX9_greatest_X9_isSetKind
set_option maxRecDepth 20000 in
theorem ggX9_greatest_X5_hasPlaces : GoodIn wsX9_greatest wsX5_hasPlaces := goodIn_r _ [11, 12, 40, 41, 42, 43, 44, 45, 46, 47, 48, 49, 50, 51, 52, 53] (by decide +kernel) (by decide +kernel)
set_option maxRecDepth 20000 in
theorem gX9_greatest_X5_hasPlaces : GoodIn wsX9_greatest (wsV RX9 364 RX5 yX5_hasPlaces wsX5_hasPlaces) := goodIn_app (goodIn_of _ (by decide +kernel)) ggX9_greatest_X5_hasPlaces
set_option maxRecDepth 20000 in
theorem ggX9_greatest_X5_greatestWithin : GoodIn wsX9_greatest wsX5_greatestWithin := goodIn_r _ [16, 12, 17, 18, 19, 20, 10, 21, 22, 23, 24, 25, 26, 27, 40, 41, 42, 43, 44, 45, 46, 47, 48, 49, 50, 51, 52, 53] (by decide +kernel) (by decide +kernel)
set_option maxRecDepth 20000 in
theorem gX9_greatest_X5_greatestWithin : GoodIn wsX9_greatest (wsV RX9 367 RX5 yX5_greatestWithin wsX5_greatestWithin) := goodIn_app (goodIn_of _ (by decide +kernel)) ggX9_greatest_X5_greatestWithin
set_option maxRecDepth 20000 in
theorem ggX9_free_X5_isFree : GoodIn wsX9_free wsX5_isFree := goodIn_r _ [6, 7, 8, 9, 10, 11, 12, 13, 14, 5, 15, 16, 17, 18, 19, 20, 21, 34, 35, 36, 37, 38, 39, 40, 41, 42, 43, 44, 45, 46, 47] (by decide +kernel) (by decide +kernel)
set_option maxRecDepth 20000 in
theorem gX9_free_X5_isFree : GoodIn wsX9_free (wsV RX9 370 RX5 yX5_isFree wsX5_isFree) := goodIn_app (goodIn_of _ (by decide +kernel)) ggX9_free_X5_isFree
set_option maxRecDepth 20000 in
theorem ggX9_bare_X9_leastBehind : GoodIn wsX9_bare wsX9_leastBehind := goodIn_r _ [8, 9, 10, 11, 12, 13, 14, 15, 16, 17, 18, 19, 20, 21, 22, 23, 24, 25, 26, 27, 28, 29, 30, 5, 6, 7, 49, 50, 51, 52, 53, 54, 55, 56, 57, 58, 59, 60, 61, 62] (by decide +kernel) (by decide +kernel)
set_option maxRecDepth 20000 in
theorem gX9_bare_X9_leastBehind : GoodIn wsX9_bare (va_wsS RX9 375 yX9_leastBehind wsX9_leastBehind) := goodIn_app (goodIn_of _ (by decide +kernel)) ggX9_bare_X9_leastBehind
set_option maxRecDepth 20000 in
theorem ggX9_bare_X5_greatestWithin : GoodIn wsX9_bare wsX5_greatestWithin := goodIn_r _ [13, 14, 15, 16, 17, 18, 12, 19, 20, 21, 22, 23, 24, 25, 49, 50, 51, 52, 53, 54, 55, 56, 57, 58, 59, 60, 61, 62] (by decide +kernel) (by decide +kernel)
set_option maxRecDepth 20000 in
theorem gX9_bare_X5_greatestWithin : GoodIn wsX9_bare (wsV RX9 367 RX5 yX5_greatestWithin wsX5_greatestWithin) := goodIn_app (goodIn_of _ (by decide +kernel)) ggX9_bare_X5_greatestWithin
set_option maxRecDepth 20000 in
theorem ggX9_bare_X3_hasSomethingIn : GoodIn wsX9_bare wsX3_hasSomethingIn := goodIn_r _ [35, 36, 63, 64] (by decide +kernel) (by decide +kernel)
set_option maxRecDepth 20000 in
theorem gX9_bare_X3_hasSomethingIn : GoodIn wsX9_bare (wsV RX9 379 RX3 yX3_hasSomethingIn wsX3_hasSomethingIn) := goodIn_app (goodIn_of _ (by decide +kernel)) ggX9_bare_X3_hasSomethingIn
set_option maxRecDepth 20000 in
theorem ggX9_netChanges_X6_clear : GoodIn wsX9_netChanges wsX6_clear := goodIn_r _ [15, 16, 53, 54, 55, 56] (by decide +kernel) (by decide +kernel)
set_option maxRecDepth 20000 in
theorem gX9_netChanges_X6_clear : GoodIn wsX9_netChanges (wsV RX9 159 RX6 yX6_clear wsX6_clear) := goodIn_app (goodIn_of _ (by decide +kernel)) ggX9_netChanges_X6_clear
set_option maxRecDepth 20000 in
theorem ggX9_carryOut_X6_note : GoodIn wsX9_carryOut wsX6_note := goodIn_r _ [9, 10, 11, 12, 13, 14, 15, 16, 17, 18, 19, 20, 21, 22, 23, 87, 88, 89, 90, 91, 92, 93, 94, 95, 96, 97, 98, 99, 100, 101, 102, 103, 104, 105, 106] (by decide +kernel) (by decide +kernel)
set_option maxRecDepth 20000 in
theorem gX9_carryOut_X6_note : GoodIn wsX9_carryOut (wsV RX9 382 RX6 yX6_note wsX6_note) := goodIn_app (goodIn_of _ (by decide +kernel)) ggX9_carryOut_X6_note
set_option maxRecDepth 20000 in
theorem ggX9_carryOut_X5_move : GoodIn wsX9_carryOut wsX5_move := goodIn_r _ [28, 29, 30, 31, 32, 33, 34, 35, 36, 37, 27, 38, 39, 40, 41, 42, 43, 44, 45, 46, 47, 48, 49, 50, 51, 52, 53, 54, 55, 56, 57, 58, 59, 60, 61, 62, 63, 64, 65, 66, 67, 68, 69, 70, 71, 72, 73, 74, 87, 88, 89, 90, 91, 92, 93, 94, 95, 96, 97, 98, 99, 100, 101, 102] (by decide +kernel) (by decide +kernel)
set_option maxRecDepth 20000 in
theorem gX9_carryOut_X5_move : GoodIn wsX9_carryOut (wsV RX9 240 RX5 yX5_move wsX5_move) := goodIn_app (goodIn_of _ (by decide +kernel)) ggX9_carryOut_X5_move
set_option maxRecDepth 20000 in
theorem ggX9_tryTheRow_X2_numberFor : GoodIn wsX9_tryTheRow wsX2_numberFor := goodIn_r _ [10, 11, 12, 13, 14, 9, 15, 16, 45, 46, 47, 48] (by decide +kernel) (by decide +kernel)
set_option maxRecDepth 20000 in
theorem gX9_tryTheRow_X2_numberFor : GoodIn wsX9_tryTheRow (wsV RX9 347 RX2 yX2_numberFor wsX2_numberFor) := goodIn_app (goodIn_of _ (by decide +kernel)) ggX9_tryTheRow_X2_numberFor
set_option maxRecDepth 20000 in
theorem ggX9_leastBehind_X5_greatestWithin : GoodIn wsX9_leastBehind wsX5_greatestWithin := goodIn_r _ [5, 6, 7, 8, 9, 10, 4, 11, 12, 13, 14, 15, 16, 17, 26, 27, 28, 29, 30, 31, 32, 33, 34, 35, 36, 37, 38, 39] (by decide +kernel) (by decide +kernel)
set_option maxRecDepth 20000 in
theorem gX9_leastBehind_X5_greatestWithin : GoodIn wsX9_leastBehind (wsV RX9 367 RX5 yX5_greatestWithin wsX5_greatestWithin) := goodIn_app (goodIn_of _ (by decide +kernel)) ggX9_leastBehind_X5_greatestWithin
set_option maxRecDepth 20000 in
theorem ggX9_leastBehind_X5_isLeast : GoodIn wsX9_leastBehind wsX5_isLeast := goodIn_r _ [21, 6, 22, 2, 3, 4, 5, 7, 8, 9, 10, 11, 12, 13, 14, 15, 16, 17, 26, 27, 28, 29, 30, 31, 32, 33, 34, 35, 36, 37, 38, 39] (by decide +kernel) (by decide +kernel)
set_option maxRecDepth 20000 in
theorem gX9_leastBehind_X5_isLeast : GoodIn wsX9_leastBehind (wsV RX9 388 RX5 yX5_isLeast wsX5_isLeast) := goodIn_app (goodIn_of _ (by decide +kernel)) ggX9_leastBehind_X5_isLeast
set_option maxRecDepth 20000 in
theorem ggX9_leastBehind_X9_leastBehind : GoodIn wsX9_leastBehind wsX9_leastBehind := goodIn_r _ [0, 1, 2, 3, 4, 5, 6, 7, 8, 9, 10, 11, 12, 13, 14, 15, 16, 17, 18, 19, 20, 21, 22, 23, 24, 25, 26, 27, 28, 29, 30, 31, 32, 33, 34, 35, 36, 37, 38, 39] (by decide +kernel) (by decide +kernel)
set_option maxRecDepth 20000 in
theorem gX9_leastBehind_X9_leastBehind : GoodIn wsX9_leastBehind (va_wsS RX9 375 yX9_leastBehind wsX9_leastBehind) := goodIn_app (goodIn_of _ (by decide +kernel)) ggX9_leastBehind_X9_leastBehind
set_option maxRecDepth 20000 in
theorem ggX10_place_X10_isIn : GoodIn wsX10_place wsX10_isIn := goodIn_r _ [9] (by decide +kernel) (by decide +kernel)
set_option maxRecDepth 20000 in
theorem gX10_place_X10_isIn : GoodIn wsX10_place (va_wsS RX10 155 yX10_isIn wsX10_isIn) := goodIn_app (goodIn_of _ (by decide +kernel)) ggX10_place_X10_isIn
set_option maxRecDepth 20000 in
theorem ggX10_place_X10_changed : GoodIn wsX10_place wsX10_changed := goodIn_r _ [13, 14, 15, 16, 17, 18, 19, 20, 21, 22, 23, 24, 25, 26, 27, 28, 29, 30, 31, 32, 33, 34, 35, 36, 37, 38, 39, 40, 41, 42, 43, 44, 45, 46, 47, 48, 49, 50, 51, 52, 53, 54, 55, 56, 57, 58, 59, 60, 61, 62, 63, 64, 65, 66, 67, 68, 69, 70, 71] (by decide +kernel) (by decide +kernel)
set_option maxRecDepth 20000 in
theorem gX10_place_X10_changed : GoodIn wsX10_place (wsV RX10 161 RX10 yX10_changed wsX10_changed) := goodIn_app (goodIn_of _ (by decide +kernel)) ggX10_place_X10_changed
set_option maxRecDepth 20000 in
theorem ggX10_step_X10_isIn : GoodIn wsX10_step wsX10_isIn := goodIn_r _ [8] (by decide +kernel) (by decide +kernel)
set_option maxRecDepth 20000 in
theorem gX10_step_X10_isIn : GoodIn wsX10_step (va_wsS RX10 155 yX10_isIn wsX10_isIn) := goodIn_app (goodIn_of _ (by decide +kernel)) ggX10_step_X10_isIn
set_option maxRecDepth 20000 in
theorem ggX10_step_X10_changed : GoodIn wsX10_step wsX10_changed := goodIn_r _ [12, 13, 14, 15, 16, 17, 18, 19, 20, 21, 22, 23, 24, 25, 26, 27, 28, 29, 30, 31, 32, 33, 34, 35, 36, 37, 38, 39, 40, 41, 42, 43, 44, 45, 46, 47, 48, 49, 50, 51, 52, 53, 54, 55, 56, 57, 58, 59, 60, 61, 62, 63, 64, 65, 66, 67, 68, 69, 70] (by decide +kernel) (by decide +kernel)
set_option maxRecDepth 20000 in
theorem gX10_step_X10_changed : GoodIn wsX10_step (wsV RX10 161 RX10 yX10_changed wsX10_changed) := goodIn_app (goodIn_of _ (by decide +kernel)) ggX10_step_X10_changed
set_option maxRecDepth 20000 in
theorem ggX10_arc_X10_isStep : GoodIn wsX10_arc wsX10_isStep := goodIn_r _ [8, 9, 30, 31, 32, 33, 34, 35, 36, 37, 38, 39, 40, 41, 42, 43, 44, 45, 46, 47, 48, 49, 50, 51, 52, 53, 54, 55, 56, 57, 58, 59, 60, 61, 62, 63, 64, 65, 66, 67, 68, 69, 70, 71, 72, 73, 74, 75, 76, 77, 78, 79] (by decide +kernel) (by decide +kernel)
set_option maxRecDepth 20000 in
theorem gX10_arc_X10_isStep : GoodIn wsX10_arc (wsV RX10 164 RX10 yX10_isStep wsX10_isStep) := goodIn_app (goodIn_of _ (by decide +kernel)) ggX10_arc_X10_isStep
set_option maxRecDepth 20000 in
theorem ggX10_arc_X10_isPlace : GoodIn wsX10_arc wsX10_isPlace := goodIn_r _ [13, 14, 30, 31, 32, 33, 34, 35, 36, 37, 38, 39, 40, 41, 42, 43, 44, 45, 46, 47, 48, 49, 50, 51, 52, 53, 54, 55, 56, 57, 58, 59, 60, 61, 62, 63, 64, 65, 66, 67, 68, 69, 70, 71, 72, 73, 74, 75, 76, 77, 78, 79] (by decide +kernel) (by decide +kernel)
set_option maxRecDepth 20000 in
theorem gX10_arc_X10_isPlace : GoodIn wsX10_arc (wsV RX10 168 RX10 yX10_isPlace wsX10_isPlace) := goodIn_app (goodIn_of _ (by decide +kernel)) ggX10_arc_X10_isPlace
set_option maxRecDepth 20000 in
theorem ggX10_arc_X10_isIn : GoodIn wsX10_arc wsX10_isIn := goodIn_r _ [17] (by decide +kernel) (by decide +kernel)
set_option maxRecDepth 20000 in
theorem gX10_arc_X10_isIn : GoodIn wsX10_arc (va_wsS RX10 155 yX10_isIn wsX10_isIn) := goodIn_app (goodIn_of _ (by decide +kernel)) ggX10_arc_X10_isIn
set_option maxRecDepth 20000 in
theorem ggX10_arc_X10_changed : GoodIn wsX10_arc wsX10_changed := goodIn_r _ [21, 22, 23, 24, 25, 26, 27, 28, 29, 30, 31, 32, 33, 34, 35, 36, 37, 38, 39, 40, 41, 42, 43, 44, 45, 46, 47, 48, 49, 50, 51, 52, 53, 54, 55, 56, 57, 58, 59, 60, 61, 62, 63, 64, 65, 66, 67, 68, 69, 70, 71, 72, 73, 74, 75, 76, 77, 78, 79] (by decide +kernel) (by decide +kernel)
set_option maxRecDepth 20000 in
theorem gX10_arc_X10_changed : GoodIn wsX10_arc (wsV RX10 161 RX10 yX10_changed wsX10_changed) := goodIn_app (goodIn_of _ (by decide +kernel)) ggX10_arc_X10_changed
set_option maxRecDepth 20000 in
theorem ggX10_need_X10_isStep : GoodIn wsX10_need wsX10_isStep := goodIn_r _ [9, 10, 31, 32, 33, 34, 35, 36, 37, 38, 39, 40, 41, 42, 43, 44, 45, 46, 47, 48, 49, 50, 51, 52, 53, 54, 55, 56, 57, 58, 59, 60, 61, 62, 63, 64, 65, 66, 67, 68, 69, 70, 71, 72, 73, 74, 75, 76, 77, 78, 79, 80] (by decide +kernel) (by decide +kernel)
set_option maxRecDepth 20000 in
theorem gX10_need_X10_isStep : GoodIn wsX10_need (wsV RX10 164 RX10 yX10_isStep wsX10_isStep) := goodIn_app (goodIn_of _ (by decide +kernel)) ggX10_need_X10_isStep
set_option maxRecDepth 20000 in
theorem ggX10_need_X10_isPlace : GoodIn wsX10_need wsX10_isPlace := goodIn_r _ [14, 15, 31, 32, 33, 34, 35, 36, 37, 38, 39, 40, 41, 42, 43, 44, 45, 46, 47, 48, 49, 50, 51, 52, 53, 54, 55, 56, 57, 58, 59, 60, 61, 62, 63, 64, 65, 66, 67, 68, 69, 70, 71, 72, 73, 74, 75, 76, 77, 78, 79, 80] (by decide +kernel) (by decide +kernel)
set_option maxRecDepth 20000 in
theorem gX10_need_X10_isPlace : GoodIn wsX10_need (wsV RX10 168 RX10 yX10_isPlace wsX10_isPlace) := goodIn_app (goodIn_of _ (by decide +kernel)) ggX10_need_X10_isPlace
set_option maxRecDepth 20000 in
theorem ggX10_need_X10_isIn : GoodIn wsX10_need wsX10_isIn := goodIn_r _ [18] (by decide +kernel) (by decide +kernel)
set_option maxRecDepth 20000 in
theorem gX10_need_X10_isIn : GoodIn wsX10_need (va_wsS RX10 155 yX10_isIn wsX10_isIn) := goodIn_app (goodIn_of _ (by decide +kernel)) ggX10_need_X10_isIn
set_option maxRecDepth 20000 in
theorem ggX10_need_X10_changed : GoodIn wsX10_need wsX10_changed := goodIn_r _ [22, 23, 24, 25, 26, 27, 28, 29, 30, 31, 32, 33, 34, 35, 36, 37, 38, 39, 40, 41, 42, 43, 44, 45, 46, 47, 48, 49, 50, 51, 52, 53, 54, 55, 56, 57, 58, 59, 60, 61, 62, 63, 64, 65, 66, 67, 68, 69, 70, 71, 72, 73, 74, 75, 76, 77, 78, 79, 80] (by decide +kernel) (by decide +kernel)
set_option maxRecDepth 20000 in
theorem gX10_need_X10_changed : GoodIn wsX10_need (wsV RX10 161 RX10 yX10_changed wsX10_changed) := goodIn_app (goodIn_of _ (by decide +kernel)) ggX10_need_X10_changed
set_option maxRecDepth 20000 in
theorem ggX10_close_X10_isStep : GoodIn wsX10_close wsX10_isStep := goodIn_r _ [9, 10, 31, 32, 33, 34, 35, 36, 37, 38, 39, 40, 41, 42, 43, 44, 45, 46, 47, 48, 49, 50, 51, 52, 53, 54, 55, 56, 57, 58, 59, 60, 61, 62, 63, 64, 65, 66, 67, 68, 69, 70, 71, 72, 73, 74, 75, 76, 77, 78, 79, 80] (by decide +kernel) (by decide +kernel)
set_option maxRecDepth 20000 in
theorem gX10_close_X10_isStep : GoodIn wsX10_close (wsV RX10 164 RX10 yX10_isStep wsX10_isStep) := goodIn_app (goodIn_of _ (by decide +kernel)) ggX10_close_X10_isStep
set_option maxRecDepth 20000 in
theorem ggX10_close_X10_isPlace : GoodIn wsX10_close wsX10_isPlace := goodIn_r _ [14, 15, 31, 32, 33, 34, 35, 36, 37, 38, 39, 40, 41, 42, 43, 44, 45, 46, 47, 48, 49, 50, 51, 52, 53, 54, 55, 56, 57, 58, 59, 60, 61, 62, 63, 64, 65, 66, 67, 68, 69, 70, 71, 72, 73, 74, 75, 76, 77, 78, 79, 80] (by decide +kernel) (by decide +kernel)
set_option maxRecDepth 20000 in
theorem gX10_close_X10_isPlace : GoodIn wsX10_close (wsV RX10 168 RX10 yX10_isPlace wsX10_isPlace) := goodIn_app (goodIn_of _ (by decide +kernel)) ggX10_close_X10_isPlace
set_option maxRecDepth 20000 in
theorem ggX10_close_X10_isIn : GoodIn wsX10_close wsX10_isIn := goodIn_r _ [18] (by decide +kernel) (by decide +kernel)
set_option maxRecDepth 20000 in
theorem gX10_close_X10_isIn : GoodIn wsX10_close (va_wsS RX10 155 yX10_isIn wsX10_isIn) := goodIn_app (goodIn_of _ (by decide +kernel)) ggX10_close_X10_isIn
set_option maxRecDepth 20000 in
theorem ggX10_close_X10_changed : GoodIn wsX10_close wsX10_changed := goodIn_r _ [22, 23, 24, 25, 26, 27, 28, 29, 30, 31, 32, 33, 34, 35, 36, 37, 38, 39, 40, 41, 42, 43, 44, 45, 46, 47, 48, 49, 50, 51, 52, 53, 54, 55, 56, 57, 58, 59, 60, 61, 62, 63, 64, 65, 66, 67, 68, 69, 70, 71, 72, 73, 74, 75, 76, 77, 78, 79, 80] (by decide +kernel) (by decide +kernel)
set_option maxRecDepth 20000 in
theorem gX10_close_X10_changed : GoodIn wsX10_close (wsV RX10 161 RX10 yX10_changed wsX10_changed) := goodIn_app (goodIn_of _ (by decide +kernel)) ggX10_close_X10_changed
set_option maxRecDepth 20000 in
theorem ggX10_want_X10_isStep : GoodIn wsX10_want wsX10_isStep := goodIn_r _ [10, 11, 32, 33, 34, 35, 36, 37, 38, 39, 40, 41, 42, 43, 44, 45, 46, 47, 48, 49, 50, 51, 52, 53, 54, 55, 56, 57, 58, 59, 60, 61, 62, 63, 64, 65, 66, 67, 68, 69, 70, 71, 72, 73, 74, 75, 76, 77, 78, 79, 80, 81] (by decide +kernel) (by decide +kernel)
set_option maxRecDepth 20000 in
theorem gX10_want_X10_isStep : GoodIn wsX10_want (wsV RX10 164 RX10 yX10_isStep wsX10_isStep) := goodIn_app (goodIn_of _ (by decide +kernel)) ggX10_want_X10_isStep
set_option maxRecDepth 20000 in
theorem ggX10_want_X10_isPlace : GoodIn wsX10_want wsX10_isPlace := goodIn_r _ [15, 16, 32, 33, 34, 35, 36, 37, 38, 39, 40, 41, 42, 43, 44, 45, 46, 47, 48, 49, 50, 51, 52, 53, 54, 55, 56, 57, 58, 59, 60, 61, 62, 63, 64, 65, 66, 67, 68, 69, 70, 71, 72, 73, 74, 75, 76, 77, 78, 79, 80, 81] (by decide +kernel) (by decide +kernel)
set_option maxRecDepth 20000 in
theorem gX10_want_X10_isPlace : GoodIn wsX10_want (wsV RX10 168 RX10 yX10_isPlace wsX10_isPlace) := goodIn_app (goodIn_of _ (by decide +kernel)) ggX10_want_X10_isPlace
set_option maxRecDepth 20000 in
theorem ggX10_want_X10_isIn : GoodIn wsX10_want wsX10_isIn := goodIn_r _ [19] (by decide +kernel) (by decide +kernel)
set_option maxRecDepth 20000 in
theorem gX10_want_X10_isIn : GoodIn wsX10_want (va_wsS RX10 155 yX10_isIn wsX10_isIn) := goodIn_app (goodIn_of _ (by decide +kernel)) ggX10_want_X10_isIn
set_option maxRecDepth 20000 in
theorem ggX10_want_X10_changed : GoodIn wsX10_want wsX10_changed := goodIn_r _ [23, 24, 25, 26, 27, 28, 29, 30, 31, 32, 33, 34, 35, 36, 37, 38, 39, 40, 41, 42, 43, 44, 45, 46, 47, 48, 49, 50, 51, 52, 53, 54, 55, 56, 57, 58, 59, 60, 61, 62, 63, 64, 65, 66, 67, 68, 69, 70, 71, 72, 73, 74, 75, 76, 77, 78, 79, 80, 81] (by decide +kernel) (by decide +kernel)
set_option maxRecDepth 20000 in
theorem gX10_want_X10_changed : GoodIn wsX10_want (wsV RX10 161 RX10 yX10_changed wsX10_changed) := goodIn_app (goodIn_of _ (by decide +kernel)) ggX10_want_X10_changed
set_option maxRecDepth 20000 in
theorem ggX10_asks_X10_isStep : GoodIn wsX10_asks wsX10_isStep := goodIn_r _ [12, 13, 22, 23, 24, 25, 26, 27, 28, 29, 30, 31, 32, 33, 34, 35, 36, 37, 38, 39, 40, 41, 42, 43, 44, 45, 46, 47, 48, 49, 50, 51, 52, 53, 54, 55, 56, 57, 58, 59, 60, 61, 62, 63, 64, 65, 66, 67, 68, 69, 70, 71] (by decide +kernel) (by decide +kernel)
set_option maxRecDepth 20000 in
theorem gX10_asks_X10_isStep : GoodIn wsX10_asks (wsV RX10 164 RX10 yX10_isStep wsX10_isStep) := goodIn_app (goodIn_of _ (by decide +kernel)) ggX10_asks_X10_isStep
set_option maxRecDepth 20000 in
theorem ggX10_asks_X10_isPlace : GoodIn wsX10_asks wsX10_isPlace := goodIn_r _ [17, 18, 22, 23, 24, 25, 26, 27, 28, 29, 30, 31, 32, 33, 34, 35, 36, 37, 38, 39, 40, 41, 42, 43, 44, 45, 46, 47, 48, 49, 50, 51, 52, 53, 54, 55, 56, 57, 58, 59, 60, 61, 62, 63, 64, 65, 66, 67, 68, 69, 70, 71] (by decide +kernel) (by decide +kernel)
set_option maxRecDepth 20000 in
theorem gX10_asks_X10_isPlace : GoodIn wsX10_asks (wsV RX10 168 RX10 yX10_isPlace wsX10_isPlace) := goodIn_app (goodIn_of _ (by decide +kernel)) ggX10_asks_X10_isPlace
set_option maxRecDepth 20000 in
theorem ggX10_asks_X10_isIn : GoodIn wsX10_asks wsX10_isIn := goodIn_r _ [21] (by decide +kernel) (by decide +kernel)
set_option maxRecDepth 20000 in
theorem gX10_asks_X10_isIn : GoodIn wsX10_asks (va_wsS RX10 155 yX10_isIn wsX10_isIn) := goodIn_app (goodIn_of _ (by decide +kernel)) ggX10_asks_X10_isIn
set_option maxRecDepth 20000 in
theorem ggX10_isOf_X10_isStep : GoodIn wsX10_isOf wsX10_isStep := goodIn_r _ [7, 8, 12, 13, 14, 15, 16, 17, 18, 19, 20, 21, 22, 23, 24, 25, 26, 27, 28, 29, 30, 31, 32, 33, 34, 35, 36, 37, 38, 39, 40, 41, 42, 43, 44, 45, 46, 47, 48, 49, 50, 51, 52, 53, 54, 55, 56, 57, 58, 59, 60, 61] (by decide +kernel) (by decide +kernel)
set_option maxRecDepth 20000 in
theorem gX10_isOf_X10_isStep : GoodIn wsX10_isOf (wsV RX10 164 RX10 yX10_isStep wsX10_isStep) := goodIn_app (goodIn_of _ (by decide +kernel)) ggX10_isOf_X10_isStep
set_option maxRecDepth 20000 in
theorem ggX10_isOf_X10_isIn : GoodIn wsX10_isOf wsX10_isIn := goodIn_r _ [11] (by decide +kernel) (by decide +kernel)
set_option maxRecDepth 20000 in
theorem gX10_isOf_X10_isIn : GoodIn wsX10_isOf (va_wsS RX10 155 yX10_isIn wsX10_isIn) := goodIn_app (goodIn_of _ (by decide +kernel)) ggX10_isOf_X10_isIn
set_option maxRecDepth 20000 in
theorem ggX10_mark_X10_isPlace : GoodIn wsX10_mark wsX10_isPlace := goodIn_r _ [11, 12, 16, 17, 18, 19, 20, 21, 22, 23, 24, 25, 26, 27, 28, 29, 30, 31, 32, 33, 34, 35, 36, 37, 38, 39, 40, 41, 42, 43, 44, 45, 46, 47, 48, 49, 50, 51, 52, 53, 54, 55, 56, 57, 58, 59, 60, 61, 62, 63, 64, 65] (by decide +kernel) (by decide +kernel)
set_option maxRecDepth 20000 in
theorem gX10_mark_X10_isPlace : GoodIn wsX10_mark (wsV RX10 168 RX10 yX10_isPlace wsX10_isPlace) := goodIn_app (goodIn_of _ (by decide +kernel)) ggX10_mark_X10_isPlace
set_option maxRecDepth 20000 in
theorem ggX10_mark_X10_isIn : GoodIn wsX10_mark wsX10_isIn := goodIn_r _ [15] (by decide +kernel) (by decide +kernel)
set_option maxRecDepth 20000 in
theorem gX10_mark_X10_isIn : GoodIn wsX10_mark (va_wsS RX10 155 yX10_isIn wsX10_isIn) := goodIn_app (goodIn_of _ (by decide +kernel)) ggX10_mark_X10_isIn
set_option maxRecDepth 20000 in
theorem ggX10_thing_X10_isPlace : GoodIn wsX10_thing wsX10_isPlace := goodIn_r _ [12, 13, 17, 18, 19, 20, 21, 22, 23, 24, 25, 26, 27, 28, 29, 30, 31, 32, 33, 34, 35, 36, 37, 38, 39, 40, 41, 42, 43, 44, 45, 46, 47, 48, 49, 50, 51, 52, 53, 54, 55, 56, 57, 58, 59, 60, 61, 62, 63, 64, 65, 66] (by decide +kernel) (by decide +kernel)
set_option maxRecDepth 20000 in
theorem gX10_thing_X10_isPlace : GoodIn wsX10_thing (wsV RX10 168 RX10 yX10_isPlace wsX10_isPlace) := goodIn_app (goodIn_of _ (by decide +kernel)) ggX10_thing_X10_isPlace
set_option maxRecDepth 20000 in
theorem ggX10_thing_X10_isIn : GoodIn wsX10_thing wsX10_isIn := goodIn_r _ [16] (by decide +kernel) (by decide +kernel)
set_option maxRecDepth 20000 in
theorem gX10_thing_X10_isIn : GoodIn wsX10_thing (va_wsS RX10 155 yX10_isIn wsX10_isIn) := goodIn_app (goodIn_of _ (by decide +kernel)) ggX10_thing_X10_isIn
set_option maxRecDepth 20000 in
theorem ggX10_sweep_X10_isPlace : GoodIn wsX10_sweep wsX10_isPlace := goodIn_r _ [10, 11, 12, 13, 14, 15, 16, 17, 18, 19, 20, 21, 22, 23, 24, 25, 26, 27, 28, 29, 30, 31, 32, 33, 34, 35, 36, 37, 38, 39, 40, 41, 42, 43, 44, 45, 46, 47, 48, 49, 50, 51, 52, 53, 54, 55, 56, 57, 58, 59, 60, 61] (by decide +kernel) (by decide +kernel)
set_option maxRecDepth 20000 in
theorem gX10_sweep_X10_isPlace : GoodIn wsX10_sweep (wsV RX10 168 RX10 yX10_isPlace wsX10_isPlace) := goodIn_app (goodIn_of _ (by decide +kernel)) ggX10_sweep_X10_isPlace
set_option maxRecDepth 20000 in
theorem ggX10_many_X10_isPlace : GoodIn wsX10_many wsX10_isPlace := goodIn_r _ [7, 8, 9, 10, 11, 12, 13, 14, 15, 16, 17, 18, 19, 20, 21, 22, 23, 24, 25, 26, 27, 28, 29, 30, 31, 32, 33, 34, 35, 36, 37, 38, 39, 40, 41, 42, 43, 44, 45, 46, 47, 48, 49, 50, 51, 52, 53, 54, 55, 56, 57, 58] (by decide +kernel) (by decide +kernel)
set_option maxRecDepth 20000 in
theorem gX10_many_X10_isPlace : GoodIn wsX10_many (wsV RX10 168 RX10 yX10_isPlace wsX10_isPlace) := goodIn_app (goodIn_of _ (by decide +kernel)) ggX10_many_X10_isPlace
set_option maxRecDepth 20000 in
theorem ggX10_kind_X10_isPlace : GoodIn wsX10_kind wsX10_isPlace := goodIn_r _ [10, 11, 15, 16, 17, 18, 19, 20, 21, 22, 23, 24, 25, 26, 27, 28, 29, 30, 31, 32, 33, 34, 35, 36, 37, 38, 39, 40, 41, 42, 43, 44, 45, 46, 47, 48, 49, 50, 51, 52, 53, 54, 55, 56, 57, 58, 59, 60, 61, 62, 63, 64] (by decide +kernel) (by decide +kernel)
set_option maxRecDepth 20000 in
theorem gX10_kind_X10_isPlace : GoodIn wsX10_kind (wsV RX10 168 RX10 yX10_isPlace wsX10_isPlace) := goodIn_app (goodIn_of _ (by decide +kernel)) ggX10_kind_X10_isPlace
set_option maxRecDepth 20000 in
theorem ggX10_kind_X10_isIn : GoodIn wsX10_kind wsX10_isIn := goodIn_r _ [14] (by decide +kernel) (by decide +kernel)
set_option maxRecDepth 20000 in
theorem gX10_kind_X10_isIn : GoodIn wsX10_kind (va_wsS RX10 155 yX10_isIn wsX10_isIn) := goodIn_app (goodIn_of _ (by decide +kernel)) ggX10_kind_X10_isIn
set_option maxRecDepth 20000 in
theorem ggX10_share_X10_isPlace : GoodIn wsX10_share wsX10_isPlace := goodIn_r _ [10, 2, 11, 12, 13, 14, 15, 16, 17, 18, 19, 20, 21, 22, 23, 24, 25, 26, 27, 28, 29, 30, 31, 32, 33, 34, 35, 36, 37, 38, 39, 40, 41, 42, 43, 44, 45, 46, 47, 48, 49, 50, 51, 52, 53, 54, 55, 56, 57, 58, 59, 60] (by decide +kernel) (by decide +kernel)
set_option maxRecDepth 20000 in
theorem gX10_share_X10_isPlace : GoodIn wsX10_share (wsV RX10 168 RX10 yX10_isPlace wsX10_isPlace) := goodIn_app (goodIn_of _ (by decide +kernel)) ggX10_share_X10_isPlace
set_option maxRecDepth 20000 in
theorem ggX10_mayIn_X10_lets : GoodIn wsX10_mayIn wsX10_lets := goodIn_r _ [6, 7, 8, 9, 10, 11, 12, 13, 14, 15, 16, 17, 18, 19, 20, 21, 22, 23, 24, 25, 26, 27, 28, 29, 30, 31, 32, 33, 34, 35, 36, 37, 38, 39, 40, 41, 42, 43, 44, 45, 46, 47, 48, 49, 50, 51, 52, 53, 54, 55, 56, 57, 58, 59] (by decide +kernel) (by decide +kernel)
set_option maxRecDepth 20000 in
theorem gX10_mayIn_X10_lets : GoodIn wsX10_mayIn (wsV RX10 175 RX10 yX10_lets wsX10_lets) := goodIn_app (goodIn_of _ (by decide +kernel)) ggX10_mayIn_X10_lets
set_option maxRecDepth 20000 in
theorem ggX10_hasWanted_X10_isOfKind : GoodIn wsX10_hasWanted wsX10_isOfKind := goodIn_r _ [10] (by decide +kernel) (by decide +kernel)
set_option maxRecDepth 20000 in
theorem gX10_hasWanted_X10_isOfKind : GoodIn wsX10_hasWanted (va_wsS RX10 179 yX10_isOfKind wsX10_isOfKind) := goodIn_app (goodIn_of _ (by decide +kernel)) ggX10_hasWanted_X10_isOfKind
set_option maxRecDepth 20000 in
theorem ggX10_mayNow_X10_mayIn : GoodIn wsX10_mayNow wsX10_mayIn := goodIn_r _ [6, 7, 8, 9, 10, 5, 11, 12, 13, 14, 25, 26, 27, 28, 29, 30, 31, 32, 33, 34, 35, 36, 37, 38, 39, 40, 41, 42, 43, 44, 45, 46, 47, 48, 49, 50, 51, 52, 53, 54, 55, 56, 57, 58, 59, 60, 61, 62, 63, 64, 65, 66, 67, 68, 69, 70, 71, 72, 73, 74] (by decide +kernel) (by decide +kernel)
set_option maxRecDepth 20000 in
theorem gX10_mayNow_X10_mayIn : GoodIn wsX10_mayNow (wsV RX10 183 RX10 yX10_mayIn wsX10_mayIn) := goodIn_app (goodIn_of _ (by decide +kernel)) ggX10_mayNow_X10_mayIn
set_option maxRecDepth 20000 in
theorem ggX10_mayNow_X10_hasWanted : GoodIn wsX10_mayNow wsX10_hasWanted := goodIn_r _ [18, 7, 1, 19, 20, 21, 12, 22, 23, 5, 24, 25, 26, 27, 28, 29, 30, 31, 32, 33, 34, 35, 36, 37, 38, 39, 40, 41, 42, 43, 44, 45, 46, 47, 48, 49, 50, 51, 52, 53, 54, 55, 56, 57, 58, 59, 60, 61, 62, 63, 64, 65, 66, 67, 68, 69, 70, 71, 72, 73, 74] (by decide +kernel) (by decide +kernel)
set_option maxRecDepth 20000 in
theorem gX10_mayNow_X10_hasWanted : GoodIn wsX10_mayNow (wsV RX10 187 RX10 yX10_hasWanted wsX10_hasWanted) := goodIn_app (goodIn_of _ (by decide +kernel)) ggX10_mayNow_X10_hasWanted
set_option maxRecDepth 20000 in
theorem ggX10_isUrgentNow_X10_mayNow : GoodIn wsX10_isUrgentNow wsX10_mayNow := goodIn_r _ [7, 8, 9, 10, 11, 6, 12, 13, 14, 15, 16, 17, 18, 19, 20, 21, 22, 23, 24, 25, 26, 27, 28, 29, 30, 31, 32, 33, 34, 35, 36, 37, 38, 39, 40, 41, 42, 43, 44, 45, 46, 47, 48, 49, 50, 51, 52, 53, 54, 55, 56, 57, 58, 59, 60, 61, 62, 63, 64, 65, 66, 67, 68, 69, 70, 71, 72, 73, 74, 75, 76, 77, 78, 79, 80] (by decide +kernel) (by decide +kernel)
set_option maxRecDepth 20000 in
theorem gX10_isUrgentNow_X10_mayNow : GoodIn wsX10_isUrgentNow (wsV RX10 190 RX10 yX10_mayNow wsX10_mayNow) := goodIn_app (goodIn_of _ (by decide +kernel)) ggX10_isUrgentNow_X10_mayNow
set_option maxRecDepth 20000 in
theorem ggX10_goesNow_X10_mayNow : GoodIn wsX10_goesNow wsX10_mayNow := goodIn_r _ [6, 7, 8, 9, 10, 5, 11, 12, 13, 14, 15, 16, 17, 18, 19, 20, 21, 22, 23, 24, 25, 26, 27, 28, 29, 35, 36, 37, 38, 39, 40, 41, 42, 43, 44, 45, 46, 47, 48, 49, 50, 51, 52, 53, 54, 55, 56, 57, 58, 59, 60, 61, 62, 63, 64, 65, 66, 67, 68, 69, 70, 71, 72, 73, 74, 75, 76, 77, 78, 79, 80, 81, 82, 83, 84] (by decide +kernel) (by decide +kernel)
set_option maxRecDepth 20000 in
theorem gX10_goesNow_X10_mayNow : GoodIn wsX10_goesNow (wsV RX10 190 RX10 yX10_mayNow wsX10_mayNow) := goodIn_app (goodIn_of _ (by decide +kernel)) ggX10_goesNow_X10_mayNow
set_option maxRecDepth 20000 in
theorem ggX10_goesNow_X10_isUrgentNow : GoodIn wsX10_goesNow wsX10_isUrgentNow := goodIn_r _ [33, 34, 1, 2, 3, 4, 5, 6, 7, 8, 9, 10, 11, 12, 13, 14, 15, 16, 17, 18, 19, 20, 21, 22, 23, 24, 25, 26, 27, 28, 29, 35, 36, 37, 38, 39, 40, 41, 42, 43, 44, 45, 46, 47, 48, 49, 50, 51, 52, 53, 54, 55, 56, 57, 58, 59, 60, 61, 62, 63, 64, 65, 66, 67, 68, 69, 70, 71, 72, 73, 74, 75, 76, 77, 78, 79, 80, 81, 82, 83, 84] (by decide +kernel) (by decide +kernel)
set_option maxRecDepth 20000 in
theorem gX10_goesNow_X10_isUrgentNow : GoodIn wsX10_goesNow (wsV RX10 193 RX10 yX10_isUrgentNow wsX10_isUrgentNow) := goodIn_app (goodIn_of _ (by decide +kernel)) ggX10_goesNow_X10_isUrgentNow
set_option maxRecDepth 20000 in
theorem ggX10_may_X10_isStep : GoodIn wsX10_may wsX10_isStep := goodIn_r _ [6, 7, 44, 45, 46, 47, 48, 49, 50, 51, 52, 53, 54, 55, 56, 57, 58, 59, 60, 61, 62, 63, 64, 65, 66, 67, 68, 69, 70, 71, 72, 73, 74, 75, 76, 77, 78, 79, 80, 81, 82, 83, 84, 85, 86, 87, 88, 89, 90, 91, 92, 93] (by decide +kernel) (by decide +kernel)
set_option maxRecDepth 20000 in
theorem gX10_may_X10_isStep : GoodIn wsX10_may (wsV RX10 164 RX10 yX10_isStep wsX10_isStep) := goodIn_app (goodIn_of _ (by decide +kernel)) ggX10_may_X10_isStep
set_option maxRecDepth 20000 in
theorem ggX10_may_X10_goesNow : GoodIn wsX10_may wsX10_goesNow := goodIn_r _ [11, 12, 13, 14, 15, 5, 16, 17, 18, 19, 20, 21, 22, 23, 24, 25, 26, 27, 28, 29, 30, 31, 32, 33, 34, 35, 36, 37, 38, 39, 40, 41, 42, 43, 7, 44, 45, 46, 47, 48, 49, 50, 51, 52, 53, 54, 55, 56, 57, 58, 59, 60, 61, 62, 63, 64, 65, 66, 67, 68, 69, 70, 71, 72, 73, 74, 75, 76, 77, 78, 79, 80, 81, 82, 83, 84, 85, 86, 87, 88, 89, 90, 91, 92, 93] (by decide +kernel) (by decide +kernel)
set_option maxRecDepth 20000 in
theorem gX10_may_X10_goesNow : GoodIn wsX10_may (wsV RX10 197 RX10 yX10_goesNow wsX10_goesNow) := goodIn_app (goodIn_of _ (by decide +kernel)) ggX10_may_X10_goesNow
set_option maxRecDepth 20000 in
theorem ggX10_may_X10_mayNow : GoodIn wsX10_may wsX10_mayNow := goodIn_r _ [16, 17, 18, 19, 20, 5, 21, 22, 23, 24, 25, 26, 27, 28, 29, 30, 31, 32, 33, 34, 35, 36, 37, 38, 39, 44, 45, 46, 47, 48, 49, 50, 51, 52, 53, 54, 55, 56, 57, 58, 59, 60, 61, 62, 63, 64, 65, 66, 67, 68, 69, 70, 71, 72, 73, 74, 75, 76, 77, 78, 79, 80, 81, 82, 83, 84, 85, 86, 87, 88, 89, 90, 91, 92, 93] (by decide +kernel) (by decide +kernel)
set_option maxRecDepth 20000 in
theorem gX10_may_X10_mayNow : GoodIn wsX10_may (wsV RX10 190 RX10 yX10_mayNow wsX10_mayNow) := goodIn_app (goodIn_of _ (by decide +kernel)) ggX10_may_X10_mayNow
set_option maxRecDepth 20000 in
theorem ggX10_move_X10_isOfKind : GoodIn wsX10_move wsX10_isOfKind := goodIn_r _ [10] (by decide +kernel) (by decide +kernel)
set_option maxRecDepth 20000 in
theorem gX10_move_X10_isOfKind : GoodIn wsX10_move (va_wsS RX10 179 yX10_isOfKind wsX10_isOfKind) := goodIn_app (goodIn_of _ (by decide +kernel)) ggX10_move_X10_isOfKind
set_option maxRecDepth 20000 in
theorem ggX10_goNow_X10_keep : GoodIn wsX10_goNow wsX10_keep := goodIn_r _ [11, 12, 13, 14, 15, 4, 16, 17, 27, 28, 29, 30, 31, 32, 33, 34, 35, 36, 37, 38, 39, 40, 41, 42, 43, 44, 45, 46, 47, 48, 49, 50, 51, 52, 53, 54, 55, 56, 57, 58, 59, 60, 61, 62, 63, 64, 65, 66, 67, 68, 69, 70, 71, 72, 73, 74, 75, 76] (by decide +kernel) (by decide +kernel)
set_option maxRecDepth 20000 in
theorem gX10_goNow_X10_keep : GoodIn wsX10_goNow (wsV RX10 204 RX10 yX10_keep wsX10_keep) := goodIn_app (goodIn_of _ (by decide +kernel)) ggX10_goNow_X10_keep
set_option maxRecDepth 20000 in
theorem ggX10_goNow_X10_move : GoodIn wsX10_goNow wsX10_move := goodIn_r _ [21, 6, 4, 17, 22, 5, 23, 24, 25, 10, 26, 27, 28, 29, 30, 31, 32, 33, 34, 35, 36, 37, 38, 39, 40, 41, 42, 43, 44, 45, 46, 47, 48, 49, 50, 51, 52, 53, 54, 55, 56, 57, 58, 59, 60, 61, 62, 63, 64, 65, 66, 67, 68, 69, 70, 71, 72, 73, 74, 75, 76] (by decide +kernel) (by decide +kernel)
set_option maxRecDepth 20000 in
theorem gX10_goNow_X10_move : GoodIn wsX10_goNow (wsV RX10 211 RX10 yX10_move wsX10_move) := goodIn_app (goodIn_of _ (by decide +kernel)) ggX10_goNow_X10_move
set_option maxRecDepth 20000 in
theorem ggX10_go_X10_isStep : GoodIn wsX10_go wsX10_isStep := goodIn_r _ [8, 9, 71, 72, 73, 74, 75, 76, 77, 78, 79, 80, 81, 82, 83, 84, 85, 86, 87, 88, 89, 90, 91, 92, 93, 94, 95, 96, 97, 98, 99, 100, 101, 102, 103, 104, 105, 106, 107, 108, 109, 110, 111, 112, 113, 114, 115, 116, 117, 118, 119, 120] (by decide +kernel) (by decide +kernel)
set_option maxRecDepth 20000 in
theorem gX10_go_X10_isStep : GoodIn wsX10_go (wsV RX10 164 RX10 yX10_isStep wsX10_isStep) := goodIn_app (goodIn_of _ (by decide +kernel)) ggX10_go_X10_isStep
set_option maxRecDepth 20000 in
theorem ggX10_go_X10_goesNow : GoodIn wsX10_go wsX10_goesNow := goodIn_r _ [13, 14, 15, 16, 17, 7, 18, 19, 20, 21, 22, 23, 24, 25, 26, 27, 28, 29, 30, 31, 32, 33, 34, 35, 36, 37, 38, 39, 40, 41, 42, 43, 44, 45, 9, 71, 72, 73, 74, 75, 76, 77, 78, 79, 80, 81, 82, 83, 84, 85, 86, 87, 88, 89, 90, 91, 92, 93, 94, 95, 96, 97, 98, 99, 100, 101, 102, 103, 104, 105, 106, 107, 108, 109, 110, 111, 112, 113, 114, 115, 116, 117, 118, 119, 120] (by decide +kernel) (by decide +kernel)
set_option maxRecDepth 20000 in
theorem gX10_go_X10_goesNow : GoodIn wsX10_go (wsV RX10 197 RX10 yX10_goesNow wsX10_goesNow) := goodIn_app (goodIn_of _ (by decide +kernel)) ggX10_go_X10_goesNow
set_option maxRecDepth 20000 in
theorem ggX10_go_X10_isFull : GoodIn wsX10_go wsX10_isFull := goodIn_r _ [49, 24, 19, 29, 50, 36, 51, 71, 72, 73, 74, 75, 76, 77, 78, 79, 80, 81, 82, 83, 84, 85, 86, 87, 88, 89, 90, 91, 92, 93, 94, 95, 96, 97, 98, 99, 100, 101, 102, 103, 104, 105, 106, 107, 108, 109, 110, 111, 112, 113, 114, 115, 116, 117, 118, 119, 120] (by decide +kernel) (by decide +kernel)
set_option maxRecDepth 20000 in
theorem gX10_go_X10_isFull : GoodIn wsX10_go (wsV RX10 215 RX10 yX10_isFull wsX10_isFull) := goodIn_app (goodIn_of _ (by decide +kernel)) ggX10_go_X10_isFull
set_option maxRecDepth 20000 in
theorem ggX10_go_X10_goNow : GoodIn wsX10_go wsX10_goNow := goodIn_r _ [55, 56, 24, 36, 19, 50, 29, 57, 58, 59, 7, 60, 61, 62, 63, 64, 65, 37, 66, 67, 68, 69, 38, 70, 39, 40, 41, 71, 72, 73, 74, 75, 76, 77, 78, 79, 80, 81, 82, 83, 84, 85, 86, 87, 88, 89, 90, 91, 92, 93, 94, 95, 96, 97, 98, 99, 100, 101, 102, 103, 104, 105, 106, 107, 108, 109, 110, 111, 112, 113, 114, 115, 116, 117, 118, 119, 120] (by decide +kernel) (by decide +kernel)
set_option maxRecDepth 20000 in
theorem gX10_go_X10_goNow : GoodIn wsX10_go (wsV RX10 218 RX10 yX10_goNow wsX10_goNow) := goodIn_app (goodIn_of _ (by decide +kernel)) ggX10_go_X10_goNow
set_option maxRecDepth 20000 in
theorem ggX10_run_X10_isIn : GoodIn wsX10_run wsX10_isIn := goodIn_r _ [6] (by decide +kernel) (by decide +kernel)
set_option maxRecDepth 20000 in
theorem gX10_run_X10_isIn : GoodIn wsX10_run (va_wsS RX10 155 yX10_isIn wsX10_isIn) := goodIn_app (goodIn_of _ (by decide +kernel)) ggX10_run_X10_isIn
set_option maxRecDepth 20000 in
theorem ggX10_run_X10_goesNow : GoodIn wsX10_run wsX10_goesNow := goodIn_r _ [10, 11, 12, 13, 14, 5, 15, 16, 17, 18, 19, 20, 21, 22, 23, 24, 25, 26, 27, 28, 29, 30, 31, 32, 33, 34, 35, 36, 37, 38, 39, 40, 41, 42, 2, 68, 69, 70, 71, 72, 73, 74, 75, 76, 77, 78, 79, 80, 81, 82, 83, 84, 85, 86, 87, 88, 89, 90, 91, 92, 93, 94, 95, 96, 97, 98, 99, 100, 101, 102, 103, 104, 105, 106, 107, 108, 109, 110, 111, 112, 113, 114, 115, 116, 117] (by decide +kernel) (by decide +kernel)
set_option maxRecDepth 20000 in
theorem gX10_run_X10_goesNow : GoodIn wsX10_run (wsV RX10 197 RX10 yX10_goesNow wsX10_goesNow) := goodIn_app (goodIn_of _ (by decide +kernel)) ggX10_run_X10_goesNow
set_option maxRecDepth 20000 in
theorem ggX10_run_X10_isFull : GoodIn wsX10_run wsX10_isFull := goodIn_r _ [46, 21, 16, 26, 47, 33, 48, 68, 69, 70, 71, 72, 73, 74, 75, 76, 77, 78, 79, 80, 81, 82, 83, 84, 85, 86, 87, 88, 89, 90, 91, 92, 93, 94, 95, 96, 97, 98, 99, 100, 101, 102, 103, 104, 105, 106, 107, 108, 109, 110, 111, 112, 113, 114, 115, 116, 117] (by decide +kernel) (by decide +kernel)
set_option maxRecDepth 20000 in
theorem gX10_run_X10_isFull : GoodIn wsX10_run (wsV RX10 215 RX10 yX10_isFull wsX10_isFull) := goodIn_app (goodIn_of _ (by decide +kernel)) ggX10_run_X10_isFull
set_option maxRecDepth 20000 in
theorem ggX10_run_X10_goNow : GoodIn wsX10_run wsX10_goNow := goodIn_r _ [52, 53, 21, 33, 16, 47, 26, 54, 55, 56, 5, 57, 58, 59, 60, 61, 62, 34, 63, 64, 65, 66, 35, 67, 36, 37, 38, 68, 69, 70, 71, 72, 73, 74, 75, 76, 77, 78, 79, 80, 81, 82, 83, 84, 85, 86, 87, 88, 89, 90, 91, 92, 93, 94, 95, 96, 97, 98, 99, 100, 101, 102, 103, 104, 105, 106, 107, 108, 109, 110, 111, 112, 113, 114, 115, 116, 117] (by decide +kernel) (by decide +kernel)
set_option maxRecDepth 20000 in
theorem gX10_run_X10_goNow : GoodIn wsX10_run (wsV RX10 218 RX10 yX10_goNow wsX10_goNow) := goodIn_app (goodIn_of _ (by decide +kernel)) ggX10_run_X10_goNow
set_option maxRecDepth 20000 in
theorem ggX10_row_X10_isIn : GoodIn wsX10_row wsX10_isIn := goodIn_r _ [7] (by decide +kernel) (by decide +kernel)
set_option maxRecDepth 20000 in
theorem gX10_row_X10_isIn : GoodIn wsX10_row (va_wsS RX10 155 yX10_isIn wsX10_isIn) := goodIn_app (goodIn_of _ (by decide +kernel)) ggX10_row_X10_isIn
set_option maxRecDepth 20000 in
theorem ggX10_set_X10_isIn : GoodIn wsX10_set wsX10_isIn := goodIn_r _ [9] (by decide +kernel) (by decide +kernel)
set_option maxRecDepth 20000 in
theorem gX10_set_X10_isIn : GoodIn wsX10_set (va_wsS RX10 155 yX10_isIn wsX10_isIn) := goodIn_app (goodIn_of _ (by decide +kernel)) ggX10_set_X10_isIn
set_option maxRecDepth 20000 in
theorem ggX10_get_X10_isIn : GoodIn wsX10_get wsX10_isIn := goodIn_r _ [7] (by decide +kernel) (by decide +kernel)
set_option maxRecDepth 20000 in
theorem gX10_get_X10_isIn : GoodIn wsX10_get (va_wsS RX10 155 yX10_isIn wsX10_isIn) := goodIn_app (goodIn_of _ (by decide +kernel)) ggX10_get_X10_isIn
set_option maxRecDepth 20000 in
theorem ggX10_copy_X10_isIn : GoodIn wsX10_copy wsX10_isIn := goodIn_r _ [8] (by decide +kernel) (by decide +kernel)
set_option maxRecDepth 20000 in
theorem gX10_copy_X10_isIn : GoodIn wsX10_copy (va_wsS RX10 155 yX10_isIn wsX10_isIn) := goodIn_app (goodIn_of _ (by decide +kernel)) ggX10_copy_X10_isIn
set_option maxRecDepth 20000 in
theorem ggX10_lay_X10_isStep : GoodIn wsX10_lay wsX10_isStep := goodIn_r _ [9, 10, 11, 12, 13, 14, 15, 16, 17, 18, 19, 20, 21, 22, 23, 24, 25, 26, 27, 28, 29, 30, 31, 32, 33, 34, 35, 36, 37, 38, 39, 40, 41, 42, 43, 44, 45, 46, 47, 48, 49, 50, 51, 52, 53, 54, 55, 56, 57, 58, 59, 60] (by decide +kernel) (by decide +kernel)
set_option maxRecDepth 20000 in
theorem gX10_lay_X10_isStep : GoodIn wsX10_lay (wsV RX10 164 RX10 yX10_isStep wsX10_isStep) := goodIn_app (goodIn_of _ (by decide +kernel)) ggX10_lay_X10_isStep
set_option maxRecDepth 20000 in
theorem ggX10_walk_X10_isIn : GoodIn wsX10_walk wsX10_isIn := goodIn_r _ [7] (by decide +kernel) (by decide +kernel)
set_option maxRecDepth 20000 in
theorem gX10_walk_X10_isIn : GoodIn wsX10_walk (va_wsS RX10 155 yX10_isIn wsX10_isIn) := goodIn_app (goodIn_of _ (by decide +kernel)) ggX10_walk_X10_isIn
set_option maxRecDepth 20000 in
theorem ggX10_goes_X10_mayIn : GoodIn wsX10_goes wsX10_mayIn := goodIn_r _ [7, 8, 9, 10, 11, 6, 12, 13, 14, 15, 16, 17, 18, 19, 20, 21, 22, 23, 24, 25, 26, 27, 28, 29, 30, 31, 32, 33, 34, 35, 36, 37, 38, 39, 40, 41, 42, 43, 44, 45, 46, 47, 48, 49, 50, 51, 52, 53, 54, 55, 56, 57, 58, 59, 60, 61, 62, 63, 64, 65] (by decide +kernel) (by decide +kernel)
set_option maxRecDepth 20000 in
theorem gX10_goes_X10_mayIn : GoodIn wsX10_goes (wsV RX10 183 RX10 yX10_mayIn wsX10_mayIn) := goodIn_app (goodIn_of _ (by decide +kernel)) ggX10_goes_X10_mayIn
set_option maxRecDepth 20000 in
theorem ggX10_check_X10_hasColour : GoodIn wsX10_check wsX10_hasColour := goodIn_r _ [13, 2, 14, 31, 32, 33, 34, 35, 36, 37, 38, 39, 40, 41, 42, 43, 44, 45, 46, 47, 48, 49, 50, 51, 52, 53, 54, 55, 56, 57, 58, 59, 60, 61, 62, 63, 64, 65, 66, 67, 68, 69, 70, 71, 72, 73, 74, 75, 76, 77, 78, 79, 80] (by decide +kernel) (by decide +kernel)
set_option maxRecDepth 20000 in
theorem gX10_check_X10_hasColour : GoodIn wsX10_check (wsV RX10 228 RX10 yX10_hasColour wsX10_hasColour) := goodIn_app (goodIn_of _ (by decide +kernel)) ggX10_check_X10_hasColour
set_option maxRecDepth 20000 in
theorem ggX10_check_X10_goes : GoodIn wsX10_check wsX10_goes := goodIn_r _ [18, 19, 20, 21, 22, 23, 12, 24, 2, 25, 26, 27, 28, 8, 29, 30, 31, 32, 33, 34, 35, 36, 37, 38, 39, 40, 41, 42, 43, 44, 45, 46, 47, 48, 49, 50, 51, 52, 53, 54, 55, 56, 57, 58, 59, 60, 61, 62, 63, 64, 65, 66, 67, 68, 69, 70, 71, 72, 73, 74, 75, 76, 77, 78, 79, 80] (by decide +kernel) (by decide +kernel)
set_option maxRecDepth 20000 in
theorem gX10_check_X10_goes : GoodIn wsX10_check (wsV RX10 231 RX10 yX10_goes wsX10_goes) := goodIn_app (goodIn_of _ (by decide +kernel)) ggX10_check_X10_goes
set_option maxRecDepth 20000 in
theorem ggX10_sought_X10_compared : GoodIn wsX10_sought wsX10_compared := goodIn_r _ [7, 8, 9, 10, 11, 12, 13, 14, 15, 16, 17, 18, 19, 20, 21, 22, 23, 24, 25, 26, 27, 28, 29, 30, 31, 32, 33, 34, 35, 36, 37, 38, 39, 40, 41, 42, 43, 44, 45, 46, 47, 48, 49, 50, 51, 52, 53, 54, 55, 56, 57, 58, 59, 60] (by decide +kernel) (by decide +kernel)
set_option maxRecDepth 20000 in
theorem gX10_sought_X10_compared : GoodIn wsX10_sought (wsV RX10 234 RX10 yX10_compared wsX10_compared) := goodIn_app (goodIn_of _ (by decide +kernel)) ggX10_sought_X10_compared
set_option maxRecDepth 20000 in
theorem ggX10_numberOf_X10_sought : GoodIn wsX10_numberOf wsX10_sought := goodIn_r _ [8, 1, 2, 9, 10, 11, 7, 12, 13, 14, 15, 16, 17, 18, 19, 20, 21, 22, 23, 24, 25, 26, 27, 28, 29, 30, 31, 32, 33, 34, 35, 36, 37, 38, 39, 40, 41, 42, 43, 44, 45, 46, 47, 48, 49, 50, 51, 52, 53, 54, 55, 56, 57, 58, 59, 60, 61, 62, 63, 64, 65] (by decide +kernel) (by decide +kernel)
set_option maxRecDepth 20000 in
theorem gX10_numberOf_X10_sought : GoodIn wsX10_numberOf (wsV RX10 238 RX10 yX10_sought wsX10_sought) := goodIn_app (goodIn_of _ (by decide +kernel)) ggX10_numberOf_X10_sought
set_option maxRecDepth 20000 in
theorem ggX10_numberOf_X10_compared : GoodIn wsX10_numberOf wsX10_compared := goodIn_r _ [12, 13, 14, 15, 16, 17, 18, 19, 20, 21, 22, 23, 24, 25, 26, 27, 28, 29, 30, 31, 32, 33, 34, 35, 36, 37, 38, 39, 40, 41, 42, 43, 44, 45, 46, 47, 48, 49, 50, 51, 52, 53, 54, 55, 56, 57, 58, 59, 60, 61, 62, 63, 64, 65] (by decide +kernel) (by decide +kernel)
set_option maxRecDepth 20000 in
theorem gX10_numberOf_X10_compared : GoodIn wsX10_numberOf (wsV RX10 234 RX10 yX10_compared wsX10_compared) := goodIn_app (goodIn_of _ (by decide +kernel)) ggX10_numberOf_X10_compared
set_option maxRecDepth 20000 in
theorem ggX10_addMarking_X10_sought : GoodIn wsX10_addMarking wsX10_sought := goodIn_r _ [12, 1, 2, 13, 14, 15, 11, 16, 3, 4, 5, 17, 18, 19, 20, 21, 22, 23, 24, 25, 26, 27, 28, 29, 30, 31, 32, 33, 34, 35, 36, 37, 38, 39, 40, 41, 42, 43, 44, 45, 46, 47, 48, 49, 50, 51, 52, 53, 54, 55, 56, 57, 58, 59, 60, 61, 62, 63, 64, 65, 66] (by decide +kernel) (by decide +kernel)
set_option maxRecDepth 20000 in
theorem gX10_addMarking_X10_sought : GoodIn wsX10_addMarking (wsV RX10 238 RX10 yX10_sought wsX10_sought) := goodIn_app (goodIn_of _ (by decide +kernel)) ggX10_addMarking_X10_sought
set_option maxRecDepth 20000 in
theorem ggX10_expand_X10_goes : GoodIn wsX10_expand wsX10_goes := goodIn_r _ [14, 1, 15, 16, 17, 18, 13, 19, 5, 20, 21, 22, 23, 8, 24, 25, 45, 46, 47, 48, 49, 50, 51, 52, 53, 54, 55, 56, 57, 58, 59, 60, 61, 62, 63, 64, 65, 66, 67, 68, 69, 70, 71, 72, 73, 74, 75, 76, 77, 78, 79, 80, 81, 82, 83, 84, 85, 86, 87, 88, 89, 90, 91, 92, 93, 94] (by decide +kernel) (by decide +kernel)
set_option maxRecDepth 20000 in
theorem gX10_expand_X10_goes : GoodIn wsX10_expand (wsV RX10 231 RX10 yX10_goes wsX10_goes) := goodIn_app (goodIn_of _ (by decide +kernel)) ggX10_expand_X10_goes
set_option maxRecDepth 20000 in
theorem ggX10_expand_X10_numberOf : GoodIn wsX10_expand wsX10_numberOf := goodIn_r _ [29, 9, 30, 3, 31, 32, 33, 13, 34, 35, 36, 37, 38, 5, 4, 6, 45, 46, 47, 48, 49, 50, 51, 52, 53, 54, 55, 56, 57, 58, 59, 60, 61, 62, 63, 64, 65, 66, 67, 68, 69, 70, 71, 72, 73, 74, 75, 76, 77, 78, 79, 80, 81, 82, 83, 84, 85, 86, 87, 88, 89, 90, 91, 92, 93, 94] (by decide +kernel) (by decide +kernel)
set_option maxRecDepth 20000 in
theorem gX10_expand_X10_numberOf : GoodIn wsX10_expand (wsV RX10 242 RX10 yX10_numberOf wsX10_numberOf) := goodIn_app (goodIn_of _ (by decide +kernel)) ggX10_expand_X10_numberOf
set_option maxRecDepth 20000 in
theorem ggX10_expand_X10_addMarking : GoodIn wsX10_expand wsX10_addMarking := goodIn_r _ [42, 9, 30, 5, 4, 6, 43, 44, 31, 32, 33, 13, 34, 35, 36, 37, 38, 45, 46, 47, 48, 49, 50, 51, 52, 53, 54, 55, 56, 57, 58, 59, 60, 61, 62, 63, 64, 65, 66, 67, 68, 69, 70, 71, 72, 73, 74, 75, 76, 77, 78, 79, 80, 81, 82, 83, 84, 85, 86, 87, 88, 89, 90, 91, 92, 93, 94] (by decide +kernel) (by decide +kernel)
set_option maxRecDepth 20000 in
theorem gX10_expand_X10_addMarking : GoodIn wsX10_expand (wsV RX10 245 RX10 yX10_addMarking wsX10_addMarking) := goodIn_app (goodIn_of _ (by decide +kernel)) ggX10_expand_X10_addMarking
set_option maxRecDepth 20000 in
theorem ggX10_makeField_X10_addMarking : GoodIn wsX10_makeField wsX10_addMarking := goodIn_r _ [9, 1, 10, 11, 12, 13, 14, 15, 16, 17, 18, 8, 19, 20, 21, 22, 23, 51, 52, 53, 54, 55, 56, 57, 58, 59, 60, 61, 62, 63, 64, 65, 66, 67, 68, 69, 70, 71, 72, 73, 74, 75, 76, 77, 78, 79, 80, 81, 82, 83, 84, 85, 86, 87, 88, 89, 90, 91, 92, 93, 94, 95, 96, 97, 98, 99, 100] (by decide +kernel) (by decide +kernel)
set_option maxRecDepth 20000 in
theorem gX10_makeField_X10_addMarking : GoodIn wsX10_makeField (wsV RX10 245 RX10 yX10_addMarking wsX10_addMarking) := goodIn_app (goodIn_of _ (by decide +kernel)) ggX10_makeField_X10_addMarking
set_option maxRecDepth 20000 in
theorem ggX10_makeField_X10_expand : GoodIn wsX10_makeField wsX10_expand := goodIn_r _ [27, 28, 29, 2, 12, 11, 13, 30, 31, 1, 32, 33, 34, 8, 35, 36, 37, 38, 39, 40, 41, 42, 43, 44, 45, 46, 47, 48, 49, 50, 10, 16, 17, 18, 19, 20, 21, 22, 23, 5, 6, 7, 9, 14, 15, 51, 52, 53, 54, 55, 56, 57, 58, 59, 60, 61, 62, 63, 64, 65, 66, 67, 68, 69, 70, 71, 72, 73, 74, 75, 76, 77, 78, 79, 80, 81, 82, 83, 84, 85, 86, 87, 88, 89, 90, 91, 92, 93, 94, 95, 96, 97, 98, 99, 100] (by decide +kernel) (by decide +kernel)
set_option maxRecDepth 20000 in
theorem gX10_makeField_X10_expand : GoodIn wsX10_makeField (wsV RX10 248 RX10 yX10_expand wsX10_expand) := goodIn_app (goodIn_of _ (by decide +kernel)) ggX10_makeField_X10_expand
set_option maxRecDepth 20000 in
theorem ggX10_field_X10_isIn : GoodIn wsX10_field wsX10_isIn := goodIn_r _ [9] (by decide +kernel) (by decide +kernel)
set_option maxRecDepth 20000 in
theorem gX10_field_X10_isIn : GoodIn wsX10_field (va_wsS RX10 155 yX10_isIn wsX10_isIn) := goodIn_app (goodIn_of _ (by decide +kernel)) ggX10_field_X10_isIn
set_option maxRecDepth 20000 in
theorem ggX10_field_X10_hasColour : GoodIn wsX10_field wsX10_hasColour := goodIn_r _ [13, 3, 14, 66, 67, 68, 69, 70, 71, 72, 73, 74, 75, 76, 77, 78, 79, 80, 81, 82, 83, 84, 85, 86, 87, 88, 89, 90, 91, 92, 93, 94, 95, 96, 97, 98, 99, 100, 101, 102, 103, 104, 105, 106, 107, 108, 109, 110, 111, 112, 113, 114, 115] (by decide +kernel) (by decide +kernel)
set_option maxRecDepth 20000 in
theorem gX10_field_X10_hasColour : GoodIn wsX10_field (wsV RX10 228 RX10 yX10_hasColour wsX10_hasColour) := goodIn_app (goodIn_of _ (by decide +kernel)) ggX10_field_X10_hasColour
set_option maxRecDepth 20000 in
theorem ggX10_field_X10_makeField : GoodIn wsX10_field wsX10_makeField := goodIn_r _ [18, 19, 20, 21, 22, 23, 24, 25, 8, 26, 27, 3, 28, 4, 29, 30, 31, 32, 33, 34, 35, 36, 37, 38, 39, 40, 41, 42, 43, 44, 45, 46, 47, 48, 49, 50, 51, 52, 53, 54, 55, 56, 57, 58, 59, 60, 61, 62, 63, 64, 65, 66, 67, 68, 69, 70, 71, 72, 73, 74, 75, 76, 77, 78, 79, 80, 81, 82, 83, 84, 85, 86, 87, 88, 89, 90, 91, 92, 93, 94, 95, 96, 97, 98, 99, 100, 101, 102, 103, 104, 105, 106, 107, 108, 109, 110, 111, 112, 113, 114, 115] (by decide +kernel) (by decide +kernel)
set_option maxRecDepth 20000 in
theorem gX10_field_X10_makeField : GoodIn wsX10_field (wsV RX10 252 RX10 yX10_makeField wsX10_makeField) := goodIn_app (goodIn_of _ (by decide +kernel)) ggX10_field_X10_makeField
set_option maxRecDepth 20000 in
theorem ggX10_askField_X10_isIn : GoodIn wsX10_askField wsX10_isIn := goodIn_r _ [8] (by decide +kernel) (by decide +kernel)
set_option maxRecDepth 20000 in
theorem gX10_askField_X10_isIn : GoodIn wsX10_askField (va_wsS RX10 155 yX10_isIn wsX10_isIn) := goodIn_app (goodIn_of _ (by decide +kernel)) ggX10_askField_X10_isIn
set_option maxRecDepth 20000 in
theorem ggX10_marking_X10_isPlace : GoodIn wsX10_marking wsX10_isPlace := goodIn_r _ [7, 8, 19, 20, 21, 22, 23, 24, 25, 26, 27, 28, 29, 30, 31, 32, 33, 34, 35, 36, 37, 38, 39, 40, 41, 42, 43, 44, 45, 46, 47, 48, 49, 50, 51, 52, 53, 54, 55, 56, 57, 58, 59, 60, 61, 62, 63, 64, 65, 66, 67, 68] (by decide +kernel) (by decide +kernel)
set_option maxRecDepth 20000 in
theorem gX10_marking_X10_isPlace : GoodIn wsX10_marking (wsV RX10 168 RX10 yX10_isPlace wsX10_isPlace) := goodIn_app (goodIn_of _ (by decide +kernel)) ggX10_marking_X10_isPlace
set_option maxRecDepth 20000 in
theorem ggX10_marking_X10_askField : GoodIn wsX10_marking wsX10_askField := goodIn_r _ [12, 13, 14, 15, 1, 16, 17, 6, 18, 19, 20, 21, 22, 23, 24, 25, 26, 27, 28, 29, 30, 31, 32, 33, 34, 35, 36, 37, 38, 39, 40, 41, 42, 43, 44, 45, 46, 47, 48, 49, 50, 51, 52, 53, 54, 55, 56, 57, 58, 59, 60, 61, 62, 63, 64, 65, 66, 67, 68] (by decide +kernel) (by decide +kernel)
set_option maxRecDepth 20000 in
theorem gX10_marking_X10_askField : GoodIn wsX10_marking (wsV RX10 255 RX10 yX10_askField wsX10_askField) := goodIn_app (goodIn_of _ (by decide +kernel)) ggX10_marking_X10_askField
set_option maxRecDepth 20000 in
theorem ggX10_next_X10_isStep : GoodIn wsX10_next wsX10_isStep := goodIn_r _ [7, 8, 19, 20, 21, 22, 23, 24, 25, 26, 27, 28, 29, 30, 31, 32, 33, 34, 35, 36, 37, 38, 39, 40, 41, 42, 43, 44, 45, 46, 47, 48, 49, 50, 51, 52, 53, 54, 55, 56, 57, 58, 59, 60, 61, 62, 63, 64, 65, 66, 67, 68] (by decide +kernel) (by decide +kernel)
set_option maxRecDepth 20000 in
theorem gX10_next_X10_isStep : GoodIn wsX10_next (wsV RX10 164 RX10 yX10_isStep wsX10_isStep) := goodIn_app (goodIn_of _ (by decide +kernel)) ggX10_next_X10_isStep
set_option maxRecDepth 20000 in
theorem ggX10_next_X10_askField : GoodIn wsX10_next wsX10_askField := goodIn_r _ [12, 13, 14, 15, 1, 16, 17, 6, 18, 19, 20, 21, 22, 23, 24, 25, 26, 27, 28, 29, 30, 31, 32, 33, 34, 35, 36, 37, 38, 39, 40, 41, 42, 43, 44, 45, 46, 47, 48, 49, 50, 51, 52, 53, 54, 55, 56, 57, 58, 59, 60, 61, 62, 63, 64, 65, 66, 67, 68] (by decide +kernel) (by decide +kernel)
set_option maxRecDepth 20000 in
theorem gX10_next_X10_askField : GoodIn wsX10_next (wsV RX10 255 RX10 yX10_askField wsX10_askField) := goodIn_app (goodIn_of _ (by decide +kernel)) ggX10_next_X10_askField
set_option maxRecDepth 20000 in
theorem ggX10_way_X10_askField : GoodIn wsX10_way wsX10_askField := goodIn_r _ [9, 10, 11, 12, 13, 14, 15, 8, 16, 17, 18, 19, 20, 21, 22, 23, 24, 25, 26, 27, 28, 29, 30, 31, 32, 33, 34, 35, 36, 37, 38, 39, 40, 41, 42, 43, 44, 45, 46, 47, 48, 49, 50, 51, 52, 53, 54, 55, 56, 57, 58, 59, 60, 61, 62, 63, 64, 65, 66] (by decide +kernel) (by decide +kernel)
set_option maxRecDepth 20000 in
theorem gX10_way_X10_askField : GoodIn wsX10_way (wsV RX10 255 RX10 yX10_askField wsX10_askField) := goodIn_app (goodIn_of _ (by decide +kernel)) ggX10_way_X10_askField
set_option maxRecDepth 20000 in
theorem ggX10_find_X10_told : GoodIn wsX10_find wsX10_told := goodIn_r _ [9, 10, 11, 28, 29, 30, 31, 32, 33, 34, 35, 36, 37, 38, 39, 40, 41, 42, 43, 44, 45, 46, 47, 48, 49, 50, 51, 52, 53, 54, 55, 56, 57, 58, 59, 60, 61, 62, 63, 64, 65, 66, 67, 68, 69, 70, 71, 72, 73, 74, 75, 76, 77] (by decide +kernel) (by decide +kernel)
set_option maxRecDepth 20000 in
theorem gX10_find_X10_told : GoodIn wsX10_find (wsV RX10 258 RX10 yX10_told wsX10_told) := goodIn_app (goodIn_of _ (by decide +kernel)) ggX10_find_X10_told
set_option maxRecDepth 20000 in
theorem ggX10_find_X10_numberOf : GoodIn wsX10_find wsX10_numberOf := goodIn_r _ [15, 16, 17, 18, 19, 20, 21, 8, 22, 23, 24, 25, 26, 3, 27, 4, 28, 29, 30, 31, 32, 33, 34, 35, 36, 37, 38, 39, 40, 41, 42, 43, 44, 45, 46, 47, 48, 49, 50, 51, 52, 53, 54, 55, 56, 57, 58, 59, 60, 61, 62, 63, 64, 65, 66, 67, 68, 69, 70, 71, 72, 73, 74, 75, 76, 77] (by decide +kernel) (by decide +kernel)
set_option maxRecDepth 20000 in
theorem gX10_find_X10_numberOf : GoodIn wsX10_find (wsV RX10 242 RX10 yX10_numberOf wsX10_numberOf) := goodIn_app (goodIn_of _ (by decide +kernel)) ggX10_find_X10_numberOf
set_option maxRecDepth 20000 in
theorem ggX10_dead_X10_isDead : GoodIn wsX10_dead wsX10_isDead := goodIn_r _ [10, 11, 12, 5, 13, 14, 15, 16, 17, 18, 19, 20, 21, 22, 23, 24, 25, 26, 27, 28, 29, 30, 31, 32, 33, 34, 35, 36, 37, 38, 39, 40, 41, 42, 43, 44, 45, 46, 47, 48, 49, 50, 51, 52, 53, 54, 55, 56, 57, 58, 59, 60, 61, 62] (by decide +kernel) (by decide +kernel)
set_option maxRecDepth 20000 in
theorem gX10_dead_X10_isDead : GoodIn wsX10_dead (wsV RX10 261 RX10 yX10_isDead wsX10_isDead) := goodIn_app (goodIn_of _ (by decide +kernel)) ggX10_dead_X10_isDead
set_option maxRecDepth 20000 in
theorem ggX10_stuck_X10_isStep : GoodIn wsX10_stuck wsX10_isStep := goodIn_r _ [12, 13, 22, 23, 24, 25, 26, 27, 28, 29, 30, 31, 32, 33, 34, 35, 36, 37, 38, 39, 40, 41, 42, 43, 44, 45, 46, 47, 48, 49, 50, 51, 52, 53, 54, 55, 56, 57, 58, 59, 60, 61, 62, 63, 64, 65, 66, 67, 68, 69, 70, 71] (by decide +kernel) (by decide +kernel)
set_option maxRecDepth 20000 in
theorem gX10_stuck_X10_isStep : GoodIn wsX10_stuck (wsV RX10 164 RX10 yX10_isStep wsX10_isStep) := goodIn_app (goodIn_of _ (by decide +kernel)) ggX10_stuck_X10_isStep
set_option maxRecDepth 20000 in
theorem ggX10_stuck_X10_spread : GoodIn wsX10_stuck wsX10_spread := goodIn_r _ [17, 4, 13, 5, 6, 7, 22, 23, 24, 25, 26, 27, 28, 29, 30, 31, 32, 33, 34, 35, 36, 37, 38, 39, 40, 41, 42, 43, 44, 45, 46, 47, 48, 49, 50, 51, 52, 53, 54, 55, 56, 57, 58, 59, 60, 61, 62, 63, 64, 65, 66, 67, 68, 69, 70, 71] (by decide +kernel) (by decide +kernel)
set_option maxRecDepth 20000 in
theorem gX10_stuck_X10_spread : GoodIn wsX10_stuck (wsV RX10 264 RX10 yX10_spread wsX10_spread) := goodIn_app (goodIn_of _ (by decide +kernel)) ggX10_stuck_X10_spread
set_option maxRecDepth 20000 in
theorem ggX10_stuck_X10_leastOut : GoodIn wsX10_stuck wsX10_leastOut := goodIn_r _ [21, 4, 5, 7, 22, 23, 24, 25, 26, 27, 28, 29, 30, 31, 32, 33, 34, 35, 36, 37, 38, 39, 40, 41, 42, 43, 44, 45, 46, 47, 48, 49, 50, 51, 52, 53, 54, 55, 56, 57, 58, 59, 60, 61, 62, 63, 64, 65, 66, 67, 68, 69, 70, 71] (by decide +kernel) (by decide +kernel)
set_option maxRecDepth 20000 in
theorem gX10_stuck_X10_leastOut : GoodIn wsX10_stuck (wsV RX10 267 RX10 yX10_leastOut wsX10_leastOut) := goodIn_app (goodIn_of _ (by decide +kernel)) ggX10_stuck_X10_leastOut
set_option maxRecDepth 20000 in
theorem ggX10_leastNotTo_X10_spread : GoodIn wsX10_leastNotTo wsX10_spread := goodIn_r _ [7, 1, 8, 2, 9, 10, 15, 16, 17, 18, 19, 20, 21, 22, 23, 24, 25, 26, 27, 28, 29, 30, 31, 32, 33, 34, 35, 36, 37, 38, 39, 40, 41, 42, 43, 44, 45, 46, 47, 48, 49, 50, 51, 52, 53, 54, 55, 56, 57, 58, 59, 60, 61, 62, 63, 64] (by decide +kernel) (by decide +kernel)
set_option maxRecDepth 20000 in
theorem gX10_leastNotTo_X10_spread : GoodIn wsX10_leastNotTo (wsV RX10 264 RX10 yX10_spread wsX10_spread) := goodIn_app (goodIn_of _ (by decide +kernel)) ggX10_leastNotTo_X10_spread
set_option maxRecDepth 20000 in
theorem ggX10_leastNotTo_X10_leastOut : GoodIn wsX10_leastNotTo wsX10_leastOut := goodIn_r _ [14, 1, 2, 10, 15, 16, 17, 18, 19, 20, 21, 22, 23, 24, 25, 26, 27, 28, 29, 30, 31, 32, 33, 34, 35, 36, 37, 38, 39, 40, 41, 42, 43, 44, 45, 46, 47, 48, 49, 50, 51, 52, 53, 54, 55, 56, 57, 58, 59, 60, 61, 62, 63, 64] (by decide +kernel) (by decide +kernel)
set_option maxRecDepth 20000 in
theorem gX10_leastNotTo_X10_leastOut : GoodIn wsX10_leastNotTo (wsV RX10 267 RX10 yX10_leastOut wsX10_leastOut) := goodIn_app (goodIn_of _ (by decide +kernel)) ggX10_leastNotTo_X10_leastOut
set_option maxRecDepth 20000 in
theorem ggX10_home_X10_askField : GoodIn wsX10_home wsX10_askField := goodIn_r _ [6, 7, 8, 9, 10, 11, 12, 5, 13, 29, 30, 31, 32, 33, 34, 35, 36, 37, 38, 39, 40, 41, 42, 43, 44, 45, 46, 47, 48, 49, 50, 51, 52, 53, 54, 55, 56, 57, 58, 59, 60, 61, 62, 63, 64, 65, 66, 67, 68, 69, 70, 71, 72, 73, 74, 75, 76, 77, 78] (by decide +kernel) (by decide +kernel)
set_option maxRecDepth 20000 in
theorem gX10_home_X10_askField : GoodIn wsX10_home (wsV RX10 255 RX10 yX10_askField wsX10_askField) := goodIn_app (goodIn_of _ (by decide +kernel)) ggX10_home_X10_askField
set_option maxRecDepth 20000 in
theorem ggX10_home_X10_leastNotTo : GoodIn wsX10_home wsX10_leastNotTo := goodIn_r _ [17, 9, 18, 19, 20, 21, 5, 22, 23, 24, 1, 25, 26, 27, 28, 29, 30, 31, 32, 33, 34, 35, 36, 37, 38, 39, 40, 41, 42, 43, 44, 45, 46, 47, 48, 49, 50, 51, 52, 53, 54, 55, 56, 57, 58, 59, 60, 61, 62, 63, 64, 65, 66, 67, 68, 69, 70, 71, 72, 73, 74, 75, 76, 77, 78] (by decide +kernel) (by decide +kernel)
set_option maxRecDepth 20000 in
theorem gX10_home_X10_leastNotTo : GoodIn wsX10_home (wsV RX10 270 RX10 yX10_leastNotTo wsX10_leastNotTo) := goodIn_app (goodIn_of _ (by decide +kernel)) ggX10_home_X10_leastNotTo
set_option maxRecDepth 20000 in
theorem ggX10_works_X10_isPlace : GoodIn wsX10_works wsX10_isPlace := goodIn_r _ [12, 3, 91, 92, 93, 94, 95, 96, 97, 98, 99, 100, 101, 102, 103, 104, 105, 106, 107, 108, 109, 110, 111, 112, 113, 114, 115, 116, 117, 118, 119, 120, 121, 122, 123, 124, 125, 126, 127, 128, 129, 130, 131, 132, 133, 134, 135, 136, 137, 138, 139, 140] (by decide +kernel) (by decide +kernel)
set_option maxRecDepth 20000 in
theorem gX10_works_X10_isPlace : GoodIn wsX10_works (wsV RX10 168 RX10 yX10_isPlace wsX10_isPlace) := goodIn_app (goodIn_of _ (by decide +kernel)) ggX10_works_X10_isPlace
set_option maxRecDepth 20000 in
theorem ggX10_works_X10_isIn : GoodIn wsX10_works wsX10_isIn := goodIn_r _ [15] (by decide +kernel) (by decide +kernel)
set_option maxRecDepth 20000 in
theorem gX10_works_X10_isIn : GoodIn wsX10_works (va_wsS RX10 155 yX10_isIn wsX10_isIn) := goodIn_app (goodIn_of _ (by decide +kernel)) ggX10_works_X10_isIn
set_option maxRecDepth 20000 in
theorem ggX10_works_X10_hasColour : GoodIn wsX10_works wsX10_hasColour := goodIn_r _ [19, 3, 20, 91, 92, 93, 94, 95, 96, 97, 98, 99, 100, 101, 102, 103, 104, 105, 106, 107, 108, 109, 110, 111, 112, 113, 114, 115, 116, 117, 118, 119, 120, 121, 122, 123, 124, 125, 126, 127, 128, 129, 130, 131, 132, 133, 134, 135, 136, 137, 138, 139, 140] (by decide +kernel) (by decide +kernel)
set_option maxRecDepth 20000 in
theorem gX10_works_X10_hasColour : GoodIn wsX10_works (wsV RX10 228 RX10 yX10_hasColour wsX10_hasColour) := goodIn_app (goodIn_of _ (by decide +kernel)) ggX10_works_X10_hasColour
set_option maxRecDepth 20000 in
theorem ggX10_works_X10_makeField : GoodIn wsX10_works wsX10_makeField := goodIn_r _ [24, 25, 7, 26, 5, 27, 28, 29, 11, 30, 31, 3, 32, 4, 33, 34, 35, 36, 37, 38, 39, 40, 41, 42, 43, 44, 45, 46, 47, 48, 49, 50, 51, 52, 53, 54, 55, 56, 57, 58, 59, 60, 61, 62, 63, 64, 65, 66, 67, 68, 69, 91, 92, 93, 94, 95, 96, 97, 98, 99, 100, 101, 102, 103, 104, 105, 106, 107, 108, 109, 110, 111, 112, 113, 114, 115, 116, 117, 118, 119, 120, 121, 122, 123, 124, 125, 126, 127, 128, 129, 130, 131, 132, 133, 134, 135, 136, 137, 138, 139, 140] (by decide +kernel) (by decide +kernel)
set_option maxRecDepth 20000 in
theorem gX10_works_X10_makeField : GoodIn wsX10_works (wsV RX10 252 RX10 yX10_makeField wsX10_makeField) := goodIn_app (goodIn_of _ (by decide +kernel)) ggX10_works_X10_makeField
set_option maxRecDepth 20000 in
theorem ggX10_works_X10_numberOf : GoodIn wsX10_works wsX10_numberOf := goodIn_r _ [69, 25, 31, 7, 35, 36, 37, 11, 38, 39, 40, 41, 42, 3, 32, 4, 91, 92, 93, 94, 95, 96, 97, 98, 99, 100, 101, 102, 103, 104, 105, 106, 107, 108, 109, 110, 111, 112, 113, 114, 115, 116, 117, 118, 119, 120, 121, 122, 123, 124, 125, 126, 127, 128, 129, 130, 131, 132, 133, 134, 135, 136, 137, 138, 139, 140] (by decide +kernel) (by decide +kernel)
set_option maxRecDepth 20000 in
theorem gX10_works_X10_numberOf : GoodIn wsX10_works (wsV RX10 242 RX10 yX10_numberOf wsX10_numberOf) := goodIn_app (goodIn_of _ (by decide +kernel)) ggX10_works_X10_numberOf
set_option maxRecDepth 20000 in
theorem ggX10_works_X10_leastNotTo : GoodIn wsX10_works wsX10_leastNotTo := goodIn_r _ [73, 25, 74, 75, 76, 77, 11, 78, 47, 48, 7, 79, 80, 81, 82, 91, 92, 93, 94, 95, 96, 97, 98, 99, 100, 101, 102, 103, 104, 105, 106, 107, 108, 109, 110, 111, 112, 113, 114, 115, 116, 117, 118, 119, 120, 121, 122, 123, 124, 125, 126, 127, 128, 129, 130, 131, 132, 133, 134, 135, 136, 137, 138, 139, 140] (by decide +kernel) (by decide +kernel)
set_option maxRecDepth 20000 in
theorem gX10_works_X10_leastNotTo : GoodIn wsX10_works (wsV RX10 270 RX10 yX10_leastNotTo wsX10_leastNotTo) := goodIn_app (goodIn_of _ (by decide +kernel)) ggX10_works_X10_leastNotTo
set_option maxRecDepth 20000 in
theorem ggX10_works_X10_leastOther : GoodIn wsX10_works wsX10_leastOther := goodIn_r _ [86, 25, 32, 7, 91, 92, 93, 94, 95, 96, 97, 98, 99, 100, 101, 102, 103, 104, 105, 106, 107, 108, 109, 110, 111, 112, 113, 114, 115, 116, 117, 118, 119, 120, 121, 122, 123, 124, 125, 126, 127, 128, 129, 130, 131, 132, 133, 134, 135, 136, 137, 138, 139, 140] (by decide +kernel) (by decide +kernel)
set_option maxRecDepth 20000 in
theorem gX10_works_X10_leastOther : GoodIn wsX10_works (wsV RX10 273 RX10 yX10_leastOther wsX10_leastOther) := goodIn_app (goodIn_of _ (by decide +kernel)) ggX10_works_X10_leastOther
set_option maxRecDepth 20000 in
theorem ggX10_works_X10_leastIdle : GoodIn wsX10_works wsX10_leastIdle := goodIn_r _ [90, 47, 25, 48, 7, 91, 92, 93, 94, 95, 96, 97, 98, 99, 100, 101, 102, 103, 104, 105, 106, 107, 108, 109, 110, 111, 112, 113, 114, 115, 116, 117, 118, 119, 120, 121, 122, 123, 124, 125, 126, 127, 128, 129, 130, 131, 132, 133, 134, 135, 136, 137, 138, 139, 140] (by decide +kernel) (by decide +kernel)
set_option maxRecDepth 20000 in
theorem gX10_works_X10_leastIdle : GoodIn wsX10_works (wsV RX10 277 RX10 yX10_leastIdle wsX10_leastIdle) := goodIn_app (goodIn_of _ (by decide +kernel)) ggX10_works_X10_leastIdle
set_option maxRecDepth 20000 in
theorem ggX10_isWithin_X10_isMore : GoodIn wsX10_isWithin wsX10_isMore := goodIn_r _ [6] (by decide +kernel) (by decide +kernel)
set_option maxRecDepth 20000 in
theorem gX10_isWithin_X10_isMore : GoodIn wsX10_isWithin (va_wsS RX10 280 yX10_isMore wsX10_isMore) := goodIn_app (goodIn_of _ (by decide +kernel)) ggX10_isWithin_X10_isMore
set_option maxRecDepth 20000 in
theorem ggX10_grows_X10_isWithin : GoodIn wsX10_grows wsX10_isWithin := goodIn_r _ [7, 1, 2, 8, 9, 6, 10, 11, 12, 13, 14, 15, 16, 17, 18, 19, 20, 21, 22, 23, 24, 25, 26, 27, 28, 29, 30, 31, 32, 33, 34, 35, 36, 37, 38, 39, 40, 41, 42, 43, 44, 45, 46, 47, 48, 49, 50, 51, 52, 53, 54, 55, 56, 57, 58, 59, 60] (by decide +kernel) (by decide +kernel)
set_option maxRecDepth 20000 in
theorem gX10_grows_X10_isWithin : GoodIn wsX10_grows (wsV RX10 283 RX10 yX10_isWithin wsX10_isWithin) := goodIn_app (goodIn_of _ (by decide +kernel)) ggX10_grows_X10_isWithin
set_option maxRecDepth 20000 in
theorem ggX10_grows_X10_isMore : GoodIn wsX10_grows wsX10_isMore := goodIn_r _ [10] (by decide +kernel) (by decide +kernel)
set_option maxRecDepth 20000 in
theorem gX10_grows_X10_isMore : GoodIn wsX10_grows (va_wsS RX10 280 yX10_isMore wsX10_isMore) := goodIn_app (goodIn_of _ (by decide +kernel)) ggX10_grows_X10_isMore
set_option maxRecDepth 20000 in
theorem ggX10_addNode_X10_grows : GoodIn wsX10_addNode wsX10_grows := goodIn_r _ [13, 2, 3, 14, 15, 16, 12, 17, 18, 19, 20, 21, 22, 23, 24, 25, 26, 27, 28, 29, 30, 31, 32, 33, 34, 35, 36, 37, 38, 39, 40, 41, 42, 43, 44, 45, 46, 47, 48, 49, 50, 51, 52, 53, 54, 55, 56, 57, 58, 59, 60, 61, 62, 63, 64, 65, 66, 67, 68, 69, 70] (by decide +kernel) (by decide +kernel)
set_option maxRecDepth 20000 in
theorem gX10_addNode_X10_grows : GoodIn wsX10_addNode (wsV RX10 286 RX10 yX10_grows wsX10_grows) := goodIn_app (goodIn_of _ (by decide +kernel)) ggX10_addNode_X10_grows
set_option maxRecDepth 20000 in
theorem ggX10_isTwice_X10_isSame : GoodIn wsX10_isTwice wsX10_isSame := goodIn_r _ [5, 6, 7, 8, 9, 10, 11, 12, 13, 14, 15, 16, 17, 18, 19, 20, 21, 22, 23, 24, 25, 26, 27, 28, 29, 30, 31, 32, 33, 34, 35, 36, 37, 38, 39, 40, 41, 42, 43, 44, 45, 46, 47, 48, 49, 50, 51, 52, 53, 54, 55, 56, 57] (by decide +kernel) (by decide +kernel)
set_option maxRecDepth 20000 in
theorem gX10_isTwice_X10_isSame : GoodIn wsX10_isTwice (wsV RX10 289 RX10 yX10_isSame wsX10_isSame) := goodIn_app (goodIn_of _ (by decide +kernel)) ggX10_isTwice_X10_isSame
set_option maxRecDepth 20000 in
theorem ggX10_isPlainNet_X10_hasColour : GoodIn wsX10_isPlainNet wsX10_hasColour := goodIn_r _ [7, 8, 9, 10, 11, 12, 13, 14, 15, 16, 17, 18, 19, 20, 21, 22, 23, 24, 25, 26, 27, 28, 29, 30, 31, 32, 33, 34, 35, 36, 37, 38, 39, 40, 41, 42, 43, 44, 45, 46, 47, 48, 49, 50, 51, 52, 53, 54, 55, 56, 57, 58, 59] (by decide +kernel) (by decide +kernel)
set_option maxRecDepth 20000 in
theorem gX10_isPlainNet_X10_hasColour : GoodIn wsX10_isPlainNet (wsV RX10 228 RX10 yX10_hasColour wsX10_hasColour) := goodIn_app (goodIn_of _ (by decide +kernel)) ggX10_isPlainNet_X10_hasColour
set_option maxRecDepth 20000 in
theorem ggX10_tree_X10_isIn : GoodIn wsX10_tree wsX10_isIn := goodIn_r _ [17] (by decide +kernel) (by decide +kernel)
set_option maxRecDepth 20000 in
theorem gX10_tree_X10_isIn : GoodIn wsX10_tree (va_wsS RX10 155 yX10_isIn wsX10_isIn) := goodIn_app (goodIn_of _ (by decide +kernel)) ggX10_tree_X10_isIn
set_option maxRecDepth 20000 in
theorem ggX10_tree_X10_isPlainNet : GoodIn wsX10_tree wsX10_isPlainNet := goodIn_r _ [21, 12, 22, 23, 24, 25, 16, 26, 3, 27, 58, 59, 60, 61, 62, 63, 64, 65, 66, 67, 68, 69, 70, 71, 72, 73, 74, 75, 76, 77, 78, 79, 80, 81, 82, 83, 84, 85, 86, 87, 88, 89, 90, 91, 92, 93, 94, 95, 96, 97, 98, 99, 100, 101, 102, 103, 104, 105, 106, 107] (by decide +kernel) (by decide +kernel)
set_option maxRecDepth 20000 in
theorem gX10_tree_X10_isPlainNet : GoodIn wsX10_tree (wsV RX10 292 RX10 yX10_isPlainNet wsX10_isPlainNet) := goodIn_app (goodIn_of _ (by decide +kernel)) ggX10_tree_X10_isPlainNet
set_option maxRecDepth 20000 in
theorem ggX10_tree_X10_isTwice : GoodIn wsX10_tree wsX10_isTwice := goodIn_r _ [31, 32, 33, 34, 16, 35, 3, 4, 58, 59, 60, 61, 62, 63, 64, 65, 66, 67, 68, 69, 70, 71, 72, 73, 74, 75, 76, 77, 78, 79, 80, 81, 82, 83, 84, 85, 86, 87, 88, 89, 90, 91, 92, 93, 94, 95, 96, 97, 98, 99, 100, 101, 102, 103, 104, 105, 106, 107] (by decide +kernel) (by decide +kernel)
set_option maxRecDepth 20000 in
theorem gX10_tree_X10_isTwice : GoodIn wsX10_tree (wsV RX10 295 RX10 yX10_isTwice wsX10_isTwice) := goodIn_app (goodIn_of _ (by decide +kernel)) ggX10_tree_X10_isTwice
set_option maxRecDepth 20000 in
theorem ggX10_tree_X10_mayAt : GoodIn wsX10_tree wsX10_mayAt := goodIn_r _ [39, 3, 4, 40, 41, 58, 59, 60, 61, 62, 63, 64, 65, 66, 67, 68, 69, 70, 71, 72, 73, 74, 75, 76, 77, 78, 79, 80, 81, 82, 83, 84, 85, 86, 87, 88, 89, 90, 91, 92, 93, 94, 95, 96, 97, 98, 99, 100, 101, 102, 103, 104, 105, 106, 107] (by decide +kernel) (by decide +kernel)
set_option maxRecDepth 20000 in
theorem gX10_tree_X10_mayAt : GoodIn wsX10_tree (wsV RX10 298 RX10 yX10_mayAt wsX10_mayAt) := goodIn_app (goodIn_of _ (by decide +kernel)) ggX10_tree_X10_mayAt
set_option maxRecDepth 20000 in
theorem ggX10_tree_X10_addNode : GoodIn wsX10_tree wsX10_addNode := goodIn_r _ [45, 9, 3, 4, 46, 40, 6, 8, 7, 47, 48, 49, 16, 50, 51, 52, 53, 54, 55, 56, 57, 58, 59, 60, 61, 62, 63, 64, 65, 66, 67, 68, 69, 70, 71, 72, 73, 74, 75, 76, 77, 78, 79, 80, 81, 82, 83, 84, 85, 86, 87, 88, 89, 90, 91, 92, 93, 94, 95, 96, 97, 98, 99, 100, 101, 102, 103, 104, 105, 106, 107] (by decide +kernel) (by decide +kernel)
set_option maxRecDepth 20000 in
theorem gX10_tree_X10_addNode : GoodIn wsX10_tree (wsV RX10 301 RX10 yX10_addNode wsX10_addNode) := goodIn_app (goodIn_of _ (by decide +kernel)) ggX10_tree_X10_addNode
set_option maxRecDepth 20000 in
theorem ggX10_askTree_X10_isIn : GoodIn wsX10_askTree wsX10_isIn := goodIn_r _ [8] (by decide +kernel) (by decide +kernel)
set_option maxRecDepth 20000 in
theorem gX10_askTree_X10_isIn : GoodIn wsX10_askTree (va_wsS RX10 155 yX10_isIn wsX10_isIn) := goodIn_app (goodIn_of _ (by decide +kernel)) ggX10_askTree_X10_isIn
set_option maxRecDepth 20000 in
theorem ggX10_node_X10_isPlace : GoodIn wsX10_node wsX10_isPlace := goodIn_r _ [7, 8, 23, 24, 25, 26, 27, 28, 29, 30, 31, 32, 33, 34, 35, 36, 37, 38, 39, 40, 41, 42, 43, 44, 45, 46, 47, 48, 49, 50, 51, 52, 53, 54, 55, 56, 57, 58, 59, 60, 61, 62, 63, 64, 65, 66, 67, 68, 69, 70, 71, 72] (by decide +kernel) (by decide +kernel)
set_option maxRecDepth 20000 in
theorem gX10_node_X10_isPlace : GoodIn wsX10_node (wsV RX10 168 RX10 yX10_isPlace wsX10_isPlace) := goodIn_app (goodIn_of _ (by decide +kernel)) ggX10_node_X10_isPlace
set_option maxRecDepth 20000 in
theorem ggX10_node_X10_askTree : GoodIn wsX10_node wsX10_askTree := goodIn_r _ [12, 13, 14, 15, 1, 16, 17, 6, 18, 23, 24, 25, 26, 27, 28, 29, 30, 31, 32, 33, 34, 35, 36, 37, 38, 39, 40, 41, 42, 43, 44, 45, 46, 47, 48, 49, 50, 51, 52, 53, 54, 55, 56, 57, 58, 59, 60, 61, 62, 63, 64, 65, 66, 67, 68, 69, 70, 71, 72] (by decide +kernel) (by decide +kernel)
set_option maxRecDepth 20000 in
theorem gX10_node_X10_askTree : GoodIn wsX10_node (wsV RX10 305 RX10 yX10_askTree wsX10_askTree) := goodIn_app (goodIn_of _ (by decide +kernel)) ggX10_node_X10_askTree
set_option maxRecDepth 20000 in
theorem ggX10_node_X10_shown : GoodIn wsX10_node wsX10_shown := goodIn_r _ [21, 22] (by decide +kernel) (by decide +kernel)
set_option maxRecDepth 20000 in
theorem gX10_node_X10_shown : GoodIn wsX10_node (va_wsS RX10 308 yX10_shown wsX10_shown) := goodIn_app (goodIn_of _ (by decide +kernel)) ggX10_node_X10_shown
set_option maxRecDepth 20000 in
theorem ggX10_above_X10_isIn : GoodIn wsX10_above wsX10_isIn := goodIn_r _ [8] (by decide +kernel) (by decide +kernel)
set_option maxRecDepth 20000 in
theorem gX10_above_X10_isIn : GoodIn wsX10_above (va_wsS RX10 155 yX10_isIn wsX10_isIn) := goodIn_app (goodIn_of _ (by decide +kernel)) ggX10_above_X10_isIn
set_option maxRecDepth 20000 in
theorem ggX10_above_X10_askTree : GoodIn wsX10_above wsX10_askTree := goodIn_r _ [12, 13, 14, 15, 1, 5, 6, 7, 8, 16, 17, 18, 19, 20, 21, 22, 23, 24, 25, 26, 27, 28, 29, 30, 31, 32, 33, 34, 35, 36, 37, 38, 39, 40, 41, 42, 43, 44, 45, 46, 47, 48, 49, 50, 51, 52, 53, 54, 55, 56, 57, 58, 59, 60, 61, 62, 63, 64, 65] (by decide +kernel) (by decide +kernel)
set_option maxRecDepth 20000 in
theorem gX10_above_X10_askTree : GoodIn wsX10_above (wsV RX10 305 RX10 yX10_askTree wsX10_askTree) := goodIn_app (goodIn_of _ (by decide +kernel)) ggX10_above_X10_askTree
set_option maxRecDepth 20000 in
theorem ggX10_cover_X10_told : GoodIn wsX10_cover wsX10_told := goodIn_r _ [11, 12, 13, 14, 15, 16, 17, 18, 19, 20, 21, 22, 23, 24, 25, 26, 27, 28, 29, 30, 31, 32, 33, 34, 35, 36, 37, 38, 39, 40, 41, 42, 43, 44, 45, 46, 47, 48, 49, 50, 51, 52, 53, 54, 55, 56, 57, 58, 59, 60, 61, 62, 63] (by decide +kernel) (by decide +kernel)
set_option maxRecDepth 20000 in
theorem gX10_cover_X10_told : GoodIn wsX10_cover (wsV RX10 258 RX10 yX10_told wsX10_told) := goodIn_app (goodIn_of _ (by decide +kernel)) ggX10_cover_X10_told
set_option maxRecDepth 20000 in
theorem ggX10_bound_X10_isPlace : GoodIn wsX10_bound wsX10_isPlace := goodIn_r _ [10, 11, 19, 20, 21, 22, 23, 24, 25, 26, 27, 28, 29, 30, 31, 32, 33, 34, 35, 36, 37, 38, 39, 40, 41, 42, 43, 44, 45, 46, 47, 48, 49, 50, 51, 52, 53, 54, 55, 56, 57, 58, 59, 60, 61, 62, 63, 64, 65, 66, 67, 68] (by decide +kernel) (by decide +kernel)
set_option maxRecDepth 20000 in
theorem gX10_bound_X10_isPlace : GoodIn wsX10_bound (wsV RX10 168 RX10 yX10_isPlace wsX10_isPlace) := goodIn_app (goodIn_of _ (by decide +kernel)) ggX10_bound_X10_isPlace
set_option maxRecDepth 20000 in
theorem ggX10_bound_X10_isMore : GoodIn wsX10_bound wsX10_isMore := goodIn_r _ [14] (by decide +kernel) (by decide +kernel)
set_option maxRecDepth 20000 in
theorem gX10_bound_X10_isMore : GoodIn wsX10_bound (va_wsS RX10 280 yX10_isMore wsX10_isMore) := goodIn_app (goodIn_of _ (by decide +kernel)) ggX10_bound_X10_isMore
set_option maxRecDepth 20000 in
theorem ggX10_bound_X10_shown : GoodIn wsX10_bound wsX10_shown := goodIn_r _ [17, 18] (by decide +kernel) (by decide +kernel)
set_option maxRecDepth 20000 in
theorem gX10_bound_X10_shown : GoodIn wsX10_bound (va_wsS RX10 308 yX10_shown wsX10_shown) := goodIn_app (goodIn_of _ (by decide +kernel)) ggX10_bound_X10_shown
set_option maxRecDepth 20000 in
theorem ggX10_pump_X10_leastEndless : GoodIn wsX10_pump wsX10_leastEndless := goodIn_r _ [12, 13, 14, 15, 3, 31, 32, 33, 34, 35, 36, 37, 38, 39, 40, 41, 42, 43, 44, 45, 46, 47, 48, 49, 50, 51, 52, 53, 54, 55, 56, 57, 58, 59, 60, 61, 62, 63, 64, 65, 66, 67, 68, 69, 70, 71, 72, 73, 74, 75, 76, 77, 78, 79, 80] (by decide +kernel) (by decide +kernel)
set_option maxRecDepth 20000 in
theorem gX10_pump_X10_leastEndless : GoodIn wsX10_pump (wsV RX10 311 RX10 yX10_leastEndless wsX10_leastEndless) := goodIn_app (goodIn_of _ (by decide +kernel)) ggX10_pump_X10_leastEndless
set_option maxRecDepth 20000 in
theorem ggX10_pump_X10_depthOf : GoodIn wsX10_pump wsX10_depthOf := goodIn_r _ [19, 5, 3, 31, 32, 33, 34, 35, 36, 37, 38, 39, 40, 41, 42, 43, 44, 45, 46, 47, 48, 49, 50, 51, 52, 53, 54, 55, 56, 57, 58, 59, 60, 61, 62, 63, 64, 65, 66, 67, 68, 69, 70, 71, 72, 73, 74, 75, 76, 77, 78, 79, 80] (by decide +kernel) (by decide +kernel)
set_option maxRecDepth 20000 in
theorem gX10_pump_X10_depthOf : GoodIn wsX10_pump (wsV RX10 314 RX10 yX10_depthOf wsX10_depthOf) := goodIn_app (goodIn_of _ (by decide +kernel)) ggX10_pump_X10_depthOf
set_option maxRecDepth 20000 in
theorem ggX10_pump_X10_comeTo : GoodIn wsX10_pump wsX10_comeTo := goodIn_r _ [23, 14, 7, 24, 15, 5, 25, 26, 31, 32, 33, 34, 35, 36, 37, 38, 39, 40, 41, 42, 43, 44, 45, 46, 47, 48, 49, 50, 51, 52, 53, 54, 55, 56, 57, 58, 59, 60, 61, 62, 63, 64, 65, 66, 67, 68, 69, 70, 71, 72, 73, 74, 75, 76, 77, 78, 79, 80] (by decide +kernel) (by decide +kernel)
set_option maxRecDepth 20000 in
theorem gX10_pump_X10_comeTo : GoodIn wsX10_pump (wsV RX10 317 RX10 yX10_comeTo wsX10_comeTo) := goodIn_app (goodIn_of _ (by decide +kernel)) ggX10_pump_X10_comeTo
set_option maxRecDepth 20000 in
theorem ggX10_pump_X10_isLess : GoodIn wsX10_pump wsX10_isLess := goodIn_r _ [30, 14, 15, 24, 31, 32, 33, 34, 35, 36, 37, 38, 39, 40, 41, 42, 43, 44, 45, 46, 47, 48, 49, 50, 51, 52, 53, 54, 55, 56, 57, 58, 59, 60, 61, 62, 63, 64, 65, 66, 67, 68, 69, 70, 71, 72, 73, 74, 75, 76, 77, 78, 79, 80] (by decide +kernel) (by decide +kernel)
set_option maxRecDepth 20000 in
theorem gX10_pump_X10_isLess : GoodIn wsX10_pump (wsV RX10 320 RX10 yX10_isLess wsX10_isLess) := goodIn_app (goodIn_of _ (by decide +kernel)) ggX10_pump_X10_isLess
set_option maxRecDepth 20000 in
theorem ggX10_lessened_X10_common : GoodIn wsX10_lessened wsX10_common := goodIn_r _ [7] (by decide +kernel) (by decide +kernel)
set_option maxRecDepth 20000 in
theorem gX10_lessened_X10_common : GoodIn wsX10_lessened (va_wsS RX10 323 yX10_common wsX10_common) := goodIn_app (goodIn_of _ (by decide +kernel)) ggX10_lessened_X10_common
set_option maxRecDepth 20000 in
theorem ggX10_reduce_X10_firstWith : GoodIn wsX10_reduce wsX10_firstWith := goodIn_r _ [7, 1, 2, 17, 18, 19, 20, 21, 22, 23, 24, 25, 26, 27, 28, 29, 30, 31, 32, 33, 34, 35, 36, 37, 38, 39, 40, 41, 42, 43, 44, 45, 46, 47, 48, 49, 50, 51, 52, 53, 54, 55, 56, 57, 58, 59, 60, 61, 62, 63, 64, 65, 66] (by decide +kernel) (by decide +kernel)
set_option maxRecDepth 20000 in
theorem gX10_reduce_X10_firstWith : GoodIn wsX10_reduce (wsV RX10 331 RX10 yX10_firstWith wsX10_firstWith) := goodIn_app (goodIn_of _ (by decide +kernel)) ggX10_reduce_X10_firstWith
set_option maxRecDepth 20000 in
theorem ggX10_reduce_X10_lessened : GoodIn wsX10_reduce wsX10_lessened := goodIn_r _ [11, 2, 12, 13, 14, 15, 6, 16, 17, 18, 19, 20, 21, 22, 23, 24, 25, 26, 27, 28, 29, 30, 31, 32, 33, 34, 35, 36, 37, 38, 39, 40, 41, 42, 43, 44, 45, 46, 47, 48, 49, 50, 51, 52, 53, 54, 55, 56, 57, 58, 59, 60, 61, 62, 63, 64, 65, 66] (by decide +kernel) (by decide +kernel)
set_option maxRecDepth 20000 in
theorem gX10_reduce_X10_lessened : GoodIn wsX10_reduce (wsV RX10 334 RX10 yX10_lessened wsX10_lessened) := goodIn_app (goodIn_of _ (by decide +kernel)) ggX10_reduce_X10_lessened
set_option maxRecDepth 20000 in
theorem ggX10_layRows_X10_change : GoodIn wsX10_layRows wsX10_change := goodIn_r _ [7, 8, 9, 10, 11, 12, 13, 14, 15, 16, 17, 18, 19, 20, 21, 22, 23, 24, 25, 26, 27, 28, 29, 30, 31, 32, 33, 34, 35, 36, 37, 38, 39, 40, 41, 42, 43, 44, 45, 46, 47, 48, 49, 50, 51, 52, 53, 54, 55, 56, 57, 58, 59] (by decide +kernel) (by decide +kernel)
set_option maxRecDepth 20000 in
theorem gX10_layRows_X10_change : GoodIn wsX10_layRows (wsV RX10 337 RX10 yX10_change wsX10_change) := goodIn_app (goodIn_of _ (by decide +kernel)) ggX10_layRows_X10_change
set_option maxRecDepth 20000 in
theorem ggX10_weights_X10_layRows : GoodIn wsX10_weights wsX10_layRows := goodIn_r _ [10, 11, 12, 13, 14, 15, 9, 16, 17, 18, 40, 41, 42, 43, 44, 45, 46, 47, 48, 49, 50, 51, 52, 53, 54, 55, 56, 57, 58, 59, 60, 61, 62, 63, 64, 65, 66, 67, 68, 69, 70, 71, 72, 73, 74, 75, 76, 77, 78, 79, 80, 81, 82, 83, 84, 85, 86, 87, 88, 89] (by decide +kernel) (by decide +kernel)
set_option maxRecDepth 20000 in
theorem gX10_weights_X10_layRows : GoodIn wsX10_weights (wsV RX10 340 RX10 yX10_layRows wsX10_layRows) := goodIn_app (goodIn_of _ (by decide +kernel)) ggX10_weights_X10_layRows
set_option maxRecDepth 20000 in
theorem ggX10_weights_X10_reduce : GoodIn wsX10_weights wsX10_reduce := goodIn_r _ [22, 11, 12, 23, 24, 25, 9, 26, 27, 28, 29, 30, 31, 32, 33, 34, 35, 40, 41, 42, 43, 44, 45, 46, 47, 48, 49, 50, 51, 52, 53, 54, 55, 56, 57, 58, 59, 60, 61, 62, 63, 64, 65, 66, 67, 68, 69, 70, 71, 72, 73, 74, 75, 76, 77, 78, 79, 80, 81, 82, 83, 84, 85, 86, 87, 88, 89] (by decide +kernel) (by decide +kernel)
set_option maxRecDepth 20000 in
theorem gX10_weights_X10_reduce : GoodIn wsX10_weights (wsV RX10 344 RX10 yX10_reduce wsX10_reduce) := goodIn_app (goodIn_of _ (by decide +kernel)) ggX10_weights_X10_reduce
set_option maxRecDepth 20000 in
theorem ggX10_weights_X10_gather : GoodIn wsX10_weights wsX10_gather := goodIn_r _ [39, 11, 12, 40, 41, 42, 43, 44, 45, 46, 47, 48, 49, 50, 51, 52, 53, 54, 55, 56, 57, 58, 59, 60, 61, 62, 63, 64, 65, 66, 67, 68, 69, 70, 71, 72, 73, 74, 75, 76, 77, 78, 79, 80, 81, 82, 83, 84, 85, 86, 87, 88, 89] (by decide +kernel) (by decide +kernel)
set_option maxRecDepth 20000 in
theorem gX10_weights_X10_gather : GoodIn wsX10_weights (wsV RX10 347 RX10 yX10_gather wsX10_gather) := goodIn_app (goodIn_of _ (by decide +kernel)) ggX10_weights_X10_gather
set_option maxRecDepth 20000 in
theorem ggX10_weight_X10_isIn : GoodIn wsX10_weight wsX10_isIn := goodIn_r _ [7] (by decide +kernel) (by decide +kernel)
set_option maxRecDepth 20000 in
theorem gX10_weight_X10_isIn : GoodIn wsX10_weight (va_wsS RX10 155 yX10_isIn wsX10_isIn) := goodIn_app (goodIn_of _ (by decide +kernel)) ggX10_weight_X10_isIn
set_option maxRecDepth 20000 in
theorem ggX10_weight_X10_isPlace : GoodIn wsX10_weight wsX10_isPlace := goodIn_r _ [11, 12, 13, 14, 15, 16, 17, 18, 19, 20, 21, 22, 23, 24, 25, 26, 27, 28, 29, 30, 31, 32, 33, 34, 35, 36, 37, 38, 39, 40, 41, 42, 43, 44, 45, 46, 47, 48, 49, 50, 51, 52, 53, 54, 55, 56, 57, 58, 59, 60, 61, 62] (by decide +kernel) (by decide +kernel)
set_option maxRecDepth 20000 in
theorem gX10_weight_X10_isPlace : GoodIn wsX10_weight (wsV RX10 168 RX10 yX10_isPlace wsX10_isPlace) := goodIn_app (goodIn_of _ (by decide +kernel)) ggX10_weight_X10_isPlace
set_option maxRecDepth 20000 in
theorem ggX10_rounds_X10_layRows : GoodIn wsX10_rounds wsX10_layRows := goodIn_r _ [10, 11, 12, 13, 14, 15, 9, 16, 17, 18, 40, 41, 42, 43, 44, 45, 46, 47, 48, 49, 50, 51, 52, 53, 54, 55, 56, 57, 58, 59, 60, 61, 62, 63, 64, 65, 66, 67, 68, 69, 70, 71, 72, 73, 74, 75, 76, 77, 78, 79, 80, 81, 82, 83, 84, 85, 86, 87, 88, 89] (by decide +kernel) (by decide +kernel)
set_option maxRecDepth 20000 in
theorem gX10_rounds_X10_layRows : GoodIn wsX10_rounds (wsV RX10 340 RX10 yX10_layRows wsX10_layRows) := goodIn_app (goodIn_of _ (by decide +kernel)) ggX10_rounds_X10_layRows
set_option maxRecDepth 20000 in
theorem ggX10_rounds_X10_reduce : GoodIn wsX10_rounds wsX10_reduce := goodIn_r _ [22, 11, 12, 23, 24, 25, 9, 26, 27, 28, 29, 30, 31, 32, 33, 34, 35, 40, 41, 42, 43, 44, 45, 46, 47, 48, 49, 50, 51, 52, 53, 54, 55, 56, 57, 58, 59, 60, 61, 62, 63, 64, 65, 66, 67, 68, 69, 70, 71, 72, 73, 74, 75, 76, 77, 78, 79, 80, 81, 82, 83, 84, 85, 86, 87, 88, 89] (by decide +kernel) (by decide +kernel)
set_option maxRecDepth 20000 in
theorem gX10_rounds_X10_reduce : GoodIn wsX10_rounds (wsV RX10 344 RX10 yX10_reduce wsX10_reduce) := goodIn_app (goodIn_of _ (by decide +kernel)) ggX10_rounds_X10_reduce
set_option maxRecDepth 20000 in
theorem ggX10_rounds_X10_gather : GoodIn wsX10_rounds wsX10_gather := goodIn_r _ [39, 11, 12, 40, 41, 42, 43, 44, 45, 46, 47, 48, 49, 50, 51, 52, 53, 54, 55, 56, 57, 58, 59, 60, 61, 62, 63, 64, 65, 66, 67, 68, 69, 70, 71, 72, 73, 74, 75, 76, 77, 78, 79, 80, 81, 82, 83, 84, 85, 86, 87, 88, 89] (by decide +kernel) (by decide +kernel)
set_option maxRecDepth 20000 in
theorem gX10_rounds_X10_gather : GoodIn wsX10_rounds (wsV RX10 347 RX10 yX10_gather wsX10_gather) := goodIn_app (goodIn_of _ (by decide +kernel)) ggX10_rounds_X10_gather
set_option maxRecDepth 20000 in
theorem ggX10_round_X10_isIn : GoodIn wsX10_round wsX10_isIn := goodIn_r _ [7] (by decide +kernel) (by decide +kernel)
set_option maxRecDepth 20000 in
theorem gX10_round_X10_isIn : GoodIn wsX10_round (va_wsS RX10 155 yX10_isIn wsX10_isIn) := goodIn_app (goodIn_of _ (by decide +kernel)) ggX10_round_X10_isIn
set_option maxRecDepth 20000 in
theorem ggX10_round_X10_isStep : GoodIn wsX10_round wsX10_isStep := goodIn_r _ [11, 12, 13, 14, 15, 16, 17, 18, 19, 20, 21, 22, 23, 24, 25, 26, 27, 28, 29, 30, 31, 32, 33, 34, 35, 36, 37, 38, 39, 40, 41, 42, 43, 44, 45, 46, 47, 48, 49, 50, 51, 52, 53, 54, 55, 56, 57, 58, 59, 60, 61, 62] (by decide +kernel) (by decide +kernel)
set_option maxRecDepth 20000 in
theorem gX10_round_X10_isStep : GoodIn wsX10_round (wsV RX10 164 RX10 yX10_isStep wsX10_isStep) := goodIn_app (goodIn_of _ (by decide +kernel)) ggX10_round_X10_isStep
set_option maxRecDepth 20000 in
theorem ggX10_keeps_X10_told : GoodIn wsX10_keeps wsX10_told := goodIn_r _ [7, 8, 9, 16, 17, 18, 19, 20, 21, 22, 23, 24, 25, 26, 27, 28, 29, 30, 31, 32, 33, 34, 35, 36, 37, 38, 39, 40, 41, 42, 43, 44, 45, 46, 47, 48, 49, 50, 51, 52, 53, 54, 55, 56, 57, 58, 59, 60, 61, 62, 63, 64, 65] (by decide +kernel) (by decide +kernel)
set_option maxRecDepth 20000 in
theorem gX10_keeps_X10_told : GoodIn wsX10_keeps (wsV RX10 258 RX10 yX10_told wsX10_told) := goodIn_app (goodIn_of _ (by decide +kernel)) ggX10_keeps_X10_told
set_option maxRecDepth 20000 in
theorem ggX10_keeps_X10_change : GoodIn wsX10_keeps wsX10_change := goodIn_r _ [13, 14, 15, 16, 17, 18, 19, 20, 21, 22, 23, 24, 25, 26, 27, 28, 29, 30, 31, 32, 33, 34, 35, 36, 37, 38, 39, 40, 41, 42, 43, 44, 45, 46, 47, 48, 49, 50, 51, 52, 53, 54, 55, 56, 57, 58, 59, 60, 61, 62, 63, 64, 65] (by decide +kernel) (by decide +kernel)
set_option maxRecDepth 20000 in
theorem gX10_keeps_X10_change : GoodIn wsX10_keeps (wsV RX10 337 RX10 yX10_change wsX10_change) := goodIn_app (goodIn_of _ (by decide +kernel)) ggX10_keeps_X10_change
set_option maxRecDepth 20000 in
theorem ggX10_turns_X10_told : GoodIn wsX10_turns wsX10_told := goodIn_r _ [7, 8, 9, 16, 17, 18, 19, 20, 21, 22, 23, 24, 25, 26, 27, 28, 29, 30, 31, 32, 33, 34, 35, 36, 37, 38, 39, 40, 41, 42, 43, 44, 45, 46, 47, 48, 49, 50, 51, 52, 53, 54, 55, 56, 57, 58, 59, 60, 61, 62, 63, 64, 65] (by decide +kernel) (by decide +kernel)
set_option maxRecDepth 20000 in
theorem gX10_turns_X10_told : GoodIn wsX10_turns (wsV RX10 258 RX10 yX10_told wsX10_told) := goodIn_app (goodIn_of _ (by decide +kernel)) ggX10_turns_X10_told
set_option maxRecDepth 20000 in
theorem ggX10_turns_X10_change : GoodIn wsX10_turns wsX10_change := goodIn_r _ [13, 14, 15, 16, 17, 18, 19, 20, 21, 22, 23, 24, 25, 26, 27, 28, 29, 30, 31, 32, 33, 34, 35, 36, 37, 38, 39, 40, 41, 42, 43, 44, 45, 46, 47, 48, 49, 50, 51, 52, 53, 54, 55, 56, 57, 58, 59, 60, 61, 62, 63, 64, 65] (by decide +kernel) (by decide +kernel)
set_option maxRecDepth 20000 in
theorem gX10_turns_X10_change : GoodIn wsX10_turns (wsV RX10 337 RX10 yX10_change wsX10_change) := goodIn_app (goodIn_of _ (by decide +kernel)) ggX10_turns_X10_change
set_option maxRecDepth 20000 in
theorem ggX10_readSteps_X10_bitsOf : GoodIn wsX10_readSteps wsX10_bitsOf := goodIn_r _ [8, 9, 10, 11, 12, 13, 14, 15, 16, 17, 18, 19, 20, 21, 22, 23, 24, 25, 26, 27, 28, 29, 30, 31, 32, 33, 34, 35, 36, 37, 38, 39, 40, 41, 42, 43, 44, 45, 46, 47, 48, 49, 50, 51, 52, 53, 54, 55, 56, 57, 58, 59, 60, 61] (by decide +kernel) (by decide +kernel)
set_option maxRecDepth 20000 in
theorem gX10_readSteps_X10_bitsOf : GoodIn wsX10_readSteps (wsV RX10 351 RX10 yX10_bitsOf wsX10_bitsOf) := goodIn_app (goodIn_of _ (by decide +kernel)) ggX10_readSteps_X10_bitsOf
set_option maxRecDepth 20000 in
theorem ggX10_isLeast_X10_isKept : GoodIn wsX10_isLeast wsX10_isKept := goodIn_r _ [6, 7, 8, 9, 14, 15, 16, 17, 18, 19, 20, 21, 22, 23, 24, 25, 26, 27, 28, 29, 30, 31, 32, 33, 34, 35, 36, 37, 38, 39, 40, 41, 42, 43, 44, 45, 46, 47, 48, 49, 50, 51, 52, 53, 54, 55, 56, 57, 58, 59, 60, 61, 62, 63] (by decide +kernel) (by decide +kernel)
set_option maxRecDepth 20000 in
theorem gX10_isLeast_X10_isKept : GoodIn wsX10_isLeast (wsV RX10 355 RX10 yX10_isKept wsX10_isKept) := goodIn_app (goodIn_of _ (by decide +kernel)) ggX10_isLeast_X10_isKept
set_option maxRecDepth 20000 in
theorem ggX10_isLeast_X10_greatestIn : GoodIn wsX10_isLeast wsX10_greatestIn := goodIn_r _ [13, 7, 9, 8, 14, 15, 16, 17, 18, 19, 20, 21, 22, 23, 24, 25, 26, 27, 28, 29, 30, 31, 32, 33, 34, 35, 36, 37, 38, 39, 40, 41, 42, 43, 44, 45, 46, 47, 48, 49, 50, 51, 52, 53, 54, 55, 56, 57, 58, 59, 60, 61, 62, 63] (by decide +kernel) (by decide +kernel)
set_option maxRecDepth 20000 in
theorem gX10_isLeast_X10_greatestIn : GoodIn wsX10_isLeast (wsV RX10 358 RX10 yX10_greatestIn wsX10_greatestIn) := goodIn_app (goodIn_of _ (by decide +kernel)) ggX10_isLeast_X10_greatestIn
set_option maxRecDepth 20000 in
theorem ggX10_sets_X10_isIn : GoodIn wsX10_sets wsX10_isIn := goodIn_r _ [8] (by decide +kernel) (by decide +kernel)
set_option maxRecDepth 20000 in
theorem gX10_sets_X10_isIn : GoodIn wsX10_sets (va_wsS RX10 155 yX10_isIn wsX10_isIn) := goodIn_app (goodIn_of _ (by decide +kernel)) ggX10_sets_X10_isIn
set_option maxRecDepth 20000 in
theorem ggX10_sets_X10_readSteps : GoodIn wsX10_sets wsX10_readSteps := goodIn_r _ [12, 13, 14, 15, 16, 17, 18, 7, 19, 3, 20, 21, 34, 35, 36, 37, 38, 39, 40, 41, 42, 43, 44, 45, 46, 47, 48, 49, 50, 51, 52, 53, 54, 55, 56, 57, 58, 59, 60, 61, 62, 63, 64, 65, 66, 67, 68, 69, 70, 71, 72, 73, 74, 75, 76, 77, 78, 79, 80, 81, 82, 83] (by decide +kernel) (by decide +kernel)
set_option maxRecDepth 20000 in
theorem gX10_sets_X10_readSteps : GoodIn wsX10_sets (wsV RX10 361 RX10 yX10_readSteps wsX10_readSteps) := goodIn_app (goodIn_of _ (by decide +kernel)) ggX10_sets_X10_readSteps
set_option maxRecDepth 20000 in
theorem ggX10_sets_X10_isLeast : GoodIn wsX10_sets wsX10_isLeast := goodIn_r _ [25, 3, 26, 27, 28, 7, 29, 13, 14, 15, 30, 31, 32, 33, 34, 35, 36, 37, 38, 39, 40, 41, 42, 43, 44, 45, 46, 47, 48, 49, 50, 51, 52, 53, 54, 55, 56, 57, 58, 59, 60, 61, 62, 63, 64, 65, 66, 67, 68, 69, 70, 71, 72, 73, 74, 75, 76, 77, 78, 79, 80, 81, 82, 83] (by decide +kernel) (by decide +kernel)
set_option maxRecDepth 20000 in
theorem gX10_sets_X10_isLeast : GoodIn wsX10_sets (wsV RX10 364 RX10 yX10_isLeast wsX10_isLeast) := goodIn_app (goodIn_of _ (by decide +kernel)) ggX10_sets_X10_isLeast
set_option maxRecDepth 20000 in
theorem ggX10_bits_X10_isIn : GoodIn wsX10_bits wsX10_isIn := goodIn_r _ [7] (by decide +kernel) (by decide +kernel)
set_option maxRecDepth 20000 in
theorem gX10_bits_X10_isIn : GoodIn wsX10_bits (va_wsS RX10 155 yX10_isIn wsX10_isIn) := goodIn_app (goodIn_of _ (by decide +kernel)) ggX10_bits_X10_isIn
set_option maxRecDepth 20000 in
theorem ggX10_areBits_X10_isIn : GoodIn wsX10_areBits wsX10_isIn := goodIn_r _ [5] (by decide +kernel) (by decide +kernel)
set_option maxRecDepth 20000 in
theorem gX10_areBits_X10_isIn : GoodIn wsX10_areBits (va_wsS RX10 155 yX10_isIn wsX10_isIn) := goodIn_app (goodIn_of _ (by decide +kernel)) ggX10_areBits_X10_isIn
set_option maxRecDepth 20000 in
theorem ggX10_isSet_X10_areBits : GoodIn wsX10_isSet wsX10_areBits := goodIn_r _ [6, 7, 8, 9, 5, 10, 28, 29, 30, 31, 32, 33, 34, 35, 36, 37, 38, 39, 40, 41, 42, 43, 44, 45, 46, 47, 48, 49, 50, 51, 52, 53, 54, 55, 56, 57, 58, 59, 60, 61, 62, 63, 64, 65, 66, 67, 68, 69, 70, 71, 72, 73, 74, 75, 76, 77] (by decide +kernel) (by decide +kernel)
set_option maxRecDepth 20000 in
theorem gX10_isSet_X10_areBits : GoodIn wsX10_isSet (wsV RX10 367 RX10 yX10_areBits wsX10_areBits) := goodIn_app (goodIn_of _ (by decide +kernel)) ggX10_isSet_X10_areBits
set_option maxRecDepth 20000 in
theorem ggX10_isSet_X10_readSteps : GoodIn wsX10_isSet wsX10_readSteps := goodIn_r _ [14, 15, 16, 17, 18, 19, 20, 5, 21, 7, 22, 23, 28, 29, 30, 31, 32, 33, 34, 35, 36, 37, 38, 39, 40, 41, 42, 43, 44, 45, 46, 47, 48, 49, 50, 51, 52, 53, 54, 55, 56, 57, 58, 59, 60, 61, 62, 63, 64, 65, 66, 67, 68, 69, 70, 71, 72, 73, 74, 75, 76, 77] (by decide +kernel) (by decide +kernel)
set_option maxRecDepth 20000 in
theorem gX10_isSet_X10_readSteps : GoodIn wsX10_isSet (wsV RX10 361 RX10 yX10_readSteps wsX10_readSteps) := goodIn_app (goodIn_of _ (by decide +kernel)) ggX10_isSet_X10_readSteps
set_option maxRecDepth 20000 in
theorem ggX10_isSet_X10_isKept : GoodIn wsX10_isSet wsX10_isKept := goodIn_r _ [27, 15, 16, 17, 28, 29, 30, 31, 32, 33, 34, 35, 36, 37, 38, 39, 40, 41, 42, 43, 44, 45, 46, 47, 48, 49, 50, 51, 52, 53, 54, 55, 56, 57, 58, 59, 60, 61, 62, 63, 64, 65, 66, 67, 68, 69, 70, 71, 72, 73, 74, 75, 76, 77] (by decide +kernel) (by decide +kernel)
set_option maxRecDepth 20000 in
theorem gX10_isSet_X10_isKept : GoodIn wsX10_isSet (wsV RX10 355 RX10 yX10_isKept wsX10_isKept) := goodIn_app (goodIn_of _ (by decide +kernel)) ggX10_isSet_X10_isKept
set_option maxRecDepth 20000 in
theorem ggX10_greatest_X10_areBits : GoodIn wsX10_greatest wsX10_areBits := goodIn_r _ [6, 7, 8, 9, 5, 10, 28, 29, 30, 31, 32, 33, 34, 35, 36, 37, 38, 39, 40, 41, 42, 43, 44, 45, 46, 47, 48, 49, 50, 51, 52, 53, 54, 55, 56, 57, 58, 59, 60, 61, 62, 63, 64, 65, 66, 67, 68, 69, 70, 71, 72, 73, 74, 75, 76, 77] (by decide +kernel) (by decide +kernel)
set_option maxRecDepth 20000 in
theorem gX10_greatest_X10_areBits : GoodIn wsX10_greatest (wsV RX10 367 RX10 yX10_areBits wsX10_areBits) := goodIn_app (goodIn_of _ (by decide +kernel)) ggX10_greatest_X10_areBits
set_option maxRecDepth 20000 in
theorem ggX10_greatest_X10_readSteps : GoodIn wsX10_greatest wsX10_readSteps := goodIn_r _ [14, 15, 16, 17, 18, 19, 20, 5, 21, 7, 22, 23, 28, 29, 30, 31, 32, 33, 34, 35, 36, 37, 38, 39, 40, 41, 42, 43, 44, 45, 46, 47, 48, 49, 50, 51, 52, 53, 54, 55, 56, 57, 58, 59, 60, 61, 62, 63, 64, 65, 66, 67, 68, 69, 70, 71, 72, 73, 74, 75, 76, 77] (by decide +kernel) (by decide +kernel)
set_option maxRecDepth 20000 in
theorem gX10_greatest_X10_readSteps : GoodIn wsX10_greatest (wsV RX10 361 RX10 yX10_readSteps wsX10_readSteps) := goodIn_app (goodIn_of _ (by decide +kernel)) ggX10_greatest_X10_readSteps
set_option maxRecDepth 20000 in
theorem ggX10_greatest_X10_greatestIn : GoodIn wsX10_greatest wsX10_greatestIn := goodIn_r _ [27, 15, 17, 16, 28, 29, 30, 31, 32, 33, 34, 35, 36, 37, 38, 39, 40, 41, 42, 43, 44, 45, 46, 47, 48, 49, 50, 51, 52, 53, 54, 55, 56, 57, 58, 59, 60, 61, 62, 63, 64, 65, 66, 67, 68, 69, 70, 71, 72, 73, 74, 75, 76, 77] (by decide +kernel) (by decide +kernel)
set_option maxRecDepth 20000 in
theorem gX10_greatest_X10_greatestIn : GoodIn wsX10_greatest (wsV RX10 358 RX10 yX10_greatestIn wsX10_greatestIn) := goodIn_app (goodIn_of _ (by decide +kernel)) ggX10_greatest_X10_greatestIn
set_option maxRecDepth 20000 in
theorem ggX10_isSimple_X10_hasColour : GoodIn wsX10_isSimple wsX10_hasColour := goodIn_r _ [10, 3, 11, 12, 13, 14, 15, 16, 17, 18, 19, 20, 21, 22, 23, 24, 25, 26, 27, 28, 29, 30, 31, 32, 33, 34, 35, 36, 37, 38, 39, 40, 41, 42, 43, 44, 45, 46, 47, 48, 49, 50, 51, 52, 53, 54, 55, 56, 57, 58, 59, 60, 61] (by decide +kernel) (by decide +kernel)
set_option maxRecDepth 20000 in
theorem gX10_isSimple_X10_hasColour : GoodIn wsX10_isSimple (wsV RX10 228 RX10 yX10_hasColour wsX10_hasColour) := goodIn_app (goodIn_of _ (by decide +kernel)) ggX10_isSimple_X10_hasColour
set_option maxRecDepth 20000 in
theorem ggX10_free_X10_isSimple : GoodIn wsX10_free wsX10_isSimple := goodIn_r _ [8, 2, 9, 1, 3, 10, 11, 12, 13, 7, 14, 15, 24, 25, 26, 27, 28, 29, 30, 31, 32, 33, 34, 35, 36, 37, 38, 39, 40, 41, 42, 43, 44, 45, 46, 47, 48, 49, 50, 51, 52, 53, 54, 55, 56, 57, 58, 59, 60, 61, 62, 63, 64, 65, 66, 67, 68, 69, 70, 71, 72, 73] (by decide +kernel) (by decide +kernel)
set_option maxRecDepth 20000 in
theorem gX10_free_X10_isSimple : GoodIn wsX10_free (wsV RX10 370 RX10 yX10_isSimple wsX10_isSimple) := goodIn_app (goodIn_of _ (by decide +kernel)) ggX10_free_X10_isSimple
set_option maxRecDepth 20000 in
theorem ggX10_free_X10_bitsOf : GoodIn wsX10_free wsX10_bitsOf := goodIn_r _ [19, 1, 3, 10, 24, 25, 26, 27, 28, 29, 30, 31, 32, 33, 34, 35, 36, 37, 38, 39, 40, 41, 42, 43, 44, 45, 46, 47, 48, 49, 50, 51, 52, 53, 54, 55, 56, 57, 58, 59, 60, 61, 62, 63, 64, 65, 66, 67, 68, 69, 70, 71, 72, 73] (by decide +kernel) (by decide +kernel)
set_option maxRecDepth 20000 in
theorem gX10_free_X10_bitsOf : GoodIn wsX10_free (wsV RX10 351 RX10 yX10_bitsOf wsX10_bitsOf) := goodIn_app (goodIn_of _ (by decide +kernel)) ggX10_free_X10_bitsOf
set_option maxRecDepth 20000 in
theorem ggX10_free_X10_manyBits : GoodIn wsX10_free wsX10_manyBits := goodIn_r _ [23] (by decide +kernel) (by decide +kernel)
set_option maxRecDepth 20000 in
theorem gX10_free_X10_manyBits : GoodIn wsX10_free (wsV RX10 373 RX10 yX10_manyBits wsX10_manyBits) := goodIn_app (goodIn_of _ (by decide +kernel)) ggX10_free_X10_manyBits
set_option maxRecDepth 20000 in
theorem ggX10_bare_X10_readSteps : GoodIn wsX10_bare wsX10_readSteps := goodIn_r _ [6, 7, 8, 9, 10, 11, 12, 5, 13, 1, 14, 15, 33, 34, 35, 36, 37, 38, 39, 40, 41, 42, 43, 44, 45, 46, 47, 48, 49, 50, 51, 52, 53, 54, 55, 56, 57, 58, 59, 60, 61, 62, 63, 64, 65, 66, 67, 68, 69, 70, 71, 72, 73, 74, 75, 76, 77, 78, 79, 80, 81, 82] (by decide +kernel) (by decide +kernel)
set_option maxRecDepth 20000 in
theorem gX10_bare_X10_readSteps : GoodIn wsX10_bare (wsV RX10 361 RX10 yX10_readSteps wsX10_readSteps) := goodIn_app (goodIn_of _ (by decide +kernel)) ggX10_bare_X10_readSteps
set_option maxRecDepth 20000 in
theorem ggX10_bare_X10_isLeast : GoodIn wsX10_bare wsX10_isLeast := goodIn_r _ [19, 1, 20, 21, 22, 5, 23, 7, 8, 9, 24, 25, 26, 27, 33, 34, 35, 36, 37, 38, 39, 40, 41, 42, 43, 44, 45, 46, 47, 48, 49, 50, 51, 52, 53, 54, 55, 56, 57, 58, 59, 60, 61, 62, 63, 64, 65, 66, 67, 68, 69, 70, 71, 72, 73, 74, 75, 76, 77, 78, 79, 80, 81, 82] (by decide +kernel) (by decide +kernel)
set_option maxRecDepth 20000 in
theorem gX10_bare_X10_isLeast : GoodIn wsX10_bare (wsV RX10 364 RX10 yX10_isLeast wsX10_isLeast) := goodIn_app (goodIn_of _ (by decide +kernel)) ggX10_bare_X10_isLeast
set_option maxRecDepth 20000 in
theorem ggX10_bare_X10_greatestIn : GoodIn wsX10_bare wsX10_greatestIn := goodIn_r _ [27, 7, 9, 8, 33, 34, 35, 36, 37, 38, 39, 40, 41, 42, 43, 44, 45, 46, 47, 48, 49, 50, 51, 52, 53, 54, 55, 56, 57, 58, 59, 60, 61, 62, 63, 64, 65, 66, 67, 68, 69, 70, 71, 72, 73, 74, 75, 76, 77, 78, 79, 80, 81, 82] (by decide +kernel) (by decide +kernel)
set_option maxRecDepth 20000 in
theorem gX10_bare_X10_greatestIn : GoodIn wsX10_bare (wsV RX10 358 RX10 yX10_greatestIn wsX10_greatestIn) := goodIn_app (goodIn_of _ (by decide +kernel)) ggX10_bare_X10_greatestIn
set_option maxRecDepth 20000 in
theorem ggX10_bare_X10_holds : GoodIn wsX10_bare wsX10_holds := goodIn_r _ [31, 1, 32, 33, 34, 35, 36, 37, 38, 39, 40, 41, 42, 43, 44, 45, 46, 47, 48, 49, 50, 51, 52, 53, 54, 55, 56, 57, 58, 59, 60, 61, 62, 63, 64, 65, 66, 67, 68, 69, 70, 71, 72, 73, 74, 75, 76, 77, 78, 79, 80, 81, 82] (by decide +kernel) (by decide +kernel)
set_option maxRecDepth 20000 in
theorem gX10_bare_X10_holds : GoodIn wsX10_bare (wsV RX10 376 RX10 yX10_holds wsX10_holds) := goodIn_app (goodIn_of _ (by decide +kernel)) ggX10_bare_X10_holds
