set_option maxRecDepth 20000 in
theorem ggX12_most_X12_areCurves : GoodIn wsX12_most wsX12_areCurves := goodIn_r _ [5, 6, 7, 8, 4, 9, 10, 11, 12, 13, 156, 157, 158, 159, 160, 161, 162, 163, 164, 165, 166, 167, 168, 169, 170, 171, 172, 173, 174, 175, 176, 177, 178, 179, 180, 181, 182, 183, 184, 185, 186, 187, 188, 189, 190, 191, 192] rfl (by decide +kernel)
set_option maxRecDepth 20000 in
theorem gX12_most_X12_areCurves : GoodIn wsX12_most (wsV RX12 363 RX12 yX12_areCurves wsX12_areCurves) := goodIn_app (goodIn_of _ (by decide +kernel)) ggX12_most_X12_areCurves
set_option maxRecDepth 20000 in
theorem ggX12_most_X12_isIn : GoodIn wsX12_most wsX12_isIn := goodIn_r _ [13] rfl (by decide +kernel)
set_option maxRecDepth 20000 in
theorem gX12_most_X12_isIn : GoodIn wsX12_most (va_wsS RX12 271 yX12_isIn wsX12_isIn) := goodIn_app (goodIn_of _ (by decide +kernel)) ggX12_most_X12_isIn
set_option maxRecDepth 20000 in
theorem ggX12_most_X12_points : GoodIn wsX12_most wsX12_points := goodIn_r _ [17, 18, 156, 157, 158, 159, 160, 161, 162, 163, 164, 165, 166, 167, 168, 169, 170, 171, 172, 173, 174, 175, 176, 177, 178, 179, 180, 181, 182, 183, 184, 185, 186, 187, 188, 189, 190, 191, 192] rfl (by decide +kernel)
set_option maxRecDepth 20000 in
theorem gX12_most_X12_points : GoodIn wsX12_most (wsV RX12 274 RX12 yX12_points wsX12_points) := goodIn_app (goodIn_of _ (by decide +kernel)) ggX12_most_X12_points
set_option maxRecDepth 20000 in
theorem ggX12_most_X12_areOn : GoodIn wsX12_most wsX12_areOn := goodIn_r _ [22, 23, 24, 25, 4, 26, 27, 28, 29, 30, 31, 32, 33, 34, 35, 36, 37, 38, 39, 18, 40, 41, 42, 43, 44, 45, 46, 47, 14, 15, 16, 17, 48, 49, 50, 51, 52, 53, 54, 55, 56, 57, 58, 59, 156, 157, 158, 159, 160, 161, 162, 163, 164, 165, 166, 167, 168, 169, 170, 171, 172, 173, 174, 175, 176, 177, 178, 179, 180, 181, 182, 183, 184, 185, 186, 187, 188, 189, 190, 191, 192] rfl (by decide +kernel)
set_option maxRecDepth 20000 in
theorem gX12_most_X12_areOn : GoodIn wsX12_most (wsV RX12 420 RX12 yX12_areOn wsX12_areOn) := goodIn_app (goodIn_of _ (by decide +kernel)) ggX12_most_X12_areOn
set_option maxRecDepth 20000 in
theorem ggX12_most_X12_timesAt : GoodIn wsX12_most wsX12_timesAt := goodIn_r _ [63, 64, 65, 66, 67, 68, 69, 70, 4, 71, 72, 73, 27, 28, 29, 30, 31, 32, 33, 34, 35, 74, 75, 76, 77, 78, 79, 80, 81, 82, 83, 84, 85, 52, 53, 54, 55, 18, 86, 87, 88, 89, 90, 91, 92, 93, 94, 95, 96, 97, 98, 99, 100, 101, 48, 49, 50, 51, 102, 103, 104, 105, 106, 107, 108, 109, 110, 111, 112, 113, 114, 115, 116, 117, 36, 37, 38, 39, 40, 41, 42, 43, 44, 45, 46, 47, 14, 15, 16, 17, 56, 57, 58, 59, 118, 119, 120, 121, 122, 123, 124, 125, 126, 127, 128, 129, 130, 131, 132, 133, 134, 135, 136, 137, 138, 139, 140, 141, 142, 143, 144, 145, 146, 147, 148, 149, 150, 151, 152, 153, 154, 155, 156, 157, 158, 159, 160, 161, 162, 163, 164, 165, 166, 167, 168, 169, 170, 171, 172, 173, 174, 175, 176, 177, 178, 179, 180, 181, 182, 183, 184, 185, 186, 187, 188, 189, 190, 191, 192] rfl (by decide +kernel)
set_option maxRecDepth 20000 in
theorem gX12_most_X12_timesAt : GoodIn wsX12_most (wsV RX12 395 RX12 yX12_timesAt wsX12_timesAt) := goodIn_app (goodIn_of _ (by decide +kernel)) ggX12_most_X12_timesAt
set_option maxRecDepth 20000 in
theorem ggX12_undo_X12_isRefused : GoodIn wsX12_undo wsX12_isRefused := goodIn_r _ [10, 11, 12, 13, 14, 15, 16, 17, 18, 19, 20, 21, 22, 23, 24, 25, 26, 27, 28, 29, 30, 31, 32, 33, 34, 35, 36, 37, 38, 39, 40, 41, 42, 43, 44, 45, 46, 47, 48] rfl (by decide +kernel)
set_option maxRecDepth 20000 in
theorem gX12_undo_X12_isRefused : GoodIn wsX12_undo (wsV RX12 132 RX12 yX12_isRefused wsX12_isRefused) := goodIn_app (goodIn_of _ (by decide +kernel)) ggX12_undo_X12_isRefused
set_option maxRecDepth 20000 in
theorem ggX12_canMove_X12_modulo : GoodIn wsX12_canMove wsX12_modulo := goodIn_r _ [5, 6, 7, 8, 9, 10, 11, 12, 13, 14, 15, 16, 17, 18, 19, 20, 21, 22, 23, 24, 25, 26, 27, 28, 29, 30, 31, 32, 33, 34, 35, 36, 37, 38, 39, 40, 41, 42, 43] rfl (by decide +kernel)
set_option maxRecDepth 20000 in
theorem gX12_canMove_X12_modulo : GoodIn wsX12_canMove (wsV RX12 176 RX12 yX12_modulo wsX12_modulo) := goodIn_app (goodIn_of _ (by decide +kernel)) ggX12_canMove_X12_modulo
set_option maxRecDepth 20000 in
theorem ggX12_moves_X12_empties : GoodIn wsX12_moves wsX12_empties := goodIn_r _ [5, 6, 33, 34, 35, 36, 37, 38, 39, 40, 41, 42, 43, 44, 45, 46, 47, 48, 49, 50, 51, 52, 53, 54, 55, 56, 57, 58, 59, 60, 61, 62, 63, 64, 65, 66, 67, 68, 69] rfl (by decide +kernel)
set_option maxRecDepth 20000 in
theorem gX12_moves_X12_empties : GoodIn wsX12_moves (wsV RX12 192 RX12 yX12_empties wsX12_empties) := goodIn_app (goodIn_of _ (by decide +kernel)) ggX12_moves_X12_empties
set_option maxRecDepth 20000 in
theorem ggX12_moves_X12_sets : GoodIn wsX12_moves wsX12_sets := goodIn_r _ [10, 6, 11, 12, 13, 4, 14, 15, 33, 34, 35, 36, 37, 38, 39, 40, 41, 42, 43, 44, 45, 46, 47, 48, 49, 50, 51, 52, 53, 54, 55, 56, 57, 58, 59, 60, 61, 62, 63, 64, 65, 66, 67, 68, 69] rfl (by decide +kernel)
set_option maxRecDepth 20000 in
theorem gX12_moves_X12_sets : GoodIn wsX12_moves (wsV RX12 188 RX12 yX12_sets wsX12_sets) := goodIn_app (goodIn_of _ (by decide +kernel)) ggX12_moves_X12_sets
set_option maxRecDepth 20000 in
theorem ggX12_moves_X12_cell : GoodIn wsX12_moves wsX12_cell := goodIn_r _ [19, 6, 33, 34, 35, 36, 37, 38, 39, 40, 41, 42, 43, 44, 45, 46, 47, 48, 49, 50, 51, 52, 53, 54, 55, 56, 57, 58, 59, 60, 61, 62, 63, 64, 65, 66, 67, 68, 69] rfl (by decide +kernel)
set_option maxRecDepth 20000 in
theorem gX12_moves_X12_cell : GoodIn wsX12_moves (wsV RX12 184 RX12 yX12_cell wsX12_cell) := goodIn_app (goodIn_of _ (by decide +kernel)) ggX12_moves_X12_cell
set_option maxRecDepth 20000 in
theorem ggX12_moves_X12_multiplies : GoodIn wsX12_moves wsX12_multiplies := goodIn_r _ [23, 24, 15, 16, 17, 18, 4, 19, 6, 1, 2, 3, 5, 7, 8, 9, 10, 11, 12, 13, 14, 33, 34, 35, 36, 37, 38, 39, 40, 41, 42, 43, 44, 45, 46, 47, 48, 49, 50, 51, 52, 53, 54, 55, 56, 57, 58, 59, 60, 61, 62, 63, 64, 65, 66, 67, 68, 69] rfl (by decide +kernel)
set_option maxRecDepth 20000 in
theorem gX12_moves_X12_multiplies : GoodIn wsX12_moves (wsV RX12 220 RX12 yX12_multiplies wsX12_multiplies) := goodIn_app (goodIn_of _ (by decide +kernel)) ggX12_moves_X12_multiplies
set_option maxRecDepth 20000 in
theorem ggX12_moves_X12_adds : GoodIn wsX12_moves wsX12_adds := goodIn_r _ [28, 16, 17, 18, 4, 19, 6, 7, 8, 9, 10, 11, 12, 13, 14, 15, 33, 34, 35, 36, 37, 38, 39, 40, 41, 42, 43, 44, 45, 46, 47, 48, 49, 50, 51, 52, 53, 54, 55, 56, 57, 58, 59, 60, 61, 62, 63, 64, 65, 66, 67, 68, 69] rfl (by decide +kernel)
set_option maxRecDepth 20000 in
theorem gX12_moves_X12_adds : GoodIn wsX12_moves (wsV RX12 207 RX12 yX12_adds wsX12_adds) := goodIn_app (goodIn_of _ (by decide +kernel)) ggX12_moves_X12_adds
set_option maxRecDepth 20000 in
theorem ggX12_moves_X12_copies : GoodIn wsX12_moves wsX12_copies := goodIn_r _ [32, 6, 33, 34, 35, 36, 37, 38, 39, 40, 41, 42, 43, 44, 45, 46, 47, 48, 49, 50, 51, 52, 53, 54, 55, 56, 57, 58, 59, 60, 61, 62, 63, 64, 65, 66, 67, 68, 69] rfl (by decide +kernel)
set_option maxRecDepth 20000 in
theorem gX12_moves_X12_copies : GoodIn wsX12_moves (wsV RX12 236 RX12 yX12_copies wsX12_copies) := goodIn_app (goodIn_of _ (by decide +kernel)) ggX12_moves_X12_copies
set_option maxRecDepth 20000 in
theorem ggX12_move_X12_canMove : GoodIn wsX12_move wsX12_canMove := goodIn_r _ [6, 7, 8, 9, 5, 10, 11, 54, 55, 56, 57, 58, 59, 60, 61, 62, 63, 64, 65, 66, 67, 68, 69, 70, 71, 72, 73, 74, 75, 76, 77, 78, 79, 80, 81, 82, 83, 84, 85, 86, 87, 88, 89, 90] rfl (by decide +kernel)
set_option maxRecDepth 20000 in
theorem gX12_move_X12_canMove : GoodIn wsX12_move (wsV RX12 430 RX12 yX12_canMove wsX12_canMove) := goodIn_app (goodIn_of _ (by decide +kernel)) ggX12_move_X12_canMove
set_option maxRecDepth 20000 in
theorem ggX12_move_X12_isRefused : GoodIn wsX12_move wsX12_isRefused := goodIn_r _ [15, 16, 54, 55, 56, 57, 58, 59, 60, 61, 62, 63, 64, 65, 66, 67, 68, 69, 70, 71, 72, 73, 74, 75, 76, 77, 78, 79, 80, 81, 82, 83, 84, 85, 86, 87, 88, 89, 90] rfl (by decide +kernel)
set_option maxRecDepth 20000 in
theorem gX12_move_X12_isRefused : GoodIn wsX12_move (wsV RX12 132 RX12 yX12_isRefused wsX12_isRefused) := goodIn_app (goodIn_of _ (by decide +kernel)) ggX12_move_X12_isRefused
set_option maxRecDepth 20000 in
theorem ggX12_move_X12_keeps : GoodIn wsX12_move wsX12_keeps := goodIn_r _ [20, 21, 22, 1, 23, 24, 54, 55, 56, 57, 58, 59, 60, 61, 62, 63, 64, 65, 66, 67, 68, 69, 70, 71, 72, 73, 74, 75, 76, 77, 78, 79, 80, 81, 82, 83, 84, 85, 86, 87, 88, 89, 90] rfl (by decide +kernel)
set_option maxRecDepth 20000 in
theorem gX12_move_X12_keeps : GoodIn wsX12_move (wsV RX12 434 RX12 yX12_keeps wsX12_keeps) := goodIn_app (goodIn_of _ (by decide +kernel)) ggX12_move_X12_keeps
set_option maxRecDepth 20000 in
theorem ggX12_move_X12_moves : GoodIn wsX12_move wsX12_moves := goodIn_r _ [28, 29, 30, 31, 5, 32, 24, 33, 34, 35, 36, 7, 8, 9, 10, 11, 37, 38, 39, 40, 41, 42, 43, 44, 45, 46, 47, 48, 49, 50, 51, 52, 53, 54, 55, 56, 57, 58, 59, 60, 61, 62, 63, 64, 65, 66, 67, 68, 69, 70, 71, 72, 73, 74, 75, 76, 77, 78, 79, 80, 81, 82, 83, 84, 85, 86, 87, 88, 89, 90] rfl (by decide +kernel)
set_option maxRecDepth 20000 in
theorem gX12_move_X12_moves : GoodIn wsX12_move (wsV RX12 437 RX12 yX12_moves wsX12_moves) := goodIn_app (goodIn_of _ (by decide +kernel)) ggX12_move_X12_moves
set_option maxRecDepth 20000 in
theorem ggX12_moved_X12_isPoint : GoodIn wsX12_moved wsX12_isPoint := goodIn_r _ [6, 7, 8, 9, 5, 10, 1, 11, 12, 13, 42, 43, 44, 45, 46, 47, 48, 49, 50, 51, 52, 53, 54, 55, 56, 57, 58, 59, 60, 61, 62, 63, 64, 65, 66, 67, 68, 69, 70, 71, 72, 73, 74, 75, 76, 77, 78] rfl (by decide +kernel)
set_option maxRecDepth 20000 in
theorem gX12_moved_X12_isPoint : GoodIn wsX12_moved (wsV RX12 296 RX12 yX12_isPoint wsX12_isPoint) := goodIn_app (goodIn_of _ (by decide +kernel)) ggX12_moved_X12_isPoint
set_option maxRecDepth 20000 in
theorem ggX12_moved_X12_canMove : GoodIn wsX12_moved wsX12_canMove := goodIn_r _ [17, 18, 19, 20, 5, 21, 1, 42, 43, 44, 45, 46, 47, 48, 49, 50, 51, 52, 53, 54, 55, 56, 57, 58, 59, 60, 61, 62, 63, 64, 65, 66, 67, 68, 69, 70, 71, 72, 73, 74, 75, 76, 77, 78] rfl (by decide +kernel)
set_option maxRecDepth 20000 in
theorem gX12_moved_X12_canMove : GoodIn wsX12_moved (wsV RX12 430 RX12 yX12_canMove wsX12_canMove) := goodIn_app (goodIn_of _ (by decide +kernel)) ggX12_moved_X12_canMove
set_option maxRecDepth 20000 in
theorem ggX12_moved_X12_modulo : GoodIn wsX12_moved wsX12_modulo := goodIn_r _ [21, 1, 42, 43, 44, 45, 46, 47, 48, 49, 50, 51, 52, 53, 54, 55, 56, 57, 58, 59, 60, 61, 62, 63, 64, 65, 66, 67, 68, 69, 70, 71, 72, 73, 74, 75, 76, 77, 78] rfl (by decide +kernel)
set_option maxRecDepth 20000 in
theorem gX12_moved_X12_modulo : GoodIn wsX12_moved (wsV RX12 176 RX12 yX12_modulo wsX12_modulo) := goodIn_app (goodIn_of _ (by decide +kernel)) ggX12_moved_X12_modulo
set_option maxRecDepth 20000 in
theorem ggX12_moved_X12_inverse : GoodIn wsX12_moved wsX12_inverse := goodIn_r _ [25, 1, 26, 27, 28, 5, 29, 18, 19, 20, 21, 42, 43, 44, 45, 46, 47, 48, 49, 50, 51, 52, 53, 54, 55, 56, 57, 58, 59, 60, 61, 62, 63, 64, 65, 66, 67, 68, 69, 70, 71, 72, 73, 74, 75, 76, 77, 78] rfl (by decide +kernel)
set_option maxRecDepth 20000 in
theorem gX12_moved_X12_inverse : GoodIn wsX12_moved (wsV RX12 328 RX12 yX12_inverse wsX12_inverse) := goodIn_app (goodIn_of _ (by decide +kernel)) ggX12_moved_X12_inverse
set_option maxRecDepth 20000 in
theorem ggX12_moved_X12_xOf : GoodIn wsX12_moved wsX12_xOf := goodIn_r _ [33, 1, 34, 35, 36, 5, 37, 7, 8, 9, 10, 42, 43, 44, 45, 46, 47, 48, 49, 50, 51, 52, 53, 54, 55, 56, 57, 58, 59, 60, 61, 62, 63, 64, 65, 66, 67, 68, 69, 70, 71, 72, 73, 74, 75, 76, 77, 78] rfl (by decide +kernel)
set_option maxRecDepth 20000 in
theorem gX12_moved_X12_xOf : GoodIn wsX12_moved (wsV RX12 280 RX12 yX12_xOf wsX12_xOf) := goodIn_app (goodIn_of _ (by decide +kernel)) ggX12_moved_X12_xOf
set_option maxRecDepth 20000 in
theorem ggX12_moved_X12_isNear : GoodIn wsX12_moved wsX12_isNear := goodIn_r _ [37, 1, 42, 43, 44, 45, 46, 47, 48, 49, 50, 51, 52, 53, 54, 55, 56, 57, 58, 59, 60, 61, 62, 63, 64, 65, 66, 67, 68, 69, 70, 71, 72, 73, 74, 75, 76, 77, 78] rfl (by decide +kernel)
set_option maxRecDepth 20000 in
theorem gX12_moved_X12_isNear : GoodIn wsX12_moved (wsV RX12 277 RX12 yX12_isNear wsX12_isNear) := goodIn_app (goodIn_of _ (by decide +kernel)) ggX12_moved_X12_isNear
set_option maxRecDepth 20000 in
theorem ggX12_moved_X12_yOf : GoodIn wsX12_moved wsX12_yOf := goodIn_r _ [41, 1, 34, 35, 36, 5, 37, 7, 8, 9, 10, 42, 43, 44, 45, 46, 47, 48, 49, 50, 51, 52, 53, 54, 55, 56, 57, 58, 59, 60, 61, 62, 63, 64, 65, 66, 67, 68, 69, 70, 71, 72, 73, 74, 75, 76, 77, 78] rfl (by decide +kernel)
set_option maxRecDepth 20000 in
theorem gX12_moved_X12_yOf : GoodIn wsX12_moved (wsV RX12 283 RX12 yX12_yOf wsX12_yOf) := goodIn_app (goodIn_of _ (by decide +kernel)) ggX12_moved_X12_yOf
set_option maxRecDepth 20000 in
theorem ggX12_moved_X12_points : GoodIn wsX12_moved wsX12_points := goodIn_r _ [10, 1, 42, 43, 44, 45, 46, 47, 48, 49, 50, 51, 52, 53, 54, 55, 56, 57, 58, 59, 60, 61, 62, 63, 64, 65, 66, 67, 68, 69, 70, 71, 72, 73, 74, 75, 76, 77, 78] rfl (by decide +kernel)
set_option maxRecDepth 20000 in
theorem gX12_moved_X12_points : GoodIn wsX12_moved (wsV RX12 274 RX12 yX12_points wsX12_points) := goodIn_app (goodIn_of _ (by decide +kernel)) ggX12_moved_X12_points
set_option maxRecDepth 20000 in
theorem ggX12_isLine_X12_empties : GoodIn wsX12_isLine wsX12_empties := goodIn_r _ [5, 6, 28, 29, 30, 31, 32, 33, 34, 35, 36, 37, 38, 39, 40, 41, 42, 43, 44, 45, 46, 47, 48, 49, 50, 51, 52, 53, 54, 55, 56, 57, 58, 59, 60, 61, 62, 63, 64] rfl (by decide +kernel)
set_option maxRecDepth 20000 in
theorem gX12_isLine_X12_empties : GoodIn wsX12_isLine (wsV RX12 192 RX12 yX12_empties wsX12_empties) := goodIn_app (goodIn_of _ (by decide +kernel)) ggX12_isLine_X12_empties
set_option maxRecDepth 20000 in
theorem ggX12_isLine_X12_sets : GoodIn wsX12_isLine wsX12_sets := goodIn_r _ [10, 6, 11, 12, 13, 4, 14, 15, 28, 29, 30, 31, 32, 33, 34, 35, 36, 37, 38, 39, 40, 41, 42, 43, 44, 45, 46, 47, 48, 49, 50, 51, 52, 53, 54, 55, 56, 57, 58, 59, 60, 61, 62, 63, 64] rfl (by decide +kernel)
set_option maxRecDepth 20000 in
theorem gX12_isLine_X12_sets : GoodIn wsX12_isLine (wsV RX12 188 RX12 yX12_sets wsX12_sets) := goodIn_app (goodIn_of _ (by decide +kernel)) ggX12_isLine_X12_sets
set_option maxRecDepth 20000 in
theorem ggX12_isLine_X12_cell : GoodIn wsX12_isLine wsX12_cell := goodIn_r _ [19, 6, 28, 29, 30, 31, 32, 33, 34, 35, 36, 37, 38, 39, 40, 41, 42, 43, 44, 45, 46, 47, 48, 49, 50, 51, 52, 53, 54, 55, 56, 57, 58, 59, 60, 61, 62, 63, 64] rfl (by decide +kernel)
set_option maxRecDepth 20000 in
theorem gX12_isLine_X12_cell : GoodIn wsX12_isLine (wsV RX12 184 RX12 yX12_cell wsX12_cell) := goodIn_app (goodIn_of _ (by decide +kernel)) ggX12_isLine_X12_cell
set_option maxRecDepth 20000 in
theorem ggX12_isLine_X12_inverse : GoodIn wsX12_isLine wsX12_inverse := goodIn_r _ [23, 15, 24, 25, 26, 4, 27, 11, 12, 13, 14, 28, 29, 30, 31, 32, 33, 34, 35, 36, 37, 38, 39, 40, 41, 42, 43, 44, 45, 46, 47, 48, 49, 50, 51, 52, 53, 54, 55, 56, 57, 58, 59, 60, 61, 62, 63, 64] rfl (by decide +kernel)
set_option maxRecDepth 20000 in
theorem gX12_isLine_X12_inverse : GoodIn wsX12_isLine (wsV RX12 328 RX12 yX12_inverse wsX12_inverse) := goodIn_app (goodIn_of _ (by decide +kernel)) ggX12_isLine_X12_inverse
set_option maxRecDepth 20000 in
theorem ggX12_makesLine_X12_isPoint : GoodIn wsX12_makesLine wsX12_isPoint := goodIn_r _ [5, 6, 7, 8, 4, 9, 10, 11, 12, 13, 55, 56, 57, 58, 59, 60, 61, 62, 63, 64, 65, 66, 67, 68, 69, 70, 71, 72, 73, 74, 75, 76, 77, 78, 79, 80, 81, 82, 83, 84, 85, 86, 87, 88, 89, 90, 91] rfl (by decide +kernel)
set_option maxRecDepth 20000 in
theorem gX12_makesLine_X12_isPoint : GoodIn wsX12_makesLine (wsV RX12 296 RX12 yX12_isPoint wsX12_isPoint) := goodIn_app (goodIn_of _ (by decide +kernel)) ggX12_makesLine_X12_isPoint
set_option maxRecDepth 20000 in
theorem ggX12_makesLine_X12_isNear : GoodIn wsX12_makesLine wsX12_isNear := goodIn_r _ [17, 10, 55, 56, 57, 58, 59, 60, 61, 62, 63, 64, 65, 66, 67, 68, 69, 70, 71, 72, 73, 74, 75, 76, 77, 78, 79, 80, 81, 82, 83, 84, 85, 86, 87, 88, 89, 90, 91] rfl (by decide +kernel)
set_option maxRecDepth 20000 in
theorem gX12_makesLine_X12_isNear : GoodIn wsX12_makesLine (wsV RX12 277 RX12 yX12_isNear wsX12_isNear) := goodIn_app (goodIn_of _ (by decide +kernel)) ggX12_makesLine_X12_isNear
set_option maxRecDepth 20000 in
theorem ggX12_makesLine_X12_yOf : GoodIn wsX12_makesLine wsX12_yOf := goodIn_r _ [21, 10, 14, 15, 16, 4, 17, 6, 7, 8, 9, 55, 56, 57, 58, 59, 60, 61, 62, 63, 64, 65, 66, 67, 68, 69, 70, 71, 72, 73, 74, 75, 76, 77, 78, 79, 80, 81, 82, 83, 84, 85, 86, 87, 88, 89, 90, 91] rfl (by decide +kernel)
set_option maxRecDepth 20000 in
theorem gX12_makesLine_X12_yOf : GoodIn wsX12_makesLine (wsV RX12 283 RX12 yX12_yOf wsX12_yOf) := goodIn_app (goodIn_of _ (by decide +kernel)) ggX12_makesLine_X12_yOf
set_option maxRecDepth 20000 in
theorem ggX12_makesLine_X12_modulo : GoodIn wsX12_makesLine wsX12_modulo := goodIn_r _ [25, 10, 55, 56, 57, 58, 59, 60, 61, 62, 63, 64, 65, 66, 67, 68, 69, 70, 71, 72, 73, 74, 75, 76, 77, 78, 79, 80, 81, 82, 83, 84, 85, 86, 87, 88, 89, 90, 91] rfl (by decide +kernel)
set_option maxRecDepth 20000 in
theorem gX12_makesLine_X12_modulo : GoodIn wsX12_makesLine (wsV RX12 176 RX12 yX12_modulo wsX12_modulo) := goodIn_app (goodIn_of _ (by decide +kernel)) ggX12_makesLine_X12_modulo
set_option maxRecDepth 20000 in
theorem ggX12_makesLine_X12_xOf : GoodIn wsX12_makesLine wsX12_xOf := goodIn_r _ [29, 10, 14, 15, 16, 4, 17, 6, 7, 8, 9, 55, 56, 57, 58, 59, 60, 61, 62, 63, 64, 65, 66, 67, 68, 69, 70, 71, 72, 73, 74, 75, 76, 77, 78, 79, 80, 81, 82, 83, 84, 85, 86, 87, 88, 89, 90, 91] rfl (by decide +kernel)
set_option maxRecDepth 20000 in
theorem gX12_makesLine_X12_xOf : GoodIn wsX12_makesLine (wsV RX12 280 RX12 yX12_xOf wsX12_xOf) := goodIn_app (goodIn_of _ (by decide +kernel)) ggX12_makesLine_X12_xOf
set_option maxRecDepth 20000 in
theorem ggX12_makesLine_X12_isLine : GoodIn wsX12_makesLine wsX12_isLine := goodIn_r _ [33, 34, 35, 36, 4, 37, 38, 39, 40, 41, 42, 22, 23, 24, 25, 10, 43, 44, 45, 46, 47, 48, 49, 50, 51, 52, 53, 54, 55, 56, 57, 58, 59, 60, 61, 62, 63, 64, 65, 66, 67, 68, 69, 70, 71, 72, 73, 74, 75, 76, 77, 78, 79, 80, 81, 82, 83, 84, 85, 86, 87, 88, 89, 90, 91] rfl (by decide +kernel)
set_option maxRecDepth 20000 in
theorem gX12_makesLine_X12_isLine : GoodIn wsX12_makesLine (wsV RX12 441 RX12 yX12_isLine wsX12_isLine) := goodIn_app (goodIn_of _ (by decide +kernel)) ggX12_makesLine_X12_isLine
set_option maxRecDepth 20000 in
theorem ggX12_makesTangent_X12_isCurve : GoodIn wsX12_makesTangent wsX12_isCurve := goodIn_r _ [5, 6, 7, 8, 4, 9, 83, 84, 85, 86, 87, 88, 89, 90, 91, 92, 93, 94, 95, 96, 97, 98, 99, 100, 101, 102, 103, 104, 105, 106, 107, 108, 109, 110, 111, 112, 113, 114, 115, 116, 117, 118, 119] rfl (by decide +kernel)
set_option maxRecDepth 20000 in
theorem gX12_makesTangent_X12_isCurve : GoodIn wsX12_makesTangent (wsV RX12 286 RX12 yX12_isCurve wsX12_isCurve) := goodIn_app (goodIn_of _ (by decide +kernel)) ggX12_makesTangent_X12_isCurve
set_option maxRecDepth 20000 in
theorem ggX12_makesTangent_X12_isPoint : GoodIn wsX12_makesTangent wsX12_isPoint := goodIn_r _ [13, 14, 15, 16, 4, 17, 18, 7, 8, 9, 83, 84, 85, 86, 87, 88, 89, 90, 91, 92, 93, 94, 95, 96, 97, 98, 99, 100, 101, 102, 103, 104, 105, 106, 107, 108, 109, 110, 111, 112, 113, 114, 115, 116, 117, 118, 119] rfl (by decide +kernel)
set_option maxRecDepth 20000 in
theorem gX12_makesTangent_X12_isPoint : GoodIn wsX12_makesTangent (wsV RX12 296 RX12 yX12_isPoint wsX12_isPoint) := goodIn_app (goodIn_of _ (by decide +kernel)) ggX12_makesTangent_X12_isPoint
set_option maxRecDepth 20000 in
theorem ggX12_makesTangent_X12_orderAt : GoodIn wsX12_makesTangent wsX12_orderAt := goodIn_r _ [22, 23, 24, 25, 4, 26, 18, 27, 28, 29, 30, 31, 32, 33, 34, 35, 36, 37, 38, 39, 40, 41, 42, 43, 44, 45, 46, 47, 48, 49, 50, 14, 15, 16, 17, 51, 52, 53, 54, 55, 56, 57, 58, 59, 60, 61, 62, 63, 64, 65, 66, 67, 68, 69, 70, 71, 72, 73, 74, 83, 84, 85, 86, 87, 88, 89, 90, 91, 92, 93, 94, 95, 96, 97, 98, 99, 100, 101, 102, 103, 104, 105, 106, 107, 108, 109, 110, 111, 112, 113, 114, 115, 116, 117, 118, 119] rfl (by decide +kernel)
set_option maxRecDepth 20000 in
theorem gX12_makesTangent_X12_orderAt : GoodIn wsX12_makesTangent (wsV RX12 316 RX12 yX12_orderAt wsX12_orderAt) := goodIn_app (goodIn_of _ (by decide +kernel)) ggX12_makesTangent_X12_orderAt
set_option maxRecDepth 20000 in
theorem ggX12_makesTangent_X12_cell : GoodIn wsX12_makesTangent wsX12_cell := goodIn_r _ [34, 35, 83, 84, 85, 86, 87, 88, 89, 90, 91, 92, 93, 94, 95, 96, 97, 98, 99, 100, 101, 102, 103, 104, 105, 106, 107, 108, 109, 110, 111, 112, 113, 114, 115, 116, 117, 118, 119] rfl (by decide +kernel)
set_option maxRecDepth 20000 in
theorem gX12_makesTangent_X12_cell : GoodIn wsX12_makesTangent (wsV RX12 184 RX12 yX12_cell wsX12_cell) := goodIn_app (goodIn_of _ (by decide +kernel)) ggX12_makesTangent_X12_cell
set_option maxRecDepth 20000 in
theorem ggX12_makesTangent_X12_isNear : GoodIn wsX12_makesTangent wsX12_isNear := goodIn_r _ [43, 18, 83, 84, 85, 86, 87, 88, 89, 90, 91, 92, 93, 94, 95, 96, 97, 98, 99, 100, 101, 102, 103, 104, 105, 106, 107, 108, 109, 110, 111, 112, 113, 114, 115, 116, 117, 118, 119] rfl (by decide +kernel)
set_option maxRecDepth 20000 in
theorem gX12_makesTangent_X12_isNear : GoodIn wsX12_makesTangent (wsV RX12 277 RX12 yX12_isNear wsX12_isNear) := goodIn_app (goodIn_of _ (by decide +kernel)) ggX12_makesTangent_X12_isNear
set_option maxRecDepth 20000 in
theorem ggX12_makesTangent_X12_xOf : GoodIn wsX12_makesTangent wsX12_xOf := goodIn_r _ [62, 18, 40, 41, 42, 4, 43, 14, 15, 16, 17, 83, 84, 85, 86, 87, 88, 89, 90, 91, 92, 93, 94, 95, 96, 97, 98, 99, 100, 101, 102, 103, 104, 105, 106, 107, 108, 109, 110, 111, 112, 113, 114, 115, 116, 117, 118, 119] rfl (by decide +kernel)
set_option maxRecDepth 20000 in
theorem gX12_makesTangent_X12_xOf : GoodIn wsX12_makesTangent (wsV RX12 280 RX12 yX12_xOf wsX12_xOf) := goodIn_app (goodIn_of _ (by decide +kernel)) ggX12_makesTangent_X12_xOf
set_option maxRecDepth 20000 in
theorem ggX12_makesTangent_X12_yOf : GoodIn wsX12_makesTangent wsX12_yOf := goodIn_r _ [50, 18, 40, 41, 42, 4, 43, 14, 15, 16, 17, 83, 84, 85, 86, 87, 88, 89, 90, 91, 92, 93, 94, 95, 96, 97, 98, 99, 100, 101, 102, 103, 104, 105, 106, 107, 108, 109, 110, 111, 112, 113, 114, 115, 116, 117, 118, 119] rfl (by decide +kernel)
set_option maxRecDepth 20000 in
theorem gX12_makesTangent_X12_yOf : GoodIn wsX12_makesTangent (wsV RX12 283 RX12 yX12_yOf wsX12_yOf) := goodIn_app (goodIn_of _ (by decide +kernel)) ggX12_makesTangent_X12_yOf
set_option maxRecDepth 20000 in
theorem ggX12_makesTangent_X12_modulo : GoodIn wsX12_makesTangent wsX12_modulo := goodIn_r _ [58, 18, 83, 84, 85, 86, 87, 88, 89, 90, 91, 92, 93, 94, 95, 96, 97, 98, 99, 100, 101, 102, 103, 104, 105, 106, 107, 108, 109, 110, 111, 112, 113, 114, 115, 116, 117, 118, 119] rfl (by decide +kernel)
set_option maxRecDepth 20000 in
theorem gX12_makesTangent_X12_modulo : GoodIn wsX12_makesTangent (wsV RX12 176 RX12 yX12_modulo wsX12_modulo) := goodIn_app (goodIn_of _ (by decide +kernel)) ggX12_makesTangent_X12_modulo
set_option maxRecDepth 20000 in
theorem ggX12_makesTangent_X12_isLine : GoodIn wsX12_makesTangent wsX12_isLine := goodIn_r _ [78, 36, 37, 38, 4, 39, 35, 67, 68, 69, 70, 55, 56, 57, 58, 18, 31, 32, 33, 34, 79, 80, 81, 82, 51, 52, 53, 54, 83, 84, 85, 86, 87, 88, 89, 90, 91, 92, 93, 94, 95, 96, 97, 98, 99, 100, 101, 102, 103, 104, 105, 106, 107, 108, 109, 110, 111, 112, 113, 114, 115, 116, 117, 118, 119] rfl (by decide +kernel)
set_option maxRecDepth 20000 in
theorem gX12_makesTangent_X12_isLine : GoodIn wsX12_makesTangent (wsV RX12 441 RX12 yX12_isLine wsX12_isLine) := goodIn_app (goodIn_of _ (by decide +kernel)) ggX12_makesTangent_X12_isLine
set_option maxRecDepth 20000 in
theorem ggX12_makesTangent_X12_points : GoodIn wsX12_makesTangent wsX12_points := goodIn_r _ [17, 18, 83, 84, 85, 86, 87, 88, 89, 90, 91, 92, 93, 94, 95, 96, 97, 98, 99, 100, 101, 102, 103, 104, 105, 106, 107, 108, 109, 110, 111, 112, 113, 114, 115, 116, 117, 118, 119] rfl (by decide +kernel)
set_option maxRecDepth 20000 in
theorem gX12_makesTangent_X12_points : GoodIn wsX12_makesTangent (wsV RX12 274 RX12 yX12_points wsX12_points) := goodIn_app (goodIn_of _ (by decide +kernel)) ggX12_makesTangent_X12_points
set_option maxRecDepth 20000 in
theorem ggX12_makesDerivative_X12_isCurve : GoodIn wsX12_makesDerivative wsX12_isCurve := goodIn_r _ [5, 6, 7, 8, 4, 9, 32, 33, 34, 35, 36, 37, 38, 39, 40, 41, 42, 43, 44, 45, 46, 47, 48, 49, 50, 51, 52, 53, 54, 55, 56, 57, 58, 59, 60, 61, 62, 63, 64, 65, 66, 67, 68] rfl (by decide +kernel)
set_option maxRecDepth 20000 in
theorem gX12_makesDerivative_X12_isCurve : GoodIn wsX12_makesDerivative (wsV RX12 286 RX12 yX12_isCurve wsX12_isCurve) := goodIn_app (goodIn_of _ (by decide +kernel)) ggX12_makesDerivative_X12_isCurve
set_option maxRecDepth 20000 in
theorem ggX12_makesDerivative_X12_isIn : GoodIn wsX12_makesDerivative wsX12_isIn := goodIn_r _ [9] rfl (by decide +kernel)
set_option maxRecDepth 20000 in
theorem gX12_makesDerivative_X12_isIn : GoodIn wsX12_makesDerivative (va_wsS RX12 271 yX12_isIn wsX12_isIn) := goodIn_app (goodIn_of _ (by decide +kernel)) ggX12_makesDerivative_X12_isIn
set_option maxRecDepth 20000 in
theorem ggX12_makesDerivative_X12_empties : GoodIn wsX12_makesDerivative wsX12_empties := goodIn_r _ [13, 14, 32, 33, 34, 35, 36, 37, 38, 39, 40, 41, 42, 43, 44, 45, 46, 47, 48, 49, 50, 51, 52, 53, 54, 55, 56, 57, 58, 59, 60, 61, 62, 63, 64, 65, 66, 67, 68] rfl (by decide +kernel)
set_option maxRecDepth 20000 in
theorem gX12_makesDerivative_X12_empties : GoodIn wsX12_makesDerivative (wsV RX12 192 RX12 yX12_empties wsX12_empties) := goodIn_app (goodIn_of _ (by decide +kernel)) ggX12_makesDerivative_X12_empties
set_option maxRecDepth 20000 in
theorem ggX12_makesDerivative_X12_cell : GoodIn wsX12_makesDerivative wsX12_cell := goodIn_r _ [18, 14, 32, 33, 34, 35, 36, 37, 38, 39, 40, 41, 42, 43, 44, 45, 46, 47, 48, 49, 50, 51, 52, 53, 54, 55, 56, 57, 58, 59, 60, 61, 62, 63, 64, 65, 66, 67, 68] rfl (by decide +kernel)
set_option maxRecDepth 20000 in
theorem gX12_makesDerivative_X12_cell : GoodIn wsX12_makesDerivative (wsV RX12 184 RX12 yX12_cell wsX12_cell) := goodIn_app (goodIn_of _ (by decide +kernel)) ggX12_makesDerivative_X12_cell
set_option maxRecDepth 20000 in
theorem ggX12_makesDerivative_X12_sets : GoodIn wsX12_makesDerivative wsX12_sets := goodIn_r _ [22, 14, 23, 24, 25, 4, 26, 27, 32, 33, 34, 35, 36, 37, 38, 39, 40, 41, 42, 43, 44, 45, 46, 47, 48, 49, 50, 51, 52, 53, 54, 55, 56, 57, 58, 59, 60, 61, 62, 63, 64, 65, 66, 67, 68] rfl (by decide +kernel)
set_option maxRecDepth 20000 in
theorem gX12_makesDerivative_X12_sets : GoodIn wsX12_makesDerivative (wsV RX12 188 RX12 yX12_sets wsX12_sets) := goodIn_app (goodIn_of _ (by decide +kernel)) ggX12_makesDerivative_X12_sets
set_option maxRecDepth 20000 in
theorem ggX12_makesDerivative_X12_degreeOf : GoodIn wsX12_makesDerivative wsX12_degreeOf := goodIn_r _ [31, 15, 16, 17, 4, 18, 14, 32, 33, 34, 35, 36, 37, 38, 39, 40, 41, 42, 43, 44, 45, 46, 47, 48, 49, 50, 51, 52, 53, 54, 55, 56, 57, 58, 59, 60, 61, 62, 63, 64, 65, 66, 67, 68] rfl (by decide +kernel)
set_option maxRecDepth 20000 in
theorem gX12_makesDerivative_X12_degreeOf : GoodIn wsX12_makesDerivative (wsV RX12 254 RX12 yX12_degreeOf wsX12_degreeOf) := goodIn_app (goodIn_of _ (by decide +kernel)) ggX12_makesDerivative_X12_degreeOf
set_option maxRecDepth 20000 in
theorem ggX12_makes_X12_areCurves : GoodIn wsX12_makes wsX12_areCurves := goodIn_r _ [5, 6, 7, 8, 4, 9, 10, 11, 12, 13, 150, 151, 152, 153, 154, 155, 156, 157, 158, 159, 160, 161, 162, 163, 164, 165, 166, 167, 168, 169, 170, 171, 172, 173, 174, 175, 176, 177, 178, 179, 180, 181, 182, 183, 184, 185, 186] rfl (by decide +kernel)
set_option maxRecDepth 20000 in
theorem gX12_makes_X12_areCurves : GoodIn wsX12_makes (wsV RX12 363 RX12 yX12_areCurves wsX12_areCurves) := goodIn_app (goodIn_of _ (by decide +kernel)) ggX12_makes_X12_areCurves
set_option maxRecDepth 20000 in
theorem ggX12_makes_X12_multiplies : GoodIn wsX12_makes wsX12_multiplies := goodIn_r _ [17, 18, 19, 20, 21, 22, 4, 23, 24, 25, 26, 27, 28, 29, 30, 31, 32, 33, 34, 35, 36, 150, 151, 152, 153, 154, 155, 156, 157, 158, 159, 160, 161, 162, 163, 164, 165, 166, 167, 168, 169, 170, 171, 172, 173, 174, 175, 176, 177, 178, 179, 180, 181, 182, 183, 184, 185, 186] rfl (by decide +kernel)
set_option maxRecDepth 20000 in
theorem gX12_makes_X12_multiplies : GoodIn wsX12_makes (wsV RX12 220 RX12 yX12_multiplies wsX12_multiplies) := goodIn_app (goodIn_of _ (by decide +kernel)) ggX12_makes_X12_multiplies
set_option maxRecDepth 20000 in
theorem ggX12_makes_X12_copies : GoodIn wsX12_makes wsX12_copies := goodIn_r _ [40, 24, 150, 151, 152, 153, 154, 155, 156, 157, 158, 159, 160, 161, 162, 163, 164, 165, 166, 167, 168, 169, 170, 171, 172, 173, 174, 175, 176, 177, 178, 179, 180, 181, 182, 183, 184, 185, 186] rfl (by decide +kernel)
set_option maxRecDepth 20000 in
theorem gX12_makes_X12_copies : GoodIn wsX12_makes (wsV RX12 236 RX12 yX12_copies wsX12_copies) := goodIn_app (goodIn_of _ (by decide +kernel)) ggX12_makes_X12_copies
set_option maxRecDepth 20000 in
theorem ggX12_makes_X12_modulo : GoodIn wsX12_makes wsX12_modulo := goodIn_r _ [36, 19, 150, 151, 152, 153, 154, 155, 156, 157, 158, 159, 160, 161, 162, 163, 164, 165, 166, 167, 168, 169, 170, 171, 172, 173, 174, 175, 176, 177, 178, 179, 180, 181, 182, 183, 184, 185, 186] rfl (by decide +kernel)
set_option maxRecDepth 20000 in
theorem gX12_makes_X12_modulo : GoodIn wsX12_makes (wsV RX12 176 RX12 yX12_modulo wsX12_modulo) := goodIn_app (goodIn_of _ (by decide +kernel)) ggX12_makes_X12_modulo
set_option maxRecDepth 20000 in
theorem ggX12_makes_X12_adds : GoodIn wsX12_makes wsX12_adds := goodIn_r _ [44, 20, 21, 22, 4, 23, 24, 29, 30, 31, 32, 33, 34, 35, 36, 19, 150, 151, 152, 153, 154, 155, 156, 157, 158, 159, 160, 161, 162, 163, 164, 165, 166, 167, 168, 169, 170, 171, 172, 173, 174, 175, 176, 177, 178, 179, 180, 181, 182, 183, 184, 185, 186] rfl (by decide +kernel)
set_option maxRecDepth 20000 in
theorem gX12_makes_X12_adds : GoodIn wsX12_makes (wsV RX12 207 RX12 yX12_adds wsX12_adds) := goodIn_app (goodIn_of _ (by decide +kernel)) ggX12_makes_X12_adds
set_option maxRecDepth 20000 in
theorem ggX12_makes_X12_degreeOf : GoodIn wsX12_makes wsX12_degreeOf := goodIn_r _ [48, 20, 21, 22, 4, 23, 24, 150, 151, 152, 153, 154, 155, 156, 157, 158, 159, 160, 161, 162, 163, 164, 165, 166, 167, 168, 169, 170, 171, 172, 173, 174, 175, 176, 177, 178, 179, 180, 181, 182, 183, 184, 185, 186] rfl (by decide +kernel)
set_option maxRecDepth 20000 in
theorem gX12_makes_X12_degreeOf : GoodIn wsX12_makes (wsV RX12 254 RX12 yX12_degreeOf wsX12_degreeOf) := goodIn_app (goodIn_of _ (by decide +kernel)) ggX12_makes_X12_degreeOf
set_option maxRecDepth 20000 in
theorem ggX12_makes_X12_laysCommon : GoodIn wsX12_makes wsX12_laysCommon := goodIn_r _ [52, 53, 54, 45, 46, 47, 4, 48, 20, 21, 22, 23, 24, 55, 56, 57, 58, 59, 60, 61, 62, 63, 64, 65, 66, 33, 34, 35, 36, 19, 67, 68, 69, 70, 71, 72, 73, 74, 75, 76, 77, 78, 79, 80, 81, 82, 83, 84, 85, 86, 25, 26, 27, 28, 29, 30, 31, 32, 87, 88, 89, 90, 91, 92, 93, 94, 150, 151, 152, 153, 154, 155, 156, 157, 158, 159, 160, 161, 162, 163, 164, 165, 166, 167, 168, 169, 170, 171, 172, 173, 174, 175, 176, 177, 178, 179, 180, 181, 182, 183, 184, 185, 186] rfl (by decide +kernel)
set_option maxRecDepth 20000 in
theorem gX12_makes_X12_laysCommon : GoodIn wsX12_makes (wsV RX12 366 RX12 yX12_laysCommon wsX12_laysCommon) := goodIn_app (goodIn_of _ (by decide +kernel)) ggX12_makes_X12_laysCommon
set_option maxRecDepth 20000 in
theorem ggX12_makes_X12_makesLine : GoodIn wsX12_makes wsX12_makesLine := goodIn_r _ [98, 99, 100, 101, 4, 102, 103, 104, 105, 106, 19, 11, 12, 13, 107, 108, 109, 110, 111, 112, 113, 114, 33, 34, 35, 36, 115, 116, 117, 118, 119, 120, 121, 122, 25, 26, 27, 28, 24, 29, 30, 31, 32, 20, 21, 22, 23, 79, 80, 81, 82, 83, 84, 85, 86, 150, 151, 152, 153, 154, 155, 156, 157, 158, 159, 160, 161, 162, 163, 164, 165, 166, 167, 168, 169, 170, 171, 172, 173, 174, 175, 176, 177, 178, 179, 180, 181, 182, 183, 184, 185, 186] rfl (by decide +kernel)
set_option maxRecDepth 20000 in
theorem gX12_makes_X12_makesLine : GoodIn wsX12_makes (wsV RX12 444 RX12 yX12_makesLine wsX12_makesLine) := goodIn_app (goodIn_of _ (by decide +kernel)) ggX12_makes_X12_makesLine
set_option maxRecDepth 20000 in
theorem ggX12_makes_X12_makesTangent : GoodIn wsX12_makes wsX12_makesTangent := goodIn_r _ [126, 6, 7, 8, 4, 9, 10, 11, 12, 13, 99, 100, 101, 102, 103, 104, 105, 106, 19, 127, 128, 129, 130, 131, 132, 133, 134, 45, 46, 47, 48, 20, 21, 22, 23, 24, 25, 26, 27, 28, 107, 108, 109, 110, 135, 136, 137, 111, 112, 113, 114, 83, 84, 85, 86, 33, 34, 35, 36, 115, 116, 117, 118, 138, 139, 140, 141, 29, 30, 31, 32, 142, 143, 144, 145, 119, 120, 121, 122, 79, 80, 81, 82, 150, 151, 152, 153, 154, 155, 156, 157, 158, 159, 160, 161, 162, 163, 164, 165, 166, 167, 168, 169, 170, 171, 172, 173, 174, 175, 176, 177, 178, 179, 180, 181, 182, 183, 184, 185, 186] rfl (by decide +kernel)
set_option maxRecDepth 20000 in
theorem gX12_makes_X12_makesTangent : GoodIn wsX12_makes (wsV RX12 447 RX12 yX12_makesTangent wsX12_makesTangent) := goodIn_app (goodIn_of _ (by decide +kernel)) ggX12_makes_X12_makesTangent
set_option maxRecDepth 20000 in
theorem ggX12_makes_X12_makesDerivative : GoodIn wsX12_makes wsX12_makesDerivative := goodIn_r _ [149, 6, 7, 8, 4, 9, 10, 11, 12, 13, 25, 26, 27, 28, 24, 20, 21, 22, 23, 29, 30, 31, 32, 33, 34, 35, 36, 19, 45, 46, 47, 48, 150, 151, 152, 153, 154, 155, 156, 157, 158, 159, 160, 161, 162, 163, 164, 165, 166, 167, 168, 169, 170, 171, 172, 173, 174, 175, 176, 177, 178, 179, 180, 181, 182, 183, 184, 185, 186] rfl (by decide +kernel)
set_option maxRecDepth 20000 in
theorem gX12_makes_X12_makesDerivative : GoodIn wsX12_makes (wsV RX12 450 RX12 yX12_makesDerivative wsX12_makesDerivative) := goodIn_app (goodIn_of _ (by decide +kernel)) ggX12_makes_X12_makesDerivative
set_option maxRecDepth 20000 in
theorem ggX12_make_X12_makes : GoodIn wsX12_make wsX12_makes := goodIn_r _ [7, 8, 9, 10, 6, 11, 12, 13, 14, 15, 1, 16, 17, 18, 19, 20, 21, 22, 23, 24, 25, 26, 27, 28, 29, 30, 31, 32, 33, 34, 35, 36, 37, 38, 39, 40, 41, 42, 43, 44, 45, 46, 47, 48, 49, 50, 51, 52, 53, 54, 55, 56, 57, 58, 59, 60, 61, 62, 63, 64, 65, 66, 67, 68, 69, 70, 71, 72, 73, 74, 75, 76, 77, 78, 79, 80, 81, 82, 83, 84, 85, 86, 87, 88, 89, 90, 91, 92, 93, 94, 95, 96, 97, 98, 99, 100, 101, 102, 103, 104, 105, 106, 107, 108, 109, 110, 111, 112, 113, 114, 115, 116, 117, 118, 119, 120, 121, 122, 123, 124, 125, 126, 127, 128, 129, 130, 131, 132, 133, 134, 135, 136, 137, 138, 139, 140, 141, 142, 143, 144, 145, 146, 147, 148, 149, 150, 151, 152, 153, 154, 166, 167, 168, 169, 170, 171, 172, 173, 174, 175, 176, 177, 178, 179, 180, 181, 182, 183, 184, 185, 186, 187, 188, 189, 190, 191, 192, 193, 194, 195, 196, 197, 198, 199, 200, 201, 202] rfl (by decide +kernel)
set_option maxRecDepth 20000 in
theorem gX12_make_X12_makes : GoodIn wsX12_make (wsV RX12 453 RX12 yX12_makes wsX12_makes) := goodIn_app (goodIn_of _ (by decide +kernel)) ggX12_make_X12_makes
set_option maxRecDepth 20000 in
theorem ggX12_make_X12_refuses : GoodIn wsX12_make wsX12_refuses := goodIn_r _ [158, 159, 166, 167, 168, 169, 170, 171, 172, 173, 174, 175, 176, 177, 178, 179, 180, 181, 182, 183, 184, 185, 186, 187, 188, 189, 190, 191, 192, 193, 194, 195, 196, 197, 198, 199, 200, 201, 202] rfl (by decide +kernel)
set_option maxRecDepth 20000 in
theorem gX12_make_X12_refuses : GoodIn wsX12_make (wsV RX12 124 RX12 yX12_refuses wsX12_refuses) := goodIn_app (goodIn_of _ (by decide +kernel)) ggX12_make_X12_refuses
set_option maxRecDepth 20000 in
theorem ggX12_make_X12_keeps : GoodIn wsX12_make wsX12_keeps := goodIn_r _ [163, 164, 165, 1, 2, 29, 166, 167, 168, 169, 170, 171, 172, 173, 174, 175, 176, 177, 178, 179, 180, 181, 182, 183, 184, 185, 186, 187, 188, 189, 190, 191, 192, 193, 194, 195, 196, 197, 198, 199, 200, 201, 202] rfl (by decide +kernel)
set_option maxRecDepth 20000 in
theorem gX12_make_X12_keeps : GoodIn wsX12_make (wsV RX12 434 RX12 yX12_keeps wsX12_keeps) := goodIn_app (goodIn_of _ (by decide +kernel)) ggX12_make_X12_keeps
set_option maxRecDepth 20000 in
theorem ggX12_make_X12_copies : GoodIn wsX12_make wsX12_copies := goodIn_r _ [45, 29, 166, 167, 168, 169, 170, 171, 172, 173, 174, 175, 176, 177, 178, 179, 180, 181, 182, 183, 184, 185, 186, 187, 188, 189, 190, 191, 192, 193, 194, 195, 196, 197, 198, 199, 200, 201, 202] rfl (by decide +kernel)
set_option maxRecDepth 20000 in
theorem gX12_make_X12_copies : GoodIn wsX12_make (wsV RX12 236 RX12 yX12_copies wsX12_copies) := goodIn_app (goodIn_of _ (by decide +kernel)) ggX12_make_X12_copies
set_option maxRecDepth 20000 in
theorem ggX12_drop_X12_isCurve : GoodIn wsX12_drop wsX12_isCurve := goodIn_r _ [7, 1, 8, 9, 6, 10, 35, 36, 37, 38, 39, 40, 41, 42, 43, 44, 45, 46, 47, 48, 49, 50, 51, 52, 53, 54, 55, 56, 57, 58, 59, 60, 61, 62, 63, 64, 65, 66, 67, 68, 69, 70, 71] rfl (by decide +kernel)
set_option maxRecDepth 20000 in
theorem gX12_drop_X12_isCurve : GoodIn wsX12_drop (wsV RX12 286 RX12 yX12_isCurve wsX12_isCurve) := goodIn_app (goodIn_of _ (by decide +kernel)) ggX12_drop_X12_isCurve
set_option maxRecDepth 20000 in
theorem ggX12_drop_X12_refuses : GoodIn wsX12_drop wsX12_refuses := goodIn_r _ [14, 15, 35, 36, 37, 38, 39, 40, 41, 42, 43, 44, 45, 46, 47, 48, 49, 50, 51, 52, 53, 54, 55, 56, 57, 58, 59, 60, 61, 62, 63, 64, 65, 66, 67, 68, 69, 70, 71] rfl (by decide +kernel)
set_option maxRecDepth 20000 in
theorem gX12_drop_X12_refuses : GoodIn wsX12_drop (wsV RX12 124 RX12 yX12_refuses wsX12_refuses) := goodIn_app (goodIn_of _ (by decide +kernel)) ggX12_drop_X12_refuses
set_option maxRecDepth 20000 in
theorem ggX12_drop_X12_keeps : GoodIn wsX12_drop wsX12_keeps := goodIn_r _ [19, 20, 21, 1, 2, 22, 35, 36, 37, 38, 39, 40, 41, 42, 43, 44, 45, 46, 47, 48, 49, 50, 51, 52, 53, 54, 55, 56, 57, 58, 59, 60, 61, 62, 63, 64, 65, 66, 67, 68, 69, 70, 71] rfl (by decide +kernel)
set_option maxRecDepth 20000 in
theorem gX12_drop_X12_keeps : GoodIn wsX12_drop (wsV RX12 434 RX12 yX12_keeps wsX12_keeps) := goodIn_app (goodIn_of _ (by decide +kernel)) ggX12_drop_X12_keeps
set_option maxRecDepth 20000 in
theorem ggX12_drop_X12_degreeOf : GoodIn wsX12_drop wsX12_degreeOf := goodIn_r _ [26, 27, 28, 29, 6, 30, 22, 35, 36, 37, 38, 39, 40, 41, 42, 43, 44, 45, 46, 47, 48, 49, 50, 51, 52, 53, 54, 55, 56, 57, 58, 59, 60, 61, 62, 63, 64, 65, 66, 67, 68, 69, 70, 71] rfl (by decide +kernel)
set_option maxRecDepth 20000 in
theorem gX12_drop_X12_degreeOf : GoodIn wsX12_drop (wsV RX12 254 RX12 yX12_degreeOf wsX12_degreeOf) := goodIn_app (goodIn_of _ (by decide +kernel)) ggX12_drop_X12_degreeOf
set_option maxRecDepth 20000 in
theorem ggX12_drop_X12_copies : GoodIn wsX12_drop wsX12_copies := goodIn_r _ [34, 22, 35, 36, 37, 38, 39, 40, 41, 42, 43, 44, 45, 46, 47, 48, 49, 50, 51, 52, 53, 54, 55, 56, 57, 58, 59, 60, 61, 62, 63, 64, 65, 66, 67, 68, 69, 70, 71] rfl (by decide +kernel)
set_option maxRecDepth 20000 in
theorem gX12_drop_X12_copies : GoodIn wsX12_drop (wsV RX12 236 RX12 yX12_copies wsX12_copies) := goodIn_app (goodIn_of _ (by decide +kernel)) ggX12_drop_X12_copies
set_option maxRecDepth 20000 in
theorem ggX12_status_X12_isIn : GoodIn wsX12_status wsX12_isIn := goodIn_r _ [5] rfl (by decide +kernel)
set_option maxRecDepth 20000 in
theorem gX12_status_X12_isIn : GoodIn wsX12_status (va_wsS RX12 271 yX12_isIn wsX12_isIn) := goodIn_app (goodIn_of _ (by decide +kernel)) ggX12_status_X12_isIn
