set_option maxRecDepth 20000 in
theorem ggX12_readsField_X12_goesWell : GoodIn wsX12_readsField wsX12_goesWell := goodIn_r _ [26, 27, 69, 70, 71, 72, 73, 74, 75, 76, 77, 78, 79, 80, 81, 82, 83, 84, 85, 86, 87, 88, 89, 90, 91, 92, 93, 94, 95, 96, 97, 98, 99, 100, 101, 102, 103, 104, 105] rfl (by decide +kernel)
set_option maxRecDepth 20000 in
theorem gX12_readsField_X12_goesWell : GoodIn wsX12_readsField (wsV RX12 139 RX12 yX12_goesWell wsX12_goesWell) := goodIn_app (goodIn_of _ (by decide +kernel)) ggX12_readsField_X12_goesWell
set_option maxRecDepth 20000 in
theorem ggX12_readsField_X12_isPrime : GoodIn wsX12_readsField wsX12_isPrime := goodIn_r _ [62, 63, 64] rfl (by decide +kernel)
set_option maxRecDepth 20000 in
theorem gX12_readsField_X12_isPrime : GoodIn wsX12_readsField (va_wsS RX12 261 yX12_isPrime wsX12_isPrime) := goodIn_app (goodIn_of _ (by decide +kernel)) ggX12_readsField_X12_isPrime
set_option maxRecDepth 20000 in
theorem ggX12_readsField_X12_faults : GoodIn wsX12_readsField wsX12_faults := goodIn_r _ [43, 27, 44, 69, 70, 71, 72, 73, 74, 75, 76, 77, 78, 79, 80, 81, 82, 83, 84, 85, 86, 87, 88, 89, 90, 91, 92, 93, 94, 95, 96, 97, 98, 99, 100, 101, 102, 103, 104, 105] rfl (by decide +kernel)
set_option maxRecDepth 20000 in
theorem gX12_readsField_X12_faults : GoodIn wsX12_readsField (wsV RX12 147 RX12 yX12_faults wsX12_faults) := goodIn_app (goodIn_of _ (by decide +kernel)) ggX12_readsField_X12_faults
set_option maxRecDepth 20000 in
theorem ggX12_readsField_X12_mark : GoodIn wsX12_readsField wsX12_mark := goodIn_r _ [68, 8, 23, 24, 25, 6, 26, 27, 13, 14, 15, 16, 17, 18, 19, 20, 21, 22, 40, 41, 42, 43, 44, 69, 70, 71, 72, 73, 74, 75, 76, 77, 78, 79, 80, 81, 82, 83, 84, 85, 86, 87, 88, 89, 90, 91, 92, 93, 94, 95, 96, 97, 98, 99, 100, 101, 102, 103, 104, 105] rfl (by decide +kernel)
set_option maxRecDepth 20000 in
theorem gX12_readsField_X12_mark : GoodIn wsX12_readsField (wsV RX12 233 RX12 yX12_mark wsX12_mark) := goodIn_app (goodIn_of _ (by decide +kernel)) ggX12_readsField_X12_mark
set_option maxRecDepth 20000 in
theorem ggX12_curves_X12_readsField : GoodIn wsX12_curves wsX12_readsField := goodIn_r _ [17, 18, 6, 19, 20, 21, 16, 22, 3, 23, 24, 25, 26, 27, 28, 29, 30, 31, 32, 33, 34, 2, 35, 36, 37, 38, 39, 4, 40, 41, 42, 43, 44, 45, 46, 47, 48, 49, 50, 51, 52, 53, 54, 55, 5, 56, 57, 58, 59, 60, 61, 62, 63, 64, 65, 66, 67, 68, 69, 70, 71, 72, 73, 74, 75, 76, 77, 78, 79, 172, 173, 174, 175, 176, 177, 178, 179, 180, 181, 182, 183, 184, 185, 186, 187, 188, 189, 190, 191, 192, 193, 194, 195, 196, 197, 198, 199, 200, 201, 202, 203, 204, 205, 206, 207, 208] rfl (by decide +kernel)
set_option maxRecDepth 20000 in
theorem gX12_curves_X12_readsField : GoodIn wsX12_curves (wsV RX12 265 RX12 yX12_readsField wsX12_readsField) := goodIn_app (goodIn_of _ (by decide +kernel)) ggX12_curves_X12_readsField
set_option maxRecDepth 20000 in
theorem ggX12_curves_X12_goesWell : GoodIn wsX12_curves wsX12_goesWell := goodIn_r _ [39, 4, 172, 173, 174, 175, 176, 177, 178, 179, 180, 181, 182, 183, 184, 185, 186, 187, 188, 189, 190, 191, 192, 193, 194, 195, 196, 197, 198, 199, 200, 201, 202, 203, 204, 205, 206, 207, 208] rfl (by decide +kernel)
set_option maxRecDepth 20000 in
theorem gX12_curves_X12_goesWell : GoodIn wsX12_curves (wsV RX12 139 RX12 yX12_goesWell wsX12_goesWell) := goodIn_app (goodIn_of _ (by decide +kernel)) ggX12_curves_X12_goesWell
set_option maxRecDepth 20000 in
theorem ggX12_curves_X12_here : GoodIn wsX12_curves wsX12_here := goodIn_r _ [30, 3, 31, 32, 33, 16, 34, 2, 35, 172, 173, 174, 175, 176, 177, 178, 179, 180, 181, 182, 183, 184, 185, 186, 187, 188, 189, 190, 191, 192, 193, 194, 195, 196, 197, 198, 199, 200, 201, 202, 203, 204, 205, 206, 207, 208] rfl (by decide +kernel)
set_option maxRecDepth 20000 in
theorem gX12_curves_X12_here : GoodIn wsX12_curves (wsV RX12 143 RX12 yX12_here wsX12_here) := goodIn_app (goodIn_of _ (by decide +kernel)) ggX12_curves_X12_here
set_option maxRecDepth 20000 in
theorem ggX12_curves_X12_readsCurve : GoodIn wsX12_curves wsX12_readsCurve := goodIn_r _ [83, 18, 7, 11, 48, 49, 50, 16, 51, 3, 36, 37, 38, 39, 4, 23, 24, 25, 26, 27, 28, 29, 30, 31, 32, 33, 34, 2, 35, 40, 41, 42, 43, 44, 45, 46, 47, 52, 53, 54, 55, 5, 56, 57, 58, 59, 60, 61, 62, 63, 84, 85, 86, 87, 76, 77, 78, 79, 88, 89, 90, 91, 92, 93, 94, 95, 96, 97, 98, 99, 100, 101, 102, 103, 104, 105, 106, 107, 108, 109, 110, 111, 112, 113, 114, 115, 116, 117, 118, 119, 120, 121, 122, 123, 124, 6, 125, 126, 127, 128, 129, 130, 131, 132, 64, 65, 66, 67, 68, 69, 70, 19, 20, 21, 22, 133, 134, 135, 136, 137, 138, 139, 140, 141, 142, 143, 144, 145, 146, 147, 148, 149, 150, 151, 152, 153, 154, 155, 156, 157, 158, 159, 160, 161, 162, 163, 164, 165, 166, 172, 173, 174, 175, 176, 177, 178, 179, 180, 181, 182, 183, 184, 185, 186, 187, 188, 189, 190, 191, 192, 193, 194, 195, 196, 197, 198, 199, 200, 201, 202, 203, 204, 205, 206, 207, 208] rfl (by decide +kernel)
set_option maxRecDepth 20000 in
theorem gX12_curves_X12_readsCurve : GoodIn wsX12_curves (wsV RX12 268 RX12 yX12_readsCurve wsX12_readsCurve) := goodIn_app (goodIn_of _ (by decide +kernel)) ggX12_curves_X12_readsCurve
set_option maxRecDepth 20000 in
theorem ggX12_curves_X12_refuses : GoodIn wsX12_curves wsX12_refuses := goodIn_r _ [170, 171, 172, 173, 174, 175, 176, 177, 178, 179, 180, 181, 182, 183, 184, 185, 186, 187, 188, 189, 190, 191, 192, 193, 194, 195, 196, 197, 198, 199, 200, 201, 202, 203, 204, 205, 206, 207, 208] rfl (by decide +kernel)
set_option maxRecDepth 20000 in
theorem gX12_curves_X12_refuses : GoodIn wsX12_curves (wsV RX12 124 RX12 yX12_refuses wsX12_refuses) := goodIn_app (goodIn_of _ (by decide +kernel)) ggX12_curves_X12_refuses
set_option maxRecDepth 20000 in
theorem ggX12_curves_X12_copies : GoodIn wsX12_curves wsX12_copies := goodIn_r _ [162, 105, 172, 173, 174, 175, 176, 177, 178, 179, 180, 181, 182, 183, 184, 185, 186, 187, 188, 189, 190, 191, 192, 193, 194, 195, 196, 197, 198, 199, 200, 201, 202, 203, 204, 205, 206, 207, 208] rfl (by decide +kernel)
set_option maxRecDepth 20000 in
theorem gX12_curves_X12_copies : GoodIn wsX12_curves (wsV RX12 236 RX12 yX12_copies wsX12_copies) := goodIn_app (goodIn_of _ (by decide +kernel)) ggX12_curves_X12_copies
set_option maxRecDepth 20000 in
theorem ggX12_isCurve_X12_isIn : GoodIn wsX12_isCurve wsX12_isIn := goodIn_r _ [5] rfl (by decide +kernel)
set_option maxRecDepth 20000 in
theorem gX12_isCurve_X12_isIn : GoodIn wsX12_isCurve (va_wsS RX12 271 yX12_isIn wsX12_isIn) := goodIn_app (goodIn_of _ (by decide +kernel)) ggX12_isCurve_X12_isIn
set_option maxRecDepth 20000 in
theorem ggX12_isPoint_X12_points : GoodIn wsX12_isPoint wsX12_points := goodIn_r _ [5, 6, 10, 11, 12, 13, 14, 15, 16, 17, 18, 19, 20, 21, 22, 23, 24, 25, 26, 27, 28, 29, 30, 31, 32, 33, 34, 35, 36, 37, 38, 39, 40, 41, 42, 43, 44, 45, 46] rfl (by decide +kernel)
set_option maxRecDepth 20000 in
theorem gX12_isPoint_X12_points : GoodIn wsX12_isPoint (wsV RX12 274 RX12 yX12_points wsX12_points) := goodIn_app (goodIn_of _ (by decide +kernel)) ggX12_isPoint_X12_points
set_option maxRecDepth 20000 in
theorem ggX12_isPoint_X12_isIn : GoodIn wsX12_isPoint wsX12_isIn := goodIn_r _ [9] rfl (by decide +kernel)
set_option maxRecDepth 20000 in
theorem gX12_isPoint_X12_isIn : GoodIn wsX12_isPoint (va_wsS RX12 271 yX12_isIn wsX12_isIn) := goodIn_app (goodIn_of _ (by decide +kernel)) ggX12_isPoint_X12_isIn
set_option maxRecDepth 20000 in
theorem ggX12_xOf_X12_isNear : GoodIn wsX12_xOf wsX12_isNear := goodIn_r _ [6, 1, 11, 12, 13, 14, 15, 16, 17, 18, 19, 20, 21, 22, 23, 24, 25, 26, 27, 28, 29, 30, 31, 32, 33, 34, 35, 36, 37, 38, 39, 40, 41, 42, 43, 44, 45, 46, 47] rfl (by decide +kernel)
set_option maxRecDepth 20000 in
theorem gX12_xOf_X12_isNear : GoodIn wsX12_xOf (wsV RX12 277 RX12 yX12_isNear wsX12_isNear) := goodIn_app (goodIn_of _ (by decide +kernel)) ggX12_xOf_X12_isNear
set_option maxRecDepth 20000 in
theorem ggX12_xOf_X12_points : GoodIn wsX12_xOf wsX12_points := goodIn_r _ [10, 1, 11, 12, 13, 14, 15, 16, 17, 18, 19, 20, 21, 22, 23, 24, 25, 26, 27, 28, 29, 30, 31, 32, 33, 34, 35, 36, 37, 38, 39, 40, 41, 42, 43, 44, 45, 46, 47] rfl (by decide +kernel)
set_option maxRecDepth 20000 in
theorem gX12_xOf_X12_points : GoodIn wsX12_xOf (wsV RX12 274 RX12 yX12_points wsX12_points) := goodIn_app (goodIn_of _ (by decide +kernel)) ggX12_xOf_X12_points
set_option maxRecDepth 20000 in
theorem ggX12_yOf_X12_isNear : GoodIn wsX12_yOf wsX12_isNear := goodIn_r _ [6, 1, 11, 12, 13, 14, 15, 16, 17, 18, 19, 20, 21, 22, 23, 24, 25, 26, 27, 28, 29, 30, 31, 32, 33, 34, 35, 36, 37, 38, 39, 40, 41, 42, 43, 44, 45, 46, 47] rfl (by decide +kernel)
set_option maxRecDepth 20000 in
theorem gX12_yOf_X12_isNear : GoodIn wsX12_yOf (wsV RX12 277 RX12 yX12_isNear wsX12_isNear) := goodIn_app (goodIn_of _ (by decide +kernel)) ggX12_yOf_X12_isNear
set_option maxRecDepth 20000 in
theorem ggX12_yOf_X12_points : GoodIn wsX12_yOf wsX12_points := goodIn_r _ [10, 1, 11, 12, 13, 14, 15, 16, 17, 18, 19, 20, 21, 22, 23, 24, 25, 26, 27, 28, 29, 30, 31, 32, 33, 34, 35, 36, 37, 38, 39, 40, 41, 42, 43, 44, 45, 46, 47] rfl (by decide +kernel)
set_option maxRecDepth 20000 in
theorem gX12_yOf_X12_points : GoodIn wsX12_yOf (wsV RX12 274 RX12 yX12_points wsX12_points) := goodIn_app (goodIn_of _ (by decide +kernel)) ggX12_yOf_X12_points
set_option maxRecDepth 20000 in
theorem ggX12_valueOf_X12_isNear : GoodIn wsX12_valueOf wsX12_isNear := goodIn_r _ [6, 1, 32, 33, 34, 35, 36, 37, 38, 39, 40, 41, 42, 43, 44, 45, 46, 47, 48, 49, 50, 51, 52, 53, 54, 55, 56, 57, 58, 59, 60, 61, 62, 63, 64, 65, 66, 67, 68] rfl (by decide +kernel)
set_option maxRecDepth 20000 in
theorem gX12_valueOf_X12_isNear : GoodIn wsX12_valueOf (wsV RX12 277 RX12 yX12_isNear wsX12_isNear) := goodIn_app (goodIn_of _ (by decide +kernel)) ggX12_valueOf_X12_isNear
set_option maxRecDepth 20000 in
theorem ggX12_valueOf_X12_cell : GoodIn wsX12_valueOf wsX12_cell := goodIn_r _ [10, 11, 32, 33, 34, 35, 36, 37, 38, 39, 40, 41, 42, 43, 44, 45, 46, 47, 48, 49, 50, 51, 52, 53, 54, 55, 56, 57, 58, 59, 60, 61, 62, 63, 64, 65, 66, 67, 68] rfl (by decide +kernel)
set_option maxRecDepth 20000 in
theorem gX12_valueOf_X12_cell : GoodIn wsX12_valueOf (wsV RX12 184 RX12 yX12_cell wsX12_cell) := goodIn_app (goodIn_of _ (by decide +kernel)) ggX12_valueOf_X12_cell
set_option maxRecDepth 20000 in
theorem ggX12_valueOf_X12_xOf : GoodIn wsX12_valueOf wsX12_xOf := goodIn_r _ [15, 1, 2, 3, 4, 5, 6, 16, 17, 18, 19, 32, 33, 34, 35, 36, 37, 38, 39, 40, 41, 42, 43, 44, 45, 46, 47, 48, 49, 50, 51, 52, 53, 54, 55, 56, 57, 58, 59, 60, 61, 62, 63, 64, 65, 66, 67, 68] rfl (by decide +kernel)
set_option maxRecDepth 20000 in
theorem gX12_valueOf_X12_xOf : GoodIn wsX12_valueOf (wsV RX12 280 RX12 yX12_xOf wsX12_xOf) := goodIn_app (goodIn_of _ (by decide +kernel)) ggX12_valueOf_X12_xOf
set_option maxRecDepth 20000 in
theorem ggX12_valueOf_X12_power : GoodIn wsX12_valueOf wsX12_power := goodIn_r _ [23, 1, 24, 25, 26, 5, 27, 32, 33, 34, 35, 36, 37, 38, 39, 40, 41, 42, 43, 44, 45, 46, 47, 48, 49, 50, 51, 52, 53, 54, 55, 56, 57, 58, 59, 60, 61, 62, 63, 64, 65, 66, 67, 68] rfl (by decide +kernel)
set_option maxRecDepth 20000 in
theorem gX12_valueOf_X12_power : GoodIn wsX12_valueOf (wsV RX12 180 RX12 yX12_power wsX12_power) := goodIn_app (goodIn_of _ (by decide +kernel)) ggX12_valueOf_X12_power
set_option maxRecDepth 20000 in
theorem ggX12_valueOf_X12_yOf : GoodIn wsX12_valueOf wsX12_yOf := goodIn_r _ [31, 1, 2, 3, 4, 5, 6, 16, 17, 18, 19, 32, 33, 34, 35, 36, 37, 38, 39, 40, 41, 42, 43, 44, 45, 46, 47, 48, 49, 50, 51, 52, 53, 54, 55, 56, 57, 58, 59, 60, 61, 62, 63, 64, 65, 66, 67, 68] rfl (by decide +kernel)
set_option maxRecDepth 20000 in
theorem gX12_valueOf_X12_yOf : GoodIn wsX12_valueOf (wsV RX12 283 RX12 yX12_yOf wsX12_yOf) := goodIn_app (goodIn_of _ (by decide +kernel)) ggX12_valueOf_X12_yOf
set_option maxRecDepth 20000 in
theorem ggX12_valueOf_X12_modulo : GoodIn wsX12_valueOf wsX12_modulo := goodIn_r _ [27, 1, 32, 33, 34, 35, 36, 37, 38, 39, 40, 41, 42, 43, 44, 45, 46, 47, 48, 49, 50, 51, 52, 53, 54, 55, 56, 57, 58, 59, 60, 61, 62, 63, 64, 65, 66, 67, 68] rfl (by decide +kernel)
set_option maxRecDepth 20000 in
theorem gX12_valueOf_X12_modulo : GoodIn wsX12_valueOf (wsV RX12 176 RX12 yX12_modulo wsX12_modulo) := goodIn_app (goodIn_of _ (by decide +kernel)) ggX12_valueOf_X12_modulo
set_option maxRecDepth 20000 in
theorem ggX12_has_X12_points : GoodIn wsX12_has wsX12_points := goodIn_r _ [8, 1, 9, 10, 11, 12, 13, 14, 15, 16, 17, 18, 19, 20, 21, 22, 23, 24, 25, 26, 27, 28, 29, 30, 31, 32, 33, 34, 35, 36, 37, 38, 39, 40, 41, 42, 43, 44, 45] rfl (by decide +kernel)
set_option maxRecDepth 20000 in
theorem gX12_has_X12_points : GoodIn wsX12_has (wsV RX12 274 RX12 yX12_points wsX12_points) := goodIn_app (goodIn_of _ (by decide +kernel)) ggX12_has_X12_points
set_option maxRecDepth 20000 in
theorem ggX12_letter_X12_isCurve : GoodIn wsX12_letter wsX12_isCurve := goodIn_r _ [6, 7, 8, 9, 5, 10, 11, 12, 13, 14, 15, 16, 17, 18, 19, 20, 21, 22, 23, 24, 25, 26, 27, 28, 29, 30, 31, 32, 33, 34, 35, 36, 37, 38, 39, 40, 41, 42, 43, 44, 45, 46, 47] rfl (by decide +kernel)
set_option maxRecDepth 20000 in
theorem gX12_letter_X12_isCurve : GoodIn wsX12_letter (wsV RX12 286 RX12 yX12_isCurve wsX12_isCurve) := goodIn_app (goodIn_of _ (by decide +kernel)) ggX12_letter_X12_isCurve
set_option maxRecDepth 20000 in
theorem ggX12_letter_X12_isIn : GoodIn wsX12_letter wsX12_isIn := goodIn_r _ [10] rfl (by decide +kernel)
set_option maxRecDepth 20000 in
theorem gX12_letter_X12_isIn : GoodIn wsX12_letter (va_wsS RX12 271 yX12_isIn wsX12_isIn) := goodIn_app (goodIn_of _ (by decide +kernel)) ggX12_letter_X12_isIn
set_option maxRecDepth 20000 in
theorem ggX12_term_X12_isCurve : GoodIn wsX12_term wsX12_isCurve := goodIn_r _ [5, 6, 7, 8, 4, 9, 18, 19, 20, 21, 22, 23, 24, 25, 26, 27, 28, 29, 30, 31, 32, 33, 34, 35, 36, 37, 38, 39, 40, 41, 42, 43, 44, 45, 46, 47, 48, 49, 50, 51, 52, 53, 54] rfl (by decide +kernel)
set_option maxRecDepth 20000 in
theorem gX12_term_X12_isCurve : GoodIn wsX12_term (wsV RX12 286 RX12 yX12_isCurve wsX12_isCurve) := goodIn_app (goodIn_of _ (by decide +kernel)) ggX12_term_X12_isCurve
set_option maxRecDepth 20000 in
theorem ggX12_term_X12_isTerm : GoodIn wsX12_term wsX12_isTerm := goodIn_r _ [12] rfl (by decide +kernel)
set_option maxRecDepth 20000 in
theorem gX12_term_X12_isTerm : GoodIn wsX12_term (va_wsS RX12 289 yX12_isTerm wsX12_isTerm) := goodIn_app (goodIn_of _ (by decide +kernel)) ggX12_term_X12_isTerm
set_option maxRecDepth 20000 in
theorem ggX12_term_X12_cell : GoodIn wsX12_term wsX12_cell := goodIn_r _ [16, 17, 18, 19, 20, 21, 22, 23, 24, 25, 26, 27, 28, 29, 30, 31, 32, 33, 34, 35, 36, 37, 38, 39, 40, 41, 42, 43, 44, 45, 46, 47, 48, 49, 50, 51, 52, 53, 54] rfl (by decide +kernel)
set_option maxRecDepth 20000 in
theorem gX12_term_X12_cell : GoodIn wsX12_term (wsV RX12 184 RX12 yX12_cell wsX12_cell) := goodIn_app (goodIn_of _ (by decide +kernel)) ggX12_term_X12_cell
set_option maxRecDepth 20000 in
theorem ggX12_degree_X12_isCurve : GoodIn wsX12_degree wsX12_isCurve := goodIn_r _ [5, 6, 7, 8, 4, 9, 19, 20, 21, 22, 23, 24, 25, 26, 27, 28, 29, 30, 31, 32, 33, 34, 35, 36, 37, 38, 39, 40, 41, 42, 43, 44, 45, 46, 47, 48, 49, 50, 51, 52, 53, 54, 55] rfl (by decide +kernel)
set_option maxRecDepth 20000 in
theorem gX12_degree_X12_isCurve : GoodIn wsX12_degree (wsV RX12 286 RX12 yX12_isCurve wsX12_isCurve) := goodIn_app (goodIn_of _ (by decide +kernel)) ggX12_degree_X12_isCurve
set_option maxRecDepth 20000 in
theorem ggX12_degree_X12_degreeOf : GoodIn wsX12_degree wsX12_degreeOf := goodIn_r _ [13, 14, 15, 16, 4, 17, 18, 19, 20, 21, 22, 23, 24, 25, 26, 27, 28, 29, 30, 31, 32, 33, 34, 35, 36, 37, 38, 39, 40, 41, 42, 43, 44, 45, 46, 47, 48, 49, 50, 51, 52, 53, 54, 55] rfl (by decide +kernel)
set_option maxRecDepth 20000 in
theorem gX12_degree_X12_degreeOf : GoodIn wsX12_degree (wsV RX12 254 RX12 yX12_degreeOf wsX12_degreeOf) := goodIn_app (goodIn_of _ (by decide +kernel)) ggX12_degree_X12_degreeOf
set_option maxRecDepth 20000 in
theorem ggX12_valueAt_X12_degreeOf : GoodIn wsX12_valueAt wsX12_degreeOf := goodIn_r _ [5, 6, 7, 8, 4, 9, 10, 40, 41, 42, 43, 44, 45, 46, 47, 48, 49, 50, 51, 52, 53, 54, 55, 56, 57, 58, 59, 60, 61, 62, 63, 64, 65, 66, 67, 68, 69, 70, 71, 72, 73, 74, 75, 76] rfl (by decide +kernel)
set_option maxRecDepth 20000 in
theorem gX12_valueAt_X12_degreeOf : GoodIn wsX12_valueAt (wsV RX12 254 RX12 yX12_degreeOf wsX12_degreeOf) := goodIn_app (goodIn_of _ (by decide +kernel)) ggX12_valueAt_X12_degreeOf
set_option maxRecDepth 20000 in
theorem ggX12_valueAt_X12_valueOf : GoodIn wsX12_valueAt wsX12_valueOf := goodIn_r _ [14, 15, 16, 17, 18, 4, 19, 6, 7, 8, 9, 10, 20, 21, 22, 23, 24, 25, 26, 27, 28, 29, 30, 31, 32, 33, 34, 35, 36, 37, 38, 39, 40, 41, 42, 43, 44, 45, 46, 47, 48, 49, 50, 51, 52, 53, 54, 55, 56, 57, 58, 59, 60, 61, 62, 63, 64, 65, 66, 67, 68, 69, 70, 71, 72, 73, 74, 75, 76] rfl (by decide +kernel)
set_option maxRecDepth 20000 in
theorem gX12_valueAt_X12_valueOf : GoodIn wsX12_valueAt (wsV RX12 293 RX12 yX12_valueOf wsX12_valueOf) := goodIn_app (goodIn_of _ (by decide +kernel)) ggX12_valueAt_X12_valueOf
set_option maxRecDepth 20000 in
theorem ggX12_value_X12_isCurve : GoodIn wsX12_value wsX12_isCurve := goodIn_r _ [5, 6, 7, 8, 4, 9, 56, 57, 58, 59, 60, 61, 62, 63, 64, 65, 66, 67, 68, 69, 70, 71, 72, 73, 74, 75, 76, 77, 78, 79, 80, 81, 82, 83, 84, 85, 86, 87, 88, 89, 90, 91, 92] rfl (by decide +kernel)
set_option maxRecDepth 20000 in
theorem gX12_value_X12_isCurve : GoodIn wsX12_value (wsV RX12 286 RX12 yX12_isCurve wsX12_isCurve) := goodIn_app (goodIn_of _ (by decide +kernel)) ggX12_value_X12_isCurve
set_option maxRecDepth 20000 in
theorem ggX12_value_X12_isPoint : GoodIn wsX12_value wsX12_isPoint := goodIn_r _ [13, 14, 15, 16, 4, 17, 18, 7, 8, 9, 56, 57, 58, 59, 60, 61, 62, 63, 64, 65, 66, 67, 68, 69, 70, 71, 72, 73, 74, 75, 76, 77, 78, 79, 80, 81, 82, 83, 84, 85, 86, 87, 88, 89, 90, 91, 92] rfl (by decide +kernel)
set_option maxRecDepth 20000 in
theorem gX12_value_X12_isPoint : GoodIn wsX12_value (wsV RX12 296 RX12 yX12_isPoint wsX12_isPoint) := goodIn_app (goodIn_of _ (by decide +kernel)) ggX12_value_X12_isPoint
set_option maxRecDepth 20000 in
theorem ggX12_value_X12_valueAt : GoodIn wsX12_value wsX12_valueAt := goodIn_r _ [22, 23, 24, 25, 4, 26, 27, 28, 29, 30, 31, 32, 33, 34, 35, 18, 36, 37, 38, 39, 40, 41, 42, 43, 14, 15, 16, 17, 44, 45, 46, 47, 48, 49, 50, 51, 52, 53, 54, 55, 56, 57, 58, 59, 60, 61, 62, 63, 64, 65, 66, 67, 68, 69, 70, 71, 72, 73, 74, 75, 76, 77, 78, 79, 80, 81, 82, 83, 84, 85, 86, 87, 88, 89, 90, 91, 92] rfl (by decide +kernel)
set_option maxRecDepth 20000 in
theorem gX12_value_X12_valueAt : GoodIn wsX12_value (wsV RX12 299 RX12 yX12_valueAt wsX12_valueAt) := goodIn_app (goodIn_of _ (by decide +kernel)) ggX12_value_X12_valueAt
set_option maxRecDepth 20000 in
theorem ggX12_point_X12_isCurve : GoodIn wsX12_point wsX12_isCurve := goodIn_r _ [5, 6, 7, 8, 4, 9, 52, 53, 54, 55, 56, 57, 58, 59, 60, 61, 62, 63, 64, 65, 66, 67, 68, 69, 70, 71, 72, 73, 74, 75, 76, 77, 78, 79, 80, 81, 82, 83, 84, 85, 86, 87, 88] rfl (by decide +kernel)
set_option maxRecDepth 20000 in
theorem gX12_point_X12_isCurve : GoodIn wsX12_point (wsV RX12 286 RX12 yX12_isCurve wsX12_isCurve) := goodIn_app (goodIn_of _ (by decide +kernel)) ggX12_point_X12_isCurve
set_option maxRecDepth 20000 in
theorem ggX12_point_X12_points : GoodIn wsX12_point wsX12_points := goodIn_r _ [13, 14, 52, 53, 54, 55, 56, 57, 58, 59, 60, 61, 62, 63, 64, 65, 66, 67, 68, 69, 70, 71, 72, 73, 74, 75, 76, 77, 78, 79, 80, 81, 82, 83, 84, 85, 86, 87, 88] rfl (by decide +kernel)
set_option maxRecDepth 20000 in
theorem gX12_point_X12_points : GoodIn wsX12_point (wsV RX12 274 RX12 yX12_points wsX12_points) := goodIn_app (goodIn_of _ (by decide +kernel)) ggX12_point_X12_points
set_option maxRecDepth 20000 in
theorem ggX12_point_X12_valueAt : GoodIn wsX12_point wsX12_valueAt := goodIn_r _ [18, 19, 20, 21, 4, 22, 23, 24, 25, 26, 27, 28, 29, 30, 31, 14, 32, 33, 34, 35, 36, 37, 38, 39, 10, 11, 12, 13, 40, 41, 42, 43, 44, 45, 46, 47, 48, 49, 50, 51, 52, 53, 54, 55, 56, 57, 58, 59, 60, 61, 62, 63, 64, 65, 66, 67, 68, 69, 70, 71, 72, 73, 74, 75, 76, 77, 78, 79, 80, 81, 82, 83, 84, 85, 86, 87, 88] rfl (by decide +kernel)
set_option maxRecDepth 20000 in
theorem gX12_point_X12_valueAt : GoodIn wsX12_point (wsV RX12 299 RX12 yX12_valueAt wsX12_valueAt) := goodIn_app (goodIn_of _ (by decide +kernel)) ggX12_point_X12_valueAt
set_option maxRecDepth 20000 in
theorem ggX12_addsPowers_X12_cell : GoodIn wsX12_addsPowers wsX12_cell := goodIn_r _ [6, 7, 23, 24, 25, 26, 27, 28, 29, 30, 31, 32, 33, 34, 35, 36, 37, 38, 39, 40, 41, 42, 43, 44, 45, 46, 47, 48, 49, 50, 51, 52, 53, 54, 55, 56, 57, 58, 59] rfl (by decide +kernel)
set_option maxRecDepth 20000 in
theorem gX12_addsPowers_X12_cell : GoodIn wsX12_addsPowers (wsV RX12 184 RX12 yX12_cell wsX12_cell) := goodIn_app (goodIn_of _ (by decide +kernel)) ggX12_addsPowers_X12_cell
set_option maxRecDepth 20000 in
theorem ggX12_addsPowers_X12_sets1 : GoodIn wsX12_addsPowers wsX12_sets1 := goodIn_r _ [10] rfl (by decide +kernel)
set_option maxRecDepth 20000 in
theorem gX12_addsPowers_X12_sets1 : GoodIn wsX12_addsPowers (va_wsS RX12 302 yX12_sets1 wsX12_sets1) := goodIn_app (goodIn_of _ (by decide +kernel)) ggX12_addsPowers_X12_sets1
set_option maxRecDepth 20000 in
theorem ggX12_addsPowers_X12_power : GoodIn wsX12_addsPowers wsX12_power := goodIn_r _ [14, 1, 15, 16, 17, 5, 18, 23, 24, 25, 26, 27, 28, 29, 30, 31, 32, 33, 34, 35, 36, 37, 38, 39, 40, 41, 42, 43, 44, 45, 46, 47, 48, 49, 50, 51, 52, 53, 54, 55, 56, 57, 58, 59] rfl (by decide +kernel)
set_option maxRecDepth 20000 in
theorem gX12_addsPowers_X12_power : GoodIn wsX12_addsPowers (wsV RX12 180 RX12 yX12_power wsX12_power) := goodIn_app (goodIn_of _ (by decide +kernel)) ggX12_addsPowers_X12_power
set_option maxRecDepth 20000 in
theorem ggX12_addsPowers_X12_sets : GoodIn wsX12_addsPowers wsX12_sets := goodIn_r _ [22, 7, 15, 16, 17, 5, 18, 1, 23, 24, 25, 26, 27, 28, 29, 30, 31, 32, 33, 34, 35, 36, 37, 38, 39, 40, 41, 42, 43, 44, 45, 46, 47, 48, 49, 50, 51, 52, 53, 54, 55, 56, 57, 58, 59] rfl (by decide +kernel)
set_option maxRecDepth 20000 in
theorem gX12_addsPowers_X12_sets : GoodIn wsX12_addsPowers (wsV RX12 188 RX12 yX12_sets wsX12_sets) := goodIn_app (goodIn_of _ (by decide +kernel)) ggX12_addsPowers_X12_sets
set_option maxRecDepth 20000 in
theorem ggX12_laysLocal_X12_degreeOf : GoodIn wsX12_laysLocal wsX12_degreeOf := goodIn_r _ [6, 7, 8, 9, 5, 10, 11, 51, 52, 53, 54, 55, 56, 57, 58, 59, 60, 61, 62, 63, 64, 65, 66, 67, 68, 69, 70, 71, 72, 73, 74, 75, 76, 77, 78, 79, 80, 81, 82, 83, 84, 85, 86, 87] rfl (by decide +kernel)
set_option maxRecDepth 20000 in
theorem gX12_laysLocal_X12_degreeOf : GoodIn wsX12_laysLocal (wsV RX12 254 RX12 yX12_degreeOf wsX12_degreeOf) := goodIn_app (goodIn_of _ (by decide +kernel)) ggX12_laysLocal_X12_degreeOf
set_option maxRecDepth 20000 in
theorem ggX12_laysLocal_X12_empties : GoodIn wsX12_laysLocal wsX12_empties := goodIn_r _ [15, 11, 51, 52, 53, 54, 55, 56, 57, 58, 59, 60, 61, 62, 63, 64, 65, 66, 67, 68, 69, 70, 71, 72, 73, 74, 75, 76, 77, 78, 79, 80, 81, 82, 83, 84, 85, 86, 87] rfl (by decide +kernel)
set_option maxRecDepth 20000 in
theorem gX12_laysLocal_X12_empties : GoodIn wsX12_laysLocal (wsV RX12 192 RX12 yX12_empties wsX12_empties) := goodIn_app (goodIn_of _ (by decide +kernel)) ggX12_laysLocal_X12_empties
set_option maxRecDepth 20000 in
theorem ggX12_laysLocal_X12_cell : GoodIn wsX12_laysLocal wsX12_cell := goodIn_r _ [10, 11, 51, 52, 53, 54, 55, 56, 57, 58, 59, 60, 61, 62, 63, 64, 65, 66, 67, 68, 69, 70, 71, 72, 73, 74, 75, 76, 77, 78, 79, 80, 81, 82, 83, 84, 85, 86, 87] rfl (by decide +kernel)
set_option maxRecDepth 20000 in
theorem gX12_laysLocal_X12_cell : GoodIn wsX12_laysLocal (wsV RX12 184 RX12 yX12_cell wsX12_cell) := goodIn_app (goodIn_of _ (by decide +kernel)) ggX12_laysLocal_X12_cell
set_option maxRecDepth 20000 in
theorem ggX12_laysLocal_X12_isNear : GoodIn wsX12_laysLocal wsX12_isNear := goodIn_r _ [19, 1, 51, 52, 53, 54, 55, 56, 57, 58, 59, 60, 61, 62, 63, 64, 65, 66, 67, 68, 69, 70, 71, 72, 73, 74, 75, 76, 77, 78, 79, 80, 81, 82, 83, 84, 85, 86, 87] rfl (by decide +kernel)
set_option maxRecDepth 20000 in
theorem gX12_laysLocal_X12_isNear : GoodIn wsX12_laysLocal (wsV RX12 277 RX12 yX12_isNear wsX12_isNear) := goodIn_app (goodIn_of _ (by decide +kernel)) ggX12_laysLocal_X12_isNear
set_option maxRecDepth 20000 in
theorem ggX12_laysLocal_X12_sets1 : GoodIn wsX12_laysLocal wsX12_sets1 := goodIn_r _ [22] rfl (by decide +kernel)
set_option maxRecDepth 20000 in
theorem gX12_laysLocal_X12_sets1 : GoodIn wsX12_laysLocal (va_wsS RX12 302 yX12_sets1 wsX12_sets1) := goodIn_app (goodIn_of _ (by decide +kernel)) ggX12_laysLocal_X12_sets1
set_option maxRecDepth 20000 in
theorem ggX12_laysLocal_X12_yOf : GoodIn wsX12_laysLocal wsX12_yOf := goodIn_r _ [26, 1, 16, 17, 18, 5, 19, 27, 28, 29, 30, 51, 52, 53, 54, 55, 56, 57, 58, 59, 60, 61, 62, 63, 64, 65, 66, 67, 68, 69, 70, 71, 72, 73, 74, 75, 76, 77, 78, 79, 80, 81, 82, 83, 84, 85, 86, 87] rfl (by decide +kernel)
set_option maxRecDepth 20000 in
theorem gX12_laysLocal_X12_yOf : GoodIn wsX12_laysLocal (wsV RX12 283 RX12 yX12_yOf wsX12_yOf) := goodIn_app (goodIn_of _ (by decide +kernel)) ggX12_laysLocal_X12_yOf
set_option maxRecDepth 20000 in
theorem ggX12_laysLocal_X12_power : GoodIn wsX12_laysLocal wsX12_power := goodIn_r _ [34, 1, 35, 36, 37, 5, 38, 51, 52, 53, 54, 55, 56, 57, 58, 59, 60, 61, 62, 63, 64, 65, 66, 67, 68, 69, 70, 71, 72, 73, 74, 75, 76, 77, 78, 79, 80, 81, 82, 83, 84, 85, 86, 87] rfl (by decide +kernel)
set_option maxRecDepth 20000 in
theorem gX12_laysLocal_X12_power : GoodIn wsX12_laysLocal (wsV RX12 180 RX12 yX12_power wsX12_power) := goodIn_app (goodIn_of _ (by decide +kernel)) ggX12_laysLocal_X12_power
set_option maxRecDepth 20000 in
theorem ggX12_laysLocal_X12_xOf : GoodIn wsX12_laysLocal wsX12_xOf := goodIn_r _ [42, 1, 16, 17, 18, 5, 19, 27, 28, 29, 30, 51, 52, 53, 54, 55, 56, 57, 58, 59, 60, 61, 62, 63, 64, 65, 66, 67, 68, 69, 70, 71, 72, 73, 74, 75, 76, 77, 78, 79, 80, 81, 82, 83, 84, 85, 86, 87] rfl (by decide +kernel)
set_option maxRecDepth 20000 in
theorem gX12_laysLocal_X12_xOf : GoodIn wsX12_laysLocal (wsV RX12 280 RX12 yX12_xOf wsX12_xOf) := goodIn_app (goodIn_of _ (by decide +kernel)) ggX12_laysLocal_X12_xOf
set_option maxRecDepth 20000 in
theorem ggX12_laysLocal_X12_addsPowers : GoodIn wsX12_laysLocal wsX12_addsPowers := goodIn_r _ [46, 1, 7, 8, 9, 5, 10, 11, 20, 21, 22, 31, 32, 33, 34, 35, 36, 37, 38, 47, 48, 49, 50, 51, 52, 53, 54, 55, 56, 57, 58, 59, 60, 61, 62, 63, 64, 65, 66, 67, 68, 69, 70, 71, 72, 73, 74, 75, 76, 77, 78, 79, 80, 81, 82, 83, 84, 85, 86, 87] rfl (by decide +kernel)
set_option maxRecDepth 20000 in
theorem gX12_laysLocal_X12_addsPowers : GoodIn wsX12_laysLocal (wsV RX12 305 RX12 yX12_addsPowers wsX12_addsPowers) := goodIn_app (goodIn_of _ (by decide +kernel)) ggX12_laysLocal_X12_addsPowers
set_option maxRecDepth 20000 in
theorem ggX12_laysLocal_X12_points : GoodIn wsX12_laysLocal wsX12_points := goodIn_r _ [30, 1, 51, 52, 53, 54, 55, 56, 57, 58, 59, 60, 61, 62, 63, 64, 65, 66, 67, 68, 69, 70, 71, 72, 73, 74, 75, 76, 77, 78, 79, 80, 81, 82, 83, 84, 85, 86, 87] rfl (by decide +kernel)
set_option maxRecDepth 20000 in
theorem gX12_laysLocal_X12_points : GoodIn wsX12_laysLocal (wsV RX12 274 RX12 yX12_points wsX12_points) := goodIn_app (goodIn_of _ (by decide +kernel)) ggX12_laysLocal_X12_points
set_option maxRecDepth 20000 in
theorem ggX12_laysLocal_X12_sets : GoodIn wsX12_laysLocal wsX12_sets := goodIn_r _ [50, 11, 35, 36, 37, 5, 38, 1, 51, 52, 53, 54, 55, 56, 57, 58, 59, 60, 61, 62, 63, 64, 65, 66, 67, 68, 69, 70, 71, 72, 73, 74, 75, 76, 77, 78, 79, 80, 81, 82, 83, 84, 85, 86, 87] rfl (by decide +kernel)
set_option maxRecDepth 20000 in
theorem gX12_laysLocal_X12_sets : GoodIn wsX12_laysLocal (wsV RX12 188 RX12 yX12_sets wsX12_sets) := goodIn_app (goodIn_of _ (by decide +kernel)) ggX12_laysLocal_X12_sets
set_option maxRecDepth 20000 in
theorem ggX12_orderOf_X12_cell : GoodIn wsX12_orderOf wsX12_cell := goodIn_r _ [5, 6, 7, 8, 9, 10, 11, 12, 13, 14, 15, 16, 17, 18, 19, 20, 21, 22, 23, 24, 25, 26, 27, 28, 29, 30, 31, 32, 33, 34, 35, 36, 37, 38, 39, 40, 41, 42, 43] rfl (by decide +kernel)
set_option maxRecDepth 20000 in
theorem gX12_orderOf_X12_cell : GoodIn wsX12_orderOf (wsV RX12 184 RX12 yX12_cell wsX12_cell) := goodIn_app (goodIn_of _ (by decide +kernel)) ggX12_orderOf_X12_cell
set_option maxRecDepth 20000 in
theorem ggX12_orderAt_X12_laysLocal : GoodIn wsX12_orderAt wsX12_laysLocal := goodIn_r _ [5, 6, 7, 8, 9, 4, 10, 11, 12, 13, 14, 15, 16, 17, 18, 19, 20, 21, 22, 23, 24, 25, 26, 27, 28, 29, 30, 31, 32, 33, 34, 35, 36, 37, 38, 39, 40, 41, 42, 43, 44, 45, 46, 47, 48, 49, 50, 51, 52, 53, 54, 59, 60, 61, 62, 63, 64, 65, 66, 67, 68, 69, 70, 71, 72, 73, 74, 75, 76, 77, 78, 79, 80, 81, 82, 83, 84, 85, 86, 87, 88, 89, 90, 91, 92, 93, 94, 95] rfl (by decide +kernel)
set_option maxRecDepth 20000 in
theorem gX12_orderAt_X12_laysLocal : GoodIn wsX12_orderAt (wsV RX12 309 RX12 yX12_laysLocal wsX12_laysLocal) := goodIn_app (goodIn_of _ (by decide +kernel)) ggX12_orderAt_X12_laysLocal
set_option maxRecDepth 20000 in
theorem ggX12_orderAt_X12_orderOf : GoodIn wsX12_orderAt wsX12_orderOf := goodIn_r _ [58, 11, 12, 13, 4, 14, 15, 59, 60, 61, 62, 63, 64, 65, 66, 67, 68, 69, 70, 71, 72, 73, 74, 75, 76, 77, 78, 79, 80, 81, 82, 83, 84, 85, 86, 87, 88, 89, 90, 91, 92, 93, 94, 95] rfl (by decide +kernel)
set_option maxRecDepth 20000 in
theorem gX12_orderAt_X12_orderOf : GoodIn wsX12_orderAt (wsV RX12 313 RX12 yX12_orderOf wsX12_orderOf) := goodIn_app (goodIn_of _ (by decide +kernel)) ggX12_orderAt_X12_orderOf
set_option maxRecDepth 20000 in
theorem ggX12_order_X12_isCurve : GoodIn wsX12_order wsX12_isCurve := goodIn_r _ [5, 6, 7, 8, 4, 9, 75, 76, 77, 78, 79, 80, 81, 82, 83, 84, 85, 86, 87, 88, 89, 90, 91, 92, 93, 94, 95, 96, 97, 98, 99, 100, 101, 102, 103, 104, 105, 106, 107, 108, 109, 110, 111] rfl (by decide +kernel)
set_option maxRecDepth 20000 in
theorem gX12_order_X12_isCurve : GoodIn wsX12_order (wsV RX12 286 RX12 yX12_isCurve wsX12_isCurve) := goodIn_app (goodIn_of _ (by decide +kernel)) ggX12_order_X12_isCurve
set_option maxRecDepth 20000 in
theorem ggX12_order_X12_isPoint : GoodIn wsX12_order wsX12_isPoint := goodIn_r _ [13, 14, 15, 16, 4, 17, 18, 7, 8, 9, 75, 76, 77, 78, 79, 80, 81, 82, 83, 84, 85, 86, 87, 88, 89, 90, 91, 92, 93, 94, 95, 96, 97, 98, 99, 100, 101, 102, 103, 104, 105, 106, 107, 108, 109, 110, 111] rfl (by decide +kernel)
set_option maxRecDepth 20000 in
theorem gX12_order_X12_isPoint : GoodIn wsX12_order (wsV RX12 296 RX12 yX12_isPoint wsX12_isPoint) := goodIn_app (goodIn_of _ (by decide +kernel)) ggX12_order_X12_isPoint
set_option maxRecDepth 20000 in
theorem ggX12_order_X12_orderAt : GoodIn wsX12_order wsX12_orderAt := goodIn_r _ [22, 23, 24, 25, 4, 26, 18, 27, 28, 29, 30, 31, 32, 33, 34, 35, 36, 37, 38, 39, 40, 41, 42, 43, 44, 45, 46, 47, 48, 49, 50, 14, 15, 16, 17, 51, 52, 53, 54, 55, 56, 57, 58, 59, 60, 61, 62, 63, 64, 65, 66, 67, 68, 69, 70, 71, 72, 73, 74, 75, 76, 77, 78, 79, 80, 81, 82, 83, 84, 85, 86, 87, 88, 89, 90, 91, 92, 93, 94, 95, 96, 97, 98, 99, 100, 101, 102, 103, 104, 105, 106, 107, 108, 109, 110, 111] rfl (by decide +kernel)
set_option maxRecDepth 20000 in
theorem gX12_order_X12_orderAt : GoodIn wsX12_order (wsV RX12 316 RX12 yX12_orderAt wsX12_orderAt) := goodIn_app (goodIn_of _ (by decide +kernel)) ggX12_order_X12_orderAt
set_option maxRecDepth 20000 in
theorem ggX12_local_X12_isCurve : GoodIn wsX12_local wsX12_isCurve := goodIn_r _ [5, 6, 7, 8, 4, 9, 70, 71, 72, 73, 74, 75, 76, 77, 78, 79, 80, 81, 82, 83, 84, 85, 86, 87, 88, 89, 90, 91, 92, 93, 94, 95, 96, 97, 98, 99, 100, 101, 102, 103, 104, 105, 106] rfl (by decide +kernel)
set_option maxRecDepth 20000 in
theorem gX12_local_X12_isCurve : GoodIn wsX12_local (wsV RX12 286 RX12 yX12_isCurve wsX12_isCurve) := goodIn_app (goodIn_of _ (by decide +kernel)) ggX12_local_X12_isCurve
set_option maxRecDepth 20000 in
theorem ggX12_local_X12_isPoint : GoodIn wsX12_local wsX12_isPoint := goodIn_r _ [13, 14, 15, 16, 4, 17, 18, 7, 8, 9, 70, 71, 72, 73, 74, 75, 76, 77, 78, 79, 80, 81, 82, 83, 84, 85, 86, 87, 88, 89, 90, 91, 92, 93, 94, 95, 96, 97, 98, 99, 100, 101, 102, 103, 104, 105, 106] rfl (by decide +kernel)
set_option maxRecDepth 20000 in
theorem gX12_local_X12_isPoint : GoodIn wsX12_local (wsV RX12 296 RX12 yX12_isPoint wsX12_isPoint) := goodIn_app (goodIn_of _ (by decide +kernel)) ggX12_local_X12_isPoint
set_option maxRecDepth 20000 in
theorem ggX12_local_X12_isTerm : GoodIn wsX12_local wsX12_isTerm := goodIn_r _ [21] rfl (by decide +kernel)
set_option maxRecDepth 20000 in
theorem gX12_local_X12_isTerm : GoodIn wsX12_local (va_wsS RX12 289 yX12_isTerm wsX12_isTerm) := goodIn_app (goodIn_of _ (by decide +kernel)) ggX12_local_X12_isTerm
set_option maxRecDepth 20000 in
theorem ggX12_local_X12_laysLocal : GoodIn wsX12_local wsX12_laysLocal := goodIn_r _ [25, 18, 26, 27, 28, 4, 29, 30, 31, 32, 33, 34, 35, 36, 37, 38, 39, 40, 41, 42, 43, 44, 45, 46, 47, 48, 49, 14, 15, 16, 17, 50, 51, 52, 53, 54, 55, 56, 57, 58, 59, 60, 61, 62, 63, 64, 65, 66, 67, 68, 69, 70, 71, 72, 73, 74, 75, 76, 77, 78, 79, 80, 81, 82, 83, 84, 85, 86, 87, 88, 89, 90, 91, 92, 93, 94, 95, 96, 97, 98, 99, 100, 101, 102, 103, 104, 105, 106] rfl (by decide +kernel)
set_option maxRecDepth 20000 in
theorem gX12_local_X12_laysLocal : GoodIn wsX12_local (wsV RX12 309 RX12 yX12_laysLocal wsX12_laysLocal) := goodIn_app (goodIn_of _ (by decide +kernel)) ggX12_local_X12_laysLocal
set_option maxRecDepth 20000 in
theorem ggX12_local_X12_cell : GoodIn wsX12_local wsX12_cell := goodIn_r _ [33, 34, 70, 71, 72, 73, 74, 75, 76, 77, 78, 79, 80, 81, 82, 83, 84, 85, 86, 87, 88, 89, 90, 91, 92, 93, 94, 95, 96, 97, 98, 99, 100, 101, 102, 103, 104, 105, 106] rfl (by decide +kernel)
set_option maxRecDepth 20000 in
theorem gX12_local_X12_cell : GoodIn wsX12_local (wsV RX12 184 RX12 yX12_cell wsX12_cell) := goodIn_app (goodIn_of _ (by decide +kernel)) ggX12_local_X12_cell
set_option maxRecDepth 20000 in
theorem ggX12_singular_X12_isCurve : GoodIn wsX12_singular wsX12_isCurve := goodIn_r _ [5, 6, 7, 8, 4, 9, 71, 72, 73, 74, 75, 76, 77, 78, 79, 80, 81, 82, 83, 84, 85, 86, 87, 88, 89, 90, 91, 92, 93, 94, 95, 96, 97, 98, 99, 100, 101, 102, 103, 104, 105, 106, 107] rfl (by decide +kernel)
set_option maxRecDepth 20000 in
theorem gX12_singular_X12_isCurve : GoodIn wsX12_singular (wsV RX12 286 RX12 yX12_isCurve wsX12_isCurve) := goodIn_app (goodIn_of _ (by decide +kernel)) ggX12_singular_X12_isCurve
set_option maxRecDepth 20000 in
theorem ggX12_singular_X12_points : GoodIn wsX12_singular wsX12_points := goodIn_r _ [13, 14, 71, 72, 73, 74, 75, 76, 77, 78, 79, 80, 81, 82, 83, 84, 85, 86, 87, 88, 89, 90, 91, 92, 93, 94, 95, 96, 97, 98, 99, 100, 101, 102, 103, 104, 105, 106, 107] rfl (by decide +kernel)
set_option maxRecDepth 20000 in
theorem gX12_singular_X12_points : GoodIn wsX12_singular (wsV RX12 274 RX12 yX12_points wsX12_points) := goodIn_app (goodIn_of _ (by decide +kernel)) ggX12_singular_X12_points
set_option maxRecDepth 20000 in
theorem ggX12_singular_X12_orderAt : GoodIn wsX12_singular wsX12_orderAt := goodIn_r _ [18, 19, 20, 21, 4, 22, 14, 23, 24, 25, 26, 27, 28, 29, 30, 31, 32, 33, 34, 35, 36, 37, 38, 39, 40, 41, 42, 43, 44, 45, 46, 10, 11, 12, 13, 47, 48, 49, 50, 51, 52, 53, 54, 55, 56, 57, 58, 59, 60, 61, 62, 63, 64, 65, 66, 67, 68, 69, 70, 71, 72, 73, 74, 75, 76, 77, 78, 79, 80, 81, 82, 83, 84, 85, 86, 87, 88, 89, 90, 91, 92, 93, 94, 95, 96, 97, 98, 99, 100, 101, 102, 103, 104, 105, 106, 107] rfl (by decide +kernel)
set_option maxRecDepth 20000 in
theorem gX12_singular_X12_orderAt : GoodIn wsX12_singular (wsV RX12 316 RX12 yX12_orderAt wsX12_orderAt) := goodIn_app (goodIn_of _ (by decide +kernel)) ggX12_singular_X12_orderAt
set_option maxRecDepth 20000 in
theorem ggX12_oftenTangent_X12_cell : GoodIn wsX12_oftenTangent wsX12_cell := goodIn_r _ [7, 8, 21, 22, 23, 24, 25, 26, 27, 28, 29, 30, 31, 32, 33, 34, 35, 36, 37, 38, 39, 40, 41, 42, 43, 44, 45, 46, 47, 48, 49, 50, 51, 52, 53, 54, 55, 56, 57] rfl (by decide +kernel)
set_option maxRecDepth 20000 in
theorem gX12_oftenTangent_X12_cell : GoodIn wsX12_oftenTangent (wsV RX12 184 RX12 yX12_cell wsX12_cell) := goodIn_app (goodIn_of _ (by decide +kernel)) ggX12_oftenTangent_X12_cell
set_option maxRecDepth 20000 in
theorem ggX12_oftenTangent_X12_atT : GoodIn wsX12_oftenTangent wsX12_atT := goodIn_r _ [12, 1, 2, 13, 14, 15, 6, 16, 21, 22, 23, 24, 25, 26, 27, 28, 29, 30, 31, 32, 33, 34, 35, 36, 37, 38, 39, 40, 41, 42, 43, 44, 45, 46, 47, 48, 49, 50, 51, 52, 53, 54, 55, 56, 57] rfl (by decide +kernel)
set_option maxRecDepth 20000 in
theorem gX12_oftenTangent_X12_atT : GoodIn wsX12_oftenTangent (wsV RX12 319 RX12 yX12_atT wsX12_atT) := goodIn_app (goodIn_of _ (by decide +kernel)) ggX12_oftenTangent_X12_atT
set_option maxRecDepth 20000 in
theorem ggX12_oftenTangent_X12_divides : GoodIn wsX12_oftenTangent wsX12_divides := goodIn_r _ [20, 1, 2, 13, 14, 15, 6, 16, 21, 22, 23, 24, 25, 26, 27, 28, 29, 30, 31, 32, 33, 34, 35, 36, 37, 38, 39, 40, 41, 42, 43, 44, 45, 46, 47, 48, 49, 50, 51, 52, 53, 54, 55, 56, 57] rfl (by decide +kernel)
set_option maxRecDepth 20000 in
theorem gX12_oftenTangent_X12_divides : GoodIn wsX12_oftenTangent (wsV RX12 322 RX12 yX12_divides wsX12_divides) := goodIn_app (goodIn_of _ (by decide +kernel)) ggX12_oftenTangent_X12_divides
set_option maxRecDepth 20000 in
theorem ggX12_atT_X12_modulo : GoodIn wsX12_atT wsX12_modulo := goodIn_r _ [7, 2, 8, 9, 10, 11, 12, 13, 14, 15, 16, 17, 18, 19, 20, 21, 22, 23, 24, 25, 26, 27, 28, 29, 30, 31, 32, 33, 34, 35, 36, 37, 38, 39, 40, 41, 42, 43, 44] rfl (by decide +kernel)
set_option maxRecDepth 20000 in
theorem gX12_atT_X12_modulo : GoodIn wsX12_atT (wsV RX12 176 RX12 yX12_modulo wsX12_modulo) := goodIn_app (goodIn_of _ (by decide +kernel)) ggX12_atT_X12_modulo
set_option maxRecDepth 20000 in
theorem ggX12_divides_X12_modulo : GoodIn wsX12_divides wsX12_modulo := goodIn_r _ [7, 2, 8, 9, 10, 11, 12, 13, 14, 15, 16, 17, 18, 19, 20, 21, 22, 23, 24, 25, 26, 27, 28, 29, 30, 31, 32, 33, 34, 35, 36, 37, 38, 39, 40, 41, 42, 43, 44] rfl (by decide +kernel)
set_option maxRecDepth 20000 in
theorem gX12_divides_X12_modulo : GoodIn wsX12_divides (wsV RX12 176 RX12 yX12_modulo wsX12_modulo) := goodIn_app (goodIn_of _ (by decide +kernel)) ggX12_divides_X12_modulo
set_option maxRecDepth 20000 in
theorem ggX12_tangent_X12_isCurve : GoodIn wsX12_tangent wsX12_isCurve := goodIn_r _ [6, 7, 8, 9, 5, 10, 96, 97, 98, 99, 100, 101, 102, 103, 104, 105, 106, 107, 108, 109, 110, 111, 112, 113, 114, 115, 116, 117, 118, 119, 120, 121, 122, 123, 124, 125, 126, 127, 128, 129, 130, 131, 132] rfl (by decide +kernel)
set_option maxRecDepth 20000 in
theorem gX12_tangent_X12_isCurve : GoodIn wsX12_tangent (wsV RX12 286 RX12 yX12_isCurve wsX12_isCurve) := goodIn_app (goodIn_of _ (by decide +kernel)) ggX12_tangent_X12_isCurve
set_option maxRecDepth 20000 in
theorem ggX12_tangent_X12_isPoint : GoodIn wsX12_tangent wsX12_isPoint := goodIn_r _ [14, 15, 16, 17, 5, 18, 1, 8, 9, 10, 96, 97, 98, 99, 100, 101, 102, 103, 104, 105, 106, 107, 108, 109, 110, 111, 112, 113, 114, 115, 116, 117, 118, 119, 120, 121, 122, 123, 124, 125, 126, 127, 128, 129, 130, 131, 132] rfl (by decide +kernel)
set_option maxRecDepth 20000 in
theorem gX12_tangent_X12_isPoint : GoodIn wsX12_tangent (wsV RX12 296 RX12 yX12_isPoint wsX12_isPoint) := goodIn_app (goodIn_of _ (by decide +kernel)) ggX12_tangent_X12_isPoint
set_option maxRecDepth 20000 in
theorem ggX12_tangent_X12_isIn : GoodIn wsX12_tangent wsX12_isIn := goodIn_r _ [10] rfl (by decide +kernel)
set_option maxRecDepth 20000 in
theorem gX12_tangent_X12_isIn : GoodIn wsX12_tangent (va_wsS RX12 271 yX12_isIn wsX12_isIn) := goodIn_app (goodIn_of _ (by decide +kernel)) ggX12_tangent_X12_isIn
set_option maxRecDepth 20000 in
theorem ggX12_tangent_X12_valueAt : GoodIn wsX12_tangent wsX12_valueAt := goodIn_r _ [22, 23, 24, 25, 5, 26, 27, 28, 29, 30, 31, 32, 33, 34, 35, 1, 36, 37, 38, 39, 40, 41, 42, 43, 15, 16, 17, 18, 44, 45, 46, 47, 48, 49, 50, 51, 52, 53, 54, 55, 96, 97, 98, 99, 100, 101, 102, 103, 104, 105, 106, 107, 108, 109, 110, 111, 112, 113, 114, 115, 116, 117, 118, 119, 120, 121, 122, 123, 124, 125, 126, 127, 128, 129, 130, 131, 132] rfl (by decide +kernel)
set_option maxRecDepth 20000 in
theorem gX12_tangent_X12_valueAt : GoodIn wsX12_tangent (wsV RX12 299 RX12 yX12_valueAt wsX12_valueAt) := goodIn_app (goodIn_of _ (by decide +kernel)) ggX12_tangent_X12_valueAt
set_option maxRecDepth 20000 in
theorem ggX12_tangent_X12_orderAt : GoodIn wsX12_tangent wsX12_orderAt := goodIn_r _ [59, 60, 61, 62, 5, 63, 1, 23, 24, 25, 26, 27, 28, 29, 30, 31, 64, 65, 66, 67, 36, 37, 38, 39, 68, 69, 70, 52, 53, 54, 55, 15, 16, 17, 18, 44, 45, 46, 47, 48, 49, 50, 51, 40, 41, 42, 43, 71, 72, 73, 74, 75, 76, 77, 78, 79, 80, 81, 82, 96, 97, 98, 99, 100, 101, 102, 103, 104, 105, 106, 107, 108, 109, 110, 111, 112, 113, 114, 115, 116, 117, 118, 119, 120, 121, 122, 123, 124, 125, 126, 127, 128, 129, 130, 131, 132] rfl (by decide +kernel)
set_option maxRecDepth 20000 in
theorem gX12_tangent_X12_orderAt : GoodIn wsX12_tangent (wsV RX12 316 RX12 yX12_orderAt wsX12_orderAt) := goodIn_app (goodIn_of _ (by decide +kernel)) ggX12_tangent_X12_orderAt
set_option maxRecDepth 20000 in
theorem ggX12_tangent_X12_oftenTangent : GoodIn wsX12_tangent wsX12_oftenTangent := goodIn_r _ [86, 87, 1, 27, 28, 29, 5, 30, 31, 88, 89, 90, 91, 48, 49, 50, 51, 92, 93, 94, 95, 96, 97, 98, 99, 100, 101, 102, 103, 104, 105, 106, 107, 108, 109, 110, 111, 112, 113, 114, 115, 116, 117, 118, 119, 120, 121, 122, 123, 124, 125, 126, 127, 128, 129, 130, 131, 132] rfl (by decide +kernel)
set_option maxRecDepth 20000 in
theorem gX12_tangent_X12_oftenTangent : GoodIn wsX12_tangent (wsV RX12 325 RX12 yX12_oftenTangent wsX12_oftenTangent) := goodIn_app (goodIn_of _ (by decide +kernel)) ggX12_tangent_X12_oftenTangent
set_option maxRecDepth 20000 in
theorem ggX12_bendHere_X12_cell : GoodIn wsX12_bendHere wsX12_cell := goodIn_r _ [6, 7, 20, 21, 22, 23, 24, 25, 26, 27, 28, 29, 30, 31, 32, 33, 34, 35, 36, 37, 38, 39, 40, 41, 42, 43, 44, 45, 46, 47, 48, 49, 50, 51, 52, 53, 54, 55, 56] rfl (by decide +kernel)
set_option maxRecDepth 20000 in
theorem gX12_bendHere_X12_cell : GoodIn wsX12_bendHere (wsV RX12 184 RX12 yX12_cell wsX12_cell) := goodIn_app (goodIn_of _ (by decide +kernel)) ggX12_bendHere_X12_cell
set_option maxRecDepth 20000 in
theorem ggX12_bendHere_X12_inverse : GoodIn wsX12_bendHere wsX12_inverse := goodIn_r _ [11, 1, 12, 13, 14, 5, 15, 16, 17, 18, 19, 20, 21, 22, 23, 24, 25, 26, 27, 28, 29, 30, 31, 32, 33, 34, 35, 36, 37, 38, 39, 40, 41, 42, 43, 44, 45, 46, 47, 48, 49, 50, 51, 52, 53, 54, 55, 56] rfl (by decide +kernel)
set_option maxRecDepth 20000 in
theorem gX12_bendHere_X12_inverse : GoodIn wsX12_bendHere (wsV RX12 328 RX12 yX12_inverse wsX12_inverse) := goodIn_app (goodIn_of _ (by decide +kernel)) ggX12_bendHere_X12_inverse
set_option maxRecDepth 20000 in
theorem ggX12_bendHere_X12_modulo : GoodIn wsX12_bendHere wsX12_modulo := goodIn_r _ [19, 1, 20, 21, 22, 23, 24, 25, 26, 27, 28, 29, 30, 31, 32, 33, 34, 35, 36, 37, 38, 39, 40, 41, 42, 43, 44, 45, 46, 47, 48, 49, 50, 51, 52, 53, 54, 55, 56] rfl (by decide +kernel)
set_option maxRecDepth 20000 in
theorem gX12_bendHere_X12_modulo : GoodIn wsX12_bendHere (wsV RX12 176 RX12 yX12_modulo wsX12_modulo) := goodIn_app (goodIn_of _ (by decide +kernel)) ggX12_bendHere_X12_modulo
set_option maxRecDepth 20000 in
theorem ggX12_bendHere_X12_power : GoodIn wsX12_bendHere wsX12_power := goodIn_r _ [15, 1, 16, 17, 18, 5, 19, 20, 21, 22, 23, 24, 25, 26, 27, 28, 29, 30, 31, 32, 33, 34, 35, 36, 37, 38, 39, 40, 41, 42, 43, 44, 45, 46, 47, 48, 49, 50, 51, 52, 53, 54, 55, 56] rfl (by decide +kernel)
set_option maxRecDepth 20000 in
theorem gX12_bendHere_X12_power : GoodIn wsX12_bendHere (wsV RX12 180 RX12 yX12_power wsX12_power) := goodIn_app (goodIn_of _ (by decide +kernel)) ggX12_bendHere_X12_power
set_option maxRecDepth 20000 in
theorem ggX12_bend_X12_isCurve : GoodIn wsX12_bend wsX12_isCurve := goodIn_r _ [5, 6, 7, 8, 4, 9, 83, 84, 85, 86, 87, 88, 89, 90, 91, 92, 93, 94, 95, 96, 97, 98, 99, 100, 101, 102, 103, 104, 105, 106, 107, 108, 109, 110, 111, 112, 113, 114, 115, 116, 117, 118, 119] rfl (by decide +kernel)
set_option maxRecDepth 20000 in
theorem gX12_bend_X12_isCurve : GoodIn wsX12_bend (wsV RX12 286 RX12 yX12_isCurve wsX12_isCurve) := goodIn_app (goodIn_of _ (by decide +kernel)) ggX12_bend_X12_isCurve
set_option maxRecDepth 20000 in
theorem ggX12_bend_X12_isPoint : GoodIn wsX12_bend wsX12_isPoint := goodIn_r _ [13, 14, 15, 16, 4, 17, 18, 7, 8, 9, 83, 84, 85, 86, 87, 88, 89, 90, 91, 92, 93, 94, 95, 96, 97, 98, 99, 100, 101, 102, 103, 104, 105, 106, 107, 108, 109, 110, 111, 112, 113, 114, 115, 116, 117, 118, 119] rfl (by decide +kernel)
set_option maxRecDepth 20000 in
theorem gX12_bend_X12_isPoint : GoodIn wsX12_bend (wsV RX12 296 RX12 yX12_isPoint wsX12_isPoint) := goodIn_app (goodIn_of _ (by decide +kernel)) ggX12_bend_X12_isPoint
set_option maxRecDepth 20000 in
theorem ggX12_bend_X12_orderAt : GoodIn wsX12_bend wsX12_orderAt := goodIn_r _ [22, 23, 24, 25, 4, 26, 18, 27, 28, 29, 30, 31, 32, 33, 34, 35, 36, 37, 38, 39, 40, 41, 42, 43, 44, 45, 46, 47, 48, 49, 50, 14, 15, 16, 17, 51, 52, 53, 54, 55, 56, 57, 58, 59, 60, 61, 62, 63, 64, 65, 66, 67, 68, 69, 70, 71, 72, 73, 74, 83, 84, 85, 86, 87, 88, 89, 90, 91, 92, 93, 94, 95, 96, 97, 98, 99, 100, 101, 102, 103, 104, 105, 106, 107, 108, 109, 110, 111, 112, 113, 114, 115, 116, 117, 118, 119] rfl (by decide +kernel)
set_option maxRecDepth 20000 in
theorem gX12_bend_X12_orderAt : GoodIn wsX12_bend (wsV RX12 316 RX12 yX12_orderAt wsX12_orderAt) := goodIn_app (goodIn_of _ (by decide +kernel)) ggX12_bend_X12_orderAt
set_option maxRecDepth 20000 in
theorem ggX12_bend_X12_bendHere : GoodIn wsX12_bend wsX12_bendHere := goodIn_r _ [78, 18, 31, 32, 33, 4, 34, 35, 79, 80, 81, 82, 51, 52, 53, 54, 55, 56, 57, 58, 83, 84, 85, 86, 87, 88, 89, 90, 91, 92, 93, 94, 95, 96, 97, 98, 99, 100, 101, 102, 103, 104, 105, 106, 107, 108, 109, 110, 111, 112, 113, 114, 115, 116, 117, 118, 119] rfl (by decide +kernel)
set_option maxRecDepth 20000 in
theorem gX12_bend_X12_bendHere : GoodIn wsX12_bend (wsV RX12 331 RX12 yX12_bendHere wsX12_bendHere) := goodIn_app (goodIn_of _ (by decide +kernel)) ggX12_bend_X12_bendHere
set_option maxRecDepth 20000 in
theorem ggX12_flex_X12_isCurve : GoodIn wsX12_flex wsX12_isCurve := goodIn_r _ [5, 6, 7, 8, 4, 9, 79, 80, 81, 82, 83, 84, 85, 86, 87, 88, 89, 90, 91, 92, 93, 94, 95, 96, 97, 98, 99, 100, 101, 102, 103, 104, 105, 106, 107, 108, 109, 110, 111, 112, 113, 114, 115] rfl (by decide +kernel)
set_option maxRecDepth 20000 in
theorem gX12_flex_X12_isCurve : GoodIn wsX12_flex (wsV RX12 286 RX12 yX12_isCurve wsX12_isCurve) := goodIn_app (goodIn_of _ (by decide +kernel)) ggX12_flex_X12_isCurve
set_option maxRecDepth 20000 in
theorem ggX12_flex_X12_points : GoodIn wsX12_flex wsX12_points := goodIn_r _ [13, 14, 79, 80, 81, 82, 83, 84, 85, 86, 87, 88, 89, 90, 91, 92, 93, 94, 95, 96, 97, 98, 99, 100, 101, 102, 103, 104, 105, 106, 107, 108, 109, 110, 111, 112, 113, 114, 115] rfl (by decide +kernel)
set_option maxRecDepth 20000 in
theorem gX12_flex_X12_points : GoodIn wsX12_flex (wsV RX12 274 RX12 yX12_points wsX12_points) := goodIn_app (goodIn_of _ (by decide +kernel)) ggX12_flex_X12_points
set_option maxRecDepth 20000 in
theorem ggX12_flex_X12_orderAt : GoodIn wsX12_flex wsX12_orderAt := goodIn_r _ [18, 19, 20, 21, 4, 22, 14, 23, 24, 25, 26, 27, 28, 29, 30, 31, 32, 33, 34, 35, 36, 37, 38, 39, 40, 41, 42, 43, 44, 45, 46, 10, 11, 12, 13, 47, 48, 49, 50, 51, 52, 53, 54, 55, 56, 57, 58, 59, 60, 61, 62, 63, 64, 65, 66, 67, 68, 69, 70, 79, 80, 81, 82, 83, 84, 85, 86, 87, 88, 89, 90, 91, 92, 93, 94, 95, 96, 97, 98, 99, 100, 101, 102, 103, 104, 105, 106, 107, 108, 109, 110, 111, 112, 113, 114, 115] rfl (by decide +kernel)
set_option maxRecDepth 20000 in
theorem gX12_flex_X12_orderAt : GoodIn wsX12_flex (wsV RX12 316 RX12 yX12_orderAt wsX12_orderAt) := goodIn_app (goodIn_of _ (by decide +kernel)) ggX12_flex_X12_orderAt
set_option maxRecDepth 20000 in
theorem ggX12_flex_X12_bendHere : GoodIn wsX12_flex wsX12_bendHere := goodIn_r _ [74, 14, 27, 28, 29, 4, 30, 31, 75, 76, 77, 78, 47, 48, 49, 50, 51, 52, 53, 54, 79, 80, 81, 82, 83, 84, 85, 86, 87, 88, 89, 90, 91, 92, 93, 94, 95, 96, 97, 98, 99, 100, 101, 102, 103, 104, 105, 106, 107, 108, 109, 110, 111, 112, 113, 114, 115] rfl (by decide +kernel)
set_option maxRecDepth 20000 in
theorem gX12_flex_X12_bendHere : GoodIn wsX12_flex (wsV RX12 331 RX12 yX12_bendHere wsX12_bendHere) := goodIn_app (goodIn_of _ (by decide +kernel)) ggX12_flex_X12_bendHere
set_option maxRecDepth 20000 in
theorem ggX12_genus_X12_isCurve : GoodIn wsX12_genus wsX12_isCurve := goodIn_r _ [5, 6, 7, 8, 4, 9, 71, 72, 73, 74, 75, 76, 77, 78, 79, 80, 81, 82, 83, 84, 85, 86, 87, 88, 89, 90, 91, 92, 93, 94, 95, 96, 97, 98, 99, 100, 101, 102, 103, 104, 105, 106, 107] rfl (by decide +kernel)
set_option maxRecDepth 20000 in
theorem gX12_genus_X12_isCurve : GoodIn wsX12_genus (wsV RX12 286 RX12 yX12_isCurve wsX12_isCurve) := goodIn_app (goodIn_of _ (by decide +kernel)) ggX12_genus_X12_isCurve
set_option maxRecDepth 20000 in
theorem ggX12_genus_X12_degreeOf : GoodIn wsX12_genus wsX12_degreeOf := goodIn_r _ [13, 14, 15, 16, 4, 17, 18, 71, 72, 73, 74, 75, 76, 77, 78, 79, 80, 81, 82, 83, 84, 85, 86, 87, 88, 89, 90, 91, 92, 93, 94, 95, 96, 97, 98, 99, 100, 101, 102, 103, 104, 105, 106, 107] rfl (by decide +kernel)
set_option maxRecDepth 20000 in
theorem gX12_genus_X12_degreeOf : GoodIn wsX12_genus (wsV RX12 254 RX12 yX12_degreeOf wsX12_degreeOf) := goodIn_app (goodIn_of _ (by decide +kernel)) ggX12_genus_X12_degreeOf
set_option maxRecDepth 20000 in
theorem ggX12_genus_X12_points : GoodIn wsX12_genus wsX12_points := goodIn_r _ [22, 23, 71, 72, 73, 74, 75, 76, 77, 78, 79, 80, 81, 82, 83, 84, 85, 86, 87, 88, 89, 90, 91, 92, 93, 94, 95, 96, 97, 98, 99, 100, 101, 102, 103, 104, 105, 106, 107] rfl (by decide +kernel)
set_option maxRecDepth 20000 in
theorem gX12_genus_X12_points : GoodIn wsX12_genus (wsV RX12 274 RX12 yX12_points wsX12_points) := goodIn_app (goodIn_of _ (by decide +kernel)) ggX12_genus_X12_points
set_option maxRecDepth 20000 in
theorem ggX12_genus_X12_orderAt : GoodIn wsX12_genus wsX12_orderAt := goodIn_r _ [27, 28, 29, 30, 4, 31, 23, 10, 11, 12, 13, 14, 15, 16, 17, 18, 32, 33, 34, 35, 36, 37, 38, 39, 40, 41, 42, 43, 44, 45, 46, 19, 20, 21, 22, 47, 48, 49, 50, 51, 52, 53, 54, 55, 56, 57, 58, 59, 60, 61, 62, 63, 64, 65, 66, 67, 68, 69, 70, 71, 72, 73, 74, 75, 76, 77, 78, 79, 80, 81, 82, 83, 84, 85, 86, 87, 88, 89, 90, 91, 92, 93, 94, 95, 96, 97, 98, 99, 100, 101, 102, 103, 104, 105, 106, 107] rfl (by decide +kernel)
set_option maxRecDepth 20000 in
theorem gX12_genus_X12_orderAt : GoodIn wsX12_genus (wsV RX12 316 RX12 yX12_orderAt wsX12_orderAt) := goodIn_app (goodIn_of _ (by decide +kernel)) ggX12_genus_X12_orderAt
set_option maxRecDepth 20000 in
theorem ggX12_piles_X12_reduced : GoodIn wsX12_piles wsX12_reduced := goodIn_r _ [11, 2, 1, 6, 5, 3, 24, 25, 26, 27, 28, 29, 30, 31, 32, 33, 34, 35, 36, 37, 38, 39, 40, 41, 42, 43, 44, 45, 46, 47, 48, 49, 50, 51, 52, 53, 54, 55, 56, 57, 58, 59, 60] rfl (by decide +kernel)
set_option maxRecDepth 20000 in
theorem gX12_piles_X12_reduced : GoodIn wsX12_piles (wsV RX12 334 RX12 yX12_reduced wsX12_reduced) := goodIn_app (goodIn_of _ (by decide +kernel)) ggX12_piles_X12_reduced
set_option maxRecDepth 20000 in
theorem ggX12_piles_X12_inverse : GoodIn wsX12_piles wsX12_inverse := goodIn_r _ [15, 5, 16, 17, 18, 10, 19, 20, 21, 22, 23, 24, 25, 26, 27, 28, 29, 30, 31, 32, 33, 34, 35, 36, 37, 38, 39, 40, 41, 42, 43, 44, 45, 46, 47, 48, 49, 50, 51, 52, 53, 54, 55, 56, 57, 58, 59, 60] rfl (by decide +kernel)
set_option maxRecDepth 20000 in
theorem gX12_piles_X12_inverse : GoodIn wsX12_piles (wsV RX12 328 RX12 yX12_inverse wsX12_inverse) := goodIn_app (goodIn_of _ (by decide +kernel)) ggX12_piles_X12_inverse
set_option maxRecDepth 20000 in
theorem ggX12_solves_X12_swapsRows : GoodIn wsX12_solves wsX12_swapsRows := goodIn_r _ [9, 2, 22, 23, 24, 25, 26, 27, 28, 29, 30, 31, 32, 33, 34, 35, 36, 37, 38, 39, 40, 41, 42, 43, 44, 45, 46, 47, 48, 49, 50, 51, 52, 53, 54, 55, 56, 57, 58] rfl (by decide +kernel)
set_option maxRecDepth 20000 in
theorem gX12_solves_X12_swapsRows : GoodIn wsX12_solves (wsV RX12 337 RX12 yX12_swapsRows wsX12_swapsRows) := goodIn_app (goodIn_of _ (by decide +kernel)) ggX12_solves_X12_swapsRows
set_option maxRecDepth 20000 in
theorem ggX12_solves_X12_inverse : GoodIn wsX12_solves wsX12_inverse := goodIn_r _ [13, 3, 14, 15, 16, 8, 17, 18, 19, 20, 21, 22, 23, 24, 25, 26, 27, 28, 29, 30, 31, 32, 33, 34, 35, 36, 37, 38, 39, 40, 41, 42, 43, 44, 45, 46, 47, 48, 49, 50, 51, 52, 53, 54, 55, 56, 57, 58] rfl (by decide +kernel)
set_option maxRecDepth 20000 in
theorem gX12_solves_X12_inverse : GoodIn wsX12_solves (wsV RX12 328 RX12 yX12_inverse wsX12_inverse) := goodIn_app (goodIn_of _ (by decide +kernel)) ggX12_solves_X12_inverse
set_option maxRecDepth 20000 in
theorem ggX12_solves_X12_modulo : GoodIn wsX12_solves wsX12_modulo := goodIn_r _ [21, 3, 22, 23, 24, 25, 26, 27, 28, 29, 30, 31, 32, 33, 34, 35, 36, 37, 38, 39, 40, 41, 42, 43, 44, 45, 46, 47, 48, 49, 50, 51, 52, 53, 54, 55, 56, 57, 58] rfl (by decide +kernel)
set_option maxRecDepth 20000 in
theorem gX12_solves_X12_modulo : GoodIn wsX12_solves (wsV RX12 176 RX12 yX12_modulo wsX12_modulo) := goodIn_app (goodIn_of _ (by decide +kernel)) ggX12_solves_X12_modulo
