set_option maxRecDepth 20000 in
theorem ggX12_addsUnknowns_X12_termAt : GoodIn wsX12_addsUnknowns wsX12_termAt := goodIn_r _ [5] rfl (by decide +kernel)
set_option maxRecDepth 20000 in
theorem gX12_addsUnknowns_X12_termAt : GoodIn wsX12_addsUnknowns (va_wsS RX12 340 yX12_termAt wsX12_termAt) := goodIn_app (goodIn_of _ (by decide +kernel)) ggX12_addsUnknowns_X12_termAt
set_option maxRecDepth 20000 in
theorem ggX12_addsUnknowns_X12_cell : GoodIn wsX12_addsUnknowns wsX12_cell := goodIn_r _ [9, 10, 16, 17, 18, 19, 20, 21, 22, 23, 24, 25, 26, 27, 28, 29, 30, 31, 32, 33, 34, 35, 36, 37, 38, 39, 40, 41, 42, 43, 44, 45, 46, 47, 48, 49, 50, 51, 52] rfl (by decide +kernel)
set_option maxRecDepth 20000 in
theorem gX12_addsUnknowns_X12_cell : GoodIn wsX12_addsUnknowns (wsV RX12 184 RX12 yX12_cell wsX12_cell) := goodIn_app (goodIn_of _ (by decide +kernel)) ggX12_addsUnknowns_X12_cell
set_option maxRecDepth 20000 in
theorem ggX12_addsUnknowns_X12_modulo : GoodIn wsX12_addsUnknowns wsX12_modulo := goodIn_r _ [14, 15, 16, 17, 18, 19, 20, 21, 22, 23, 24, 25, 26, 27, 28, 29, 30, 31, 32, 33, 34, 35, 36, 37, 38, 39, 40, 41, 42, 43, 44, 45, 46, 47, 48, 49, 50, 51, 52] rfl (by decide +kernel)
set_option maxRecDepth 20000 in
theorem gX12_addsUnknowns_X12_modulo : GoodIn wsX12_addsUnknowns (wsV RX12 176 RX12 yX12_modulo wsX12_modulo) := goodIn_app (goodIn_of _ (by decide +kernel)) ggX12_addsUnknowns_X12_modulo
set_option maxRecDepth 20000 in
theorem ggX12_laysCommon_X12_degreeOf : GoodIn wsX12_laysCommon wsX12_degreeOf := goodIn_r _ [7, 8, 9, 10, 6, 11, 12, 66, 67, 68, 69, 70, 71, 72, 73, 74, 75, 76, 77, 78, 79, 80, 81, 82, 83, 84, 85, 86, 87, 88, 89, 90, 91, 92, 93, 94, 95, 96, 97, 98, 99, 100, 101, 102] rfl (by decide +kernel)
set_option maxRecDepth 20000 in
theorem gX12_laysCommon_X12_degreeOf : GoodIn wsX12_laysCommon (wsV RX12 254 RX12 yX12_degreeOf wsX12_degreeOf) := goodIn_app (goodIn_of _ (by decide +kernel)) ggX12_laysCommon_X12_degreeOf
set_option maxRecDepth 20000 in
theorem ggX12_laysCommon_X12_emptiesEquations : GoodIn wsX12_laysCommon wsX12_emptiesEquations := goodIn_r _ [16, 17, 66, 67, 68, 69, 70, 71, 72, 73, 74, 75, 76, 77, 78, 79, 80, 81, 82, 83, 84, 85, 86, 87, 88, 89, 90, 91, 92, 93, 94, 95, 96, 97, 98, 99, 100, 101, 102] rfl (by decide +kernel)
set_option maxRecDepth 20000 in
theorem gX12_laysCommon_X12_emptiesEquations : GoodIn wsX12_laysCommon (wsV RX12 343 RX12 yX12_emptiesEquations wsX12_emptiesEquations) := goodIn_app (goodIn_of _ (by decide +kernel)) ggX12_laysCommon_X12_emptiesEquations
set_option maxRecDepth 20000 in
theorem ggX12_laysCommon_X12_addsUnknowns : GoodIn wsX12_laysCommon wsX12_addsUnknowns := goodIn_r _ [21, 17, 22, 23, 6, 24, 8, 9, 10, 11, 12, 25, 26, 27, 28, 29, 66, 67, 68, 69, 70, 71, 72, 73, 74, 75, 76, 77, 78, 79, 80, 81, 82, 83, 84, 85, 86, 87, 88, 89, 90, 91, 92, 93, 94, 95, 96, 97, 98, 99, 100, 101, 102] rfl (by decide +kernel)
set_option maxRecDepth 20000 in
theorem gX12_laysCommon_X12_addsUnknowns : GoodIn wsX12_laysCommon (wsV RX12 346 RX12 yX12_addsUnknowns wsX12_addsUnknowns) := goodIn_app (goodIn_of _ (by decide +kernel)) ggX12_laysCommon_X12_addsUnknowns
set_option maxRecDepth 20000 in
theorem ggX12_laysCommon_X12_manyTerms : GoodIn wsX12_laysCommon wsX12_manyTerms := goodIn_r _ [32] rfl (by decide +kernel)
set_option maxRecDepth 20000 in
theorem gX12_laysCommon_X12_manyTerms : GoodIn wsX12_laysCommon (va_wsS RX12 349 yX12_manyTerms wsX12_manyTerms) := goodIn_app (goodIn_of _ (by decide +kernel)) ggX12_laysCommon_X12_manyTerms
set_option maxRecDepth 20000 in
theorem ggX12_laysCommon_X12_solves : GoodIn wsX12_laysCommon wsX12_solves := goodIn_r _ [36, 37, 17, 29, 2, 38, 39, 40, 6, 41, 42, 43, 44, 45, 46, 47, 48, 49, 25, 26, 27, 28, 66, 67, 68, 69, 70, 71, 72, 73, 74, 75, 76, 77, 78, 79, 80, 81, 82, 83, 84, 85, 86, 87, 88, 89, 90, 91, 92, 93, 94, 95, 96, 97, 98, 99, 100, 101, 102] rfl (by decide +kernel)
set_option maxRecDepth 20000 in
theorem gX12_laysCommon_X12_solves : GoodIn wsX12_laysCommon (wsV RX12 354 RX12 yX12_solves wsX12_solves) := goodIn_app (goodIn_of _ (by decide +kernel)) ggX12_laysCommon_X12_solves
set_option maxRecDepth 20000 in
theorem ggX12_laysCommon_X12_empties : GoodIn wsX12_laysCommon wsX12_empties := goodIn_r _ [53, 12, 66, 67, 68, 69, 70, 71, 72, 73, 74, 75, 76, 77, 78, 79, 80, 81, 82, 83, 84, 85, 86, 87, 88, 89, 90, 91, 92, 93, 94, 95, 96, 97, 98, 99, 100, 101, 102] rfl (by decide +kernel)
set_option maxRecDepth 20000 in
theorem gX12_laysCommon_X12_empties : GoodIn wsX12_laysCommon (wsV RX12 192 RX12 yX12_empties wsX12_empties) := goodIn_app (goodIn_of _ (by decide +kernel)) ggX12_laysCommon_X12_empties
set_option maxRecDepth 20000 in
theorem ggX12_laysCommon_X12_sets : GoodIn wsX12_laysCommon wsX12_sets := goodIn_r _ [57, 12, 25, 26, 27, 6, 28, 29, 66, 67, 68, 69, 70, 71, 72, 73, 74, 75, 76, 77, 78, 79, 80, 81, 82, 83, 84, 85, 86, 87, 88, 89, 90, 91, 92, 93, 94, 95, 96, 97, 98, 99, 100, 101, 102] rfl (by decide +kernel)
set_option maxRecDepth 20000 in
theorem gX12_laysCommon_X12_sets : GoodIn wsX12_laysCommon (wsV RX12 188 RX12 yX12_sets wsX12_sets) := goodIn_app (goodIn_of _ (by decide +kernel)) ggX12_laysCommon_X12_sets
set_option maxRecDepth 20000 in
theorem ggX12_laysCommon_X12_termAt : GoodIn wsX12_laysCommon wsX12_termAt := goodIn_r _ [24] rfl (by decide +kernel)
set_option maxRecDepth 20000 in
theorem gX12_laysCommon_X12_termAt : GoodIn wsX12_laysCommon (va_wsS RX12 340 yX12_termAt wsX12_termAt) := goodIn_app (goodIn_of _ (by decide +kernel)) ggX12_laysCommon_X12_termAt
set_option maxRecDepth 20000 in
theorem ggX12_laysCommon_X12_dividesBy : GoodIn wsX12_laysCommon wsX12_dividesBy := goodIn_r _ [61, 17, 2, 30, 31, 6, 32, 13, 14, 15, 16, 18, 19, 20, 21, 22, 23, 24, 8, 9, 10, 11, 12, 25, 26, 27, 28, 29, 33, 34, 35, 36, 37, 38, 39, 40, 41, 42, 43, 44, 45, 46, 47, 48, 49, 54, 55, 56, 57, 66, 67, 68, 69, 70, 71, 72, 73, 74, 75, 76, 77, 78, 79, 80, 81, 82, 83, 84, 85, 86, 87, 88, 89, 90, 91, 92, 93, 94, 95, 96, 97, 98, 99, 100, 101, 102] rfl (by decide +kernel)
set_option maxRecDepth 20000 in
theorem gX12_laysCommon_X12_dividesBy : GoodIn wsX12_laysCommon (wsV RX12 357 RX12 yX12_dividesBy wsX12_dividesBy) := goodIn_app (goodIn_of _ (by decide +kernel)) ggX12_laysCommon_X12_dividesBy
set_option maxRecDepth 20000 in
theorem ggX12_laysCommon_X12_normal : GoodIn wsX12_laysCommon wsX12_normal := goodIn_r _ [65, 3, 4, 5, 6, 7, 8, 9, 10, 11, 12, 42, 43, 44, 45, 29, 46, 47, 48, 49, 25, 26, 27, 28, 54, 55, 56, 57, 66, 67, 68, 69, 70, 71, 72, 73, 74, 75, 76, 77, 78, 79, 80, 81, 82, 83, 84, 85, 86, 87, 88, 89, 90, 91, 92, 93, 94, 95, 96, 97, 98, 99, 100, 101, 102] rfl (by decide +kernel)
set_option maxRecDepth 20000 in
theorem gX12_laysCommon_X12_normal : GoodIn wsX12_laysCommon (wsV RX12 360 RX12 yX12_normal wsX12_normal) := goodIn_app (goodIn_of _ (by decide +kernel)) ggX12_laysCommon_X12_normal
set_option maxRecDepth 20000 in
theorem ggX12_dividesBy_X12_manyTerms : GoodIn wsX12_dividesBy wsX12_manyTerms := goodIn_r _ [6] rfl (by decide +kernel)
set_option maxRecDepth 20000 in
theorem gX12_dividesBy_X12_manyTerms : GoodIn wsX12_dividesBy (va_wsS RX12 349 yX12_manyTerms wsX12_manyTerms) := goodIn_app (goodIn_of _ (by decide +kernel)) ggX12_dividesBy_X12_manyTerms
set_option maxRecDepth 20000 in
theorem ggX12_dividesBy_X12_emptiesEquations : GoodIn wsX12_dividesBy wsX12_emptiesEquations := goodIn_r _ [10, 1, 49, 50, 51, 52, 53, 54, 55, 56, 57, 58, 59, 60, 61, 62, 63, 64, 65, 66, 67, 68, 69, 70, 71, 72, 73, 74, 75, 76, 77, 78, 79, 80, 81, 82, 83, 84, 85] rfl (by decide +kernel)
set_option maxRecDepth 20000 in
theorem gX12_dividesBy_X12_emptiesEquations : GoodIn wsX12_dividesBy (wsV RX12 343 RX12 yX12_emptiesEquations wsX12_emptiesEquations) := goodIn_app (goodIn_of _ (by decide +kernel)) ggX12_dividesBy_X12_emptiesEquations
set_option maxRecDepth 20000 in
theorem ggX12_dividesBy_X12_addsUnknowns : GoodIn wsX12_dividesBy wsX12_addsUnknowns := goodIn_r _ [14, 1, 15, 16, 5, 17, 18, 19, 20, 21, 22, 23, 24, 25, 26, 27, 49, 50, 51, 52, 53, 54, 55, 56, 57, 58, 59, 60, 61, 62, 63, 64, 65, 66, 67, 68, 69, 70, 71, 72, 73, 74, 75, 76, 77, 78, 79, 80, 81, 82, 83, 84, 85] rfl (by decide +kernel)
set_option maxRecDepth 20000 in
theorem gX12_dividesBy_X12_addsUnknowns : GoodIn wsX12_dividesBy (wsV RX12 346 RX12 yX12_addsUnknowns wsX12_addsUnknowns) := goodIn_app (goodIn_of _ (by decide +kernel)) ggX12_dividesBy_X12_addsUnknowns
set_option maxRecDepth 20000 in
theorem ggX12_dividesBy_X12_termAt : GoodIn wsX12_dividesBy wsX12_termAt := goodIn_r _ [17] rfl (by decide +kernel)
set_option maxRecDepth 20000 in
theorem gX12_dividesBy_X12_termAt : GoodIn wsX12_dividesBy (va_wsS RX12 340 yX12_termAt wsX12_termAt) := goodIn_app (goodIn_of _ (by decide +kernel)) ggX12_dividesBy_X12_termAt
set_option maxRecDepth 20000 in
theorem ggX12_dividesBy_X12_cell : GoodIn wsX12_dividesBy wsX12_cell := goodIn_r _ [21, 22, 49, 50, 51, 52, 53, 54, 55, 56, 57, 58, 59, 60, 61, 62, 63, 64, 65, 66, 67, 68, 69, 70, 71, 72, 73, 74, 75, 76, 77, 78, 79, 80, 81, 82, 83, 84, 85] rfl (by decide +kernel)
set_option maxRecDepth 20000 in
theorem gX12_dividesBy_X12_cell : GoodIn wsX12_dividesBy (wsV RX12 184 RX12 yX12_cell wsX12_cell) := goodIn_app (goodIn_of _ (by decide +kernel)) ggX12_dividesBy_X12_cell
set_option maxRecDepth 20000 in
theorem ggX12_dividesBy_X12_modulo : GoodIn wsX12_dividesBy wsX12_modulo := goodIn_r _ [26, 27, 49, 50, 51, 52, 53, 54, 55, 56, 57, 58, 59, 60, 61, 62, 63, 64, 65, 66, 67, 68, 69, 70, 71, 72, 73, 74, 75, 76, 77, 78, 79, 80, 81, 82, 83, 84, 85] rfl (by decide +kernel)
set_option maxRecDepth 20000 in
theorem gX12_dividesBy_X12_modulo : GoodIn wsX12_dividesBy (wsV RX12 176 RX12 yX12_modulo wsX12_modulo) := goodIn_app (goodIn_of _ (by decide +kernel)) ggX12_dividesBy_X12_modulo
set_option maxRecDepth 20000 in
theorem ggX12_dividesBy_X12_solves : GoodIn wsX12_dividesBy wsX12_solves := goodIn_r _ [31, 32, 1, 27, 2, 33, 34, 35, 5, 36, 37, 38, 39, 40, 41, 42, 43, 44, 23, 24, 25, 26, 49, 50, 51, 52, 53, 54, 55, 56, 57, 58, 59, 60, 61, 62, 63, 64, 65, 66, 67, 68, 69, 70, 71, 72, 73, 74, 75, 76, 77, 78, 79, 80, 81, 82, 83, 84, 85] rfl (by decide +kernel)
set_option maxRecDepth 20000 in
theorem gX12_dividesBy_X12_solves : GoodIn wsX12_dividesBy (wsV RX12 354 RX12 yX12_solves wsX12_solves) := goodIn_app (goodIn_of _ (by decide +kernel)) ggX12_dividesBy_X12_solves
set_option maxRecDepth 20000 in
theorem ggX12_dividesBy_X12_sets : GoodIn wsX12_dividesBy wsX12_sets := goodIn_r _ [48, 22, 23, 24, 25, 5, 26, 27, 49, 50, 51, 52, 53, 54, 55, 56, 57, 58, 59, 60, 61, 62, 63, 64, 65, 66, 67, 68, 69, 70, 71, 72, 73, 74, 75, 76, 77, 78, 79, 80, 81, 82, 83, 84, 85] rfl (by decide +kernel)
set_option maxRecDepth 20000 in
theorem gX12_dividesBy_X12_sets : GoodIn wsX12_dividesBy (wsV RX12 188 RX12 yX12_sets wsX12_sets) := goodIn_app (goodIn_of _ (by decide +kernel)) ggX12_dividesBy_X12_sets
set_option maxRecDepth 20000 in
theorem ggX12_normal_X12_degreeOf : GoodIn wsX12_normal wsX12_degreeOf := goodIn_r _ [5, 6, 7, 8, 4, 9, 10, 28, 29, 30, 31, 32, 33, 34, 35, 36, 37, 38, 39, 40, 41, 42, 43, 44, 45, 46, 47, 48, 49, 50, 51, 52, 53, 54, 55, 56, 57, 58, 59, 60, 61, 62, 63, 64] rfl (by decide +kernel)
set_option maxRecDepth 20000 in
theorem gX12_normal_X12_degreeOf : GoodIn wsX12_normal (wsV RX12 254 RX12 yX12_degreeOf wsX12_degreeOf) := goodIn_app (goodIn_of _ (by decide +kernel)) ggX12_normal_X12_degreeOf
set_option maxRecDepth 20000 in
theorem ggX12_normal_X12_cell : GoodIn wsX12_normal wsX12_cell := goodIn_r _ [9, 10, 28, 29, 30, 31, 32, 33, 34, 35, 36, 37, 38, 39, 40, 41, 42, 43, 44, 45, 46, 47, 48, 49, 50, 51, 52, 53, 54, 55, 56, 57, 58, 59, 60, 61, 62, 63, 64] rfl (by decide +kernel)
set_option maxRecDepth 20000 in
theorem gX12_normal_X12_cell : GoodIn wsX12_normal (wsV RX12 184 RX12 yX12_cell wsX12_cell) := goodIn_app (goodIn_of _ (by decide +kernel)) ggX12_normal_X12_cell
set_option maxRecDepth 20000 in
theorem ggX12_normal_X12_inverse : GoodIn wsX12_normal wsX12_inverse := goodIn_r _ [14, 15, 16, 17, 18, 4, 19, 20, 21, 22, 23, 28, 29, 30, 31, 32, 33, 34, 35, 36, 37, 38, 39, 40, 41, 42, 43, 44, 45, 46, 47, 48, 49, 50, 51, 52, 53, 54, 55, 56, 57, 58, 59, 60, 61, 62, 63, 64] rfl (by decide +kernel)
set_option maxRecDepth 20000 in
theorem gX12_normal_X12_inverse : GoodIn wsX12_normal (wsV RX12 328 RX12 yX12_inverse wsX12_inverse) := goodIn_app (goodIn_of _ (by decide +kernel)) ggX12_normal_X12_inverse
set_option maxRecDepth 20000 in
theorem ggX12_normal_X12_sets : GoodIn wsX12_normal wsX12_sets := goodIn_r _ [27, 10, 20, 21, 22, 4, 23, 15, 28, 29, 30, 31, 32, 33, 34, 35, 36, 37, 38, 39, 40, 41, 42, 43, 44, 45, 46, 47, 48, 49, 50, 51, 52, 53, 54, 55, 56, 57, 58, 59, 60, 61, 62, 63, 64] rfl (by decide +kernel)
set_option maxRecDepth 20000 in
theorem gX12_normal_X12_sets : GoodIn wsX12_normal (wsV RX12 188 RX12 yX12_sets wsX12_sets) := goodIn_app (goodIn_of _ (by decide +kernel)) ggX12_normal_X12_sets
set_option maxRecDepth 20000 in
theorem ggX12_areCurves_X12_isCurve : GoodIn wsX12_areCurves wsX12_isCurve := goodIn_r _ [5, 6, 7, 8, 4, 9, 10, 11, 12, 13, 14, 15, 16, 17, 18, 19, 20, 21, 22, 23, 24, 25, 26, 27, 28, 29, 30, 31, 32, 33, 34, 35, 36, 37, 38, 39, 40, 41, 42, 43, 44, 45, 46] rfl (by decide +kernel)
set_option maxRecDepth 20000 in
theorem gX12_areCurves_X12_isCurve : GoodIn wsX12_areCurves (wsV RX12 286 RX12 yX12_isCurve wsX12_isCurve) := goodIn_app (goodIn_of _ (by decide +kernel)) ggX12_areCurves_X12_isCurve
set_option maxRecDepth 20000 in
theorem ggX12_common_X12_areCurves : GoodIn wsX12_common wsX12_areCurves := goodIn_r _ [5, 6, 7, 8, 4, 9, 10, 11, 12, 13, 82, 83, 84, 85, 86, 87, 88, 89, 90, 91, 92, 93, 94, 95, 96, 97, 98, 99, 100, 101, 102, 103, 104, 105, 106, 107, 108, 109, 110, 111, 112, 113, 114, 115, 116, 117, 118] rfl (by decide +kernel)
set_option maxRecDepth 20000 in
theorem gX12_common_X12_areCurves : GoodIn wsX12_common (wsV RX12 363 RX12 yX12_areCurves wsX12_areCurves) := goodIn_app (goodIn_of _ (by decide +kernel)) ggX12_common_X12_areCurves
set_option maxRecDepth 20000 in
theorem ggX12_common_X12_laysCommon : GoodIn wsX12_common wsX12_laysCommon := goodIn_r _ [17, 18, 19, 20, 21, 22, 4, 23, 24, 25, 26, 27, 28, 29, 30, 31, 32, 33, 34, 35, 36, 37, 38, 39, 40, 41, 42, 43, 44, 45, 46, 47, 48, 49, 50, 51, 52, 53, 54, 55, 56, 57, 58, 59, 60, 61, 62, 63, 64, 65, 66, 67, 68, 69, 70, 71, 72, 73, 74, 75, 76, 77, 78, 79, 80, 81, 82, 83, 84, 85, 86, 87, 88, 89, 90, 91, 92, 93, 94, 95, 96, 97, 98, 99, 100, 101, 102, 103, 104, 105, 106, 107, 108, 109, 110, 111, 112, 113, 114, 115, 116, 117, 118] rfl (by decide +kernel)
set_option maxRecDepth 20000 in
theorem gX12_common_X12_laysCommon : GoodIn wsX12_common (wsV RX12 366 RX12 yX12_laysCommon wsX12_laysCommon) := goodIn_app (goodIn_of _ (by decide +kernel)) ggX12_common_X12_laysCommon
set_option maxRecDepth 20000 in
theorem ggX12_common_X12_degreeOf : GoodIn wsX12_common wsX12_degreeOf := goodIn_r _ [23, 24, 25, 26, 4, 27, 28, 82, 83, 84, 85, 86, 87, 88, 89, 90, 91, 92, 93, 94, 95, 96, 97, 98, 99, 100, 101, 102, 103, 104, 105, 106, 107, 108, 109, 110, 111, 112, 113, 114, 115, 116, 117, 118] rfl (by decide +kernel)
set_option maxRecDepth 20000 in
theorem gX12_common_X12_degreeOf : GoodIn wsX12_common (wsV RX12 254 RX12 yX12_degreeOf wsX12_degreeOf) := goodIn_app (goodIn_of _ (by decide +kernel)) ggX12_common_X12_degreeOf
set_option maxRecDepth 20000 in
theorem ggX12_commonTerm_X12_areCurves : GoodIn wsX12_commonTerm wsX12_areCurves := goodIn_r _ [5, 6, 7, 8, 4, 9, 10, 11, 12, 13, 85, 86, 87, 88, 89, 90, 91, 92, 93, 94, 95, 96, 97, 98, 99, 100, 101, 102, 103, 104, 105, 106, 107, 108, 109, 110, 111, 112, 113, 114, 115, 116, 117, 118, 119, 120, 121] rfl (by decide +kernel)
set_option maxRecDepth 20000 in
theorem gX12_commonTerm_X12_areCurves : GoodIn wsX12_commonTerm (wsV RX12 363 RX12 yX12_areCurves wsX12_areCurves) := goodIn_app (goodIn_of _ (by decide +kernel)) ggX12_commonTerm_X12_areCurves
set_option maxRecDepth 20000 in
theorem ggX12_commonTerm_X12_isTerm : GoodIn wsX12_commonTerm wsX12_isTerm := goodIn_r _ [16] rfl (by decide +kernel)
set_option maxRecDepth 20000 in
theorem gX12_commonTerm_X12_isTerm : GoodIn wsX12_commonTerm (va_wsS RX12 289 yX12_isTerm wsX12_isTerm) := goodIn_app (goodIn_of _ (by decide +kernel)) ggX12_commonTerm_X12_isTerm
set_option maxRecDepth 20000 in
theorem ggX12_commonTerm_X12_laysCommon : GoodIn wsX12_commonTerm wsX12_laysCommon := goodIn_r _ [20, 21, 22, 23, 24, 25, 4, 26, 27, 28, 29, 30, 31, 32, 33, 34, 35, 36, 37, 38, 39, 40, 41, 42, 43, 44, 45, 46, 47, 48, 49, 50, 51, 52, 53, 54, 55, 56, 57, 58, 59, 60, 61, 62, 63, 64, 65, 66, 67, 68, 69, 70, 71, 72, 73, 74, 75, 76, 77, 78, 79, 80, 81, 82, 83, 84, 85, 86, 87, 88, 89, 90, 91, 92, 93, 94, 95, 96, 97, 98, 99, 100, 101, 102, 103, 104, 105, 106, 107, 108, 109, 110, 111, 112, 113, 114, 115, 116, 117, 118, 119, 120, 121] rfl (by decide +kernel)
set_option maxRecDepth 20000 in
theorem gX12_commonTerm_X12_laysCommon : GoodIn wsX12_commonTerm (wsV RX12 366 RX12 yX12_laysCommon wsX12_laysCommon) := goodIn_app (goodIn_of _ (by decide +kernel)) ggX12_commonTerm_X12_laysCommon
set_option maxRecDepth 20000 in
theorem ggX12_commonTerm_X12_cell : GoodIn wsX12_commonTerm wsX12_cell := goodIn_r _ [30, 31, 85, 86, 87, 88, 89, 90, 91, 92, 93, 94, 95, 96, 97, 98, 99, 100, 101, 102, 103, 104, 105, 106, 107, 108, 109, 110, 111, 112, 113, 114, 115, 116, 117, 118, 119, 120, 121] rfl (by decide +kernel)
set_option maxRecDepth 20000 in
theorem gX12_commonTerm_X12_cell : GoodIn wsX12_commonTerm (wsV RX12 184 RX12 yX12_cell wsX12_cell) := goodIn_app (goodIn_of _ (by decide +kernel)) ggX12_commonTerm_X12_cell
set_option maxRecDepth 20000 in
theorem ggX12_laysLong_X12_laysLocal : GoodIn wsX12_laysLong wsX12_laysLocal := goodIn_r _ [5, 6, 7, 8, 9, 4, 10, 11, 12, 13, 14, 15, 16, 17, 18, 19, 20, 21, 22, 23, 24, 25, 26, 27, 28, 29, 30, 31, 32, 33, 34, 35, 36, 37, 38, 39, 40, 41, 42, 43, 44, 45, 46, 47, 48, 49, 50, 51, 52, 53, 54, 55, 56, 57, 58, 59, 60, 61, 62, 63, 64, 65, 66, 67, 68, 69, 70, 71, 72, 73, 74, 75, 76, 77, 78, 79, 80, 81, 82, 83, 84, 85, 86, 87, 88, 89, 90, 91] rfl (by decide +kernel)
set_option maxRecDepth 20000 in
theorem gX12_laysLong_X12_laysLocal : GoodIn wsX12_laysLong (wsV RX12 309 RX12 yX12_laysLocal wsX12_laysLocal) := goodIn_app (goodIn_of _ (by decide +kernel)) ggX12_laysLong_X12_laysLocal
set_option maxRecDepth 20000 in
theorem ggX12_laysLong_X12_cell : GoodIn wsX12_laysLong wsX12_cell := goodIn_r _ [14, 15, 55, 56, 57, 58, 59, 60, 61, 62, 63, 64, 65, 66, 67, 68, 69, 70, 71, 72, 73, 74, 75, 76, 77, 78, 79, 80, 81, 82, 83, 84, 85, 86, 87, 88, 89, 90, 91] rfl (by decide +kernel)
set_option maxRecDepth 20000 in
theorem gX12_laysLong_X12_cell : GoodIn wsX12_laysLong (wsV RX12 184 RX12 yX12_cell wsX12_cell) := goodIn_app (goodIn_of _ (by decide +kernel)) ggX12_laysLong_X12_cell
set_option maxRecDepth 20000 in
theorem ggX12_cuts_X12_inverse : GoodIn wsX12_cuts wsX12_inverse := goodIn_r _ [7, 8, 9, 10, 11, 6, 12, 13, 14, 15, 16, 17, 18, 19, 20, 21, 22, 23, 24, 25, 26, 27, 28, 29, 30, 31, 32, 33, 34, 35, 36, 37, 38, 39, 40, 41, 42, 43, 44, 45, 46, 47, 48, 49, 50, 51, 52, 53] rfl (by decide +kernel)
set_option maxRecDepth 20000 in
theorem gX12_cuts_X12_inverse : GoodIn wsX12_cuts (wsV RX12 328 RX12 yX12_inverse wsX12_inverse) := goodIn_app (goodIn_of _ (by decide +kernel)) ggX12_cuts_X12_inverse
set_option maxRecDepth 20000 in
theorem ggX12_cuts_X12_modulo : GoodIn wsX12_cuts wsX12_modulo := goodIn_r _ [16, 8, 17, 18, 19, 20, 21, 22, 23, 24, 25, 26, 27, 28, 29, 30, 31, 32, 33, 34, 35, 36, 37, 38, 39, 40, 41, 42, 43, 44, 45, 46, 47, 48, 49, 50, 51, 52, 53] rfl (by decide +kernel)
set_option maxRecDepth 20000 in
theorem gX12_cuts_X12_modulo : GoodIn wsX12_cuts (wsV RX12 176 RX12 yX12_modulo wsX12_modulo) := goodIn_app (goodIn_of _ (by decide +kernel)) ggX12_cuts_X12_modulo
set_option maxRecDepth 20000 in
theorem ggX12_timesAt_X12_laysCommon : GoodIn wsX12_timesAt wsX12_laysCommon := goodIn_r _ [9, 10, 11, 12, 13, 14, 8, 15, 16, 17, 18, 19, 20, 21, 22, 23, 24, 25, 26, 27, 28, 29, 30, 31, 32, 33, 34, 35, 36, 37, 38, 39, 40, 41, 42, 43, 44, 45, 46, 47, 48, 49, 50, 51, 52, 53, 54, 55, 56, 57, 58, 59, 60, 61, 62, 63, 64, 65, 66, 67, 68, 69, 70, 71, 72, 73, 132, 133, 134, 135, 136, 137, 138, 139, 140, 141, 142, 143, 144, 145, 146, 147, 148, 149, 150, 151, 152, 153, 154, 155, 156, 157, 158, 159, 160, 161, 162, 163, 164, 165, 166, 167, 168] rfl (by decide +kernel)
set_option maxRecDepth 20000 in
theorem gX12_timesAt_X12_laysCommon : GoodIn wsX12_timesAt (wsV RX12 366 RX12 yX12_laysCommon wsX12_laysCommon) := goodIn_app (goodIn_of _ (by decide +kernel)) ggX12_timesAt_X12_laysCommon
set_option maxRecDepth 20000 in
theorem ggX12_timesAt_X12_degreeOf : GoodIn wsX12_timesAt wsX12_degreeOf := goodIn_r _ [15, 16, 17, 18, 8, 19, 20, 132, 133, 134, 135, 136, 137, 138, 139, 140, 141, 142, 143, 144, 145, 146, 147, 148, 149, 150, 151, 152, 153, 154, 155, 156, 157, 158, 159, 160, 161, 162, 163, 164, 165, 166, 167, 168] rfl (by decide +kernel)
set_option maxRecDepth 20000 in
theorem gX12_timesAt_X12_degreeOf : GoodIn wsX12_timesAt (wsV RX12 254 RX12 yX12_degreeOf wsX12_degreeOf) := goodIn_app (goodIn_of _ (by decide +kernel)) ggX12_timesAt_X12_degreeOf
set_option maxRecDepth 20000 in
theorem ggX12_timesAt_X12_valueOf : GoodIn wsX12_timesAt wsX12_valueOf := goodIn_r _ [77, 37, 78, 79, 80, 8, 81, 16, 17, 18, 19, 20, 82, 83, 84, 85, 86, 87, 88, 89, 54, 55, 56, 57, 33, 34, 35, 36, 90, 91, 92, 93, 132, 133, 134, 135, 136, 137, 138, 139, 140, 141, 142, 143, 144, 145, 146, 147, 148, 149, 150, 151, 152, 153, 154, 155, 156, 157, 158, 159, 160, 161, 162, 163, 164, 165, 166, 167, 168] rfl (by decide +kernel)
set_option maxRecDepth 20000 in
theorem gX12_timesAt_X12_valueOf : GoodIn wsX12_timesAt (wsV RX12 293 RX12 yX12_valueOf wsX12_valueOf) := goodIn_app (goodIn_of _ (by decide +kernel)) ggX12_timesAt_X12_valueOf
set_option maxRecDepth 20000 in
theorem ggX12_timesAt_X12_laysLong : GoodIn wsX12_timesAt wsX12_laysLong := goodIn_r _ [97, 98, 99, 100, 8, 101, 37, 12, 13, 14, 15, 16, 17, 18, 19, 20, 58, 59, 60, 61, 78, 79, 80, 81, 102, 103, 104, 90, 91, 92, 93, 86, 87, 88, 89, 54, 55, 56, 57, 33, 34, 35, 36, 82, 83, 84, 85, 105, 106, 107, 108, 62, 63, 64, 65, 132, 133, 134, 135, 136, 137, 138, 139, 140, 141, 142, 143, 144, 145, 146, 147, 148, 149, 150, 151, 152, 153, 154, 155, 156, 157, 158, 159, 160, 161, 162, 163, 164, 165, 166, 167, 168] rfl (by decide +kernel)
set_option maxRecDepth 20000 in
theorem gX12_timesAt_X12_laysLong : GoodIn wsX12_timesAt (wsV RX12 369 RX12 yX12_laysLong wsX12_laysLong) := goodIn_app (goodIn_of _ (by decide +kernel)) ggX12_timesAt_X12_laysLong
set_option maxRecDepth 20000 in
theorem ggX12_timesAt_X12_greatestOf : GoodIn wsX12_timesAt wsX12_greatestOf := goodIn_r _ [111] rfl (by decide +kernel)
set_option maxRecDepth 20000 in
theorem gX12_timesAt_X12_greatestOf : GoodIn wsX12_timesAt (va_wsS RX12 373 yX12_greatestOf wsX12_greatestOf) := goodIn_app (goodIn_of _ (by decide +kernel)) ggX12_timesAt_X12_greatestOf
set_option maxRecDepth 20000 in
theorem ggX12_timesAt_X12_goesBy : GoodIn wsX12_timesAt wsX12_goesBy := goodIn_r _ [115, 1, 2, 116, 132, 133, 134, 135, 136, 137, 138, 139, 140, 141, 142, 143, 144, 145, 146, 147, 148, 149, 150, 151, 152, 153, 154, 155, 156, 157, 158, 159, 160, 161, 162, 163, 164, 165, 166, 167, 168] rfl (by decide +kernel)
set_option maxRecDepth 20000 in
theorem gX12_timesAt_X12_goesBy : GoodIn wsX12_timesAt (wsV RX12 377 RX12 yX12_goesBy wsX12_goesBy) := goodIn_app (goodIn_of _ (by decide +kernel)) ggX12_timesAt_X12_goesBy
set_option maxRecDepth 20000 in
theorem ggX12_timesAt_X12_leastOf : GoodIn wsX12_timesAt wsX12_leastOf := goodIn_r _ [119] rfl (by decide +kernel)
set_option maxRecDepth 20000 in
theorem gX12_timesAt_X12_leastOf : GoodIn wsX12_timesAt (va_wsS RX12 380 yX12_leastOf wsX12_leastOf) := goodIn_app (goodIn_of _ (by decide +kernel)) ggX12_timesAt_X12_leastOf
set_option maxRecDepth 20000 in
theorem ggX12_timesAt_X12_splits : GoodIn wsX12_timesAt wsX12_splits := goodIn_r _ [123, 3, 132, 133, 134, 135, 136, 137, 138, 139, 140, 141, 142, 143, 144, 145, 146, 147, 148, 149, 150, 151, 152, 153, 154, 155, 156, 157, 158, 159, 160, 161, 162, 163, 164, 165, 166, 167, 168] rfl (by decide +kernel)
set_option maxRecDepth 20000 in
theorem gX12_timesAt_X12_splits : GoodIn wsX12_timesAt (wsV RX12 383 RX12 yX12_splits wsX12_splits) := goodIn_app (goodIn_of _ (by decide +kernel)) ggX12_timesAt_X12_splits
set_option maxRecDepth 20000 in
theorem ggX12_timesAt_X12_swaps : GoodIn wsX12_timesAt wsX12_swaps := goodIn_r _ [127, 3, 4, 132, 133, 134, 135, 136, 137, 138, 139, 140, 141, 142, 143, 144, 145, 146, 147, 148, 149, 150, 151, 152, 153, 154, 155, 156, 157, 158, 159, 160, 161, 162, 163, 164, 165, 166, 167, 168] rfl (by decide +kernel)
set_option maxRecDepth 20000 in
theorem gX12_timesAt_X12_swaps : GoodIn wsX12_timesAt (wsV RX12 386 RX12 yX12_swaps wsX12_swaps) := goodIn_app (goodIn_of _ (by decide +kernel)) ggX12_timesAt_X12_swaps
set_option maxRecDepth 20000 in
theorem ggX12_timesAt_X12_cuts : GoodIn wsX12_timesAt wsX12_cuts := goodIn_r _ [131, 4, 3, 50, 51, 52, 8, 53, 37, 54, 55, 56, 57, 33, 34, 35, 36, 132, 133, 134, 135, 136, 137, 138, 139, 140, 141, 142, 143, 144, 145, 146, 147, 148, 149, 150, 151, 152, 153, 154, 155, 156, 157, 158, 159, 160, 161, 162, 163, 164, 165, 166, 167, 168] rfl (by decide +kernel)
set_option maxRecDepth 20000 in
theorem gX12_timesAt_X12_cuts : GoodIn wsX12_timesAt (wsV RX12 389 RX12 yX12_cuts wsX12_cuts) := goodIn_app (goodIn_of _ (by decide +kernel)) ggX12_timesAt_X12_cuts
set_option maxRecDepth 20000 in
theorem ggX12_isAsked_X12_areCurves : GoodIn wsX12_isAsked wsX12_areCurves := goodIn_r _ [5, 6, 7, 8, 4, 9, 10, 11, 12, 13, 23, 24, 25, 26, 27, 28, 29, 30, 31, 32, 33, 34, 35, 36, 37, 38, 39, 40, 41, 42, 43, 44, 45, 46, 47, 48, 49, 50, 51, 52, 53, 54, 55, 56, 57, 58, 59] rfl (by decide +kernel)
set_option maxRecDepth 20000 in
theorem gX12_isAsked_X12_areCurves : GoodIn wsX12_isAsked (wsV RX12 363 RX12 yX12_areCurves wsX12_areCurves) := goodIn_app (goodIn_of _ (by decide +kernel)) ggX12_isAsked_X12_areCurves
set_option maxRecDepth 20000 in
theorem ggX12_isAsked_X12_isPoint : GoodIn wsX12_isAsked wsX12_isPoint := goodIn_r _ [17, 18, 19, 20, 4, 21, 22, 11, 12, 13, 23, 24, 25, 26, 27, 28, 29, 30, 31, 32, 33, 34, 35, 36, 37, 38, 39, 40, 41, 42, 43, 44, 45, 46, 47, 48, 49, 50, 51, 52, 53, 54, 55, 56, 57, 58, 59] rfl (by decide +kernel)
set_option maxRecDepth 20000 in
theorem gX12_isAsked_X12_isPoint : GoodIn wsX12_isAsked (wsV RX12 296 RX12 yX12_isPoint wsX12_isPoint) := goodIn_app (goodIn_of _ (by decide +kernel)) ggX12_isAsked_X12_isPoint
set_option maxRecDepth 20000 in
theorem ggX12_times_X12_isAsked : GoodIn wsX12_times wsX12_isAsked := goodIn_r _ [5, 6, 7, 8, 4, 9, 10, 11, 12, 13, 14, 15, 16, 17, 18, 19, 20, 21, 22, 23, 24, 25, 26, 156, 157, 158, 159, 160, 161, 162, 163, 164, 165, 166, 167, 168, 169, 170, 171, 172, 173, 174, 175, 176, 177, 178, 179, 180, 181, 182, 183, 184, 185, 186, 187, 188, 189, 190, 191, 192] rfl (by decide +kernel)
set_option maxRecDepth 20000 in
theorem gX12_times_X12_isAsked : GoodIn wsX12_times (wsV RX12 392 RX12 yX12_isAsked wsX12_isAsked) := goodIn_app (goodIn_of _ (by decide +kernel)) ggX12_times_X12_isAsked
set_option maxRecDepth 20000 in
theorem ggX12_times_X12_timesAt : GoodIn wsX12_times wsX12_timesAt := goodIn_r _ [30, 31, 32, 33, 34, 35, 36, 37, 4, 38, 39, 40, 41, 42, 43, 44, 45, 46, 47, 48, 49, 50, 51, 52, 53, 54, 55, 56, 57, 58, 59, 60, 61, 62, 63, 64, 65, 26, 66, 67, 68, 69, 70, 71, 72, 73, 74, 75, 76, 77, 78, 79, 80, 81, 82, 83, 84, 85, 86, 87, 88, 89, 90, 91, 92, 93, 94, 95, 96, 97, 98, 99, 100, 101, 102, 103, 104, 105, 106, 107, 108, 109, 110, 111, 112, 113, 22, 23, 24, 25, 114, 115, 116, 117, 118, 119, 120, 121, 122, 123, 124, 125, 126, 127, 128, 129, 130, 131, 132, 133, 134, 135, 136, 137, 138, 139, 140, 141, 142, 143, 144, 145, 146, 147, 148, 149, 150, 151, 152, 153, 154, 155, 156, 157, 158, 159, 160, 161, 162, 163, 164, 165, 166, 167, 168, 169, 170, 171, 172, 173, 174, 175, 176, 177, 178, 179, 180, 181, 182, 183, 184, 185, 186, 187, 188, 189, 190, 191, 192] rfl (by decide +kernel)
set_option maxRecDepth 20000 in
theorem gX12_times_X12_timesAt : GoodIn wsX12_times (wsV RX12 395 RX12 yX12_timesAt wsX12_timesAt) := goodIn_app (goodIn_of _ (by decide +kernel)) ggX12_times_X12_timesAt
set_option maxRecDepth 20000 in
theorem ggX12_rules_X12_isAsked : GoodIn wsX12_rules wsX12_isAsked := goodIn_r _ [6, 7, 8, 9, 5, 10, 11, 12, 13, 14, 15, 16, 17, 18, 19, 20, 21, 22, 23, 24, 25, 26, 27, 156, 157, 158, 159, 160, 161, 162, 163, 164, 165, 166, 167, 168, 169, 170, 171, 172, 173, 174, 175, 176, 177, 178, 179, 180, 181, 182, 183, 184, 185, 186, 187, 188, 189, 190, 191, 192] rfl (by decide +kernel)
set_option maxRecDepth 20000 in
theorem gX12_rules_X12_isAsked : GoodIn wsX12_rules (wsV RX12 392 RX12 yX12_isAsked wsX12_isAsked) := goodIn_app (goodIn_of _ (by decide +kernel)) ggX12_rules_X12_isAsked
set_option maxRecDepth 20000 in
theorem ggX12_rules_X12_isIn : GoodIn wsX12_rules wsX12_isIn := goodIn_r _ [18] rfl (by decide +kernel)
set_option maxRecDepth 20000 in
theorem gX12_rules_X12_isIn : GoodIn wsX12_rules (va_wsS RX12 271 yX12_isIn wsX12_isIn) := goodIn_app (goodIn_of _ (by decide +kernel)) ggX12_rules_X12_isIn
set_option maxRecDepth 20000 in
theorem ggX12_rules_X12_timesAt : GoodIn wsX12_rules wsX12_timesAt := goodIn_r _ [31, 1, 32, 33, 34, 35, 36, 37, 5, 38, 39, 40, 41, 42, 43, 44, 45, 46, 47, 48, 49, 50, 51, 52, 53, 54, 55, 56, 57, 58, 59, 60, 61, 62, 63, 64, 65, 27, 66, 67, 68, 69, 70, 71, 72, 73, 74, 75, 76, 77, 78, 79, 80, 81, 82, 83, 84, 85, 86, 87, 88, 89, 90, 91, 92, 93, 94, 95, 96, 97, 98, 99, 100, 101, 102, 103, 104, 105, 106, 107, 108, 109, 110, 111, 112, 113, 23, 24, 25, 26, 114, 115, 116, 117, 118, 119, 120, 121, 122, 123, 124, 125, 126, 127, 128, 129, 130, 131, 132, 133, 134, 135, 136, 137, 138, 139, 140, 141, 142, 143, 144, 145, 146, 147, 148, 149, 150, 151, 152, 153, 154, 155, 156, 157, 158, 159, 160, 161, 162, 163, 164, 165, 166, 167, 168, 169, 170, 171, 172, 173, 174, 175, 176, 177, 178, 179, 180, 181, 182, 183, 184, 185, 186, 187, 188, 189, 190, 191, 192] rfl (by decide +kernel)
set_option maxRecDepth 20000 in
theorem gX12_rules_X12_timesAt : GoodIn wsX12_rules (wsV RX12 395 RX12 yX12_timesAt wsX12_timesAt) := goodIn_app (goodIn_of _ (by decide +kernel)) ggX12_rules_X12_timesAt
set_option maxRecDepth 20000 in
theorem ggX12_rule_X12_isAsked : GoodIn wsX12_rule wsX12_isAsked := goodIn_r _ [7, 8, 9, 10, 6, 11, 12, 13, 14, 15, 16, 17, 18, 19, 20, 21, 22, 23, 24, 25, 26, 27, 28, 156, 157, 158, 159, 160, 161, 162, 163, 164, 165, 166, 167, 168, 169, 170, 171, 172, 173, 174, 175, 176, 177, 178, 179, 180, 181, 182, 183, 184, 185, 186, 187, 188, 189, 190, 191, 192] rfl (by decide +kernel)
set_option maxRecDepth 20000 in
theorem gX12_rule_X12_isAsked : GoodIn wsX12_rule (wsV RX12 392 RX12 yX12_isAsked wsX12_isAsked) := goodIn_app (goodIn_of _ (by decide +kernel)) ggX12_rule_X12_isAsked
set_option maxRecDepth 20000 in
theorem ggX12_rule_X12_timesAt : GoodIn wsX12_rule wsX12_timesAt := goodIn_r _ [32, 33, 1, 34, 35, 36, 37, 38, 6, 39, 40, 41, 42, 43, 44, 45, 46, 47, 48, 49, 50, 51, 52, 53, 54, 55, 56, 57, 58, 59, 60, 61, 62, 63, 64, 65, 66, 28, 67, 68, 69, 70, 71, 72, 73, 74, 75, 76, 77, 78, 79, 80, 81, 82, 83, 84, 85, 86, 87, 88, 89, 90, 91, 92, 93, 94, 95, 96, 97, 98, 99, 100, 101, 102, 103, 104, 105, 106, 107, 108, 109, 110, 111, 112, 113, 114, 24, 25, 26, 27, 115, 116, 117, 118, 119, 120, 121, 122, 123, 124, 125, 126, 127, 128, 129, 130, 131, 132, 133, 134, 135, 136, 137, 138, 139, 140, 2, 141, 142, 143, 144, 145, 146, 147, 148, 149, 150, 151, 152, 153, 154, 155, 156, 157, 158, 159, 160, 161, 162, 163, 164, 165, 166, 167, 168, 169, 170, 171, 172, 173, 174, 175, 176, 177, 178, 179, 180, 181, 182, 183, 184, 185, 186, 187, 188, 189, 190, 191, 192] rfl (by decide +kernel)
set_option maxRecDepth 20000 in
theorem gX12_rule_X12_timesAt : GoodIn wsX12_rule (wsV RX12 395 RX12 yX12_timesAt wsX12_timesAt) := goodIn_app (goodIn_of _ (by decide +kernel)) ggX12_rule_X12_timesAt
set_option maxRecDepth 20000 in
theorem ggX12_rule_X12_isIn : GoodIn wsX12_rule wsX12_isIn := goodIn_r _ [19] rfl (by decide +kernel)
set_option maxRecDepth 20000 in
theorem gX12_rule_X12_isIn : GoodIn wsX12_rule (va_wsS RX12 271 yX12_isIn wsX12_isIn) := goodIn_app (goodIn_of _ (by decide +kernel)) ggX12_rule_X12_isIn
set_option maxRecDepth 20000 in
theorem ggX12_pilesLocal_X12_emptiesVector : GoodIn wsX12_pilesLocal wsX12_emptiesVector := goodIn_r _ [7, 8, 1, 36, 37, 38, 39, 40, 41, 42, 43, 44, 45, 46, 47, 48, 49, 50, 51, 52, 53, 54, 55, 56, 57, 58, 59, 60, 61, 62, 63, 64, 65, 66, 67, 68, 69, 70, 71, 72] rfl (by decide +kernel)
set_option maxRecDepth 20000 in
theorem gX12_pilesLocal_X12_emptiesVector : GoodIn wsX12_pilesLocal (wsV RX12 398 RX12 yX12_emptiesVector wsX12_emptiesVector) := goodIn_app (goodIn_of _ (by decide +kernel)) ggX12_pilesLocal_X12_emptiesVector
set_option maxRecDepth 20000 in
theorem ggX12_pilesLocal_X12_longAt : GoodIn wsX12_pilesLocal wsX12_longAt := goodIn_r _ [11] rfl (by decide +kernel)
set_option maxRecDepth 20000 in
theorem gX12_pilesLocal_X12_longAt : GoodIn wsX12_pilesLocal (va_wsS RX12 401 yX12_longAt wsX12_longAt) := goodIn_app (goodIn_of _ (by decide +kernel)) ggX12_pilesLocal_X12_longAt
set_option maxRecDepth 20000 in
theorem ggX12_pilesLocal_X12_piles : GoodIn wsX12_pilesLocal wsX12_piles := goodIn_r _ [15, 1, 8, 16, 17, 18, 19, 20, 21, 22, 6, 23, 24, 25, 26, 27, 28, 29, 30, 31, 32, 33, 34, 35, 36, 37, 38, 39, 40, 41, 42, 43, 44, 45, 46, 47, 48, 49, 50, 51, 52, 53, 54, 55, 56, 57, 58, 59, 60, 61, 62, 63, 64, 65, 66, 67, 68, 69, 70, 71, 72] rfl (by decide +kernel)
set_option maxRecDepth 20000 in
theorem gX12_pilesLocal_X12_piles : GoodIn wsX12_pilesLocal (wsV RX12 404 RX12 yX12_piles wsX12_piles) := goodIn_app (goodIn_of _ (by decide +kernel)) ggX12_pilesLocal_X12_piles
set_option maxRecDepth 20000 in
theorem ggX12_size_X12_isAsked : GoodIn wsX12_size wsX12_isAsked := goodIn_r _ [8, 9, 10, 11, 7, 12, 13, 14, 15, 16, 17, 18, 19, 20, 21, 22, 23, 24, 25, 26, 27, 28, 29, 114, 115, 116, 117, 118, 119, 120, 121, 122, 123, 124, 125, 126, 127, 128, 129, 130, 131, 132, 133, 134, 135, 136, 137, 138, 139, 140, 141, 142, 143, 144, 145, 146, 147, 148, 149, 150] rfl (by decide +kernel)
set_option maxRecDepth 20000 in
theorem gX12_size_X12_isAsked : GoodIn wsX12_size (wsV RX12 392 RX12 yX12_isAsked wsX12_isAsked) := goodIn_app (goodIn_of _ (by decide +kernel)) ggX12_size_X12_isAsked
set_option maxRecDepth 20000 in
theorem ggX12_size_X12_laysLong : GoodIn wsX12_size wsX12_laysLong := goodIn_r _ [33, 34, 35, 36, 7, 37, 29, 38, 39, 40, 41, 42, 43, 44, 45, 46, 47, 48, 49, 50, 51, 52, 53, 54, 55, 56, 57, 58, 59, 60, 61, 25, 26, 27, 28, 62, 63, 64, 65, 66, 67, 68, 69, 70, 71, 72, 73, 74, 75, 76, 77, 78, 79, 80, 81, 114, 115, 116, 117, 118, 119, 120, 121, 122, 123, 124, 125, 126, 127, 128, 129, 130, 131, 132, 133, 134, 135, 136, 137, 138, 139, 140, 141, 142, 143, 144, 145, 146, 147, 148, 149, 150] rfl (by decide +kernel)
set_option maxRecDepth 20000 in
theorem gX12_size_X12_laysLong : GoodIn wsX12_size (wsV RX12 369 RX12 yX12_laysLong wsX12_laysLong) := goodIn_app (goodIn_of _ (by decide +kernel)) ggX12_size_X12_laysLong
set_option maxRecDepth 20000 in
theorem ggX12_size_X12_beginsPile : GoodIn wsX12_size wsX12_beginsPile := goodIn_r _ [85, 3, 86, 87, 114, 115, 116, 117, 118, 119, 120, 121, 122, 123, 124, 125, 126, 127, 128, 129, 130, 131, 132, 133, 134, 135, 136, 137, 138, 139, 140, 141, 142, 143, 144, 145, 146, 147, 148, 149, 150] rfl (by decide +kernel)
set_option maxRecDepth 20000 in
theorem gX12_size_X12_beginsPile : GoodIn wsX12_size (wsV RX12 407 RX12 yX12_beginsPile wsX12_beginsPile) := goodIn_app (goodIn_of _ (by decide +kernel)) ggX12_size_X12_beginsPile
set_option maxRecDepth 20000 in
theorem ggX12_size_X12_pilesLocal : GoodIn wsX12_size wsX12_pilesLocal := goodIn_r _ [91, 92, 93, 94, 95, 96, 7, 97, 86, 98, 99, 100, 101, 102, 103, 104, 105, 3, 29, 87, 106, 107, 108, 109, 110, 111, 112, 113, 62, 63, 64, 65, 66, 67, 68, 69, 114, 115, 116, 117, 118, 119, 120, 121, 122, 123, 124, 125, 126, 127, 128, 129, 130, 131, 132, 133, 134, 135, 136, 137, 138, 139, 140, 141, 142, 143, 144, 145, 146, 147, 148, 149, 150] rfl (by decide +kernel)
set_option maxRecDepth 20000 in
theorem gX12_size_X12_pilesLocal : GoodIn wsX12_size (wsV RX12 410 RX12 yX12_pilesLocal wsX12_pilesLocal) := goodIn_app (goodIn_of _ (by decide +kernel)) ggX12_size_X12_pilesLocal
set_option maxRecDepth 20000 in
theorem ggX12_pilesForm_X12_degreeOf : GoodIn wsX12_pilesForm wsX12_degreeOf := goodIn_r _ [7, 8, 9, 10, 6, 11, 12, 45, 46, 47, 48, 49, 50, 51, 52, 53, 54, 55, 56, 57, 58, 59, 60, 61, 62, 63, 64, 65, 66, 67, 68, 69, 70, 71, 72, 73, 74, 75, 76, 77, 78, 79, 80, 81] rfl (by decide +kernel)
set_option maxRecDepth 20000 in
theorem gX12_pilesForm_X12_degreeOf : GoodIn wsX12_pilesForm (wsV RX12 254 RX12 yX12_degreeOf wsX12_degreeOf) := goodIn_app (goodIn_of _ (by decide +kernel)) ggX12_pilesForm_X12_degreeOf
set_option maxRecDepth 20000 in
theorem ggX12_pilesForm_X12_emptiesVector : GoodIn wsX12_pilesForm wsX12_emptiesVector := goodIn_r _ [16, 17, 1, 45, 46, 47, 48, 49, 50, 51, 52, 53, 54, 55, 56, 57, 58, 59, 60, 61, 62, 63, 64, 65, 66, 67, 68, 69, 70, 71, 72, 73, 74, 75, 76, 77, 78, 79, 80, 81] rfl (by decide +kernel)
set_option maxRecDepth 20000 in
theorem gX12_pilesForm_X12_emptiesVector : GoodIn wsX12_pilesForm (wsV RX12 398 RX12 yX12_emptiesVector wsX12_emptiesVector) := goodIn_app (goodIn_of _ (by decide +kernel)) ggX12_pilesForm_X12_emptiesVector
set_option maxRecDepth 20000 in
theorem ggX12_pilesForm_X12_longAt : GoodIn wsX12_pilesForm wsX12_longAt := goodIn_r _ [20] rfl (by decide +kernel)
set_option maxRecDepth 20000 in
theorem gX12_pilesForm_X12_longAt : GoodIn wsX12_pilesForm (va_wsS RX12 401 yX12_longAt wsX12_longAt) := goodIn_app (goodIn_of _ (by decide +kernel)) ggX12_pilesForm_X12_longAt
set_option maxRecDepth 20000 in
theorem ggX12_pilesForm_X12_cell : GoodIn wsX12_pilesForm wsX12_cell := goodIn_r _ [11, 12, 45, 46, 47, 48, 49, 50, 51, 52, 53, 54, 55, 56, 57, 58, 59, 60, 61, 62, 63, 64, 65, 66, 67, 68, 69, 70, 71, 72, 73, 74, 75, 76, 77, 78, 79, 80, 81] rfl (by decide +kernel)
set_option maxRecDepth 20000 in
theorem gX12_pilesForm_X12_cell : GoodIn wsX12_pilesForm (wsV RX12 184 RX12 yX12_cell wsX12_cell) := goodIn_app (goodIn_of _ (by decide +kernel)) ggX12_pilesForm_X12_cell
set_option maxRecDepth 20000 in
theorem ggX12_pilesForm_X12_piles : GoodIn wsX12_pilesForm wsX12_piles := goodIn_r _ [24, 1, 17, 25, 26, 27, 28, 29, 30, 31, 6, 32, 33, 34, 35, 36, 37, 38, 39, 40, 41, 42, 43, 44, 45, 46, 47, 48, 49, 50, 51, 52, 53, 54, 55, 56, 57, 58, 59, 60, 61, 62, 63, 64, 65, 66, 67, 68, 69, 70, 71, 72, 73, 74, 75, 76, 77, 78, 79, 80, 81] rfl (by decide +kernel)
set_option maxRecDepth 20000 in
theorem gX12_pilesForm_X12_piles : GoodIn wsX12_pilesForm (wsV RX12 404 RX12 yX12_piles wsX12_piles) := goodIn_app (goodIn_of _ (by decide +kernel)) ggX12_pilesForm_X12_piles
set_option maxRecDepth 20000 in
theorem ggX12_laysForms_X12_manyTerms : GoodIn wsX12_laysForms wsX12_manyTerms := goodIn_r _ [4] rfl (by decide +kernel)
set_option maxRecDepth 20000 in
theorem gX12_laysForms_X12_manyTerms : GoodIn wsX12_laysForms (va_wsS RX12 349 yX12_manyTerms wsX12_manyTerms) := goodIn_app (goodIn_of _ (by decide +kernel)) ggX12_laysForms_X12_manyTerms
set_option maxRecDepth 20000 in
theorem ggX12_laysForms_X12_beginsPile : GoodIn wsX12_laysForms wsX12_beginsPile := goodIn_r _ [8, 9, 10, 11, 56, 57, 58, 59, 60, 61, 62, 63, 64, 65, 66, 67, 68, 69, 70, 71, 72, 73, 74, 75, 76, 77, 78, 79, 80, 81, 82, 83, 84, 85, 86, 87, 88, 89, 90, 91, 92] rfl (by decide +kernel)
set_option maxRecDepth 20000 in
theorem gX12_laysForms_X12_beginsPile : GoodIn wsX12_laysForms (wsV RX12 407 RX12 yX12_beginsPile wsX12_beginsPile) := goodIn_app (goodIn_of _ (by decide +kernel)) ggX12_laysForms_X12_beginsPile
set_option maxRecDepth 20000 in
theorem ggX12_laysForms_X12_pilesForm : GoodIn wsX12_laysForms wsX12_pilesForm := goodIn_r _ [15, 16, 17, 18, 19, 20, 3, 21, 22, 23, 24, 25, 26, 27, 28, 29, 30, 10, 31, 32, 33, 34, 35, 36, 37, 38, 9, 39, 11, 40, 41, 42, 43, 44, 45, 46, 47, 48, 49, 50, 51, 52, 53, 54, 55, 56, 57, 58, 59, 60, 61, 62, 63, 64, 65, 66, 67, 68, 69, 70, 71, 72, 73, 74, 75, 76, 77, 78, 79, 80, 81, 82, 83, 84, 85, 86, 87, 88, 89, 90, 91, 92] rfl (by decide +kernel)
set_option maxRecDepth 20000 in
theorem gX12_laysForms_X12_pilesForm : GoodIn wsX12_laysForms (wsV RX12 414 RX12 yX12_pilesForm wsX12_pilesForm) := goodIn_app (goodIn_of _ (by decide +kernel)) ggX12_laysForms_X12_pilesForm
set_option maxRecDepth 20000 in
theorem ggX12_parts_X12_areCurves : GoodIn wsX12_parts wsX12_areCurves := goodIn_r _ [6, 7, 8, 9, 5, 10, 11, 12, 13, 14, 72, 73, 74, 75, 76, 77, 78, 79, 80, 81, 82, 83, 84, 85, 86, 87, 88, 89, 90, 91, 92, 93, 94, 95, 96, 97, 98, 99, 100, 101, 102, 103, 104, 105, 106, 107, 108] rfl (by decide +kernel)
set_option maxRecDepth 20000 in
theorem gX12_parts_X12_areCurves : GoodIn wsX12_parts (wsV RX12 363 RX12 yX12_areCurves wsX12_areCurves) := goodIn_app (goodIn_of _ (by decide +kernel)) ggX12_parts_X12_areCurves
set_option maxRecDepth 20000 in
theorem ggX12_parts_X12_isIn : GoodIn wsX12_parts wsX12_isIn := goodIn_r _ [14] rfl (by decide +kernel)
set_option maxRecDepth 20000 in
theorem gX12_parts_X12_isIn : GoodIn wsX12_parts (va_wsS RX12 271 yX12_isIn wsX12_isIn) := goodIn_app (goodIn_of _ (by decide +kernel)) ggX12_parts_X12_isIn
set_option maxRecDepth 20000 in
theorem ggX12_parts_X12_laysForms : GoodIn wsX12_parts wsX12_laysForms := goodIn_r _ [18, 19, 20, 5, 21, 22, 23, 24, 25, 1, 26, 27, 28, 29, 30, 31, 32, 33, 34, 35, 36, 37, 38, 39, 40, 41, 42, 43, 44, 45, 46, 47, 48, 49, 50, 51, 52, 53, 54, 55, 56, 57, 58, 59, 60, 61, 62, 63, 64, 65, 66, 67, 68, 69, 70, 71, 72, 73, 74, 75, 76, 77, 78, 79, 80, 81, 82, 83, 84, 85, 86, 87, 88, 89, 90, 91, 92, 93, 94, 95, 96, 97, 98, 99, 100, 101, 102, 103, 104, 105, 106, 107, 108] rfl (by decide +kernel)
set_option maxRecDepth 20000 in
theorem gX12_parts_X12_laysForms : GoodIn wsX12_parts (wsV RX12 417 RX12 yX12_laysForms wsX12_laysForms) := goodIn_app (goodIn_of _ (by decide +kernel)) ggX12_parts_X12_laysForms
set_option maxRecDepth 20000 in
theorem ggX12_parts_X12_manyTerms : GoodIn wsX12_parts wsX12_manyTerms := goodIn_r _ [21] rfl (by decide +kernel)
set_option maxRecDepth 20000 in
theorem gX12_parts_X12_manyTerms : GoodIn wsX12_parts (va_wsS RX12 349 yX12_manyTerms wsX12_manyTerms) := goodIn_app (goodIn_of _ (by decide +kernel)) ggX12_parts_X12_manyTerms
set_option maxRecDepth 20000 in
theorem ggX12_near_X12_laysForms : GoodIn wsX12_near wsX12_laysForms := goodIn_r _ [8, 9, 10, 7, 11, 12, 13, 14, 15, 1, 16, 17, 18, 19, 20, 21, 2, 3, 22, 23, 24, 25, 26, 27, 28, 29, 30, 31, 32, 33, 34, 35, 36, 37, 38, 39, 40, 41, 42, 43, 44, 45, 46, 47, 48, 49, 50, 51, 52, 53, 54, 55, 56, 57, 58, 59, 60, 61, 62, 63, 64, 65, 66, 67, 68, 69, 70, 71, 72, 73, 74, 75, 76, 77, 78, 79, 80, 81, 82, 83, 84, 85, 86, 87, 88, 89, 90, 91, 92, 93, 94, 95, 96] rfl (by decide +kernel)
set_option maxRecDepth 20000 in
theorem gX12_near_X12_laysForms : GoodIn wsX12_near (wsV RX12 417 RX12 yX12_laysForms wsX12_laysForms) := goodIn_app (goodIn_of _ (by decide +kernel)) ggX12_near_X12_laysForms
set_option maxRecDepth 20000 in
theorem ggX12_near_X12_emptiesVector : GoodIn wsX12_near wsX12_emptiesVector := goodIn_r _ [34, 16, 2, 60, 61, 62, 63, 64, 65, 66, 67, 68, 69, 70, 71, 72, 73, 74, 75, 76, 77, 78, 79, 80, 81, 82, 83, 84, 85, 86, 87, 88, 89, 90, 91, 92, 93, 94, 95, 96] rfl (by decide +kernel)
set_option maxRecDepth 20000 in
theorem gX12_near_X12_emptiesVector : GoodIn wsX12_near (wsV RX12 398 RX12 yX12_emptiesVector wsX12_emptiesVector) := goodIn_app (goodIn_of _ (by decide +kernel)) ggX12_near_X12_emptiesVector
set_option maxRecDepth 20000 in
theorem ggX12_near_X12_longAt : GoodIn wsX12_near wsX12_longAt := goodIn_r _ [37] rfl (by decide +kernel)
set_option maxRecDepth 20000 in
theorem gX12_near_X12_longAt : GoodIn wsX12_near (va_wsS RX12 401 yX12_longAt wsX12_longAt) := goodIn_app (goodIn_of _ (by decide +kernel)) ggX12_near_X12_longAt
set_option maxRecDepth 20000 in
theorem ggX12_near_X12_piles : GoodIn wsX12_near wsX12_piles := goodIn_r _ [41, 2, 16, 42, 1, 43, 17, 44, 45, 46, 7, 47, 48, 49, 50, 51, 52, 53, 54, 55, 56, 57, 58, 59, 60, 61, 62, 63, 64, 65, 66, 67, 68, 69, 70, 71, 72, 73, 74, 75, 76, 77, 78, 79, 80, 81, 82, 83, 84, 85, 86, 87, 88, 89, 90, 91, 92, 93, 94, 95, 96] rfl (by decide +kernel)
set_option maxRecDepth 20000 in
theorem gX12_near_X12_piles : GoodIn wsX12_near (wsV RX12 404 RX12 yX12_piles wsX12_piles) := goodIn_app (goodIn_of _ (by decide +kernel)) ggX12_near_X12_piles
set_option maxRecDepth 20000 in
theorem ggX12_areOn_X12_valueAt : GoodIn wsX12_areOn wsX12_valueAt := goodIn_r _ [5, 6, 7, 8, 4, 9, 10, 11, 12, 13, 14, 15, 16, 17, 18, 19, 20, 21, 22, 23, 24, 25, 26, 27, 28, 29, 30, 31, 32, 33, 34, 35, 36, 37, 38, 39, 40, 41, 42, 43, 44, 45, 46, 47, 48, 49, 50, 51, 52, 53, 54, 55, 56, 57, 58, 59, 60, 61, 62, 63, 64, 65, 66, 67, 68, 69, 70, 71, 72, 73, 74, 75, 76, 77, 78, 79, 80] rfl (by decide +kernel)
set_option maxRecDepth 20000 in
theorem gX12_areOn_X12_valueAt : GoodIn wsX12_areOn (wsV RX12 299 RX12 yX12_valueAt wsX12_valueAt) := goodIn_app (goodIn_of _ (by decide +kernel)) ggX12_areOn_X12_valueAt
set_option maxRecDepth 20000 in
theorem ggX12_timesAmong_X12_areOn : GoodIn wsX12_timesAmong wsX12_areOn := goodIn_r _ [5, 6, 7, 8, 4, 9, 10, 11, 12, 13, 14, 15, 16, 17, 18, 19, 20, 21, 22, 23, 24, 25, 26, 27, 28, 29, 30, 31, 32, 33, 34, 35, 36, 37, 38, 39, 40, 41, 42, 43, 44, 45, 46, 47, 144, 145, 146, 147, 148, 149, 150, 151, 152, 153, 154, 155, 156, 157, 158, 159, 160, 161, 162, 163, 164, 165, 166, 167, 168, 169, 170, 171, 172, 173, 174, 175, 176, 177, 178, 179, 180] rfl (by decide +kernel)
set_option maxRecDepth 20000 in
theorem gX12_timesAmong_X12_areOn : GoodIn wsX12_timesAmong (wsV RX12 420 RX12 yX12_areOn wsX12_areOn) := goodIn_app (goodIn_of _ (by decide +kernel)) ggX12_timesAmong_X12_areOn
set_option maxRecDepth 20000 in
theorem ggX12_timesAmong_X12_timesAt : GoodIn wsX12_timesAmong wsX12_timesAt := goodIn_r _ [51, 52, 53, 54, 55, 56, 57, 58, 4, 59, 60, 61, 10, 11, 12, 13, 14, 15, 16, 17, 18, 62, 63, 64, 65, 66, 67, 68, 69, 70, 71, 72, 73, 40, 41, 42, 43, 23, 74, 75, 76, 77, 78, 79, 80, 81, 82, 83, 84, 85, 86, 87, 88, 89, 36, 37, 38, 39, 90, 91, 92, 93, 94, 95, 96, 97, 98, 99, 100, 101, 102, 103, 104, 105, 19, 20, 21, 22, 24, 25, 26, 27, 28, 29, 30, 31, 32, 33, 34, 35, 44, 45, 46, 47, 106, 107, 108, 109, 110, 111, 112, 113, 114, 115, 116, 117, 118, 119, 120, 121, 122, 123, 124, 125, 126, 127, 128, 129, 130, 131, 132, 133, 134, 135, 136, 137, 138, 139, 140, 141, 142, 143, 144, 145, 146, 147, 148, 149, 150, 151, 152, 153, 154, 155, 156, 157, 158, 159, 160, 161, 162, 163, 164, 165, 166, 167, 168, 169, 170, 171, 172, 173, 174, 175, 176, 177, 178, 179, 180] rfl (by decide +kernel)
set_option maxRecDepth 20000 in
theorem gX12_timesAmong_X12_timesAt : GoodIn wsX12_timesAmong (wsV RX12 395 RX12 yX12_timesAt wsX12_timesAt) := goodIn_app (goodIn_of _ (by decide +kernel)) ggX12_timesAmong_X12_timesAt
set_option maxRecDepth 20000 in
theorem ggX12_meet_X12_areCurves : GoodIn wsX12_meet wsX12_areCurves := goodIn_r _ [5, 6, 7, 8, 4, 9, 10, 11, 12, 13, 160, 161, 162, 163, 164, 165, 166, 167, 168, 169, 170, 171, 172, 173, 174, 175, 176, 177, 178, 179, 180, 181, 182, 183, 184, 185, 186, 187, 188, 189, 190, 191, 192, 193, 194, 195, 196] rfl (by decide +kernel)
set_option maxRecDepth 20000 in
theorem gX12_meet_X12_areCurves : GoodIn wsX12_meet (wsV RX12 363 RX12 yX12_areCurves wsX12_areCurves) := goodIn_app (goodIn_of _ (by decide +kernel)) ggX12_meet_X12_areCurves
set_option maxRecDepth 20000 in
theorem ggX12_meet_X12_isIn : GoodIn wsX12_meet wsX12_isIn := goodIn_r _ [13] rfl (by decide +kernel)
set_option maxRecDepth 20000 in
theorem gX12_meet_X12_isIn : GoodIn wsX12_meet (va_wsS RX12 271 yX12_isIn wsX12_isIn) := goodIn_app (goodIn_of _ (by decide +kernel)) ggX12_meet_X12_isIn
set_option maxRecDepth 20000 in
theorem ggX12_meet_X12_points : GoodIn wsX12_meet wsX12_points := goodIn_r _ [17, 18, 160, 161, 162, 163, 164, 165, 166, 167, 168, 169, 170, 171, 172, 173, 174, 175, 176, 177, 178, 179, 180, 181, 182, 183, 184, 185, 186, 187, 188, 189, 190, 191, 192, 193, 194, 195, 196] rfl (by decide +kernel)
set_option maxRecDepth 20000 in
theorem gX12_meet_X12_points : GoodIn wsX12_meet (wsV RX12 274 RX12 yX12_points wsX12_points) := goodIn_app (goodIn_of _ (by decide +kernel)) ggX12_meet_X12_points
set_option maxRecDepth 20000 in
theorem ggX12_meet_X12_timesAmong : GoodIn wsX12_meet wsX12_timesAmong := goodIn_r _ [22, 23, 24, 25, 4, 26, 27, 28, 29, 30, 31, 32, 33, 34, 35, 36, 37, 38, 39, 40, 41, 42, 43, 18, 44, 45, 46, 47, 48, 49, 50, 51, 14, 15, 16, 17, 52, 53, 54, 55, 56, 57, 58, 59, 60, 61, 62, 63, 64, 65, 66, 67, 68, 69, 70, 71, 72, 73, 74, 75, 76, 77, 78, 79, 80, 81, 82, 83, 84, 85, 86, 87, 88, 89, 90, 91, 92, 93, 94, 95, 96, 97, 98, 99, 100, 101, 102, 103, 104, 105, 106, 107, 108, 109, 110, 111, 112, 113, 114, 115, 116, 117, 118, 119, 120, 121, 122, 123, 124, 125, 126, 127, 128, 129, 130, 131, 132, 133, 134, 135, 136, 137, 138, 139, 140, 141, 142, 143, 144, 145, 146, 147, 148, 149, 150, 151, 152, 153, 154, 155, 156, 157, 158, 159, 160, 161, 162, 163, 164, 165, 166, 167, 168, 169, 170, 171, 172, 173, 174, 175, 176, 177, 178, 179, 180, 181, 182, 183, 184, 185, 186, 187, 188, 189, 190, 191, 192, 193, 194, 195, 196] rfl (by decide +kernel)
set_option maxRecDepth 20000 in
theorem gX12_meet_X12_timesAmong : GoodIn wsX12_meet (wsV RX12 423 RX12 yX12_timesAmong wsX12_timesAmong) := goodIn_app (goodIn_of _ (by decide +kernel)) ggX12_meet_X12_timesAmong
set_option maxRecDepth 20000 in
theorem ggX12_meet_X12_areOn : GoodIn wsX12_meet wsX12_areOn := goodIn_r _ [26, 27, 28, 29, 4, 30, 31, 32, 33, 34, 35, 36, 37, 38, 39, 40, 41, 42, 43, 18, 44, 45, 46, 47, 48, 49, 50, 51, 14, 15, 16, 17, 52, 53, 54, 55, 56, 57, 58, 59, 60, 61, 62, 63, 160, 161, 162, 163, 164, 165, 166, 167, 168, 169, 170, 171, 172, 173, 174, 175, 176, 177, 178, 179, 180, 181, 182, 183, 184, 185, 186, 187, 188, 189, 190, 191, 192, 193, 194, 195, 196] rfl (by decide +kernel)
set_option maxRecDepth 20000 in
theorem gX12_meet_X12_areOn : GoodIn wsX12_meet (wsV RX12 420 RX12 yX12_areOn wsX12_areOn) := goodIn_app (goodIn_of _ (by decide +kernel)) ggX12_meet_X12_areOn
set_option maxRecDepth 20000 in
theorem ggX12_meet_X12_timesAt : GoodIn wsX12_meet wsX12_timesAt := goodIn_r _ [67, 68, 69, 70, 71, 72, 73, 74, 4, 75, 76, 77, 31, 32, 33, 34, 35, 36, 37, 38, 39, 78, 79, 80, 81, 82, 83, 84, 85, 86, 87, 88, 89, 56, 57, 58, 59, 18, 90, 91, 92, 93, 94, 95, 96, 97, 98, 99, 100, 101, 102, 103, 104, 105, 52, 53, 54, 55, 106, 107, 108, 109, 110, 111, 112, 113, 114, 115, 116, 117, 118, 119, 120, 121, 40, 41, 42, 43, 44, 45, 46, 47, 48, 49, 50, 51, 14, 15, 16, 17, 60, 61, 62, 63, 122, 123, 124, 125, 126, 127, 128, 129, 130, 131, 132, 133, 134, 135, 136, 137, 138, 139, 140, 141, 142, 143, 144, 145, 146, 147, 148, 149, 150, 151, 152, 153, 154, 155, 156, 157, 158, 159, 160, 161, 162, 163, 164, 165, 166, 167, 168, 169, 170, 171, 172, 173, 174, 175, 176, 177, 178, 179, 180, 181, 182, 183, 184, 185, 186, 187, 188, 189, 190, 191, 192, 193, 194, 195, 196] rfl (by decide +kernel)
set_option maxRecDepth 20000 in
theorem gX12_meet_X12_timesAt : GoodIn wsX12_meet (wsV RX12 395 RX12 yX12_timesAt wsX12_timesAt) := goodIn_app (goodIn_of _ (by decide +kernel)) ggX12_meet_X12_timesAt
set_option maxRecDepth 20000 in
theorem ggX12_total_X12_areCurves : GoodIn wsX12_total wsX12_areCurves := goodIn_r _ [6, 7, 8, 9, 5, 10, 11, 12, 13, 14, 197, 198, 199, 200, 201, 202, 203, 204, 205, 206, 207, 208, 209, 210, 211, 212, 213, 214, 215, 216, 217, 218, 219, 220, 221, 222, 223, 224, 225, 226, 227, 228, 229, 230, 231, 232, 233] rfl (by decide +kernel)
set_option maxRecDepth 20000 in
theorem gX12_total_X12_areCurves : GoodIn wsX12_total (wsV RX12 363 RX12 yX12_areCurves wsX12_areCurves) := goodIn_app (goodIn_of _ (by decide +kernel)) ggX12_total_X12_areCurves
set_option maxRecDepth 20000 in
theorem ggX12_total_X12_isIn : GoodIn wsX12_total wsX12_isIn := goodIn_r _ [14] rfl (by decide +kernel)
set_option maxRecDepth 20000 in
theorem gX12_total_X12_isIn : GoodIn wsX12_total (va_wsS RX12 271 yX12_isIn wsX12_isIn) := goodIn_app (goodIn_of _ (by decide +kernel)) ggX12_total_X12_isIn
set_option maxRecDepth 20000 in
theorem ggX12_total_X12_laysCommon : GoodIn wsX12_total wsX12_laysCommon := goodIn_r _ [18, 19, 20, 21, 22, 23, 5, 24, 25, 26, 27, 28, 29, 30, 31, 32, 33, 34, 35, 36, 37, 38, 39, 40, 41, 42, 43, 44, 45, 1, 46, 47, 48, 49, 50, 51, 52, 53, 54, 55, 56, 57, 58, 59, 60, 61, 62, 63, 64, 65, 66, 67, 68, 69, 70, 71, 72, 73, 74, 75, 76, 77, 78, 79, 80, 81, 197, 198, 199, 200, 201, 202, 203, 204, 205, 206, 207, 208, 209, 210, 211, 212, 213, 214, 215, 216, 217, 218, 219, 220, 221, 222, 223, 224, 225, 226, 227, 228, 229, 230, 231, 232, 233] rfl (by decide +kernel)
set_option maxRecDepth 20000 in
theorem gX12_total_X12_laysCommon : GoodIn wsX12_total (wsV RX12 366 RX12 yX12_laysCommon wsX12_laysCommon) := goodIn_app (goodIn_of _ (by decide +kernel)) ggX12_total_X12_laysCommon
set_option maxRecDepth 20000 in
theorem ggX12_total_X12_degreeOf : GoodIn wsX12_total wsX12_degreeOf := goodIn_r _ [24, 25, 26, 27, 5, 28, 29, 197, 198, 199, 200, 201, 202, 203, 204, 205, 206, 207, 208, 209, 210, 211, 212, 213, 214, 215, 216, 217, 218, 219, 220, 221, 222, 223, 224, 225, 226, 227, 228, 229, 230, 231, 232, 233] rfl (by decide +kernel)
set_option maxRecDepth 20000 in
theorem gX12_total_X12_degreeOf : GoodIn wsX12_total (wsV RX12 254 RX12 yX12_degreeOf wsX12_degreeOf) := goodIn_app (goodIn_of _ (by decide +kernel)) ggX12_total_X12_degreeOf
set_option maxRecDepth 20000 in
theorem ggX12_total_X12_near : GoodIn wsX12_total wsX12_near := goodIn_r _ [85, 86, 87, 88, 89, 90, 91, 5, 92, 46, 47, 48, 93, 94, 95, 96, 97, 98, 99, 100, 101, 102, 21, 22, 23, 24, 25, 26, 27, 28, 29, 103, 104, 105, 106, 107, 108, 109, 110, 111, 112, 113, 114, 1, 115, 116, 117, 118, 58, 59, 60, 61, 62, 63, 64, 65, 42, 43, 44, 45, 197, 198, 199, 200, 201, 202, 203, 204, 205, 206, 207, 208, 209, 210, 211, 212, 213, 214, 215, 216, 217, 218, 219, 220, 221, 222, 223, 224, 225, 226, 227, 228, 229, 230, 231, 232, 233] rfl (by decide +kernel)
set_option maxRecDepth 20000 in
theorem gX12_total_X12_near : GoodIn wsX12_total (wsV RX12 427 RX12 yX12_near wsX12_near) := goodIn_app (goodIn_of _ (by decide +kernel)) ggX12_total_X12_near
set_option maxRecDepth 20000 in
theorem ggX12_total_X12_timesAmong : GoodIn wsX12_total wsX12_timesAmong := goodIn_r _ [122, 123, 124, 125, 5, 126, 127, 128, 129, 130, 21, 22, 23, 24, 25, 26, 27, 28, 29, 131, 132, 133, 134, 1, 135, 136, 137, 138, 139, 140, 141, 142, 143, 144, 145, 146, 62, 63, 64, 65, 42, 43, 44, 45, 147, 148, 149, 150, 151, 152, 153, 154, 155, 156, 157, 158, 15, 16, 17, 18, 19, 20, 30, 31, 32, 33, 34, 35, 36, 37, 38, 39, 40, 41, 46, 47, 48, 49, 50, 51, 52, 53, 54, 55, 56, 57, 58, 59, 60, 61, 66, 67, 68, 69, 70, 71, 72, 73, 74, 75, 76, 77, 78, 79, 80, 81, 159, 160, 161, 162, 163, 164, 165, 166, 167, 168, 169, 170, 171, 172, 173, 174, 175, 176, 177, 178, 179, 180, 181, 182, 183, 184, 185, 186, 187, 188, 189, 190, 191, 192, 193, 194, 195, 196, 197, 198, 199, 200, 201, 202, 203, 204, 205, 206, 207, 208, 209, 210, 211, 212, 213, 214, 215, 216, 217, 218, 219, 220, 221, 222, 223, 224, 225, 226, 227, 228, 229, 230, 231, 232, 233] rfl (by decide +kernel)
set_option maxRecDepth 20000 in
theorem gX12_total_X12_timesAmong : GoodIn wsX12_total (wsV RX12 423 RX12 yX12_timesAmong wsX12_timesAmong) := goodIn_app (goodIn_of _ (by decide +kernel)) ggX12_total_X12_timesAmong
set_option maxRecDepth 20000 in
theorem ggX12_total_X12_points : GoodIn wsX12_total wsX12_points := goodIn_r _ [146, 1, 197, 198, 199, 200, 201, 202, 203, 204, 205, 206, 207, 208, 209, 210, 211, 212, 213, 214, 215, 216, 217, 218, 219, 220, 221, 222, 223, 224, 225, 226, 227, 228, 229, 230, 231, 232, 233] rfl (by decide +kernel)
set_option maxRecDepth 20000 in
theorem gX12_total_X12_points : GoodIn wsX12_total (wsV RX12 274 RX12 yX12_points wsX12_points) := goodIn_app (goodIn_of _ (by decide +kernel)) ggX12_total_X12_points
set_option maxRecDepth 20000 in
theorem ggX12_knot_X12_isPoint : GoodIn wsX12_knot wsX12_isPoint := goodIn_r _ [6, 7, 8, 9, 5, 10, 11, 12, 13, 14, 148, 149, 150, 151, 152, 153, 154, 155, 156, 157, 158, 159, 160, 161, 162, 163, 164, 165, 166, 167, 168, 169, 170, 171, 172, 173, 174, 175, 176, 177, 178, 179, 180, 181, 182, 183, 184] rfl (by decide +kernel)
set_option maxRecDepth 20000 in
theorem gX12_knot_X12_isPoint : GoodIn wsX12_knot (wsV RX12 296 RX12 yX12_isPoint wsX12_isPoint) := goodIn_app (goodIn_of _ (by decide +kernel)) ggX12_knot_X12_isPoint
set_option maxRecDepth 20000 in
theorem ggX12_knot_X12_isIn : GoodIn wsX12_knot wsX12_isIn := goodIn_r _ [14] rfl (by decide +kernel)
set_option maxRecDepth 20000 in
theorem gX12_knot_X12_isIn : GoodIn wsX12_knot (va_wsS RX12 271 yX12_isIn wsX12_isIn) := goodIn_app (goodIn_of _ (by decide +kernel)) ggX12_knot_X12_isIn
set_option maxRecDepth 20000 in
theorem ggX12_knot_X12_valueAt : GoodIn wsX12_knot wsX12_valueAt := goodIn_r _ [18, 19, 20, 21, 5, 22, 23, 24, 25, 26, 27, 28, 29, 30, 31, 11, 32, 33, 34, 35, 36, 37, 38, 39, 7, 8, 9, 10, 40, 41, 42, 43, 44, 45, 46, 47, 48, 49, 50, 51, 148, 149, 150, 151, 152, 153, 154, 155, 156, 157, 158, 159, 160, 161, 162, 163, 164, 165, 166, 167, 168, 169, 170, 171, 172, 173, 174, 175, 176, 177, 178, 179, 180, 181, 182, 183, 184] rfl (by decide +kernel)
set_option maxRecDepth 20000 in
theorem gX12_knot_X12_valueAt : GoodIn wsX12_knot (wsV RX12 299 RX12 yX12_valueAt wsX12_valueAt) := goodIn_app (goodIn_of _ (by decide +kernel)) ggX12_knot_X12_valueAt
set_option maxRecDepth 20000 in
theorem ggX12_knot_X12_timesAt : GoodIn wsX12_knot wsX12_timesAt := goodIn_r _ [55, 56, 57, 58, 59, 60, 61, 62, 5, 63, 64, 65, 19, 20, 21, 22, 23, 24, 25, 26, 27, 66, 67, 68, 69, 70, 71, 72, 73, 74, 75, 76, 77, 44, 45, 46, 47, 11, 78, 79, 80, 81, 82, 83, 84, 85, 86, 87, 88, 89, 90, 91, 92, 93, 40, 41, 42, 43, 94, 95, 96, 97, 98, 99, 100, 101, 102, 103, 104, 105, 106, 107, 108, 109, 28, 29, 30, 31, 32, 33, 34, 35, 36, 37, 38, 39, 7, 8, 9, 10, 48, 49, 50, 51, 110, 111, 112, 113, 114, 115, 116, 117, 118, 119, 120, 121, 122, 123, 124, 125, 126, 127, 128, 129, 130, 131, 132, 133, 134, 135, 136, 137, 138, 139, 140, 141, 142, 143, 144, 145, 146, 147, 148, 149, 150, 151, 152, 153, 154, 155, 156, 157, 158, 159, 160, 161, 162, 163, 164, 165, 166, 167, 168, 169, 170, 171, 172, 173, 174, 175, 176, 177, 178, 179, 180, 181, 182, 183, 184] rfl (by decide +kernel)
set_option maxRecDepth 20000 in
theorem gX12_knot_X12_timesAt : GoodIn wsX12_knot (wsV RX12 395 RX12 yX12_timesAt wsX12_timesAt) := goodIn_app (goodIn_of _ (by decide +kernel)) ggX12_knot_X12_timesAt
