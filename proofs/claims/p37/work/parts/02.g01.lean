set_option maxRecDepth 20000 in
theorem ggX4_whichFits_X4_greatestPure : GoodIn wsX4_whichFits wsX4_greatestPure := goodIn_r _ [6] rfl (by decide +kernel)
set_option maxRecDepth 20000 in
theorem gX4_whichFits_X4_greatestPure : GoodIn wsX4_whichFits (va_wsS RX4 63 yX4_greatestPure wsX4_greatestPure) := goodIn_app (goodIn_of _ (by decide +kernel)) ggX4_whichFits_X4_greatestPure
set_option maxRecDepth 20000 in
theorem ggX4_cut_X4_greatestPure : GoodIn wsX4_cut wsX4_greatestPure := goodIn_r _ [7] rfl (by decide +kernel)
set_option maxRecDepth 20000 in
theorem gX4_cut_X4_greatestPure : GoodIn wsX4_cut (va_wsS RX4 63 yX4_greatestPure wsX4_greatestPure) := goodIn_app (goodIn_of _ (by decide +kernel)) ggX4_cut_X4_greatestPure
set_option maxRecDepth 20000 in
theorem ggX4_cut_X11_inverse : GoodIn wsX4_cut wsX11_inverse := goodIn_r _ [10] rfl (by decide +kernel)
set_option maxRecDepth 20000 in
theorem gX4_cut_X11_inverse_n66 : GoodIn wsX4_cut (wsX11_inverse) := ggX4_cut_X11_inverse
set_option maxRecDepth 20000 in
theorem ggX4_cut_X11_mod : GoodIn wsX4_cut wsX11_mod := goodIn_r _ [12] rfl (by decide +kernel)
set_option maxRecDepth 20000 in
theorem gX4_cut_X11_mod_n69 : GoodIn wsX4_cut (wsX11_mod) := ggX4_cut_X11_mod
set_option maxRecDepth 20000 in
theorem ggX5_init_X2_init : GoodIn wsX5_init wsX2_init := goodIn_r _ [20, 21, 2, 3, 4, 22, 34] rfl (by decide +kernel)
set_option maxRecDepth 20000 in
theorem gX5_init_X2_init_n25 : GoodIn wsX5_init (wsX2_init) := ggX5_init_X2_init
set_option maxRecDepth 20000 in
theorem ggX5_sizeOf_X5_begin : GoodIn wsX5_sizeOf wsX5_begin := goodIn_r _ [6, 7, 8, 9, 10, 1, 11, 12, 13, 14, 15, 16, 17, 5, 18, 19, 20, 21, 22, 23, 24, 25, 26, 27, 28, 29, 30, 31, 32, 33, 34, 35, 36, 37, 38, 86, 87, 88, 89, 90, 91, 92, 93, 94, 95, 96, 97, 98, 99, 100, 101, 102] rfl (by decide +kernel)
set_option maxRecDepth 20000 in
theorem gX5_sizeOf_X5_begin : GoodIn wsX5_sizeOf (wsV RX5 54 RX5 yX5_begin wsX5_begin) := goodIn_app (goodIn_of _ (by decide +kernel)) ggX5_sizeOf_X5_begin
set_option maxRecDepth 20000 in
theorem ggX5_sizeOf_X5_addMultiples : GoodIn wsX5_sizeOf wsX5_addMultiples := goodIn_r _ [42, 13, 43, 44, 45, 5, 46, 47, 48, 49, 50, 51, 10, 8, 52, 53, 54, 55, 7, 11, 12, 9, 56, 57, 58, 22, 59, 28, 60, 61, 62, 63, 64, 65, 66, 67, 68, 69, 70, 71, 72, 14, 73, 74, 75, 76, 77, 78, 79, 32, 80, 37, 35, 36, 38, 81, 82, 83, 84, 85, 86, 87, 88, 89, 90, 91, 92, 93, 94, 95, 96, 97, 98, 99, 100, 101, 102] rfl (by decide +kernel)
set_option maxRecDepth 20000 in
theorem gX5_sizeOf_X5_addMultiples : GoodIn wsX5_sizeOf (wsV RX5 58 RX5 yX5_addMultiples wsX5_addMultiples) := goodIn_app (goodIn_of _ (by decide +kernel)) ggX5_sizeOf_X5_addMultiples
set_option maxRecDepth 20000 in
theorem ggX5_nearOf_X5_begin : GoodIn wsX5_nearOf wsX5_begin := goodIn_r _ [8, 9, 10, 11, 12, 13, 14, 15, 1, 3, 16, 17, 18, 7, 19, 20, 21, 22, 23, 24, 25, 26, 27, 28, 29, 30, 31, 32, 33, 34, 35, 36, 37, 38, 39, 93, 94, 95, 96, 97, 98, 99, 100, 101, 102, 103, 104, 105, 106, 107, 108, 109] rfl (by decide +kernel)
set_option maxRecDepth 20000 in
theorem gX5_nearOf_X5_begin : GoodIn wsX5_nearOf (wsV RX5 54 RX5 yX5_begin wsX5_begin) := goodIn_app (goodIn_of _ (by decide +kernel)) ggX5_nearOf_X5_begin
set_option maxRecDepth 20000 in
theorem ggX5_nearOf_X2_top : GoodIn wsX5_nearOf wsX2_top := goodIn_r _ [43, 29, 44, 45, 27, 46, 104] rfl (by decide +kernel)
set_option maxRecDepth 20000 in
theorem gX5_nearOf_X2_top : GoodIn wsX5_nearOf (wsV RX5 62 RX2 yX2_top wsX2_top) := goodIn_app (goodIn_of _ (by decide +kernel)) ggX5_nearOf_X2_top
set_option maxRecDepth 20000 in
theorem ggX5_nearOf_X5_addMultiples : GoodIn wsX5_nearOf wsX5_addMultiples := goodIn_r _ [50, 1, 51, 52, 53, 7, 54, 55, 56, 57, 58, 59, 12, 10, 60, 61, 62, 63, 9, 14, 15, 11, 64, 65, 66, 23, 67, 29, 68, 69, 70, 71, 72, 73, 74, 75, 76, 77, 78, 79, 2, 3, 80, 81, 82, 83, 84, 85, 86, 33, 87, 38, 36, 37, 39, 88, 89, 90, 91, 92, 93, 94, 95, 96, 97, 98, 99, 100, 101, 102, 103, 104, 105, 106, 107, 108, 109] rfl (by decide +kernel)
set_option maxRecDepth 20000 in
theorem gX5_nearOf_X5_addMultiples : GoodIn wsX5_nearOf (wsV RX5 58 RX5 yX5_addMultiples wsX5_addMultiples) := goodIn_app (goodIn_of _ (by decide +kernel)) ggX5_nearOf_X5_addMultiples
set_option maxRecDepth 20000 in
theorem ggX5_nearOf_X5_clearLine : GoodIn wsX5_nearOf wsX5_clearLine := goodIn_r _ [83, 2, 93, 94, 95, 96, 97, 98, 99, 100, 101, 102, 103] rfl (by decide +kernel)
set_option maxRecDepth 20000 in
theorem gX5_nearOf_X5_clearLine : GoodIn wsX5_nearOf (wsV RX5 65 RX5 yX5_clearLine wsX5_clearLine) := goodIn_app (goodIn_of _ (by decide +kernel)) ggX5_nearOf_X5_clearLine
set_option maxRecDepth 20000 in
theorem ggX5_nearOf_X8_add : GoodIn wsX5_nearOf wsX8_add := goodIn_r _ [87, 38, 36, 37, 39, 88, 89, 90, 91, 33, 92, 71, 72, 73, 74, 75, 105, 106, 107, 108, 109] rfl (by decide +kernel)
set_option maxRecDepth 20000 in
theorem gX5_nearOf_X8_add : GoodIn wsX5_nearOf (wsV RX5 68 RX8 yX8_add wsX8_add) := goodIn_app (goodIn_of _ (by decide +kernel)) ggX5_nearOf_X8_add
set_option maxRecDepth 20000 in
theorem ggX5_begin_X5_findLead : GoodIn wsX5_begin wsX5_findLead := goodIn_r _ [14, 6, 7, 3, 1, 15, 16, 17, 18, 19, 20, 21, 22, 23, 24, 35, 36, 37, 38, 39, 40, 41, 42, 43, 44, 45, 46] rfl (by decide +kernel)
set_option maxRecDepth 20000 in
theorem gX5_begin_X5_findLead : GoodIn wsX5_begin (wsV RX5 72 RX5 yX5_findLead wsX5_findLead) := goodIn_app (goodIn_of _ (by decide +kernel)) ggX5_begin_X5_findLead
set_option maxRecDepth 20000 in
theorem ggX5_begin_X8_begin : GoodIn wsX5_begin wsX8_begin := goodIn_r _ [29, 30, 21, 22, 23, 31, 32, 33, 34, 47, 48, 49, 50, 51] rfl (by decide +kernel)
set_option maxRecDepth 20000 in
theorem gX5_begin_X8_begin : GoodIn wsX5_begin (wsV RX5 75 RX8 yX8_begin wsX8_begin) := goodIn_app (goodIn_of _ (by decide +kernel)) ggX5_begin_X8_begin
set_option maxRecDepth 20000 in
theorem ggX5_findLead_X2_leadAt : GoodIn wsX5_findLead wsX2_leadAt := goodIn_r _ [9, 10, 11, 12, 13, 14, 26] rfl (by decide +kernel)
set_option maxRecDepth 20000 in
theorem gX5_findLead_X2_leadAt : GoodIn wsX5_findLead (wsV RX5 78 RX2 yX2_leadAt wsX2_leadAt) := goodIn_app (goodIn_of _ (by decide +kernel)) ggX5_findLead_X2_leadAt
set_option maxRecDepth 20000 in
theorem ggX5_addMultiples_X5_setRow : GoodIn wsX5_addMultiples wsX5_setRow := goodIn_r _ [6, 7, 8, 9, 10, 5, 11, 12, 13, 60, 61, 62, 63, 64, 65, 66, 67, 68, 69, 70, 71] rfl (by decide +kernel)
set_option maxRecDepth 20000 in
theorem gX5_addMultiples_X5_setRow : GoodIn wsX5_addMultiples (wsV RX5 82 RX5 yX5_setRow wsX5_setRow) := goodIn_app (goodIn_of _ (by decide +kernel)) ggX5_addMultiples_X5_setRow
set_option maxRecDepth 20000 in
theorem ggX5_addMultiples_X5_reduceRow : GoodIn wsX5_addMultiples wsX5_reduceRow := goodIn_r _ [17, 18, 19, 20, 12, 13, 21, 7, 22, 23, 24, 25, 26, 27, 28, 29, 30, 31, 32, 33, 34, 35, 8, 9, 10, 5, 11, 60, 61, 62, 63, 64, 65, 66, 67, 68, 69, 70, 71] rfl (by decide +kernel)
set_option maxRecDepth 20000 in
theorem gX5_addMultiples_X5_reduceRow : GoodIn wsX5_addMultiples (wsV RX5 86 RX5 yX5_reduceRow wsX5_reduceRow) := goodIn_app (goodIn_of _ (by decide +kernel)) ggX5_addMultiples_X5_reduceRow
set_option maxRecDepth 20000 in
theorem ggX5_addMultiples_X5_addRow : GoodIn wsX5_addMultiples wsX5_addRow := goodIn_r _ [39, 13, 1, 40, 7, 41, 42, 43, 44, 5, 45, 46, 47, 48, 49, 50, 51, 52, 53, 54, 55, 56, 57, 58, 59, 31, 32, 33, 34, 35, 60, 61, 62, 63, 64, 65, 66, 67, 68, 69, 70, 72, 73, 74, 75, 76] rfl (by decide +kernel)
set_option maxRecDepth 20000 in
theorem gX5_addMultiples_X5_addRow : GoodIn wsX5_addMultiples (wsV RX5 89 RX5 yX5_addRow wsX5_addRow) := goodIn_app (goodIn_of _ (by decide +kernel)) ggX5_addMultiples_X5_addRow
set_option maxRecDepth 20000 in
theorem ggX5_setRow_X5_addToRow : GoodIn wsX5_setRow wsX5_addToRow := goodIn_r _ [6, 7, 8, 1, 9, 10, 11, 12, 13, 14, 15, 16, 17, 18, 19, 20] rfl (by decide +kernel)
set_option maxRecDepth 20000 in
theorem gX5_setRow_X5_addToRow : GoodIn wsX5_setRow (wsV RX5 93 RX5 yX5_addToRow wsX5_addToRow) := goodIn_app (goodIn_of _ (by decide +kernel)) ggX5_setRow_X5_addToRow
set_option maxRecDepth 20000 in
theorem ggX5_reduceRow_X2_at : GoodIn wsX5_reduceRow wsX2_at := goodIn_r _ [12, 13, 14, 15, 11, 16, 38] rfl (by decide +kernel)
set_option maxRecDepth 20000 in
theorem gX5_reduceRow_X2_at : GoodIn wsX5_reduceRow (wsV RX5 100 RX2 yX2_at wsX2_at) := goodIn_app (goodIn_of _ (by decide +kernel)) ggX5_reduceRow_X2_at
set_option maxRecDepth 20000 in
theorem ggX5_reduceRow_X11_inverse : GoodIn wsX5_reduceRow wsX11_inverse := goodIn_r _ [19] rfl (by decide +kernel)
set_option maxRecDepth 20000 in
theorem gX5_reduceRow_X11_inverse_n104 : GoodIn wsX5_reduceRow (wsX11_inverse) := ggX5_reduceRow_X11_inverse
set_option maxRecDepth 20000 in
theorem ggX5_reduceRow_X11_mod : GoodIn wsX5_reduceRow wsX11_mod := goodIn_r _ [21] rfl (by decide +kernel)
set_option maxRecDepth 20000 in
theorem gX5_reduceRow_X11_mod_n107 : GoodIn wsX5_reduceRow (wsX11_mod) := ggX5_reduceRow_X11_mod
set_option maxRecDepth 20000 in
theorem ggX5_reduceRow_X5_addToRow : GoodIn wsX5_reduceRow wsX5_addToRow := goodIn_r _ [26, 4, 5, 7, 27, 28, 29, 30, 31, 32, 33, 34, 35, 36, 37, 38] rfl (by decide +kernel)
set_option maxRecDepth 20000 in
theorem gX5_reduceRow_X5_addToRow : GoodIn wsX5_reduceRow (wsV RX5 93 RX5 yX5_addToRow wsX5_addToRow) := goodIn_app (goodIn_of _ (by decide +kernel)) ggX5_reduceRow_X5_addToRow
set_option maxRecDepth 20000 in
theorem ggX5_addRow_X5_clearLine : GoodIn wsX5_addRow wsX5_clearLine := goodIn_r _ [10, 3, 30, 31, 32, 33, 34, 35, 36, 37, 38, 39, 40] rfl (by decide +kernel)
set_option maxRecDepth 20000 in
theorem gX5_addRow_X5_clearLine : GoodIn wsX5_addRow (wsV RX5 65 RX5 yX5_clearLine wsX5_clearLine) := goodIn_app (goodIn_of _ (by decide +kernel)) ggX5_addRow_X5_clearLine
set_option maxRecDepth 20000 in
theorem ggX5_addRow_X8_add : GoodIn wsX5_addRow wsX8_add := goodIn_r _ [15, 16, 17, 18, 19, 20, 21, 22, 23, 14, 24, 25, 26, 27, 28, 29, 41, 42, 43, 44, 45] rfl (by decide +kernel)
set_option maxRecDepth 20000 in
theorem gX5_addRow_X8_add : GoodIn wsX5_addRow (wsV RX5 68 RX8 yX8_add wsX8_add) := goodIn_app (goodIn_of _ (by decide +kernel)) ggX5_addRow_X8_add
set_option maxRecDepth 20000 in
theorem ggX6_init_X2_init : GoodIn wsX6_init wsX2_init := goodIn_r _ [14, 15, 2, 3, 10, 16, 17] rfl (by decide +kernel)
set_option maxRecDepth 20000 in
theorem gX6_init_X2_init_n11 : GoodIn wsX6_init (wsX2_init) := ggX6_init_X2_init
set_option maxRecDepth 20000 in
theorem ggX6_find_X8_begin : GoodIn wsX6_find wsX8_begin := goodIn_r _ [10, 11, 12, 13, 14, 15, 16, 17, 18, 111, 112, 113, 114, 115] rfl (by decide +kernel)
set_option maxRecDepth 20000 in
theorem gX6_find_X8_begin : GoodIn wsX6_find (wsV RX6 34 RX8 yX8_begin wsX8_begin) := goodIn_app (goodIn_of _ (by decide +kernel)) ggX6_find_X8_begin
set_option maxRecDepth 20000 in
theorem ggX6_find_X2_top : GoodIn wsX6_find wsX2_top := goodIn_r _ [23, 24, 25, 26, 13, 27, 116] rfl (by decide +kernel)
set_option maxRecDepth 20000 in
theorem gX6_find_X2_top : GoodIn wsX6_find (wsV RX6 38 RX2 yX2_top wsX2_top) := goodIn_app (goodIn_of _ (by decide +kernel)) ggX6_find_X2_top
set_option maxRecDepth 20000 in
theorem ggX6_find_X6_setLine : GoodIn wsX6_find wsX6_setLine := goodIn_r _ [32, 2, 33, 34, 31, 35, 36, 37, 38, 22, 39, 24, 40, 41, 42, 43, 44, 45, 46, 106, 107, 108, 109, 110, 116] rfl (by decide +kernel)
set_option maxRecDepth 20000 in
theorem gX6_find_X6_setLine : GoodIn wsX6_find (wsV RX6 42 RX6 yX6_setLine wsX6_setLine) := goodIn_app (goodIn_of _ (by decide +kernel)) ggX6_find_X6_setLine
set_option maxRecDepth 20000 in
theorem ggX6_find_X8_add : GoodIn wsX6_find wsX8_add := goodIn_r _ [50, 17, 15, 16, 18, 51, 52, 53, 54, 9, 55, 56, 57, 58, 59, 60, 111, 112, 113, 114, 115] rfl (by decide +kernel)
set_option maxRecDepth 20000 in
theorem gX6_find_X8_add : GoodIn wsX6_find (wsV RX6 46 RX8 yX8_add wsX8_add) := goodIn_app (goodIn_of _ (by decide +kernel)) ggX6_find_X8_add
set_option maxRecDepth 20000 in
theorem ggX6_find_X6_findCofactor : GoodIn wsX6_find wsX6_findCofactor := goodIn_r _ [64, 5, 1, 2, 65, 66, 67, 22, 68, 24, 28, 29, 30, 31, 32, 33, 34, 35, 36, 37, 38, 39, 40, 41, 42, 43, 44, 45, 46, 47, 48, 49, 9, 50, 17, 15, 16, 18, 51, 52, 53, 54, 55, 56, 57, 58, 59, 60, 69, 70, 71, 72, 73, 74, 75, 76, 106, 107, 108, 109, 110, 116, 111, 112, 113, 114, 115] rfl (by decide +kernel)
set_option maxRecDepth 20000 in
theorem gX6_find_X6_findCofactor : GoodIn wsX6_find (wsV RX6 50 RX6 yX6_findCofactor wsX6_findCofactor) := goodIn_app (goodIn_of _ (by decide +kernel)) ggX6_find_X6_findCofactor
set_option maxRecDepth 20000 in
theorem ggX6_find_X2_copy : GoodIn wsX6_find wsX2_copy := goodIn_r _ [80, 24, 81, 82, 83, 84, 116] rfl (by decide +kernel)
set_option maxRecDepth 20000 in
theorem gX6_find_X2_copy : GoodIn wsX6_find (wsV RX6 54 RX2 yX2_copy wsX2_copy) := goodIn_app (goodIn_of _ (by decide +kernel)) ggX6_find_X2_copy
set_option maxRecDepth 20000 in
theorem ggX6_find_X2_quotient : GoodIn wsX6_find wsX2_quotient := goodIn_r _ [88, 89, 66, 67, 22, 68, 24, 90, 20, 21, 23, 25, 26, 13, 27, 91, 92, 93, 94, 95, 12, 14, 96, 37, 38, 39, 40, 41, 42, 56, 57, 58, 59, 60, 97, 74, 75, 76, 98, 99, 100, 101, 116] rfl (by decide +kernel)
set_option maxRecDepth 20000 in
theorem gX6_find_X2_quotient : GoodIn wsX6_find (wsV RX6 58 RX2 yX2_quotient wsX2_quotient) := goodIn_app (goodIn_of _ (by decide +kernel)) ggX6_find_X2_quotient
set_option maxRecDepth 20000 in
theorem ggX6_find_X2_normalize : GoodIn wsX6_find wsX2_normalize := goodIn_r _ [105, 24, 90, 20, 21, 22, 23, 25, 26, 13, 27, 91, 92, 93, 94, 95, 12, 14, 96, 37, 38, 39, 40, 41, 42, 56, 57, 58, 59, 60, 116] rfl (by decide +kernel)
set_option maxRecDepth 20000 in
theorem gX6_find_X2_normalize : GoodIn wsX6_find (wsV RX6 62 RX2 yX2_normalize wsX2_normalize) := goodIn_app (goodIn_of _ (by decide +kernel)) ggX6_find_X2_normalize
set_option maxRecDepth 20000 in
theorem ggX6_findCofactor_X2_setTo : GoodIn wsX6_findCofactor wsX2_setTo := goodIn_r _ [8, 9, 61] rfl (by decide +kernel)
set_option maxRecDepth 20000 in
theorem gX6_findCofactor_X2_setTo : GoodIn wsX6_findCofactor (wsV RX6 66 RX2 yX2_setTo wsX2_setTo) := goodIn_app (goodIn_of _ (by decide +kernel)) ggX6_findCofactor_X2_setTo
set_option maxRecDepth 20000 in
theorem ggX6_findCofactor_X6_setLine : GoodIn wsX6_findCofactor wsX6_setLine := goodIn_r _ [14, 3, 15, 16, 13, 17, 18, 19, 20, 7, 21, 9, 22, 23, 24, 25, 26, 27, 28, 56, 57, 58, 59, 60, 61] rfl (by decide +kernel)
set_option maxRecDepth 20000 in
theorem gX6_findCofactor_X6_setLine : GoodIn wsX6_findCofactor (wsV RX6 42 RX6 yX6_setLine wsX6_setLine) := goodIn_app (goodIn_of _ (by decide +kernel)) ggX6_findCofactor_X6_setLine
set_option maxRecDepth 20000 in
theorem ggX6_findCofactor_X6_column : GoodIn wsX6_findCofactor wsX6_column := goodIn_r _ [17] rfl (by decide +kernel)
set_option maxRecDepth 20000 in
theorem gX6_findCofactor_X6_column : GoodIn wsX6_findCofactor (va_wsS RX6 69 yX6_column wsX6_column) := goodIn_app (goodIn_of _ (by decide +kernel)) ggX6_findCofactor_X6_column
set_option maxRecDepth 20000 in
theorem ggX6_findCofactor_X6_setColumn : GoodIn wsX6_findCofactor wsX6_setColumn := goodIn_r _ [28, 3, 56, 57, 58, 59, 60] rfl (by decide +kernel)
set_option maxRecDepth 20000 in
theorem gX6_findCofactor_X6_setColumn : GoodIn wsX6_findCofactor (wsV RX6 73 RX6 yX6_setColumn wsX6_setColumn) := goodIn_app (goodIn_of _ (by decide +kernel)) ggX6_findCofactor_X6_setColumn
set_option maxRecDepth 20000 in
theorem ggX6_findCofactor_X8_add : GoodIn wsX6_findCofactor wsX8_add := goodIn_r _ [33, 34, 35, 36, 37, 38, 39, 40, 41, 32, 42, 43, 44, 45, 46, 47, 62, 63, 64, 65, 66] rfl (by decide +kernel)
set_option maxRecDepth 20000 in
theorem gX6_findCofactor_X8_add : GoodIn wsX6_findCofactor (wsV RX6 46 RX8 yX8_add wsX8_add) := goodIn_app (goodIn_of _ (by decide +kernel)) ggX6_findCofactor_X8_add
set_option maxRecDepth 20000 in
theorem ggX6_findCofactor_X6_takeCofactor : GoodIn wsX6_findCofactor wsX6_takeCofactor := goodIn_r _ [51, 1, 3, 15, 16, 13, 17, 52, 53, 54, 7, 55, 9, 22, 23, 24, 56, 57, 58, 59, 60, 61] rfl (by decide +kernel)
set_option maxRecDepth 20000 in
theorem gX6_findCofactor_X6_takeCofactor : GoodIn wsX6_findCofactor (wsV RX6 77 RX6 yX6_takeCofactor wsX6_takeCofactor) := goodIn_app (goodIn_of _ (by decide +kernel)) ggX6_findCofactor_X6_takeCofactor
set_option maxRecDepth 20000 in
theorem ggX6_takeCofactor_X6_column : GoodIn wsX6_takeCofactor wsX6_column := goodIn_r _ [6] rfl (by decide +kernel)
set_option maxRecDepth 20000 in
theorem gX6_takeCofactor_X6_column : GoodIn wsX6_takeCofactor (va_wsS RX6 69 yX6_column wsX6_column) := goodIn_app (goodIn_of _ (by decide +kernel)) ggX6_takeCofactor_X6_column
set_option maxRecDepth 20000 in
theorem ggX6_takeCofactor_X2_put : GoodIn wsX6_takeCofactor wsX2_put := goodIn_r _ [11, 12, 13, 14, 10, 15, 21] rfl (by decide +kernel)
set_option maxRecDepth 20000 in
theorem gX6_takeCofactor_X2_put : GoodIn wsX6_takeCofactor (wsV RX6 80 RX2 yX2_put wsX2_put) := goodIn_app (goodIn_of _ (by decide +kernel)) ggX6_takeCofactor_X2_put
set_option maxRecDepth 20000 in
theorem ggX6_setLine_X6_column : GoodIn wsX6_setLine wsX6_column := goodIn_r _ [5] rfl (by decide +kernel)
set_option maxRecDepth 20000 in
theorem gX6_setLine_X6_column : GoodIn wsX6_setLine (va_wsS RX6 69 yX6_column wsX6_column) := goodIn_app (goodIn_of _ (by decide +kernel)) ggX6_setLine_X6_column
set_option maxRecDepth 20000 in
theorem ggX6_setLine_X2_at : GoodIn wsX6_setLine wsX2_at := goodIn_r _ [10, 11, 12, 13, 9, 14, 24] rfl (by decide +kernel)
set_option maxRecDepth 20000 in
theorem gX6_setLine_X2_at : GoodIn wsX6_setLine (wsV RX6 83 RX2 yX2_at wsX2_at) := goodIn_app (goodIn_of _ (by decide +kernel)) ggX6_setLine_X2_at
set_option maxRecDepth 20000 in
theorem ggX6_setLine_X6_setColumn : GoodIn wsX6_setLine wsX6_setColumn := goodIn_r _ [18, 1, 19, 20, 21, 22, 23] rfl (by decide +kernel)
set_option maxRecDepth 20000 in
theorem gX6_setLine_X6_setColumn : GoodIn wsX6_setLine (wsV RX6 73 RX6 yX6_setColumn wsX6_setColumn) := goodIn_app (goodIn_of _ (by decide +kernel)) ggX6_setLine_X6_setColumn
set_option maxRecDepth 20000 in
theorem ggX7_init_X2_init : GoodIn wsX7_init wsX2_init := goodIn_r _ [13, 14, 2, 3, 8, 15, 20] rfl (by decide +kernel)
set_option maxRecDepth 20000 in
theorem gX7_init_X2_init_n28 : GoodIn wsX7_init (wsX2_init) := ggX7_init_X2_init
set_option maxRecDepth 20000 in
theorem ggX7_copy_X2_copy : GoodIn wsX7_copy wsX2_copy := goodIn_r _ [13, 14, 15, 6, 7, 8, 20] rfl (by decide +kernel)
set_option maxRecDepth 20000 in
theorem gX7_copy_X2_copy : GoodIn wsX7_copy (wsV RX7 33 RX2 yX2_copy wsX2_copy) := goodIn_app (goodIn_of _ (by decide +kernel)) ggX7_copy_X2_copy
set_option maxRecDepth 20000 in
theorem ggX8_add_X8_keep : GoodIn wsX8_add wsX8_keep := goodIn_r _ [10, 1, 2, 5, 4, 11, 12, 13, 14, 15, 16, 17, 18, 19, 20] rfl (by decide +kernel)
set_option maxRecDepth 20000 in
theorem gX8_add_X8_keep : GoodIn wsX8_add (wsV RX8 36 RX8 yX8_keep wsX8_keep) := goodIn_app (goodIn_of _ (by decide +kernel)) ggX8_add_X8_keep
set_option maxRecDepth 20000 in
theorem ggX8_keep_X11_inverse : GoodIn wsX8_keep wsX11_inverse := goodIn_r _ [7] rfl (by decide +kernel)
set_option maxRecDepth 20000 in
theorem gX8_keep_X11_inverse_n40 : GoodIn wsX8_keep (wsX11_inverse) := ggX8_keep_X11_inverse
set_option maxRecDepth 20000 in
theorem ggX8_keep_X11_mod : GoodIn wsX8_keep wsX11_mod := goodIn_r _ [9] rfl (by decide +kernel)
set_option maxRecDepth 20000 in
theorem gX8_keep_X11_mod_n43 : GoodIn wsX8_keep (wsX11_mod) := ggX8_keep_X11_mod
set_option maxRecDepth 20000 in
theorem ggX9_isPoint_X9_howMany : GoodIn wsX9_isPoint wsX9_howMany := goodIn_r _ [4] rfl (by decide +kernel)
set_option maxRecDepth 20000 in
theorem gX9_isPoint_X9_howMany : GoodIn wsX9_isPoint (va_wsS RX9 21 yX9_howMany wsX9_howMany) := goodIn_app (goodIn_of _ (by decide +kernel)) ggX9_isPoint_X9_howMany
set_option maxRecDepth 20000 in
theorem ggX9_go_X9_isPoint : GoodIn wsX9_go wsX9_isPoint := goodIn_r _ [7, 8, 9, 6, 10] rfl (by decide +kernel)
set_option maxRecDepth 20000 in
theorem gX9_go_X9_isPoint : GoodIn wsX9_go (va_wsS RX9 25 yX9_isPoint wsX9_isPoint) := goodIn_app (goodIn_of _ (by decide +kernel)) ggX9_go_X9_isPoint
set_option maxRecDepth 20000 in
theorem ggX9_valueOf_X2_top : GoodIn wsX9_valueOf wsX2_top := goodIn_r _ [8, 9, 10, 11, 12, 13, 17] rfl (by decide +kernel)
set_option maxRecDepth 20000 in
theorem gX9_valueOf_X2_top : GoodIn wsX9_valueOf (wsV RX9 29 RX2 yX2_top wsX2_top) := goodIn_app (goodIn_of _ (by decide +kernel)) ggX9_valueOf_X2_top
set_option maxRecDepth 20000 in
theorem ggX10_init_X2_init : GoodIn wsX10_init wsX2_init := goodIn_r _ [12, 13, 2, 3, 8, 14, 15] rfl (by decide +kernel)
set_option maxRecDepth 20000 in
theorem gX10_init_X2_init_n11 : GoodIn wsX10_init (wsX2_init) := ggX10_init_X2_init
set_option maxRecDepth 20000 in
theorem ggX10_look_X2_setTo : GoodIn wsX10_look wsX2_setTo := goodIn_r _ [8, 9, 63] rfl (by decide +kernel)
set_option maxRecDepth 20000 in
theorem gX10_look_X2_setTo : GoodIn wsX10_look (wsV RX10 26 RX2 yX2_setTo wsX2_setTo) := goodIn_app (goodIn_of _ (by decide +kernel)) ggX10_look_X2_setTo
set_option maxRecDepth 20000 in
theorem ggX10_look_X2_top : GoodIn wsX10_look wsX2_top := goodIn_r _ [13, 9, 14, 15, 16, 17, 63] rfl (by decide +kernel)
set_option maxRecDepth 20000 in
theorem gX10_look_X2_top : GoodIn wsX10_look (wsV RX10 30 RX2 yX2_top wsX2_top) := goodIn_app (goodIn_of _ (by decide +kernel)) ggX10_look_X2_top
set_option maxRecDepth 20000 in
theorem ggX10_look_X2_at : GoodIn wsX10_look wsX2_at := goodIn_r _ [21, 9, 22, 23, 7, 24, 63] rfl (by decide +kernel)
set_option maxRecDepth 20000 in
theorem gX10_look_X2_at : GoodIn wsX10_look (wsV RX10 34 RX2 yX2_at wsX2_at) := goodIn_app (goodIn_of _ (by decide +kernel)) ggX10_look_X2_at
set_option maxRecDepth 20000 in
theorem ggX10_look_X10_addNear : GoodIn wsX10_look wsX10_addNear := goodIn_r _ [29, 30, 1, 2, 31, 32, 33, 34, 28, 35, 36, 37, 23, 7, 24, 38, 39, 40, 41, 42, 43, 44, 45, 46, 47, 48, 19, 20, 21, 9, 22, 49, 50, 51, 52, 60, 61, 62, 57, 58, 59, 63] rfl (by decide +kernel)
set_option maxRecDepth 20000 in
theorem gX10_look_X10_addNear : GoodIn wsX10_look (wsV RX10 43 RX10 yX10_addNear wsX10_addNear) := goodIn_app (goodIn_of _ (by decide +kernel)) ggX10_look_X10_addNear
set_option maxRecDepth 20000 in
theorem ggX10_look_X10_addFar : GoodIn wsX10_look wsX10_addFar := goodIn_r _ [56, 30, 2, 1, 31, 44, 45, 46, 7, 47, 48, 19, 20, 21, 9, 22, 23, 24, 42, 39, 43, 49, 50, 51, 52, 32, 33, 34, 28, 35, 36, 37, 38, 40, 41, 60, 61, 62, 57, 58, 59, 63] rfl (by decide +kernel)
set_option maxRecDepth 20000 in
theorem gX10_look_X10_addFar : GoodIn wsX10_look (wsV RX10 47 RX10 yX10_addFar wsX10_addFar) := goodIn_app (goodIn_of _ (by decide +kernel)) ggX10_look_X10_addFar
set_option maxRecDepth 20000 in
theorem ggX10_addNear_X10_shifted : GoodIn wsX10_addNear wsX10_shifted := goodIn_r _ [9, 10, 2, 11, 12, 13, 14, 15, 16, 17, 18, 19, 20, 38, 39, 40] rfl (by decide +kernel)
set_option maxRecDepth 20000 in
theorem gX10_addNear_X10_shifted : GoodIn wsX10_addNear (wsV RX10 54 RX10 yX10_shifted wsX10_shifted) := goodIn_app (goodIn_of _ (by decide +kernel)) ggX10_addNear_X10_shifted
set_option maxRecDepth 20000 in
theorem ggX10_addNear_X11_mod : GoodIn wsX10_addNear wsX11_mod := goodIn_r _ [20] rfl (by decide +kernel)
set_option maxRecDepth 20000 in
theorem gX10_addNear_X11_mod_n58 : GoodIn wsX10_addNear (wsX11_mod) := ggX10_addNear_X11_mod
set_option maxRecDepth 20000 in
theorem ggX10_addNear_X2_increase : GoodIn wsX10_addNear wsX2_increase := goodIn_r _ [24, 25, 26, 27, 13, 28, 29, 30, 12, 14, 19, 16, 20, 31, 32, 33, 34, 41] rfl (by decide +kernel)
set_option maxRecDepth 20000 in
theorem gX10_addNear_X2_increase : GoodIn wsX10_addNear (wsV RX10 64 RX2 yX2_increase wsX2_increase) := goodIn_app (goodIn_of _ (by decide +kernel)) ggX10_addNear_X2_increase
set_option maxRecDepth 20000 in
theorem ggX10_addFar_X2_increase : GoodIn wsX10_addFar wsX2_increase := goodIn_r _ [9, 10, 11, 12, 8, 13, 14, 15, 16, 17, 18, 19, 20, 21, 22, 23, 24, 41] rfl (by decide +kernel)
set_option maxRecDepth 20000 in
theorem gX10_addFar_X2_increase : GoodIn wsX10_addFar (wsV RX10 64 RX2 yX2_increase wsX2_increase) := goodIn_app (goodIn_of _ (by decide +kernel)) ggX10_addFar_X2_increase
set_option maxRecDepth 20000 in
theorem ggX10_addFar_X10_shifted : GoodIn wsX10_addFar wsX10_shifted := goodIn_r _ [29, 30, 3, 31, 16, 8, 17, 32, 19, 33, 34, 18, 20, 38, 39, 40] rfl (by decide +kernel)
set_option maxRecDepth 20000 in
theorem gX10_addFar_X10_shifted : GoodIn wsX10_addFar (wsV RX10 54 RX10 yX10_shifted wsX10_shifted) := goodIn_app (goodIn_of _ (by decide +kernel)) ggX10_addFar_X10_shifted
set_option maxRecDepth 20000 in
theorem ggX10_shifted_X2_fits : GoodIn wsX10_shifted wsX2_fits := goodIn_r _ [6] rfl (by decide +kernel)
set_option maxRecDepth 20000 in
theorem gX10_shifted_X2_fits : GoodIn wsX10_shifted (va_wsS RX10 68 yX2_fits wsX2_fits) := goodIn_app (goodIn_of _ (by decide +kernel)) ggX10_shifted_X2_fits
set_option maxRecDepth 20000 in
theorem ggX10_shifted_X11_power : GoodIn wsX10_shifted wsX11_power := goodIn_r _ [9, 10, 11, 8, 12] rfl (by decide +kernel)
set_option maxRecDepth 20000 in
theorem gX10_shifted_X11_power_n75 : GoodIn wsX10_shifted (wsX11_power) := ggX10_shifted_X11_power
set_option maxRecDepth 20000 in
theorem ggX10_shifted_X11_mod : GoodIn wsX10_shifted wsX11_mod := goodIn_r _ [12] rfl (by decide +kernel)
set_option maxRecDepth 20000 in
theorem gX10_shifted_X11_mod_n58 : GoodIn wsX10_shifted (wsX11_mod) := ggX10_shifted_X11_mod
set_option maxRecDepth 20000 in
theorem ggX10_least_X2_leadAt : GoodIn wsX10_least wsX2_leadAt := goodIn_r _ [6, 7, 8, 9, 10, 11, 15] rfl (by decide +kernel)
set_option maxRecDepth 20000 in
theorem gX10_least_X2_leadAt : GoodIn wsX10_least (wsV RX10 78 RX2 yX2_leadAt wsX2_leadAt) := goodIn_app (goodIn_of _ (by decide +kernel)) ggX10_least_X2_leadAt
set_option maxRecDepth 20000 in
theorem ggX11_init_X8_init : GoodIn wsX11_init wsX8_init := goodIn_r _ [49, 50, 2, 3, 51, 44, 52, 53, 54, 55, 56, 57, 166, 167, 168, 169, 170] rfl (by decide +kernel)
set_option maxRecDepth 20000 in
theorem gX11_init_X8_init_n9 : GoodIn wsX11_init (wsX8_init) := ggX11_init_X8_init
set_option maxRecDepth 20000 in
theorem ggX11_init_X3_init : GoodIn wsX11_init wsX3_init := goodIn_r _ [60, 61, 2, 3, 62, 63, 64, 65, 12, 13, 66, 44, 67, 68, 69, 70, 53, 71, 72, 73, 74, 75, 76, 77, 78, 79, 80, 81, 82, 83, 84, 85, 86, 87, 88, 89, 90, 91, 171, 172, 173, 174, 175, 176, 177, 178, 179, 180, 181, 182, 183, 197, 198, 199, 200, 242] rfl (by decide +kernel)
set_option maxRecDepth 20000 in
theorem gX11_init_X3_init : GoodIn wsX11_init (wsX3_init) := ggX11_init_X3_init
set_option maxRecDepth 20000 in
theorem ggX11_init_X7_init : GoodIn wsX11_init wsX7_init := goodIn_r _ [81, 82, 2, 3, 83, 84, 85, 86, 44, 87, 73, 74, 88, 89, 90, 91, 197, 198, 199, 200, 242] rfl (by decide +kernel)
set_option maxRecDepth 20000 in
theorem gX11_init_X7_init : GoodIn wsX11_init (wsX7_init) := ggX11_init_X7_init
set_option maxRecDepth 20000 in
theorem ggX11_init_X1_init : GoodIn wsX11_init wsX1_init := goodIn_r _ [95, 96, 2, 3, 97, 98, 99, 100, 12, 13, 101, 80, 81, 82, 83, 84, 85, 86, 44, 87, 73, 74, 88, 89, 90, 91, 201, 202, 203, 197, 198, 199, 200, 242] rfl (by decide +kernel)
set_option maxRecDepth 20000 in
theorem gX11_init_X1_init : GoodIn wsX11_init (wsX1_init) := ggX11_init_X1_init
set_option maxRecDepth 20000 in
theorem ggX11_init_X9_init : GoodIn wsX11_init wsX9_init := goodIn_r _ [103, 104, 2, 3, 105, 106, 107, 204, 205, 206] rfl (by decide +kernel)
set_option maxRecDepth 20000 in
theorem gX11_init_X9_init_n35 : GoodIn wsX11_init (wsX9_init) := ggX11_init_X9_init
set_option maxRecDepth 20000 in
theorem ggX11_init_X10_init : GoodIn wsX11_init wsX10_init := goodIn_r _ [109, 110, 2, 3, 111, 73, 74, 112, 44, 113, 114, 88, 89, 90, 91, 242, 207, 208, 209] rfl (by decide +kernel)
set_option maxRecDepth 20000 in
theorem gX11_init_X10_init_n42 : GoodIn wsX11_init (wsX10_init) := ggX11_init_X10_init
set_option maxRecDepth 20000 in
theorem ggX11_init_X6_init : GoodIn wsX11_init wsX6_init := goodIn_r _ [117, 118, 2, 3, 119, 73, 74, 120, 121, 122, 44, 123, 124, 88, 89, 90, 91, 242, 210, 211, 212, 213, 214] rfl (by decide +kernel)
set_option maxRecDepth 20000 in
theorem gX11_init_X6_init : GoodIn wsX11_init (wsX6_init) := ggX11_init_X6_init
set_option maxRecDepth 20000 in
theorem ggX11_init_X4_init : GoodIn wsX11_init wsX4_init := goodIn_r _ [126, 127, 2, 3, 44, 128, 129, 130, 131, 132, 133, 215, 216, 217, 218, 219, 220] rfl (by decide +kernel)
set_option maxRecDepth 20000 in
theorem gX11_init_X4_init_n61 : GoodIn wsX11_init (wsX4_init) := ggX11_init_X4_init
set_option maxRecDepth 20000 in
theorem ggX11_init_X5_init : GoodIn wsX11_init wsX5_init := goodIn_r _ [136, 137, 2, 3, 44, 138, 139, 140, 141, 73, 74, 142, 143, 144, 145, 146, 147, 148, 149, 88, 89, 90, 91, 221, 222, 223, 224, 225, 226, 227, 228, 229, 230, 231, 242] rfl (by decide +kernel)
set_option maxRecDepth 20000 in
theorem gX11_init_X5_init : GoodIn wsX11_init (wsX5_init) := ggX11_init_X5_init
set_option maxRecDepth 20000 in
theorem ggX11_init_X0_init : GoodIn wsX11_init wsX0_init := goodIn_r _ [152, 153, 2, 3, 154, 73, 74, 155, 156, 157, 158, 159, 160, 161, 162, 20, 21, 163, 164, 165, 88, 89, 90, 44, 91, 102, 103, 104, 105, 106, 107, 242, 232, 233, 234, 235, 236, 237, 238, 239, 240, 241, 204, 205, 206] rfl (by decide +kernel)
set_option maxRecDepth 20000 in
theorem gX11_init_X0_init : GoodIn wsX11_init (wsX0_init) := ggX11_init_X0_init
set_option maxRecDepth 20000 in
theorem ggX11_feed_X3_hasRoomForFive : GoodIn wsX11_feed wsX3_hasRoomForFive := goodIn_r _ [7, 8, 33, 34, 35, 36, 37, 38, 39, 40, 41, 42, 43, 44, 45] rfl (by decide +kernel)
set_option maxRecDepth 20000 in
theorem gX11_feed_X3_hasRoomForFive : GoodIn wsX11_feed (wsV RX11 91 RX3 yX3_hasRoomForFive wsX3_hasRoomForFive) := goodIn_app (goodIn_of _ (by decide +kernel)) ggX11_feed_X3_hasRoomForFive
set_option maxRecDepth 20000 in
theorem ggX11_feed_X11_refuse : GoodIn wsX11_feed wsX11_refuse := goodIn_r _ [13, 14, 20, 21, 22, 23, 24, 25, 26, 27, 28, 29, 30, 31, 32] rfl (by decide +kernel)
set_option maxRecDepth 20000 in
theorem gX11_feed_X11_refuse : GoodIn wsX11_feed (wsV RX11 95 RX11 yX11_refuse wsX11_refuse) := goodIn_app (goodIn_of _ (by decide +kernel)) ggX11_feed_X11_refuse
set_option maxRecDepth 20000 in
theorem ggX11_feed_X3_append : GoodIn wsX11_feed wsX3_append := goodIn_r _ [18, 8, 19, 33, 34, 35, 36, 37, 38, 39, 40, 41, 42, 43, 44, 45] rfl (by decide +kernel)
set_option maxRecDepth 20000 in
theorem gX11_feed_X3_append : GoodIn wsX11_feed (wsV RX11 99 RX3 yX3_append wsX3_append) := goodIn_app (goodIn_of _ (by decide +kernel)) ggX11_feed_X3_append
set_option maxRecDepth 20000 in
theorem ggX11_end_X11_refuse : GoodIn wsX11_end wsX11_refuse := goodIn_r _ [7, 8, 9, 10, 11, 12, 13, 14, 15, 16, 17, 18, 19, 20, 21] rfl (by decide +kernel)
set_option maxRecDepth 20000 in
theorem gX11_end_X11_refuse : GoodIn wsX11_end (wsV RX11 95 RX11 yX11_refuse wsX11_refuse) := goodIn_app (goodIn_of _ (by decide +kernel)) ggX11_end_X11_refuse
set_option maxRecDepth 20000 in
theorem ggX11_curves_X3_readText : GoodIn wsX11_curves wsX3_readText := goodIn_r _ [15, 16, 17, 18, 19, 20, 21, 22, 23, 24, 25, 14, 26, 27, 28, 29, 30, 31, 32, 33, 34, 35, 36, 37, 38, 39, 40, 41, 42, 43, 44, 45, 46, 47, 48, 49, 50, 51, 52, 53, 54, 55, 56, 57, 58, 59, 60, 61, 62, 63, 64, 65, 66, 67, 68, 69, 70, 71, 72, 73, 74, 75, 76, 77, 78, 79, 80, 81, 82, 83, 84, 85, 86, 87, 88, 89, 90, 91, 92, 93, 94, 95, 96, 97, 98, 99, 100, 101, 102, 103, 104, 105, 106, 107, 108, 109, 110, 111, 112, 113, 114, 115, 116, 117, 118, 119, 120, 121, 122, 123, 124, 125, 126, 127, 128, 129, 130, 131, 132, 133, 134, 135, 136, 137, 138, 139, 140, 141, 142, 143, 144, 145, 146, 147, 148, 149, 150, 151, 152, 153, 154, 155, 156, 157, 158, 159, 160, 161, 162, 163, 164, 165, 166, 167, 168, 169, 170, 171, 172, 173, 174, 175, 176, 177, 178, 179, 180, 181, 182, 183, 184, 185, 186, 187, 188, 189, 190, 191, 192, 193, 194, 195, 196, 197, 198, 199, 200, 201, 202, 203, 204, 205, 206, 207, 208, 209, 210, 211, 212, 213, 214, 247, 248, 249, 250, 251, 252, 253, 254, 255, 256, 257, 258, 259, 260, 261, 262, 263, 264, 265, 266, 267, 268] rfl (by decide +kernel)
set_option maxRecDepth 20000 in
theorem gX11_curves_X3_readText : GoodIn wsX11_curves (wsV RX11 105 RX3 yX3_readText wsX3_readText) := goodIn_app (goodIn_of _ (by decide +kernel)) ggX11_curves_X3_readText
set_option maxRecDepth 20000 in
theorem ggX11_curves_X11_refuse : GoodIn wsX11_curves wsX11_refuse := goodIn_r _ [218, 219, 234, 235, 236, 237, 238, 239, 240, 241, 242, 243, 244, 245, 246] rfl (by decide +kernel)
set_option maxRecDepth 20000 in
theorem gX11_curves_X11_refuse : GoodIn wsX11_curves (wsV RX11 95 RX11 yX11_refuse wsX11_refuse) := goodIn_app (goodIn_of _ (by decide +kernel)) ggX11_curves_X11_refuse
set_option maxRecDepth 20000 in
theorem ggX11_curves_X7_copy : GoodIn wsX11_curves wsX7_copy := goodIn_r _ [223, 224, 135, 225, 136, 226, 204, 205, 206, 227, 200, 201, 156, 202, 158, 203, 260, 261, 262, 263, 268] rfl (by decide +kernel)
set_option maxRecDepth 20000 in
theorem gX11_curves_X7_copy : GoodIn wsX11_curves (wsV RX11 113 RX7 yX7_copy wsX7_copy) := goodIn_app (goodIn_of _ (by decide +kernel)) ggX11_curves_X7_copy
set_option maxRecDepth 20000 in
theorem ggX11_curves_X1_forget : GoodIn wsX11_curves wsX1_forget := goodIn_r _ [232, 233, 269, 270, 271] rfl (by decide +kernel)
set_option maxRecDepth 20000 in
theorem gX11_curves_X1_forget : GoodIn wsX11_curves (wsV RX11 117 RX1 yX1_forget wsX1_forget) := goodIn_app (goodIn_of _ (by decide +kernel)) ggX11_curves_X1_forget
set_option maxRecDepth 20000 in
theorem ggX11_has_X9_howMany : GoodIn wsX11_has wsX9_howMany := goodIn_r _ [9] rfl (by decide +kernel)
set_option maxRecDepth 20000 in
theorem gX11_has_X9_howMany : GoodIn wsX11_has (va_wsS RX11 126 yX9_howMany wsX9_howMany) := goodIn_app (goodIn_of _ (by decide +kernel)) ggX11_has_X9_howMany
set_option maxRecDepth 20000 in
theorem ggX11_degree_X7_find : GoodIn wsX11_degree wsX7_find := goodIn_r _ [6, 7, 8, 32, 33, 34, 35] rfl (by decide +kernel)
set_option maxRecDepth 20000 in
theorem gX11_degree_X7_find : GoodIn wsX11_degree (wsV RX11 135 RX7 yX7_find wsX7_find) := goodIn_app (goodIn_of _ (by decide +kernel)) ggX11_degree_X7_find
set_option maxRecDepth 20000 in
theorem ggX11_degree_X2_top : GoodIn wsX11_degree wsX2_top := goodIn_r _ [13, 14, 15, 16, 17, 18, 36] rfl (by decide +kernel)
set_option maxRecDepth 20000 in
theorem gX11_degree_X2_top : GoodIn wsX11_degree (wsV RX11 148 RX2 yX2_top wsX2_top) := goodIn_app (goodIn_of _ (by decide +kernel)) ggX11_degree_X2_top
set_option maxRecDepth 20000 in
theorem ggX11_value_X7_find : GoodIn wsX11_value wsX7_find := goodIn_r _ [8, 9, 10, 52, 53, 54, 55] rfl (by decide +kernel)
set_option maxRecDepth 20000 in
theorem gX11_value_X7_find : GoodIn wsX11_value (wsV RX11 135 RX7 yX7_find wsX7_find) := goodIn_app (goodIn_of _ (by decide +kernel)) ggX11_value_X7_find
set_option maxRecDepth 20000 in
theorem ggX11_value_X9_go : GoodIn wsX11_value wsX9_go := goodIn_r _ [15, 16, 17, 18, 19, 20, 14, 21, 22, 23, 24, 56, 57, 58] rfl (by decide +kernel)
set_option maxRecDepth 20000 in
theorem gX11_value_X9_go : GoodIn wsX11_value (wsV RX11 152 RX9 yX9_go wsX9_go) := goodIn_app (goodIn_of _ (by decide +kernel)) ggX11_value_X9_go
set_option maxRecDepth 20000 in
theorem ggX11_value_X9_valueOf : GoodIn wsX11_value wsX9_valueOf := goodIn_r _ [28, 18, 17, 16, 29, 30, 31, 32, 33, 34, 35, 36, 37, 38, 56, 57, 58, 59] rfl (by decide +kernel)
set_option maxRecDepth 20000 in
theorem gX11_value_X9_valueOf : GoodIn wsX11_value (wsV RX11 155 RX9 yX9_valueOf wsX9_valueOf) := goodIn_app (goodIn_of _ (by decide +kernel)) ggX11_value_X9_valueOf
set_option maxRecDepth 20000 in
theorem ggX11_order_X11_lookAt : GoodIn wsX11_order wsX11_lookAt := goodIn_r _ [6, 7, 8, 9, 1, 10, 11, 12, 13, 14, 15, 16, 17, 18, 19, 20, 21, 22, 23, 24, 25, 26, 27, 28, 29, 30, 31, 32, 33, 34, 35, 36, 37, 38, 39, 40, 41, 42, 43, 44, 45, 46, 47, 48, 49, 50, 51, 52, 53, 54, 55, 56, 57, 58, 59, 60, 61, 62, 63, 64, 65, 66, 67, 68, 69, 70, 71, 72, 5, 73, 74, 75, 76, 77, 78, 79, 80, 81, 82, 83, 84, 85, 86, 87, 88, 89, 101, 102, 103, 104, 105, 106, 107, 108, 109, 110, 111, 112, 113, 114, 115, 116, 117, 118, 119, 120, 121, 122, 123, 124] rfl (by decide +kernel)
set_option maxRecDepth 20000 in
theorem gX11_order_X11_lookAt : GoodIn wsX11_order (wsV RX11 163 RX11 yX11_lookAt wsX11_lookAt) := goodIn_app (goodIn_of _ (by decide +kernel)) ggX11_order_X11_lookAt
set_option maxRecDepth 20000 in
theorem ggX11_order_X10_least : GoodIn wsX11_order wsX10_least := goodIn_r _ [93, 37, 94, 95, 96, 42, 97, 98, 99, 51, 100, 44, 121, 122, 123, 124] rfl (by decide +kernel)
set_option maxRecDepth 20000 in
theorem gX11_order_X10_least : GoodIn wsX11_order (wsV RX11 166 RX10 yX10_least wsX10_least) := goodIn_app (goodIn_of _ (by decide +kernel)) ggX11_order_X10_least
set_option maxRecDepth 20000 in
theorem ggX11_common_X7_find : GoodIn wsX11_common wsX7_find := goodIn_r _ [8, 9, 10, 134, 135, 136, 137] rfl (by decide +kernel)
set_option maxRecDepth 20000 in
theorem gX11_common_X7_find : GoodIn wsX11_common (wsV RX11 135 RX7 yX7_find wsX7_find) := goodIn_app (goodIn_of _ (by decide +kernel)) ggX11_common_X7_find
set_option maxRecDepth 20000 in
theorem ggX11_common_X6_find : GoodIn wsX11_common wsX6_find := goodIn_r _ [15, 16, 17, 18, 19, 20, 21, 22, 23, 24, 25, 26, 27, 28, 29, 30, 31, 32, 33, 34, 35, 36, 37, 38, 39, 40, 41, 42, 43, 44, 45, 14, 46, 47, 48, 49, 50, 51, 52, 53, 54, 55, 56, 57, 58, 59, 60, 61, 62, 63, 64, 65, 66, 67, 68, 69, 70, 71, 72, 73, 74, 75, 76, 77, 78, 79, 80, 81, 82, 83, 84, 85, 86, 87, 88, 89, 90, 91, 92, 93, 94, 95, 96, 97, 98, 99, 100, 101, 102, 103, 104, 105, 106, 107, 108, 109, 110, 111, 112, 113, 114, 115, 116, 117, 118, 119, 138, 139, 140, 141, 142, 143, 144, 145, 146, 147, 148] rfl (by decide +kernel)
set_option maxRecDepth 20000 in
theorem gX11_common_X6_find : GoodIn wsX11_common (wsV RX11 183 RX6 yX6_find wsX6_find) := goodIn_app (goodIn_of _ (by decide +kernel)) ggX11_common_X6_find
set_option maxRecDepth 20000 in
theorem ggX11_common_X2_top : GoodIn wsX11_common wsX2_top := goodIn_r _ [38, 39, 40, 41, 28, 42, 148] rfl (by decide +kernel)
set_option maxRecDepth 20000 in
theorem gX11_common_X2_top : GoodIn wsX11_common (wsV RX11 148 RX2 yX2_top wsX2_top) := goodIn_app (goodIn_of _ (by decide +kernel)) ggX11_common_X2_top
set_option maxRecDepth 20000 in
theorem ggX11_times_X7_find : GoodIn wsX11_times wsX7_find := goodIn_r _ [8, 9, 10, 235, 236, 237, 238] rfl (by decide +kernel)
set_option maxRecDepth 20000 in
theorem gX11_times_X7_find : GoodIn wsX11_times (wsV RX11 135 RX7 yX7_find wsX7_find) := goodIn_app (goodIn_of _ (by decide +kernel)) ggX11_times_X7_find
set_option maxRecDepth 20000 in
theorem ggX11_times_X9_isPoint : GoodIn wsX11_times wsX9_isPoint := goodIn_r _ [14, 15, 16, 13, 17] rfl (by decide +kernel)
set_option maxRecDepth 20000 in
theorem gX11_times_X9_isPoint : GoodIn wsX11_times (va_wsS RX11 186 yX9_isPoint wsX9_isPoint) := goodIn_app (goodIn_of _ (by decide +kernel)) ggX11_times_X9_isPoint
set_option maxRecDepth 20000 in
theorem ggX11_times_X6_find : GoodIn wsX11_times wsX6_find := goodIn_r _ [22, 23, 24, 25, 26, 27, 28, 29, 30, 31, 32, 33, 34, 35, 36, 37, 38, 39, 40, 41, 42, 43, 44, 45, 46, 47, 48, 49, 50, 51, 52, 21, 53, 54, 55, 56, 57, 58, 59, 60, 61, 62, 63, 64, 65, 66, 67, 68, 69, 70, 71, 72, 73, 74, 75, 76, 77, 78, 79, 80, 81, 82, 83, 84, 85, 86, 87, 88, 89, 90, 91, 92, 93, 94, 95, 96, 97, 98, 99, 100, 101, 102, 103, 104, 105, 106, 107, 108, 109, 110, 111, 112, 113, 114, 115, 116, 117, 118, 119, 120, 121, 122, 123, 124, 125, 126, 239, 240, 241, 242, 243, 244, 245, 246, 247, 248, 249] rfl (by decide +kernel)
set_option maxRecDepth 20000 in
theorem gX11_times_X6_find : GoodIn wsX11_times (wsV RX11 183 RX6 yX6_find wsX6_find) := goodIn_app (goodIn_of _ (by decide +kernel)) ggX11_times_X6_find
