set_option maxRecDepth 20000 in
theorem ggX0_init_X2_init : GoodIn wsX0_init wsX2_init := goodIn_r _ [21, 22, 2, 3, 23, 24, 31] rfl (by decide +kernel)
set_option maxRecDepth 20000 in
theorem gX0_init_X2_init_n11 : GoodIn wsX0_init (wsX2_init) := ggX0_init_X2_init
set_option maxRecDepth 20000 in
theorem ggX0_init_X9_init : GoodIn wsX0_init wsX9_init := goodIn_r _ [26, 27, 2, 3, 28, 29, 30, 42, 43, 44] rfl (by decide +kernel)
set_option maxRecDepth 20000 in
theorem gX0_init_X9_init_n39 : GoodIn wsX0_init (wsX9_init) := ggX0_init_X9_init
set_option maxRecDepth 20000 in
theorem ggX0_setMove_X11_mod : GoodIn wsX0_setMove wsX11_mod := goodIn_r _ [6] rfl (by decide +kernel)
set_option maxRecDepth 20000 in
theorem gX0_setMove_X11_mod_n51 : GoodIn wsX0_setMove (wsX11_mod) := ggX0_setMove_X11_mod
set_option maxRecDepth 20000 in
theorem ggX0_setMove_X0_setLinear : GoodIn wsX0_setMove wsX0_setLinear := goodIn_r _ [10, 11, 12, 13, 14, 15, 16, 17, 18, 19, 20, 21, 22, 23, 42] rfl (by decide +kernel)
set_option maxRecDepth 20000 in
theorem gX0_setMove_X0_setLinear : GoodIn wsX0_setMove (va_wsS RX0 55 yX0_setLinear wsX0_setLinear) := goodIn_app (goodIn_of _ (by decide +kernel)) ggX0_setMove_X0_setLinear
set_option maxRecDepth 20000 in
theorem ggX0_setMove_X0_determinant : GoodIn wsX0_setMove wsX0_determinant := goodIn_r _ [27, 2, 3, 1, 28, 29, 30, 14, 31, 16, 21, 22, 23, 4, 5, 6, 32, 33, 34, 35, 36, 37, 38, 39, 40, 41, 42] rfl (by decide +kernel)
set_option maxRecDepth 20000 in
theorem gX0_setMove_X0_determinant : GoodIn wsX0_setMove (wsV RX0 59 RX0 yX0_determinant wsX0_determinant) := goodIn_app (goodIn_of _ (by decide +kernel)) ggX0_setMove_X0_determinant
set_option maxRecDepth 20000 in
theorem ggX0_determinant_X2_at : GoodIn wsX0_determinant wsX2_at := goodIn_r _ [8, 9, 10, 11, 7, 12, 26] rfl (by decide +kernel)
set_option maxRecDepth 20000 in
theorem gX0_determinant_X2_at : GoodIn wsX0_determinant (wsV RX0 63 RX2 yX2_at wsX2_at) := goodIn_app (goodIn_of _ (by decide +kernel)) ggX0_determinant_X2_at
set_option maxRecDepth 20000 in
theorem ggX0_determinant_X11_mod : GoodIn wsX0_determinant wsX11_mod := goodIn_r _ [15] rfl (by decide +kernel)
set_option maxRecDepth 20000 in
theorem gX0_determinant_X11_mod_n51 : GoodIn wsX0_determinant (wsX11_mod) := ggX0_determinant_X11_mod
set_option maxRecDepth 20000 in
theorem ggX0_setLinear_X2_setTo : GoodIn wsX0_setLinear wsX2_setTo := goodIn_r _ [5, 6, 14] rfl (by decide +kernel)
set_option maxRecDepth 20000 in
theorem gX0_setLinear_X2_setTo : GoodIn wsX0_setLinear (wsV RX0 66 RX2 yX2_setTo wsX2_setTo) := goodIn_app (goodIn_of _ (by decide +kernel)) ggX0_setLinear_X2_setTo
set_option maxRecDepth 20000 in
theorem ggX0_setLinear_X2_put : GoodIn wsX0_setLinear wsX2_put := goodIn_r _ [10, 6, 11, 12, 4, 13, 14] rfl (by decide +kernel)
set_option maxRecDepth 20000 in
theorem gX0_setLinear_X2_put : GoodIn wsX0_setLinear (wsV RX0 70 RX2 yX2_put wsX2_put) := goodIn_app (goodIn_of _ (by decide +kernel)) ggX0_setLinear_X2_put
set_option maxRecDepth 20000 in
theorem ggX0_moveAll_X0_setPowers : GoodIn wsX0_moveAll wsX0_setPowers := goodIn_r _ [13, 7, 14, 15, 16, 17, 18, 19, 20, 21, 22, 23, 24, 25, 26, 27, 28, 48, 49, 50, 51, 52, 53, 54, 55, 56, 57, 62] rfl (by decide +kernel)
set_option maxRecDepth 20000 in
theorem gX0_moveAll_X0_setPowers : GoodIn wsX0_moveAll (wsV RX0 74 RX0 yX0_setPowers wsX0_setPowers) := goodIn_app (goodIn_of _ (by decide +kernel)) ggX0_moveAll_X0_setPowers
set_option maxRecDepth 20000 in
theorem ggX0_moveAll_X2_setTo : GoodIn wsX0_moveAll wsX2_setTo := goodIn_r _ [18, 19, 62] rfl (by decide +kernel)
set_option maxRecDepth 20000 in
theorem gX0_moveAll_X2_setTo : GoodIn wsX0_moveAll (wsV RX0 66 RX2 yX2_setTo wsX2_setTo) := goodIn_app (goodIn_of _ (by decide +kernel)) ggX0_moveAll_X2_setTo
set_option maxRecDepth 20000 in
theorem ggX0_moveAll_X2_product : GoodIn wsX0_moveAll wsX2_product := goodIn_r _ [23, 19, 24, 15, 16, 17, 18, 25, 26, 27, 28, 62] rfl (by decide +kernel)
set_option maxRecDepth 20000 in
theorem gX0_moveAll_X2_product : GoodIn wsX0_moveAll (wsV RX0 78 RX2 yX2_product wsX2_product) := goodIn_app (goodIn_of _ (by decide +kernel)) ggX0_moveAll_X2_product
set_option maxRecDepth 20000 in
theorem ggX0_moveAll_X2_at : GoodIn wsX0_moveAll wsX2_at := goodIn_r _ [32, 19, 33, 34, 17, 35, 62] rfl (by decide +kernel)
set_option maxRecDepth 20000 in
theorem gX0_moveAll_X2_at : GoodIn wsX0_moveAll (wsV RX0 63 RX2 yX2_at wsX2_at) := goodIn_app (goodIn_of _ (by decide +kernel)) ggX0_moveAll_X2_at
set_option maxRecDepth 20000 in
theorem ggX0_moveAll_X2_add : GoodIn wsX0_moveAll wsX2_add := goodIn_r _ [39, 25, 26, 27, 17, 28, 19, 62] rfl (by decide +kernel)
set_option maxRecDepth 20000 in
theorem gX0_moveAll_X2_add : GoodIn wsX0_moveAll (wsV RX0 90 RX2 yX2_add wsX2_add) := goodIn_app (goodIn_of _ (by decide +kernel)) ggX0_moveAll_X2_add
set_option maxRecDepth 20000 in
theorem ggX0_moveAll_X2_copy : GoodIn wsX0_moveAll wsX2_copy := goodIn_r _ [43, 19, 44, 45, 46, 47, 62] rfl (by decide +kernel)
set_option maxRecDepth 20000 in
theorem gX0_moveAll_X2_copy : GoodIn wsX0_moveAll (wsV RX0 94 RX2 yX2_copy wsX2_copy) := goodIn_app (goodIn_of _ (by decide +kernel)) ggX0_moveAll_X2_copy
set_option maxRecDepth 20000 in
theorem ggX0_setPowers_X2_setTo : GoodIn wsX0_setPowers wsX2_setTo := goodIn_r _ [6, 7, 27] rfl (by decide +kernel)
set_option maxRecDepth 20000 in
theorem gX0_setPowers_X2_setTo : GoodIn wsX0_setPowers (wsV RX0 66 RX2 yX2_setTo wsX2_setTo) := goodIn_app (goodIn_of _ (by decide +kernel)) ggX0_setPowers_X2_setTo
set_option maxRecDepth 20000 in
theorem ggX0_setPowers_X2_product : GoodIn wsX0_setPowers wsX2_product := goodIn_r _ [11, 7, 12, 3, 4, 5, 6, 13, 14, 15, 16, 27] rfl (by decide +kernel)
set_option maxRecDepth 20000 in
theorem gX0_setPowers_X2_product : GoodIn wsX0_setPowers (wsV RX0 78 RX2 yX2_product wsX2_product) := goodIn_app (goodIn_of _ (by decide +kernel)) ggX0_setPowers_X2_product
set_option maxRecDepth 20000 in
theorem ggX0_whereTo_X2_at : GoodIn wsX0_whereTo wsX2_at := goodIn_r _ [11, 12, 13, 14, 10, 15, 39] rfl (by decide +kernel)
set_option maxRecDepth 20000 in
theorem gX0_whereTo_X2_at : GoodIn wsX0_whereTo (wsV RX0 63 RX2 yX2_at wsX2_at) := goodIn_app (goodIn_of _ (by decide +kernel)) ggX0_whereTo_X2_at
set_option maxRecDepth 20000 in
theorem ggX0_whereTo_X0_determinant : GoodIn wsX0_whereTo wsX0_determinant := goodIn_r _ [20, 3, 5, 6, 7, 8, 9, 10, 11, 12, 13, 14, 15, 21, 22, 23, 29, 30, 31, 32, 33, 34, 35, 36, 37, 38, 39] rfl (by decide +kernel)
set_option maxRecDepth 20000 in
theorem gX0_whereTo_X0_determinant : GoodIn wsX0_whereTo (wsV RX0 59 RX0 yX0_determinant wsX0_determinant) := goodIn_app (goodIn_of _ (by decide +kernel)) ggX0_whereTo_X0_determinant
set_option maxRecDepth 20000 in
theorem ggX0_whereTo_X11_inverse : GoodIn wsX0_whereTo wsX11_inverse := goodIn_r _ [25] rfl (by decide +kernel)
set_option maxRecDepth 20000 in
theorem gX0_whereTo_X11_inverse_n107 : GoodIn wsX0_whereTo (wsX11_inverse) := ggX0_whereTo_X11_inverse
set_option maxRecDepth 20000 in
theorem ggX0_whereTo_X11_mod : GoodIn wsX0_whereTo wsX11_mod := goodIn_r _ [23] rfl (by decide +kernel)
set_option maxRecDepth 20000 in
theorem gX0_whereTo_X11_mod_n51 : GoodIn wsX0_whereTo (wsX11_mod) := ggX0_whereTo_X11_mod
set_option maxRecDepth 20000 in
theorem ggX0_lineThrough_X9_go : GoodIn wsX0_lineThrough wsX9_go := goodIn_r _ [11, 12, 13, 14, 15, 16, 10, 17, 18, 19, 20, 82, 83, 84] rfl (by decide +kernel)
set_option maxRecDepth 20000 in
theorem gX0_lineThrough_X9_go : GoodIn wsX0_lineThrough (wsV RX0 110 RX9 yX9_go wsX9_go) := goodIn_app (goodIn_of _ (by decide +kernel)) ggX0_lineThrough_X9_go
set_option maxRecDepth 20000 in
theorem ggX0_lineThrough_X0_setLine : GoodIn wsX0_lineThrough wsX0_setLine := goodIn_r _ [25, 26, 1, 27, 28, 29, 30, 31, 24, 32, 33, 34, 35, 36, 37, 38, 39, 40, 41, 42, 43, 44, 45, 46, 47, 48, 49, 50, 51, 52, 53, 54, 55, 56, 57, 58, 59, 60, 61, 62, 63, 64, 65, 66, 67, 68, 69, 70, 71, 72, 73, 74, 75, 76, 77, 78, 79, 80, 81, 85] rfl (by decide +kernel)
set_option maxRecDepth 20000 in
theorem gX0_lineThrough_X0_setLine : GoodIn wsX0_lineThrough (wsV RX0 114 RX0 yX0_setLine wsX0_setLine) := goodIn_app (goodIn_of _ (by decide +kernel)) ggX0_lineThrough_X0_setLine
set_option maxRecDepth 20000 in
theorem ggX0_lineTangent_X2_at : GoodIn wsX0_lineTangent wsX2_at := goodIn_r _ [9, 10, 11, 12, 8, 13, 70] rfl (by decide +kernel)
set_option maxRecDepth 20000 in
theorem gX0_lineTangent_X2_at : GoodIn wsX0_lineTangent (wsV RX0 63 RX2 yX2_at wsX2_at) := goodIn_app (goodIn_of _ (by decide +kernel)) ggX0_lineTangent_X2_at
set_option maxRecDepth 20000 in
theorem ggX0_lineTangent_X0_setLine : GoodIn wsX0_lineTangent wsX0_setLine := goodIn_r _ [18, 19, 1, 20, 21, 22, 23, 24, 17, 25, 26, 27, 28, 8, 29, 10, 30, 31, 32, 33, 11, 12, 13, 34, 35, 36, 37, 38, 39, 40, 41, 42, 43, 44, 45, 46, 47, 48, 49, 50, 51, 52, 53, 54, 6, 7, 9, 55, 56, 57, 58, 59, 60, 61, 62, 63, 64, 65, 66, 70] rfl (by decide +kernel)
set_option maxRecDepth 20000 in
theorem gX0_lineTangent_X0_setLine : GoodIn wsX0_lineTangent (wsV RX0 114 RX0 yX0_setLine wsX0_setLine) := goodIn_app (goodIn_of _ (by decide +kernel)) ggX0_lineTangent_X0_setLine
set_option maxRecDepth 20000 in
theorem ggX0_setLine_X11_mod : GoodIn wsX0_setLine wsX11_mod := goodIn_r _ [5] rfl (by decide +kernel)
set_option maxRecDepth 20000 in
theorem gX0_setLine_X11_mod_n51 : GoodIn wsX0_setLine (wsX11_mod) := ggX0_setLine_X11_mod
set_option maxRecDepth 20000 in
theorem ggX0_setLine_X0_setLinear : GoodIn wsX0_setLine wsX0_setLinear := goodIn_r _ [9, 10, 11, 12, 13, 14, 15, 16, 17, 18, 19, 20, 21, 22, 59] rfl (by decide +kernel)
set_option maxRecDepth 20000 in
theorem gX0_setLine_X0_setLinear : GoodIn wsX0_setLine (va_wsS RX0 55 yX0_setLinear wsX0_setLinear) := goodIn_app (goodIn_of _ (by decide +kernel)) ggX0_setLine_X0_setLinear
set_option maxRecDepth 20000 in
theorem ggX0_setLine_X2_top : GoodIn wsX0_setLine wsX2_top := goodIn_r _ [26, 15, 27, 28, 29, 30, 59] rfl (by decide +kernel)
set_option maxRecDepth 20000 in
theorem gX0_setLine_X2_top : GoodIn wsX0_setLine (wsV RX0 118 RX2 yX2_top wsX2_top) := goodIn_app (goodIn_of _ (by decide +kernel)) ggX0_setLine_X2_top
set_option maxRecDepth 20000 in
theorem ggX0_setLine_X2_normalize : GoodIn wsX0_setLine wsX2_normalize := goodIn_r _ [34, 15, 35, 24, 25, 13, 26, 27, 28, 29, 30, 36, 37, 38, 39, 40, 41, 42, 43, 44, 45, 46, 20, 21, 22, 47, 4, 48, 3, 5, 59] rfl (by decide +kernel)
set_option maxRecDepth 20000 in
theorem gX0_setLine_X2_normalize : GoodIn wsX0_setLine (wsV RX0 121 RX2 yX2_normalize wsX2_normalize) := goodIn_app (goodIn_of _ (by decide +kernel)) ggX0_setLine_X2_normalize
set_option maxRecDepth 20000 in
theorem ggX0_derive_X2_setTo : GoodIn wsX0_derive wsX2_setTo := goodIn_r _ [7, 8, 33] rfl (by decide +kernel)
set_option maxRecDepth 20000 in
theorem gX0_derive_X2_setTo : GoodIn wsX0_derive (wsV RX0 66 RX2 yX2_setTo wsX2_setTo) := goodIn_app (goodIn_of _ (by decide +kernel)) ggX0_derive_X2_setTo
set_option maxRecDepth 20000 in
theorem ggX0_derive_X2_at : GoodIn wsX0_derive wsX2_at := goodIn_r _ [12, 8, 13, 14, 6, 15, 33] rfl (by decide +kernel)
set_option maxRecDepth 20000 in
theorem gX0_derive_X2_at : GoodIn wsX0_derive (wsV RX0 63 RX2 yX2_at wsX2_at) := goodIn_app (goodIn_of _ (by decide +kernel)) ggX0_derive_X2_at
set_option maxRecDepth 20000 in
theorem ggX0_derive_X11_mod : GoodIn wsX0_derive wsX11_mod := goodIn_r _ [18] rfl (by decide +kernel)
set_option maxRecDepth 20000 in
theorem gX0_derive_X11_mod_n51 : GoodIn wsX0_derive (wsX11_mod) := ggX0_derive_X11_mod
set_option maxRecDepth 20000 in
theorem ggX0_derive_X2_put : GoodIn wsX0_derive wsX2_put := goodIn_r _ [22, 8, 13, 14, 6, 15, 33] rfl (by decide +kernel)
set_option maxRecDepth 20000 in
theorem gX0_derive_X2_put : GoodIn wsX0_derive (wsV RX0 70 RX2 yX2_put wsX2_put) := goodIn_app (goodIn_of _ (by decide +kernel)) ggX0_derive_X2_put
set_option maxRecDepth 20000 in
theorem ggX1_init_X7_init : GoodIn wsX1_init wsX7_init := goodIn_r _ [12, 13, 2, 3, 14, 15, 16, 17, 18, 19, 20, 21, 22, 23, 24, 25, 29, 30, 31, 32, 33] rfl (by decide +kernel)
set_option maxRecDepth 20000 in
theorem gX1_init_X7_init : GoodIn wsX1_init (wsX7_init) := ggX1_init_X7_init
set_option maxRecDepth 20000 in
theorem ggX1_keep_X1_around : GoodIn wsX1_keep wsX1_around := goodIn_r _ [11, 12, 13, 14, 15] rfl (by decide +kernel)
set_option maxRecDepth 20000 in
theorem gX1_keep_X1_around : GoodIn wsX1_keep (va_wsS RX1 25 yX1_around wsX1_around) := goodIn_app (goodIn_of _ (by decide +kernel)) ggX1_keep_X1_around
set_option maxRecDepth 20000 in
theorem ggX1_keep_X7_copy : GoodIn wsX1_keep wsX7_copy := goodIn_r _ [20, 21, 22, 23, 24, 25, 26, 27, 28, 29, 30, 31, 32, 33, 34, 35, 39, 40, 41, 42, 43] rfl (by decide +kernel)
set_option maxRecDepth 20000 in
theorem gX1_keep_X7_copy : GoodIn wsX1_keep (wsV RX1 29 RX7 yX7_copy wsX7_copy) := goodIn_app (goodIn_of _ (by decide +kernel)) ggX1_keep_X7_copy
set_option maxRecDepth 20000 in
theorem ggX1_back_X1_around : GoodIn wsX1_back wsX1_around := goodIn_r _ [7, 8, 9, 10, 11] rfl (by decide +kernel)
set_option maxRecDepth 20000 in
theorem gX1_back_X1_around : GoodIn wsX1_back (va_wsS RX1 25 yX1_around wsX1_around) := goodIn_app (goodIn_of _ (by decide +kernel)) ggX1_back_X1_around
set_option maxRecDepth 20000 in
theorem ggX1_back_X7_copy : GoodIn wsX1_back wsX7_copy := goodIn_r _ [16, 17, 18, 19, 20, 21, 22, 23, 24, 25, 26, 27, 28, 29, 30, 31, 35, 36, 37, 38, 39] rfl (by decide +kernel)
set_option maxRecDepth 20000 in
theorem gX1_back_X7_copy : GoodIn wsX1_back (wsV RX1 29 RX7 yX7_copy wsX7_copy) := goodIn_app (goodIn_of _ (by decide +kernel)) ggX1_back_X7_copy
set_option maxRecDepth 20000 in
theorem ggX1_around_J9_floorMod_7cf53 : GoodIn wsX1_around wsJ9_floorMod_7cf53 := goodIn_r _ [4] rfl (by decide +kernel)
set_option maxRecDepth 20000 in
theorem gX1_around_J9_floorMod_7cf53 : GoodIn wsX1_around (va_wsS RX1 39 yJ9_floorMod_7cf53 wsJ9_floorMod_7cf53) := goodIn_app (goodIn_of _ (by decide +kernel)) ggX1_around_J9_floorMod_7cf53
set_option maxRecDepth 20000 in
theorem ggX2_at_X2_fits : GoodIn wsX2_at wsX2_fits := goodIn_r _ [5] rfl (by decide +kernel)
set_option maxRecDepth 20000 in
theorem gX2_at_X2_fits : GoodIn wsX2_at (va_wsS RX2 15 yX2_fits wsX2_fits) := goodIn_app (goodIn_of _ (by decide +kernel)) ggX2_at_X2_fits
set_option maxRecDepth 20000 in
theorem ggX2_put_X2_fits : GoodIn wsX2_put wsX2_fits := goodIn_r _ [5] rfl (by decide +kernel)
set_option maxRecDepth 20000 in
theorem gX2_put_X2_fits : GoodIn wsX2_put (va_wsS RX2 15 yX2_fits wsX2_fits) := goodIn_app (goodIn_of _ (by decide +kernel)) ggX2_put_X2_fits
set_option maxRecDepth 20000 in
theorem ggX2_increase_X2_at : GoodIn wsX2_increase wsX2_at := goodIn_r _ [5, 6, 7, 8, 4, 9, 17] rfl (by decide +kernel)
set_option maxRecDepth 20000 in
theorem gX2_increase_X2_at : GoodIn wsX2_increase (wsV RX2 19 RX2 yX2_at wsX2_at) := goodIn_app (goodIn_of _ (by decide +kernel)) ggX2_increase_X2_at
set_option maxRecDepth 20000 in
theorem ggX2_increase_X11_mod : GoodIn wsX2_increase wsX11_mod := goodIn_r _ [12] rfl (by decide +kernel)
set_option maxRecDepth 20000 in
theorem gX2_increase_X11_mod_n23 : GoodIn wsX2_increase (wsX11_mod) := ggX2_increase_X11_mod
set_option maxRecDepth 20000 in
theorem ggX2_increase_X2_put : GoodIn wsX2_increase wsX2_put := goodIn_r _ [16, 6, 7, 8, 4, 9, 17] rfl (by decide +kernel)
set_option maxRecDepth 20000 in
theorem gX2_increase_X2_put : GoodIn wsX2_increase (wsV RX2 26 RX2 yX2_put wsX2_put) := goodIn_app (goodIn_of _ (by decide +kernel)) ggX2_increase_X2_put
set_option maxRecDepth 20000 in
theorem ggX2_add_X2_addShifted : GoodIn wsX2_add wsX2_addShifted := goodIn_r _ [5, 6, 7] rfl (by decide +kernel)
set_option maxRecDepth 20000 in
theorem gX2_add_X2_addShifted : GoodIn wsX2_add (wsV RX2 44 RX2 yX2_addShifted wsX2_addShifted) := goodIn_app (goodIn_of _ (by decide +kernel)) ggX2_add_X2_addShifted
set_option maxRecDepth 20000 in
theorem ggX2_product_X2_setTo : GoodIn wsX2_product wsX2_setTo := goodIn_r _ [6, 1, 11] rfl (by decide +kernel)
set_option maxRecDepth 20000 in
theorem gX2_product_X2_setTo : GoodIn wsX2_product (wsV RX2 48 RX2 yX2_setTo wsX2_setTo) := goodIn_app (goodIn_of _ (by decide +kernel)) ggX2_product_X2_setTo
set_option maxRecDepth 20000 in
theorem ggX2_product_X2_addShifted : GoodIn wsX2_product wsX2_addShifted := goodIn_r _ [10, 1, 11] rfl (by decide +kernel)
set_option maxRecDepth 20000 in
theorem gX2_product_X2_addShifted : GoodIn wsX2_product (wsV RX2 44 RX2 yX2_addShifted wsX2_addShifted) := goodIn_app (goodIn_of _ (by decide +kernel)) ggX2_product_X2_addShifted
set_option maxRecDepth 20000 in
theorem ggX2_quotient_X2_setTo : GoodIn wsX2_quotient wsX2_setTo := goodIn_r _ [5, 6, 42] rfl (by decide +kernel)
set_option maxRecDepth 20000 in
theorem gX2_quotient_X2_setTo : GoodIn wsX2_quotient (wsV RX2 48 RX2 yX2_setTo wsX2_setTo) := goodIn_app (goodIn_of _ (by decide +kernel)) ggX2_quotient_X2_setTo
set_option maxRecDepth 20000 in
theorem ggX2_quotient_X2_top : GoodIn wsX2_quotient wsX2_top := goodIn_r _ [10, 6, 11, 12, 13, 14, 42] rfl (by decide +kernel)
set_option maxRecDepth 20000 in
theorem gX2_quotient_X2_top : GoodIn wsX2_quotient (wsV RX2 52 RX2 yX2_top wsX2_top) := goodIn_app (goodIn_of _ (by decide +kernel)) ggX2_quotient_X2_top
set_option maxRecDepth 20000 in
theorem ggX2_quotient_X2_leadAt : GoodIn wsX2_quotient wsX2_leadAt := goodIn_r _ [18, 19, 20, 13, 21, 6, 42] rfl (by decide +kernel)
set_option maxRecDepth 20000 in
theorem gX2_quotient_X2_leadAt : GoodIn wsX2_quotient (wsV RX2 56 RX2 yX2_leadAt wsX2_leadAt) := goodIn_app (goodIn_of _ (by decide +kernel)) ggX2_quotient_X2_leadAt
set_option maxRecDepth 20000 in
theorem ggX2_quotient_X2_at : GoodIn wsX2_quotient wsX2_at := goodIn_r _ [25, 6, 26, 27, 4, 28, 42] rfl (by decide +kernel)
set_option maxRecDepth 20000 in
theorem gX2_quotient_X2_at : GoodIn wsX2_quotient (wsV RX2 19 RX2 yX2_at wsX2_at) := goodIn_app (goodIn_of _ (by decide +kernel)) ggX2_quotient_X2_at
set_option maxRecDepth 20000 in
theorem ggX2_quotient_X11_inverse : GoodIn wsX2_quotient wsX11_inverse := goodIn_r _ [31] rfl (by decide +kernel)
set_option maxRecDepth 20000 in
theorem gX2_quotient_X11_inverse_n60 : GoodIn wsX2_quotient (wsX11_inverse) := ggX2_quotient_X11_inverse
set_option maxRecDepth 20000 in
theorem ggX2_quotient_X11_mod : GoodIn wsX2_quotient wsX11_mod := goodIn_r _ [33] rfl (by decide +kernel)
set_option maxRecDepth 20000 in
theorem gX2_quotient_X11_mod_n23 : GoodIn wsX2_quotient (wsX11_mod) := ggX2_quotient_X11_mod
set_option maxRecDepth 20000 in
theorem ggX2_quotient_X2_put : GoodIn wsX2_quotient wsX2_put := goodIn_r _ [37, 6, 26, 27, 4, 28, 42] rfl (by decide +kernel)
set_option maxRecDepth 20000 in
theorem gX2_quotient_X2_put : GoodIn wsX2_quotient (wsV RX2 26 RX2 yX2_put wsX2_put) := goodIn_app (goodIn_of _ (by decide +kernel)) ggX2_quotient_X2_put
set_option maxRecDepth 20000 in
theorem ggX2_quotient_X2_addShifted : GoodIn wsX2_quotient wsX2_addShifted := goodIn_r _ [41, 6, 42] rfl (by decide +kernel)
set_option maxRecDepth 20000 in
theorem gX2_quotient_X2_addShifted : GoodIn wsX2_quotient (wsV RX2 44 RX2 yX2_addShifted wsX2_addShifted) := goodIn_app (goodIn_of _ (by decide +kernel)) ggX2_quotient_X2_addShifted
set_option maxRecDepth 20000 in
theorem ggX2_normalize_X2_top : GoodIn wsX2_normalize wsX2_top := goodIn_r _ [6, 1, 7, 8, 9, 10, 30] rfl (by decide +kernel)
set_option maxRecDepth 20000 in
theorem gX2_normalize_X2_top : GoodIn wsX2_normalize (wsV RX2 52 RX2 yX2_top wsX2_top) := goodIn_app (goodIn_of _ (by decide +kernel)) ggX2_normalize_X2_top
set_option maxRecDepth 20000 in
theorem ggX2_normalize_X2_leadAt : GoodIn wsX2_normalize wsX2_leadAt := goodIn_r _ [14, 15, 16, 9, 17, 1, 30] rfl (by decide +kernel)
set_option maxRecDepth 20000 in
theorem gX2_normalize_X2_leadAt : GoodIn wsX2_normalize (wsV RX2 56 RX2 yX2_leadAt wsX2_leadAt) := goodIn_app (goodIn_of _ (by decide +kernel)) ggX2_normalize_X2_leadAt
set_option maxRecDepth 20000 in
theorem ggX2_normalize_X2_at : GoodIn wsX2_normalize wsX2_at := goodIn_r _ [21, 1, 22, 23, 5, 24, 30] rfl (by decide +kernel)
set_option maxRecDepth 20000 in
theorem gX2_normalize_X2_at : GoodIn wsX2_normalize (wsV RX2 19 RX2 yX2_at wsX2_at) := goodIn_app (goodIn_of _ (by decide +kernel)) ggX2_normalize_X2_at
set_option maxRecDepth 20000 in
theorem ggX2_normalize_X11_inverse : GoodIn wsX2_normalize wsX11_inverse := goodIn_r _ [27] rfl (by decide +kernel)
set_option maxRecDepth 20000 in
theorem gX2_normalize_X11_inverse_n60 : GoodIn wsX2_normalize (wsX11_inverse) := ggX2_normalize_X11_inverse
set_option maxRecDepth 20000 in
theorem ggX2_normalize_X11_mod : GoodIn wsX2_normalize wsX11_mod := goodIn_r _ [29] rfl (by decide +kernel)
set_option maxRecDepth 20000 in
theorem gX2_normalize_X11_mod_n23 : GoodIn wsX2_normalize (wsX11_mod) := ggX2_normalize_X11_mod
set_option maxRecDepth 20000 in
theorem ggX3_init_X7_init : GoodIn wsX3_init wsX7_init := goodIn_r _ [27, 28, 2, 3, 29, 30, 31, 32, 11, 33, 19, 20, 34, 35, 36, 37, 51, 52, 53, 54, 55] rfl (by decide +kernel)
set_option maxRecDepth 20000 in
theorem gX3_init_X7_init : GoodIn wsX3_init (wsX7_init) := ggX3_init_X7_init
set_option maxRecDepth 20000 in
theorem ggX3_init_X2_init : GoodIn wsX3_init wsX2_init := goodIn_r _ [35, 36, 2, 3, 11, 37, 55] rfl (by decide +kernel)
set_option maxRecDepth 20000 in
theorem gX3_init_X2_init_n48 : GoodIn wsX3_init (wsX2_init) := ggX3_init_X2_init
set_option maxRecDepth 20000 in
theorem ggX3_readText_X3_skipBlanks : GoodIn wsX3_readText wsX3_skipBlanks := goodIn_r _ [12, 3, 7, 13, 14, 15, 11, 16, 17, 201, 202, 203, 204, 205, 206, 207, 208, 209, 210, 211, 212, 213] rfl (by decide +kernel)
set_option maxRecDepth 20000 in
theorem gX3_readText_X3_skipBlanks : GoodIn wsX3_readText (wsV RX3 68 RX3 yX3_skipBlanks wsX3_skipBlanks) := goodIn_app (goodIn_of _ (by decide +kernel)) ggX3_readText_X3_skipBlanks
set_option maxRecDepth 20000 in
theorem ggX3_readText_X3_standsWord : GoodIn wsX3_readText wsX3_standsWord := goodIn_r _ [21, 3, 22, 23, 24, 11, 25, 7, 13, 14, 15, 16, 17, 26, 27, 28, 29, 30, 31, 32, 33, 34, 35, 36, 37, 38, 39, 40, 41, 42, 43, 44, 45, 46, 47, 48, 49, 50, 51, 52, 53, 54, 55, 56, 57, 58, 59, 60, 61, 62, 63, 64, 65, 66, 67, 68, 69, 70, 71, 72, 73, 74, 201, 202, 203, 204, 205, 206, 207, 208, 209, 210, 211, 212, 213] rfl (by decide +kernel)
set_option maxRecDepth 20000 in
theorem gX3_readText_X3_standsWord : GoodIn wsX3_readText (wsV RX3 73 RX3 yX3_standsWord wsX3_standsWord) := goodIn_app (goodIn_of _ (by decide +kernel)) ggX3_readText_X3_standsWord
set_option maxRecDepth 20000 in
theorem ggX3_readText_X3_readField : GoodIn wsX3_readText wsX3_readField := goodIn_r _ [78, 3, 79, 4, 5, 13, 14, 15, 11, 16, 7, 17, 80, 81, 82, 83, 84, 85, 86, 1, 2, 8, 9, 10, 12, 87, 88, 89, 90, 91, 92, 93, 94, 95, 96, 97, 98, 99, 100, 101, 102, 103, 104, 105, 106, 201, 202, 203, 204, 205, 206, 207, 208, 209, 210, 211, 212, 213, 214, 215, 216, 217] rfl (by decide +kernel)
set_option maxRecDepth 20000 in
theorem gX3_readText_X3_readField : GoodIn wsX3_readText (wsV RX3 77 RX3 yX3_readField wsX3_readField) := goodIn_app (goodIn_of _ (by decide +kernel)) ggX3_readText_X3_readField
set_option maxRecDepth 20000 in
theorem ggX3_readText_X3_readCurve : GoodIn wsX3_readText wsX3_readCurve := goodIn_r _ [110, 3, 4, 6, 111, 18, 19, 20, 11, 21, 22, 23, 24, 25, 7, 13, 14, 15, 16, 17, 26, 27, 28, 29, 30, 31, 32, 33, 34, 35, 36, 37, 38, 39, 40, 41, 42, 43, 44, 45, 46, 47, 48, 49, 50, 51, 52, 53, 54, 55, 56, 57, 58, 59, 60, 61, 62, 63, 64, 65, 66, 67, 68, 69, 70, 71, 72, 73, 74, 83, 84, 85, 86, 1, 2, 8, 9, 10, 12, 112, 113, 114, 115, 116, 117, 118, 119, 120, 121, 122, 123, 124, 125, 126, 99, 100, 101, 102, 103, 104, 105, 106, 127, 128, 129, 130, 131, 132, 133, 134, 135, 136, 137, 138, 139, 140, 141, 142, 143, 144, 145, 146, 147, 148, 5, 80, 81, 82, 87, 88, 89, 90, 91, 92, 93, 94, 95, 96, 97, 98, 149, 150, 151, 152, 153, 154, 155, 156, 157, 158, 159, 160, 161, 162, 163, 164, 165, 166, 167, 168, 169, 170, 171, 172, 173, 174, 175, 176, 177, 178, 179, 180, 181, 182, 183, 184, 185, 186, 187, 188, 189, 190, 191, 192, 193, 194, 195, 196, 197, 198, 199, 200, 201, 202, 203, 204, 205, 206, 207, 208, 209, 210, 211, 212, 213, 214, 215, 216, 217, 218] rfl (by decide +kernel)
set_option maxRecDepth 20000 in
theorem gX3_readText_X3_readCurve : GoodIn wsX3_readText (wsV RX3 81 RX3 yX3_readCurve wsX3_readCurve) := goodIn_app (goodIn_of _ (by decide +kernel)) ggX3_readText_X3_readCurve
set_option maxRecDepth 20000 in
theorem ggX3_readField_X3_byteAt : GoodIn wsX3_readField wsX3_byteAt := goodIn_r _ [9, 10, 11, 45, 46, 47, 48, 49, 50, 51, 52, 53, 54, 55, 56, 57] rfl (by decide +kernel)
set_option maxRecDepth 20000 in
theorem gX3_readField_X3_byteAt : GoodIn wsX3_readField (wsV RX3 84 RX3 yX3_byteAt wsX3_byteAt) := goodIn_app (goodIn_of _ (by decide +kernel)) ggX3_readField_X3_byteAt
set_option maxRecDepth 20000 in
theorem ggX3_readField_X3_isDigit : GoodIn wsX3_readField wsX3_isDigit := goodIn_r _ [14] rfl (by decide +kernel)
set_option maxRecDepth 20000 in
theorem gX3_readField_X3_isDigit : GoodIn wsX3_readField (va_wsS RX3 88 yX3_isDigit wsX3_isDigit) := goodIn_app (goodIn_of _ (by decide +kernel)) ggX3_readField_X3_isDigit
set_option maxRecDepth 20000 in
theorem ggX3_readField_X3_fail : GoodIn wsX3_readField wsX3_fail := goodIn_r _ [18, 19, 20, 45, 46, 47, 48, 49, 50, 51, 52, 53, 54, 55, 56, 57] rfl (by decide +kernel)
set_option maxRecDepth 20000 in
theorem gX3_readField_X3_fail : GoodIn wsX3_readField (wsV RX3 92 RX3 yX3_fail wsX3_fail) := goodIn_app (goodIn_of _ (by decide +kernel)) ggX3_readField_X3_fail
set_option maxRecDepth 20000 in
theorem ggX3_readField_X3_skipBlanks : GoodIn wsX3_readField wsX3_skipBlanks := goodIn_r _ [24, 1, 10, 5, 6, 7, 8, 9, 11, 45, 46, 47, 48, 49, 50, 51, 52, 53, 54, 55, 56, 57] rfl (by decide +kernel)
set_option maxRecDepth 20000 in
theorem gX3_readField_X3_skipBlanks : GoodIn wsX3_readField (wsV RX3 68 RX3 yX3_skipBlanks wsX3_skipBlanks) := goodIn_app (goodIn_of _ (by decide +kernel)) ggX3_readField_X3_skipBlanks
set_option maxRecDepth 20000 in
theorem ggX3_readField_X3_readNumber : GoodIn wsX3_readField wsX3_readNumber := goodIn_r _ [28, 1, 10, 29, 30, 31, 32, 33, 34, 35, 36, 5, 6, 7, 8, 9, 11, 12, 13, 14, 45, 46, 47, 48, 49, 50, 51, 52, 53, 54, 55, 56, 57] rfl (by decide +kernel)
set_option maxRecDepth 20000 in
theorem gX3_readField_X3_readNumber : GoodIn wsX3_readField (wsV RX3 96 RX3 yX3_readNumber wsX3_readNumber) := goodIn_app (goodIn_of _ (by decide +kernel)) ggX3_readField_X3_readNumber
set_option maxRecDepth 20000 in
theorem ggX3_readField_X3_expect : GoodIn wsX3_readField wsX3_expect := goodIn_r _ [40, 1, 41, 42, 43, 8, 44, 21, 22, 23, 24, 10, 5, 6, 7, 9, 11, 15, 16, 17, 18, 19, 20, 45, 46, 47, 48, 49, 50, 51, 52, 53, 54, 55, 56, 57] rfl (by decide +kernel)
set_option maxRecDepth 20000 in
theorem gX3_readField_X3_expect : GoodIn wsX3_readField (wsV RX3 103 RX3 yX3_expect wsX3_expect) := goodIn_app (goodIn_of _ (by decide +kernel)) ggX3_readField_X3_expect
set_option maxRecDepth 20000 in
theorem ggX3_readCurve_X3_standsWord : GoodIn wsX3_readCurve wsX3_standsWord := goodIn_r _ [9, 1, 10, 11, 12, 8, 13, 14, 15, 16, 17, 18, 19, 20, 21, 22, 23, 24, 25, 26, 27, 28, 29, 30, 31, 32, 33, 34, 35, 36, 37, 38, 39, 40, 41, 42, 43, 44, 45, 46, 47, 48, 49, 50, 51, 52, 53, 54, 55, 56, 57, 58, 59, 60, 61, 62, 63, 64, 65, 66, 67, 68, 192, 193, 194, 195, 196, 197, 198, 199, 200, 201, 202, 203, 204] rfl (by decide +kernel)
set_option maxRecDepth 20000 in
theorem gX3_readCurve_X3_standsWord : GoodIn wsX3_readCurve (wsV RX3 73 RX3 yX3_standsWord wsX3_standsWord) := goodIn_app (goodIn_of _ (by decide +kernel)) ggX3_readCurve_X3_standsWord
set_option maxRecDepth 20000 in
theorem ggX3_readCurve_X3_fail : GoodIn wsX3_readCurve wsX3_fail := goodIn_r _ [72, 73, 74, 192, 193, 194, 195, 196, 197, 198, 199, 200, 201, 202, 203, 204] rfl (by decide +kernel)
set_option maxRecDepth 20000 in
theorem gX3_readCurve_X3_fail : GoodIn wsX3_readCurve (wsV RX3 92 RX3 yX3_fail wsX3_fail) := goodIn_app (goodIn_of _ (by decide +kernel)) ggX3_readCurve_X3_fail
set_option maxRecDepth 20000 in
theorem ggX3_readCurve_X3_skipBlanks : GoodIn wsX3_readCurve wsX3_skipBlanks := goodIn_r _ [78, 1, 14, 15, 16, 17, 8, 18, 19, 192, 193, 194, 195, 196, 197, 198, 199, 200, 201, 202, 203, 204] rfl (by decide +kernel)
set_option maxRecDepth 20000 in
theorem gX3_readCurve_X3_skipBlanks : GoodIn wsX3_readCurve (wsV RX3 68 RX3 yX3_skipBlanks wsX3_skipBlanks) := goodIn_app (goodIn_of _ (by decide +kernel)) ggX3_readCurve_X3_skipBlanks
set_option maxRecDepth 20000 in
theorem ggX3_readCurve_X3_readName : GoodIn wsX3_readCurve wsX3_readName := goodIn_r _ [82, 1, 2, 10, 11, 12, 8, 13, 14, 15, 16, 17, 18, 19, 5, 6, 7, 9, 20, 21, 22, 23, 24, 25, 26, 27, 28, 29, 30, 31, 32, 33, 34, 35, 36, 37, 38, 39, 40, 41, 42, 43, 44, 45, 46, 47, 48, 49, 50, 51, 52, 53, 54, 55, 56, 57, 58, 59, 60, 61, 62, 63, 64, 65, 66, 67, 68, 69, 70, 71, 72, 73, 74, 83, 84, 85, 86, 87, 88, 89, 90, 91, 92, 93, 3, 192, 193, 194, 195, 196, 197, 198, 199, 200, 201, 202, 203, 204, 205, 206, 207, 208] rfl (by decide +kernel)
set_option maxRecDepth 20000 in
theorem gX3_readCurve_X3_readName : GoodIn wsX3_readCurve (wsV RX3 108 RX3 yX3_readName wsX3_readName) := goodIn_app (goodIn_of _ (by decide +kernel)) ggX3_readCurve_X3_readName
set_option maxRecDepth 20000 in
theorem ggX3_readCurve_X3_expect : GoodIn wsX3_readCurve wsX3_expect := goodIn_r _ [97, 1, 98, 99, 100, 8, 101, 75, 76, 77, 78, 14, 15, 16, 17, 18, 19, 69, 70, 71, 72, 73, 74, 192, 193, 194, 195, 196, 197, 198, 199, 200, 201, 202, 203, 204] rfl (by decide +kernel)
set_option maxRecDepth 20000 in
theorem gX3_readCurve_X3_expect : GoodIn wsX3_readCurve (wsV RX3 103 RX3 yX3_expect wsX3_expect) := goodIn_app (goodIn_of _ (by decide +kernel)) ggX3_readCurve_X3_expect
set_option maxRecDepth 20000 in
theorem ggX3_readCurve_X3_readSum : GoodIn wsX3_readCurve wsX3_readSum := goodIn_r _ [105, 14, 1, 106, 107, 4, 108, 109, 110, 111, 8, 112, 113, 114, 115, 116, 117, 118, 119, 98, 99, 100, 101, 75, 76, 77, 78, 15, 16, 17, 18, 19, 69, 70, 71, 72, 73, 74, 120, 121, 122, 123, 2, 124, 125, 126, 127, 128, 129, 130, 131, 132, 133, 134, 135, 136, 137, 138, 139, 140, 141, 142, 5, 6, 7, 9, 10, 11, 12, 13, 20, 21, 22, 23, 24, 25, 26, 27, 28, 29, 30, 31, 32, 33, 34, 35, 36, 37, 38, 39, 40, 41, 42, 43, 44, 45, 46, 47, 48, 49, 50, 51, 52, 53, 54, 55, 56, 57, 58, 59, 60, 61, 62, 63, 64, 65, 66, 67, 68, 143, 144, 145, 146, 147, 148, 149, 150, 151, 152, 153, 154, 155, 156, 157, 158, 159, 160, 161, 162, 163, 164, 165, 166, 167, 168, 169, 170, 171, 172, 173, 174, 175, 176, 177, 178, 179, 180, 181, 182, 183, 184, 185, 186, 187, 188, 189, 190, 191, 192, 193, 194, 195, 196, 197, 198, 199, 200, 201, 202, 203, 204, 209, 205, 206, 207, 208] rfl (by decide +kernel)
set_option maxRecDepth 20000 in
theorem gX3_readCurve_X3_readSum : GoodIn wsX3_readCurve (wsV RX3 111 RX3 yX3_readSum wsX3_readSum) := goodIn_app (goodIn_of _ (by decide +kernel)) ggX3_readCurve_X3_readSum
set_option maxRecDepth 20000 in
theorem ggX3_readCurve_X2_top : GoodIn wsX3_readCurve wsX2_top := goodIn_r _ [163, 119, 164, 165, 137, 166, 209] rfl (by decide +kernel)
set_option maxRecDepth 20000 in
theorem gX3_readCurve_X2_top : GoodIn wsX3_readCurve (wsV RX3 114 RX2 yX2_top wsX2_top) := goodIn_app (goodIn_of _ (by decide +kernel)) ggX3_readCurve_X2_top
set_option maxRecDepth 20000 in
theorem ggX3_readCurve_X2_copy : GoodIn wsX3_readCurve wsX2_copy := goodIn_r _ [179, 119, 180, 181, 182, 183, 209] rfl (by decide +kernel)
set_option maxRecDepth 20000 in
theorem gX3_readCurve_X2_copy : GoodIn wsX3_readCurve (wsV RX3 120 RX2 yX2_copy wsX2_copy) := goodIn_app (goodIn_of _ (by decide +kernel)) ggX3_readCurve_X2_copy
set_option maxRecDepth 20000 in
theorem ggX3_readName_X3_wordEnd : GoodIn wsX3_readName wsX3_wordEnd := goodIn_r _ [7, 8, 9, 10, 11, 6, 12, 13, 85, 86, 87, 88, 89, 90, 91, 92, 93, 94, 95, 96, 97] rfl (by decide +kernel)
set_option maxRecDepth 20000 in
theorem gX3_readName_X3_wordEnd : GoodIn wsX3_readName (wsV RX3 124 RX3 yX3_wordEnd wsX3_wordEnd) := goodIn_app (goodIn_of _ (by decide +kernel)) ggX3_readName_X3_wordEnd
set_option maxRecDepth 20000 in
theorem ggX3_readName_X3_standsWord : GoodIn wsX3_readName wsX3_standsWord := goodIn_r _ [17, 1, 3, 4, 5, 6, 7, 8, 9, 10, 11, 12, 13, 18, 19, 20, 21, 22, 23, 24, 25, 26, 27, 28, 29, 30, 31, 32, 33, 34, 35, 36, 37, 38, 39, 40, 41, 42, 43, 44, 45, 46, 47, 48, 49, 50, 51, 52, 53, 54, 55, 56, 57, 58, 59, 60, 61, 62, 63, 64, 65, 66, 85, 86, 87, 88, 89, 90, 91, 92, 93, 94, 95, 96, 97] rfl (by decide +kernel)
set_option maxRecDepth 20000 in
theorem gX3_readName_X3_standsWord : GoodIn wsX3_readName (wsV RX3 73 RX3 yX3_standsWord wsX3_standsWord) := goodIn_app (goodIn_of _ (by decide +kernel)) ggX3_readName_X3_standsWord
set_option maxRecDepth 20000 in
theorem ggX3_readName_X3_fail : GoodIn wsX3_readName wsX3_fail := goodIn_r _ [70, 71, 72, 85, 86, 87, 88, 89, 90, 91, 92, 93, 94, 95, 96, 97] rfl (by decide +kernel)
set_option maxRecDepth 20000 in
theorem gX3_readName_X3_fail : GoodIn wsX3_readName (wsV RX3 92 RX3 yX3_fail wsX3_fail) := goodIn_app (goodIn_of _ (by decide +kernel)) ggX3_readName_X3_fail
set_option maxRecDepth 20000 in
theorem ggX3_readName_X3_byteAt : GoodIn wsX3_readName wsX3_byteAt := goodIn_r _ [12, 8, 13, 85, 86, 87, 88, 89, 90, 91, 92, 93, 94, 95, 96, 97] rfl (by decide +kernel)
set_option maxRecDepth 20000 in
theorem gX3_readName_X3_byteAt : GoodIn wsX3_readName (wsV RX3 84 RX3 yX3_byteAt wsX3_byteAt) := goodIn_app (goodIn_of _ (by decide +kernel)) ggX3_readName_X3_byteAt
set_option maxRecDepth 20000 in
theorem ggX3_readName_X7_setLetter : GoodIn wsX3_readName wsX7_setLetter := goodIn_r _ [77, 78, 79, 98, 99, 100, 101] rfl (by decide +kernel)
set_option maxRecDepth 20000 in
theorem gX3_readName_X7_setLetter : GoodIn wsX3_readName (wsV RX3 131 RX7 yX7_setLetter wsX7_setLetter) := goodIn_app (goodIn_of _ (by decide +kernel)) ggX3_readName_X7_setLetter
set_option maxRecDepth 20000 in
theorem ggX3_readName_X3_isNameTaken : GoodIn wsX3_readName wsX3_isNameTaken := goodIn_r _ [83, 2, 84, 85, 86, 87, 88, 89, 90, 91, 92, 93, 94, 95, 96, 97, 98, 99, 100, 101] rfl (by decide +kernel)
set_option maxRecDepth 20000 in
theorem gX3_readName_X3_isNameTaken : GoodIn wsX3_readName (wsV RX3 135 RX3 yX3_isNameTaken wsX3_isNameTaken) := goodIn_app (goodIn_of _ (by decide +kernel)) ggX3_readName_X3_isNameTaken
set_option maxRecDepth 20000 in
theorem ggX3_readSum_X3_begin : GoodIn wsX3_readSum wsX3_begin := goodIn_r _ [11, 5, 12, 6, 13, 14, 15, 16, 17, 18, 19, 20, 21, 10, 22, 2, 23, 24, 25, 26, 1, 27, 28, 29, 30, 31, 168, 169, 170, 171, 172, 173, 174, 175, 176, 177, 178, 179, 180, 181] rfl (by decide +kernel)
set_option maxRecDepth 20000 in
theorem gX3_readSum_X3_begin : GoodIn wsX3_readSum (wsV RX3 141 RX3 yX3_begin wsX3_begin) := goodIn_app (goodIn_of _ (by decide +kernel)) ggX3_readSum_X3_begin
set_option maxRecDepth 20000 in
theorem ggX3_readSum_X3_skipBlanks : GoodIn wsX3_readSum wsX3_skipBlanks := goodIn_r _ [26, 2, 1, 27, 28, 29, 10, 30, 31, 168, 169, 170, 171, 172, 173, 174, 175, 176, 177, 178, 179, 180] rfl (by decide +kernel)
set_option maxRecDepth 20000 in
theorem gX3_readSum_X3_skipBlanks : GoodIn wsX3_readSum (wsV RX3 68 RX3 yX3_skipBlanks wsX3_skipBlanks) := goodIn_app (goodIn_of _ (by decide +kernel)) ggX3_readSum_X3_skipBlanks
set_option maxRecDepth 20000 in
theorem ggX3_readSum_X3_take : GoodIn wsX3_readSum wsX3_take := goodIn_r _ [22, 2, 23, 24, 25, 10, 26, 1, 27, 28, 29, 30, 31, 168, 169, 170, 171, 172, 173, 174, 175, 176, 177, 178, 179, 180] rfl (by decide +kernel)
set_option maxRecDepth 20000 in
theorem gX3_readSum_X3_take : GoodIn wsX3_readSum (wsV RX3 145 RX3 yX3_take wsX3_take) := goodIn_app (goodIn_of _ (by decide +kernel)) ggX3_readSum_X3_take
set_option maxRecDepth 20000 in
theorem ggX3_readSum_X3_fail : GoodIn wsX3_readSum wsX3_fail := goodIn_r _ [35, 36, 37, 168, 169, 170, 171, 172, 173, 174, 175, 176, 177, 178, 179, 180] rfl (by decide +kernel)
set_option maxRecDepth 20000 in
theorem gX3_readSum_X3_fail : GoodIn wsX3_readSum (wsV RX3 92 RX3 yX3_fail wsX3_fail) := goodIn_app (goodIn_of _ (by decide +kernel)) ggX3_readSum_X3_fail
set_option maxRecDepth 20000 in
theorem ggX3_readSum_X3_readAtom : GoodIn wsX3_readSum wsX3_readAtom := goodIn_r _ [41, 2, 4, 42, 43, 27, 28, 29, 10, 30, 1, 31, 44, 45, 46, 47, 48, 49, 50, 51, 52, 53, 54, 55, 56, 57, 58, 59, 60, 61, 13, 14, 15, 16, 17, 18, 32, 33, 34, 35, 36, 37, 62, 63, 64, 65, 66, 67, 68, 69, 70, 71, 72, 73, 74, 75, 76, 77, 78, 79, 80, 81, 82, 83, 84, 85, 86, 87, 88, 89, 90, 91, 92, 93, 94, 95, 96, 97, 98, 99, 100, 101, 102, 103, 104, 105, 106, 107, 108, 109, 110, 111, 112, 113, 114, 115, 116, 117, 118, 119, 120, 121, 122, 123, 124, 125, 168, 169, 170, 171, 172, 173, 174, 175, 176, 177, 178, 179, 180, 182, 183, 184, 185, 181] rfl (by decide +kernel)
set_option maxRecDepth 20000 in
theorem gX3_readSum_X3_readAtom : GoodIn wsX3_readSum (wsV RX3 148 RX3 yX3_readAtom wsX3_readAtom) := goodIn_app (goodIn_of _ (by decide +kernel)) ggX3_readSum_X3_readAtom
set_option maxRecDepth 20000 in
theorem ggX3_readSum_X3_readFactor : GoodIn wsX3_readSum wsX3_readFactor := goodIn_r _ [129, 2, 130, 4, 12, 19, 20, 21, 10, 22, 23, 24, 25, 26, 1, 27, 28, 29, 30, 31, 44, 45, 46, 32, 33, 34, 35, 36, 37, 47, 48, 49, 50, 51, 52, 53, 54, 55, 56, 57, 58, 13, 14, 15, 16, 17, 18, 131, 132, 133, 134, 135, 42, 43, 136, 137, 138, 139, 140, 141, 142, 143, 144, 145, 146, 147, 148, 149, 150, 151, 152, 153, 154, 155, 156, 157, 158, 159, 168, 169, 170, 171, 172, 173, 174, 175, 176, 177, 178, 179, 180, 181, 182, 183, 184, 185] rfl (by decide +kernel)
set_option maxRecDepth 20000 in
theorem gX3_readSum_X3_readFactor : GoodIn wsX3_readSum (wsV RX3 151 RX3 yX3_readFactor wsX3_readFactor) := goodIn_app (goodIn_of _ (by decide +kernel)) ggX3_readSum_X3_readFactor
set_option maxRecDepth 20000 in
theorem ggX3_readSum_X3_closeTerm : GoodIn wsX3_readSum wsX3_closeTerm := goodIn_r _ [163, 5, 12, 6, 42, 43, 164, 165, 166, 16, 167, 148, 149, 150, 151, 18, 13, 14, 15, 17, 168, 169, 170, 171, 172, 173, 174, 175, 176, 177, 178, 179, 180, 182, 183, 184, 185, 181] rfl (by decide +kernel)
set_option maxRecDepth 20000 in
theorem gX3_readSum_X3_closeTerm : GoodIn wsX3_readSum (wsV RX3 154 RX3 yX3_closeTerm wsX3_closeTerm) := goodIn_app (goodIn_of _ (by decide +kernel)) ggX3_readSum_X3_closeTerm
set_option maxRecDepth 20000 in
theorem ggX3_readSum_X2_copy : GoodIn wsX3_readSum wsX2_copy := goodIn_r _ [155, 18, 156, 157, 158, 159, 181] rfl (by decide +kernel)
set_option maxRecDepth 20000 in
theorem gX3_readSum_X2_copy : GoodIn wsX3_readSum (wsV RX3 120 RX2 yX2_copy wsX2_copy) := goodIn_app (goodIn_of _ (by decide +kernel)) ggX3_readSum_X2_copy
set_option maxRecDepth 20000 in
theorem ggX3_begin_X2_setTo : GoodIn wsX3_begin wsX2_setTo := goodIn_r _ [8, 9, 39] rfl (by decide +kernel)
set_option maxRecDepth 20000 in
theorem gX3_begin_X2_setTo : GoodIn wsX3_begin (wsV RX3 157 RX2 yX2_setTo wsX2_setTo) := goodIn_app (goodIn_of _ (by decide +kernel)) ggX3_begin_X2_setTo
set_option maxRecDepth 20000 in
theorem ggX3_begin_X3_take : GoodIn wsX3_begin wsX3_take := goodIn_r _ [14, 15, 16, 17, 18, 13, 19, 20, 21, 22, 23, 24, 25, 26, 27, 28, 29, 30, 31, 32, 33, 34, 35, 36, 37, 38] rfl (by decide +kernel)
set_option maxRecDepth 20000 in
theorem gX3_begin_X3_take : GoodIn wsX3_begin (wsV RX3 145 RX3 yX3_take wsX3_take) := goodIn_app (goodIn_of _ (by decide +kernel)) ggX3_begin_X3_take
set_option maxRecDepth 20000 in
theorem ggX3_closeTerm_X2_add : GoodIn wsX3_closeTerm wsX2_add := goodIn_r _ [10, 11, 12, 13, 9, 14, 15, 37] rfl (by decide +kernel)
set_option maxRecDepth 20000 in
theorem gX3_closeTerm_X2_add : GoodIn wsX3_closeTerm (wsV RX3 160 RX2 yX2_add wsX2_add) := goodIn_app (goodIn_of _ (by decide +kernel)) ggX3_closeTerm_X2_add
set_option maxRecDepth 20000 in
theorem ggX3_closeTerm_X2_setTo : GoodIn wsX3_closeTerm wsX2_setTo := goodIn_r _ [19, 15, 37] rfl (by decide +kernel)
set_option maxRecDepth 20000 in
theorem gX3_closeTerm_X2_setTo : GoodIn wsX3_closeTerm (wsV RX3 157 RX2 yX2_setTo wsX2_setTo) := goodIn_app (goodIn_of _ (by decide +kernel)) ggX3_closeTerm_X2_setTo
set_option maxRecDepth 20000 in
theorem ggX3_readFactor_X3_take : GoodIn wsX3_readFactor wsX3_take := goodIn_r _ [9, 1, 10, 11, 12, 8, 13, 14, 15, 16, 17, 18, 19, 78, 79, 80, 81, 82, 83, 84, 85, 86, 87, 88, 89, 90] rfl (by decide +kernel)
set_option maxRecDepth 20000 in
theorem gX3_readFactor_X3_take : GoodIn wsX3_readFactor (wsV RX3 145 RX3 yX3_take wsX3_take) := goodIn_app (goodIn_of _ (by decide +kernel)) ggX3_readFactor_X3_take
set_option maxRecDepth 20000 in
theorem ggX3_readFactor_X3_skipBlanks : GoodIn wsX3_readFactor wsX3_skipBlanks := goodIn_r _ [13, 1, 14, 15, 16, 17, 8, 18, 19, 78, 79, 80, 81, 82, 83, 84, 85, 86, 87, 88, 89, 90] rfl (by decide +kernel)
set_option maxRecDepth 20000 in
theorem gX3_readFactor_X3_skipBlanks : GoodIn wsX3_readFactor (wsV RX3 68 RX3 yX3_skipBlanks wsX3_skipBlanks) := goodIn_app (goodIn_of _ (by decide +kernel)) ggX3_readFactor_X3_skipBlanks
set_option maxRecDepth 20000 in
theorem ggX3_readFactor_X3_byteAt : GoodIn wsX3_readFactor wsX3_byteAt := goodIn_r _ [18, 14, 19, 78, 79, 80, 81, 82, 83, 84, 85, 86, 87, 88, 89, 90] rfl (by decide +kernel)
set_option maxRecDepth 20000 in
theorem gX3_readFactor_X3_byteAt : GoodIn wsX3_readFactor (wsV RX3 84 RX3 yX3_byteAt wsX3_byteAt) := goodIn_app (goodIn_of _ (by decide +kernel)) ggX3_readFactor_X3_byteAt
set_option maxRecDepth 20000 in
theorem ggX3_readFactor_X3_isDigit : GoodIn wsX3_readFactor wsX3_isDigit := goodIn_r _ [22] rfl (by decide +kernel)
set_option maxRecDepth 20000 in
theorem gX3_readFactor_X3_isDigit : GoodIn wsX3_readFactor (va_wsS RX3 88 yX3_isDigit wsX3_isDigit) := goodIn_app (goodIn_of _ (by decide +kernel)) ggX3_readFactor_X3_isDigit
set_option maxRecDepth 20000 in
theorem ggX3_readFactor_X3_fail : GoodIn wsX3_readFactor wsX3_fail := goodIn_r _ [26, 27, 28, 78, 79, 80, 81, 82, 83, 84, 85, 86, 87, 88, 89, 90] rfl (by decide +kernel)
set_option maxRecDepth 20000 in
theorem gX3_readFactor_X3_fail : GoodIn wsX3_readFactor (wsV RX3 92 RX3 yX3_fail wsX3_fail) := goodIn_app (goodIn_of _ (by decide +kernel)) ggX3_readFactor_X3_fail
