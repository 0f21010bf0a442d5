set_option maxRecDepth 20000 in
theorem ggX0_init_X2_init : GoodIn wsX0_init wsX2_init := goodIn_r _ [21, 22, 2, 3, 23, 24, 31] rfl (by decide +kernel)
set_option maxRecDepth 20000 in
theorem gX0_init_X2_init_n11 : GoodIn wsX0_init (wsX2_init) := ggX0_init_X2_init
set_option maxRecDepth 20000 in
theorem ggX0_init_X9_init : GoodIn wsX0_init wsX9_init := goodIn_r _ [26, 27, 2, 3, 28, 29, 30, 42, 43, 44] rfl (by decide +kernel)
set_option maxRecDepth 20000 in
theorem gX0_init_X9_init_n39 : GoodIn wsX0_init (wsX9_init) := ggX0_init_X9_init
set_option maxRecDepth 20000 in
theorem ggX1_init_X7_init : GoodIn wsX1_init wsX7_init := goodIn_r _ [12, 13, 2, 3, 14, 15, 16, 17, 18, 19, 20, 21, 22, 23, 24, 25, 29, 30, 31, 32, 33] rfl (by decide +kernel)
set_option maxRecDepth 20000 in
theorem gX1_init_X7_init : GoodIn wsX1_init (wsX7_init) := ggX1_init_X7_init
set_option maxRecDepth 20000 in
theorem ggX2_at_X2_fits : GoodIn wsX2_at wsX2_fits := goodIn_r _ [5] rfl (by decide +kernel)
set_option maxRecDepth 20000 in
theorem gX2_at_X2_fits : GoodIn wsX2_at (va_wsS RX2 15 yX2_fits wsX2_fits) := goodIn_app (goodIn_of _ (by decide +kernel)) ggX2_at_X2_fits
set_option maxRecDepth 20000 in
theorem ggX2_put_X2_fits : GoodIn wsX2_put wsX2_fits := goodIn_r _ [5] rfl (by decide +kernel)
set_option maxRecDepth 20000 in
theorem gX2_put_X2_fits : GoodIn wsX2_put (va_wsS RX2 15 yX2_fits wsX2_fits) := goodIn_app (goodIn_of _ (by decide +kernel)) ggX2_put_X2_fits
set_option maxRecDepth 20000 in
theorem ggX2_increase_X2_at : GoodIn wsX2_increase wsX2_at := goodIn_r _ [5, 6, 7, 8, 4, 9, 17] rfl (by decide +kernel)
set_option maxRecDepth 20000 in
theorem gX2_increase_X2_at : GoodIn wsX2_increase (wsV RX2 19 RX2 yX2_at wsX2_at) := goodIn_app (goodIn_of _ (by decide +kernel)) ggX2_increase_X2_at
set_option maxRecDepth 20000 in
theorem ggX2_increase_X11_mod : GoodIn wsX2_increase wsX11_mod := goodIn_r _ [12] rfl (by decide +kernel)
set_option maxRecDepth 20000 in
theorem gX2_increase_X11_mod_n23 : GoodIn wsX2_increase (wsX11_mod) := ggX2_increase_X11_mod
set_option maxRecDepth 20000 in
theorem ggX2_increase_X2_put : GoodIn wsX2_increase wsX2_put := goodIn_r _ [16, 6, 7, 8, 4, 9, 17] rfl (by decide +kernel)
set_option maxRecDepth 20000 in
theorem gX2_increase_X2_put : GoodIn wsX2_increase (wsV RX2 26 RX2 yX2_put wsX2_put) := goodIn_app (goodIn_of _ (by decide +kernel)) ggX2_increase_X2_put
set_option maxRecDepth 20000 in
theorem ggX2_add_X2_addShifted : GoodIn wsX2_add wsX2_addShifted := goodIn_r _ [5, 6, 7] rfl (by decide +kernel)
set_option maxRecDepth 20000 in
theorem gX2_add_X2_addShifted : GoodIn wsX2_add (wsV RX2 44 RX2 yX2_addShifted wsX2_addShifted) := goodIn_app (goodIn_of _ (by decide +kernel)) ggX2_add_X2_addShifted
set_option maxRecDepth 20000 in
theorem ggX2_product_X2_setTo : GoodIn wsX2_product wsX2_setTo := goodIn_r _ [6, 1, 11] rfl (by decide +kernel)
set_option maxRecDepth 20000 in
theorem gX2_product_X2_setTo : GoodIn wsX2_product (wsV RX2 48 RX2 yX2_setTo wsX2_setTo) := goodIn_app (goodIn_of _ (by decide +kernel)) ggX2_product_X2_setTo
set_option maxRecDepth 20000 in
theorem ggX2_product_X2_addShifted : GoodIn wsX2_product wsX2_addShifted := goodIn_r _ [10, 1, 11] rfl (by decide +kernel)
set_option maxRecDepth 20000 in
theorem gX2_product_X2_addShifted : GoodIn wsX2_product (wsV RX2 44 RX2 yX2_addShifted wsX2_addShifted) := goodIn_app (goodIn_of _ (by decide +kernel)) ggX2_product_X2_addShifted
set_option maxRecDepth 20000 in
theorem ggX2_quotient_X2_setTo : GoodIn wsX2_quotient wsX2_setTo := goodIn_r _ [5, 6, 42] rfl (by decide +kernel)
set_option maxRecDepth 20000 in
theorem gX2_quotient_X2_setTo : GoodIn wsX2_quotient (wsV RX2 48 RX2 yX2_setTo wsX2_setTo) := goodIn_app (goodIn_of _ (by decide +kernel)) ggX2_quotient_X2_setTo
set_option maxRecDepth 20000 in
theorem ggX2_quotient_X2_top : GoodIn wsX2_quotient wsX2_top := goodIn_r _ [10, 6, 11, 12, 13, 14, 42] rfl (by decide +kernel)
set_option maxRecDepth 20000 in
theorem gX2_quotient_X2_top : GoodIn wsX2_quotient (wsV RX2 52 RX2 yX2_top wsX2_top) := goodIn_app (goodIn_of _ (by decide +kernel)) ggX2_quotient_X2_top
set_option maxRecDepth 20000 in
theorem ggX2_quotient_X2_leadAt : GoodIn wsX2_quotient wsX2_leadAt := goodIn_r _ [18, 19, 20, 13, 21, 6, 42] rfl (by decide +kernel)
set_option maxRecDepth 20000 in
theorem gX2_quotient_X2_leadAt : GoodIn wsX2_quotient (wsV RX2 56 RX2 yX2_leadAt wsX2_leadAt) := goodIn_app (goodIn_of _ (by decide +kernel)) ggX2_quotient_X2_leadAt
set_option maxRecDepth 20000 in
theorem ggX2_quotient_X2_at : GoodIn wsX2_quotient wsX2_at := goodIn_r _ [25, 6, 26, 27, 4, 28, 42] rfl (by decide +kernel)
set_option maxRecDepth 20000 in
theorem gX2_quotient_X2_at : GoodIn wsX2_quotient (wsV RX2 19 RX2 yX2_at wsX2_at) := goodIn_app (goodIn_of _ (by decide +kernel)) ggX2_quotient_X2_at
set_option maxRecDepth 20000 in
theorem ggX2_quotient_X11_inverse : GoodIn wsX2_quotient wsX11_inverse := goodIn_r _ [31] rfl (by decide +kernel)
set_option maxRecDepth 20000 in
theorem gX2_quotient_X11_inverse_n60 : GoodIn wsX2_quotient (wsX11_inverse) := ggX2_quotient_X11_inverse
set_option maxRecDepth 20000 in
theorem ggX2_quotient_X11_mod : GoodIn wsX2_quotient wsX11_mod := goodIn_r _ [33] rfl (by decide +kernel)
set_option maxRecDepth 20000 in
theorem gX2_quotient_X11_mod_n23 : GoodIn wsX2_quotient (wsX11_mod) := ggX2_quotient_X11_mod
set_option maxRecDepth 20000 in
theorem ggX2_quotient_X2_put : GoodIn wsX2_quotient wsX2_put := goodIn_r _ [37, 6, 26, 27, 4, 28, 42] rfl (by decide +kernel)
set_option maxRecDepth 20000 in
theorem gX2_quotient_X2_put : GoodIn wsX2_quotient (wsV RX2 26 RX2 yX2_put wsX2_put) := goodIn_app (goodIn_of _ (by decide +kernel)) ggX2_quotient_X2_put
set_option maxRecDepth 20000 in
theorem ggX2_quotient_X2_addShifted : GoodIn wsX2_quotient wsX2_addShifted := goodIn_r _ [41, 6, 42] rfl (by decide +kernel)
set_option maxRecDepth 20000 in
theorem gX2_quotient_X2_addShifted : GoodIn wsX2_quotient (wsV RX2 44 RX2 yX2_addShifted wsX2_addShifted) := goodIn_app (goodIn_of _ (by decide +kernel)) ggX2_quotient_X2_addShifted
set_option maxRecDepth 20000 in
theorem ggX2_normalize_X2_top : GoodIn wsX2_normalize wsX2_top := goodIn_r _ [6, 1, 7, 8, 9, 10, 30] rfl (by decide +kernel)
set_option maxRecDepth 20000 in
theorem gX2_normalize_X2_top : GoodIn wsX2_normalize (wsV RX2 52 RX2 yX2_top wsX2_top) := goodIn_app (goodIn_of _ (by decide +kernel)) ggX2_normalize_X2_top
set_option maxRecDepth 20000 in
theorem ggX2_normalize_X2_leadAt : GoodIn wsX2_normalize wsX2_leadAt := goodIn_r _ [14, 15, 16, 9, 17, 1, 30] rfl (by decide +kernel)
set_option maxRecDepth 20000 in
theorem gX2_normalize_X2_leadAt : GoodIn wsX2_normalize (wsV RX2 56 RX2 yX2_leadAt wsX2_leadAt) := goodIn_app (goodIn_of _ (by decide +kernel)) ggX2_normalize_X2_leadAt
set_option maxRecDepth 20000 in
theorem ggX2_normalize_X2_at : GoodIn wsX2_normalize wsX2_at := goodIn_r _ [21, 1, 22, 23, 5, 24, 30] rfl (by decide +kernel)
set_option maxRecDepth 20000 in
theorem gX2_normalize_X2_at : GoodIn wsX2_normalize (wsV RX2 19 RX2 yX2_at wsX2_at) := goodIn_app (goodIn_of _ (by decide +kernel)) ggX2_normalize_X2_at
set_option maxRecDepth 20000 in
theorem ggX2_normalize_X11_inverse : GoodIn wsX2_normalize wsX11_inverse := goodIn_r _ [27] rfl (by decide +kernel)
set_option maxRecDepth 20000 in
theorem gX2_normalize_X11_inverse_n60 : GoodIn wsX2_normalize (wsX11_inverse) := ggX2_normalize_X11_inverse
set_option maxRecDepth 20000 in
theorem ggX2_normalize_X11_mod : GoodIn wsX2_normalize wsX11_mod := goodIn_r _ [29] rfl (by decide +kernel)
set_option maxRecDepth 20000 in
theorem gX2_normalize_X11_mod_n23 : GoodIn wsX2_normalize (wsX11_mod) := ggX2_normalize_X11_mod
set_option maxRecDepth 20000 in
theorem ggX3_init_X7_init : GoodIn wsX3_init wsX7_init := goodIn_r _ [27, 28, 2, 3, 29, 30, 31, 32, 11, 33, 19, 20, 34, 35, 36, 37, 51, 52, 53, 54, 55] rfl (by decide +kernel)
set_option maxRecDepth 20000 in
theorem gX3_init_X7_init : GoodIn wsX3_init (wsX7_init) := ggX3_init_X7_init
set_option maxRecDepth 20000 in
theorem ggX3_init_X2_init : GoodIn wsX3_init wsX2_init := goodIn_r _ [35, 36, 2, 3, 11, 37, 55] rfl (by decide +kernel)
set_option maxRecDepth 20000 in
theorem gX3_init_X2_init_n48 : GoodIn wsX3_init (wsX2_init) := ggX3_init_X2_init
set_option maxRecDepth 20000 in
theorem ggX3_readText_X3_skipBlanks : GoodIn wsX3_readText wsX3_skipBlanks := goodIn_r _ [12, 3, 7, 13, 14, 15, 11, 16, 17, 201, 202, 203, 204, 205, 206, 207, 208, 209, 210, 211, 212, 213] rfl (by decide +kernel)
set_option maxRecDepth 20000 in
theorem gX3_readText_X3_skipBlanks : GoodIn wsX3_readText (wsV RX3 68 RX3 yX3_skipBlanks wsX3_skipBlanks) := goodIn_app (goodIn_of _ (by decide +kernel)) ggX3_readText_X3_skipBlanks
set_option maxRecDepth 20000 in
theorem ggX3_readText_X3_standsWord : GoodIn wsX3_readText wsX3_standsWord := goodIn_r _ [21, 3, 22, 23, 24, 11, 25, 7, 13, 14, 15, 16, 17, 26, 27, 28, 29, 30, 31, 32, 33, 34, 35, 36, 37, 38, 39, 40, 41, 42, 43, 44, 45, 46, 47, 48, 49, 50, 51, 52, 53, 54, 55, 56, 57, 58, 59, 60, 61, 62, 63, 64, 65, 66, 67, 68, 69, 70, 71, 72, 73, 74, 201, 202, 203, 204, 205, 206, 207, 208, 209, 210, 211, 212, 213, 218, 219, 220, 221] rfl (by decide +kernel)
set_option maxRecDepth 20000 in
theorem gX3_readText_X3_standsWord : GoodIn wsX3_readText (wsV RX3 73 RX3 yX3_standsWord wsX3_standsWord) := goodIn_app (goodIn_of _ (by decide +kernel)) ggX3_readText_X3_standsWord
set_option maxRecDepth 20000 in
theorem ggX3_readText_X3_readField : GoodIn wsX3_readText wsX3_readField := goodIn_r _ [78, 3, 79, 4, 5, 13, 14, 15, 11, 16, 7, 17, 80, 81, 82, 83, 84, 85, 86, 1, 2, 8, 9, 10, 12, 87, 88, 89, 90, 91, 92, 93, 94, 95, 96, 97, 98, 99, 100, 101, 102, 103, 104, 105, 106, 201, 202, 203, 204, 205, 206, 207, 208, 209, 210, 211, 212, 213, 214, 215, 216, 217] rfl (by decide +kernel)
set_option maxRecDepth 20000 in
theorem gX3_readText_X3_readField : GoodIn wsX3_readText (wsV RX3 77 RX3 yX3_readField wsX3_readField) := goodIn_app (goodIn_of _ (by decide +kernel)) ggX3_readText_X3_readField
set_option maxRecDepth 20000 in
theorem ggX3_readText_X3_readCurve : GoodIn wsX3_readText wsX3_readCurve := goodIn_r _ [110, 3, 4, 6, 111, 18, 19, 20, 11, 21, 22, 23, 24, 25, 7, 13, 14, 15, 16, 17, 26, 27, 28, 29, 30, 31, 32, 33, 34, 35, 36, 37, 38, 39, 40, 41, 42, 43, 44, 45, 46, 47, 48, 49, 50, 51, 52, 53, 54, 55, 56, 57, 58, 59, 60, 61, 62, 63, 64, 65, 66, 67, 68, 69, 70, 71, 72, 73, 74, 83, 84, 85, 86, 1, 2, 8, 9, 10, 12, 112, 113, 114, 115, 116, 117, 118, 119, 120, 121, 122, 123, 124, 125, 126, 99, 100, 101, 102, 103, 104, 105, 106, 127, 128, 129, 130, 131, 132, 133, 134, 135, 136, 137, 138, 139, 140, 141, 142, 143, 144, 145, 146, 147, 148, 5, 80, 81, 82, 87, 88, 89, 90, 91, 92, 93, 94, 95, 96, 97, 98, 149, 150, 151, 152, 153, 154, 155, 156, 157, 158, 159, 160, 161, 162, 163, 164, 165, 166, 167, 168, 169, 170, 171, 172, 173, 174, 175, 176, 177, 178, 179, 180, 181, 182, 183, 184, 185, 186, 187, 188, 189, 190, 191, 192, 193, 194, 195, 196, 197, 198, 199, 200, 201, 202, 203, 204, 205, 206, 207, 208, 209, 210, 211, 212, 213, 214, 215, 216, 217, 218, 219, 220, 221, 222] rfl (by decide +kernel)
set_option maxRecDepth 20000 in
theorem gX3_readText_X3_readCurve : GoodIn wsX3_readText (wsV RX3 81 RX3 yX3_readCurve wsX3_readCurve) := goodIn_app (goodIn_of _ (by decide +kernel)) ggX3_readText_X3_readCurve
set_option maxRecDepth 20000 in
theorem ggX3_readField_X3_byteAt : GoodIn wsX3_readField wsX3_byteAt := goodIn_r _ [9, 10, 11, 45, 46, 47, 48, 49, 50, 51, 52, 53, 54, 55, 56, 57] rfl (by decide +kernel)
set_option maxRecDepth 20000 in
theorem gX3_readField_X3_byteAt : GoodIn wsX3_readField (wsV RX3 84 RX3 yX3_byteAt wsX3_byteAt) := goodIn_app (goodIn_of _ (by decide +kernel)) ggX3_readField_X3_byteAt
set_option maxRecDepth 20000 in
theorem ggX3_readField_X3_isDigit : GoodIn wsX3_readField wsX3_isDigit := goodIn_r _ [14] rfl (by decide +kernel)
set_option maxRecDepth 20000 in
theorem gX3_readField_X3_isDigit : GoodIn wsX3_readField (va_wsS RX3 88 yX3_isDigit wsX3_isDigit) := goodIn_app (goodIn_of _ (by decide +kernel)) ggX3_readField_X3_isDigit
set_option maxRecDepth 20000 in
theorem ggX3_readField_X3_fail : GoodIn wsX3_readField wsX3_fail := goodIn_r _ [18, 19, 20, 45, 46, 47, 48, 49, 50, 51, 52, 53, 54, 55, 56, 57] rfl (by decide +kernel)
set_option maxRecDepth 20000 in
theorem gX3_readField_X3_fail : GoodIn wsX3_readField (wsV RX3 92 RX3 yX3_fail wsX3_fail) := goodIn_app (goodIn_of _ (by decide +kernel)) ggX3_readField_X3_fail
set_option maxRecDepth 20000 in
theorem ggX3_readField_X3_skipBlanks : GoodIn wsX3_readField wsX3_skipBlanks := goodIn_r _ [24, 1, 10, 5, 6, 7, 8, 9, 11, 45, 46, 47, 48, 49, 50, 51, 52, 53, 54, 55, 56, 57] rfl (by decide +kernel)
set_option maxRecDepth 20000 in
theorem gX3_readField_X3_skipBlanks : GoodIn wsX3_readField (wsV RX3 68 RX3 yX3_skipBlanks wsX3_skipBlanks) := goodIn_app (goodIn_of _ (by decide +kernel)) ggX3_readField_X3_skipBlanks
set_option maxRecDepth 20000 in
theorem ggX3_readField_X3_readNumber : GoodIn wsX3_readField wsX3_readNumber := goodIn_r _ [28, 1, 10, 29, 30, 31, 32, 33, 34, 35, 36, 5, 6, 7, 8, 9, 11, 12, 13, 14, 45, 46, 47, 48, 49, 50, 51, 52, 53, 54, 55, 56, 57] rfl (by decide +kernel)
set_option maxRecDepth 20000 in
theorem gX3_readField_X3_readNumber : GoodIn wsX3_readField (wsV RX3 96 RX3 yX3_readNumber wsX3_readNumber) := goodIn_app (goodIn_of _ (by decide +kernel)) ggX3_readField_X3_readNumber
set_option maxRecDepth 20000 in
theorem ggX3_readField_X3_expect : GoodIn wsX3_readField wsX3_expect := goodIn_r _ [40, 1, 41, 42, 43, 8, 44, 21, 22, 23, 24, 10, 5, 6, 7, 9, 11, 15, 16, 17, 18, 19, 20, 45, 46, 47, 48, 49, 50, 51, 52, 53, 54, 55, 56, 57] rfl (by decide +kernel)
set_option maxRecDepth 20000 in
theorem gX3_readField_X3_expect : GoodIn wsX3_readField (wsV RX3 103 RX3 yX3_expect wsX3_expect) := goodIn_app (goodIn_of _ (by decide +kernel)) ggX3_readField_X3_expect
set_option maxRecDepth 20000 in
theorem ggX3_readCurve_X3_standsWord : GoodIn wsX3_readCurve wsX3_standsWord := goodIn_r _ [9, 1, 10, 11, 12, 8, 13, 14, 15, 16, 17, 18, 19, 20, 21, 22, 23, 24, 25, 26, 27, 28, 29, 30, 31, 32, 33, 34, 35, 36, 37, 38, 39, 40, 41, 42, 43, 44, 45, 46, 47, 48, 49, 50, 51, 52, 53, 54, 55, 56, 57, 58, 59, 60, 61, 62, 63, 64, 65, 66, 67, 68, 192, 193, 194, 195, 196, 197, 198, 199, 200, 201, 202, 203, 204, 209, 210, 211, 212] rfl (by decide +kernel)
set_option maxRecDepth 20000 in
theorem gX3_readCurve_X3_standsWord : GoodIn wsX3_readCurve (wsV RX3 73 RX3 yX3_standsWord wsX3_standsWord) := goodIn_app (goodIn_of _ (by decide +kernel)) ggX3_readCurve_X3_standsWord
set_option maxRecDepth 20000 in
theorem ggX3_readCurve_X3_fail : GoodIn wsX3_readCurve wsX3_fail := goodIn_r _ [72, 73, 74, 192, 193, 194, 195, 196, 197, 198, 199, 200, 201, 202, 203, 204] rfl (by decide +kernel)
set_option maxRecDepth 20000 in
theorem gX3_readCurve_X3_fail : GoodIn wsX3_readCurve (wsV RX3 92 RX3 yX3_fail wsX3_fail) := goodIn_app (goodIn_of _ (by decide +kernel)) ggX3_readCurve_X3_fail
set_option maxRecDepth 20000 in
theorem ggX3_readCurve_X3_skipBlanks : GoodIn wsX3_readCurve wsX3_skipBlanks := goodIn_r _ [78, 1, 14, 15, 16, 17, 8, 18, 19, 192, 193, 194, 195, 196, 197, 198, 199, 200, 201, 202, 203, 204] rfl (by decide +kernel)
set_option maxRecDepth 20000 in
theorem gX3_readCurve_X3_skipBlanks : GoodIn wsX3_readCurve (wsV RX3 68 RX3 yX3_skipBlanks wsX3_skipBlanks) := goodIn_app (goodIn_of _ (by decide +kernel)) ggX3_readCurve_X3_skipBlanks
set_option maxRecDepth 20000 in
theorem ggX3_readCurve_X3_readName : GoodIn wsX3_readCurve wsX3_readName := goodIn_r _ [82, 1, 2, 10, 11, 12, 8, 13, 14, 15, 16, 17, 18, 19, 5, 6, 7, 9, 20, 21, 22, 23, 24, 25, 26, 27, 28, 29, 30, 31, 32, 33, 34, 35, 36, 37, 38, 39, 40, 41, 42, 43, 44, 45, 46, 47, 48, 49, 50, 51, 52, 53, 54, 55, 56, 57, 58, 59, 60, 61, 62, 63, 64, 65, 66, 67, 68, 69, 70, 71, 72, 73, 74, 83, 84, 85, 86, 87, 88, 89, 90, 91, 92, 93, 3, 192, 193, 194, 195, 196, 197, 198, 199, 200, 201, 202, 203, 204, 209, 210, 211, 212, 205, 206, 207, 208] rfl (by decide +kernel)
set_option maxRecDepth 20000 in
theorem gX3_readCurve_X3_readName : GoodIn wsX3_readCurve (wsV RX3 108 RX3 yX3_readName wsX3_readName) := goodIn_app (goodIn_of _ (by decide +kernel)) ggX3_readCurve_X3_readName
set_option maxRecDepth 20000 in
theorem ggX3_readCurve_X3_expect : GoodIn wsX3_readCurve wsX3_expect := goodIn_r _ [97, 1, 98, 99, 100, 8, 101, 75, 76, 77, 78, 14, 15, 16, 17, 18, 19, 69, 70, 71, 72, 73, 74, 192, 193, 194, 195, 196, 197, 198, 199, 200, 201, 202, 203, 204] rfl (by decide +kernel)
set_option maxRecDepth 20000 in
theorem gX3_readCurve_X3_expect : GoodIn wsX3_readCurve (wsV RX3 103 RX3 yX3_expect wsX3_expect) := goodIn_app (goodIn_of _ (by decide +kernel)) ggX3_readCurve_X3_expect
set_option maxRecDepth 20000 in
theorem ggX3_readCurve_X3_readSum : GoodIn wsX3_readCurve wsX3_readSum := goodIn_r _ [105, 14, 1, 106, 107, 4, 108, 109, 110, 111, 8, 112, 113, 114, 115, 116, 117, 118, 119, 98, 99, 100, 101, 75, 76, 77, 78, 15, 16, 17, 18, 19, 69, 70, 71, 72, 73, 74, 120, 121, 122, 123, 2, 124, 125, 126, 127, 128, 129, 130, 131, 132, 133, 134, 135, 136, 137, 138, 139, 140, 141, 142, 5, 6, 7, 9, 10, 11, 12, 13, 20, 21, 22, 23, 24, 25, 26, 27, 28, 29, 30, 31, 32, 33, 34, 35, 36, 37, 38, 39, 40, 41, 42, 43, 44, 45, 46, 47, 48, 49, 50, 51, 52, 53, 54, 55, 56, 57, 58, 59, 60, 61, 62, 63, 64, 65, 66, 67, 68, 143, 144, 145, 146, 147, 148, 149, 150, 151, 152, 153, 154, 155, 156, 157, 158, 159, 160, 161, 162, 163, 164, 165, 166, 167, 168, 169, 170, 171, 172, 173, 174, 175, 176, 177, 178, 179, 180, 181, 182, 183, 184, 185, 186, 187, 188, 189, 190, 191, 192, 193, 194, 195, 196, 197, 198, 199, 200, 201, 202, 203, 204, 213, 205, 206, 207, 208, 209, 210, 211, 212] rfl (by decide +kernel)
set_option maxRecDepth 20000 in
theorem gX3_readCurve_X3_readSum : GoodIn wsX3_readCurve (wsV RX3 111 RX3 yX3_readSum wsX3_readSum) := goodIn_app (goodIn_of _ (by decide +kernel)) ggX3_readCurve_X3_readSum
set_option maxRecDepth 20000 in
theorem ggX3_readCurve_X2_top : GoodIn wsX3_readCurve wsX2_top := goodIn_r _ [163, 119, 164, 165, 137, 166, 213] rfl (by decide +kernel)
set_option maxRecDepth 20000 in
theorem gX3_readCurve_X2_top : GoodIn wsX3_readCurve (wsV RX3 114 RX2 yX2_top wsX2_top) := goodIn_app (goodIn_of _ (by decide +kernel)) ggX3_readCurve_X2_top
set_option maxRecDepth 20000 in
theorem ggX3_readCurve_X2_copy : GoodIn wsX3_readCurve wsX2_copy := goodIn_r _ [179, 119, 180, 181, 182, 183, 213] rfl (by decide +kernel)
set_option maxRecDepth 20000 in
theorem gX3_readCurve_X2_copy : GoodIn wsX3_readCurve (wsV RX3 120 RX2 yX2_copy wsX2_copy) := goodIn_app (goodIn_of _ (by decide +kernel)) ggX3_readCurve_X2_copy
set_option maxRecDepth 20000 in
theorem ggX3_readName_X3_wordEnd : GoodIn wsX3_readName wsX3_wordEnd := goodIn_r _ [7, 8, 9, 10, 11, 6, 12, 13, 85, 86, 87, 88, 89, 90, 91, 92, 93, 94, 95, 96, 97] rfl (by decide +kernel)
set_option maxRecDepth 20000 in
theorem gX3_readName_X3_wordEnd : GoodIn wsX3_readName (wsV RX3 124 RX3 yX3_wordEnd wsX3_wordEnd) := goodIn_app (goodIn_of _ (by decide +kernel)) ggX3_readName_X3_wordEnd
set_option maxRecDepth 20000 in
theorem ggX3_readName_X3_standsWord : GoodIn wsX3_readName wsX3_standsWord := goodIn_r _ [17, 1, 3, 4, 5, 6, 7, 8, 9, 10, 11, 12, 13, 18, 19, 20, 21, 22, 23, 24, 25, 26, 27, 28, 29, 30, 31, 32, 33, 34, 35, 36, 37, 38, 39, 40, 41, 42, 43, 44, 45, 46, 47, 48, 49, 50, 51, 52, 53, 54, 55, 56, 57, 58, 59, 60, 61, 62, 63, 64, 65, 66, 85, 86, 87, 88, 89, 90, 91, 92, 93, 94, 95, 96, 97, 98, 99, 100, 101] rfl (by decide +kernel)
set_option maxRecDepth 20000 in
theorem gX3_readName_X3_standsWord : GoodIn wsX3_readName (wsV RX3 73 RX3 yX3_standsWord wsX3_standsWord) := goodIn_app (goodIn_of _ (by decide +kernel)) ggX3_readName_X3_standsWord
set_option maxRecDepth 20000 in
theorem ggX3_readName_X3_fail : GoodIn wsX3_readName wsX3_fail := goodIn_r _ [70, 71, 72, 85, 86, 87, 88, 89, 90, 91, 92, 93, 94, 95, 96, 97] rfl (by decide +kernel)
set_option maxRecDepth 20000 in
theorem gX3_readName_X3_fail : GoodIn wsX3_readName (wsV RX3 92 RX3 yX3_fail wsX3_fail) := goodIn_app (goodIn_of _ (by decide +kernel)) ggX3_readName_X3_fail
set_option maxRecDepth 20000 in
theorem ggX3_readName_X3_byteAt : GoodIn wsX3_readName wsX3_byteAt := goodIn_r _ [12, 8, 13, 85, 86, 87, 88, 89, 90, 91, 92, 93, 94, 95, 96, 97] rfl (by decide +kernel)
set_option maxRecDepth 20000 in
theorem gX3_readName_X3_byteAt : GoodIn wsX3_readName (wsV RX3 84 RX3 yX3_byteAt wsX3_byteAt) := goodIn_app (goodIn_of _ (by decide +kernel)) ggX3_readName_X3_byteAt
set_option maxRecDepth 20000 in
theorem ggX3_readName_X7_setLetter : GoodIn wsX3_readName wsX7_setLetter := goodIn_r _ [77, 78, 79, 102, 103, 104, 105] rfl (by decide +kernel)
set_option maxRecDepth 20000 in
theorem gX3_readName_X7_setLetter : GoodIn wsX3_readName (wsV RX3 131 RX7 yX7_setLetter wsX7_setLetter) := goodIn_app (goodIn_of _ (by decide +kernel)) ggX3_readName_X7_setLetter
set_option maxRecDepth 20000 in
theorem ggX3_readName_X3_isNameTaken : GoodIn wsX3_readName wsX3_isNameTaken := goodIn_r _ [83, 2, 84, 85, 86, 87, 88, 89, 90, 91, 92, 93, 94, 95, 96, 97, 102, 103, 104, 105] rfl (by decide +kernel)
set_option maxRecDepth 20000 in
theorem gX3_readName_X3_isNameTaken : GoodIn wsX3_readName (wsV RX3 135 RX3 yX3_isNameTaken wsX3_isNameTaken) := goodIn_app (goodIn_of _ (by decide +kernel)) ggX3_readName_X3_isNameTaken
set_option maxRecDepth 20000 in
theorem ggX3_readSum_X3_begin : GoodIn wsX3_readSum wsX3_begin := goodIn_r _ [11, 5, 12, 6, 13, 14, 15, 16, 17, 18, 19, 20, 21, 10, 22, 2, 23, 24, 25, 26, 1, 27, 28, 29, 30, 31, 168, 169, 170, 171, 172, 173, 174, 175, 176, 177, 178, 179, 180, 181] rfl (by decide +kernel)
set_option maxRecDepth 20000 in
theorem gX3_readSum_X3_begin : GoodIn wsX3_readSum (wsV RX3 141 RX3 yX3_begin wsX3_begin) := goodIn_app (goodIn_of _ (by decide +kernel)) ggX3_readSum_X3_begin
set_option maxRecDepth 20000 in
theorem ggX3_readSum_X3_skipBlanks : GoodIn wsX3_readSum wsX3_skipBlanks := goodIn_r _ [26, 2, 1, 27, 28, 29, 10, 30, 31, 168, 169, 170, 171, 172, 173, 174, 175, 176, 177, 178, 179, 180] rfl (by decide +kernel)
set_option maxRecDepth 20000 in
theorem gX3_readSum_X3_skipBlanks : GoodIn wsX3_readSum (wsV RX3 68 RX3 yX3_skipBlanks wsX3_skipBlanks) := goodIn_app (goodIn_of _ (by decide +kernel)) ggX3_readSum_X3_skipBlanks
set_option maxRecDepth 20000 in
theorem ggX3_readSum_X3_take : GoodIn wsX3_readSum wsX3_take := goodIn_r _ [22, 2, 23, 24, 25, 10, 26, 1, 27, 28, 29, 30, 31, 168, 169, 170, 171, 172, 173, 174, 175, 176, 177, 178, 179, 180] rfl (by decide +kernel)
set_option maxRecDepth 20000 in
theorem gX3_readSum_X3_take : GoodIn wsX3_readSum (wsV RX3 145 RX3 yX3_take wsX3_take) := goodIn_app (goodIn_of _ (by decide +kernel)) ggX3_readSum_X3_take
set_option maxRecDepth 20000 in
theorem ggX3_readSum_X3_fail : GoodIn wsX3_readSum wsX3_fail := goodIn_r _ [35, 36, 37, 168, 169, 170, 171, 172, 173, 174, 175, 176, 177, 178, 179, 180] rfl (by decide +kernel)
set_option maxRecDepth 20000 in
theorem gX3_readSum_X3_fail : GoodIn wsX3_readSum (wsV RX3 92 RX3 yX3_fail wsX3_fail) := goodIn_app (goodIn_of _ (by decide +kernel)) ggX3_readSum_X3_fail
set_option maxRecDepth 20000 in
theorem ggX3_readSum_X3_readAtom : GoodIn wsX3_readSum wsX3_readAtom := goodIn_r _ [41, 2, 4, 42, 43, 27, 28, 29, 10, 30, 1, 31, 44, 45, 46, 47, 48, 49, 50, 51, 52, 53, 54, 55, 56, 57, 58, 59, 60, 61, 13, 14, 15, 16, 17, 18, 32, 33, 34, 35, 36, 37, 62, 63, 64, 65, 66, 67, 68, 69, 70, 71, 72, 73, 74, 75, 76, 77, 78, 79, 80, 81, 82, 83, 84, 85, 86, 87, 88, 89, 90, 91, 92, 93, 94, 95, 96, 97, 98, 99, 100, 101, 102, 103, 104, 105, 106, 107, 108, 109, 110, 111, 112, 113, 114, 115, 116, 117, 118, 119, 120, 121, 122, 123, 124, 125, 168, 169, 170, 171, 172, 173, 174, 175, 176, 177, 178, 179, 180, 182, 183, 184, 185, 181, 186, 187, 188, 189] rfl (by decide +kernel)
set_option maxRecDepth 20000 in
theorem gX3_readSum_X3_readAtom : GoodIn wsX3_readSum (wsV RX3 148 RX3 yX3_readAtom wsX3_readAtom) := goodIn_app (goodIn_of _ (by decide +kernel)) ggX3_readSum_X3_readAtom
set_option maxRecDepth 20000 in
theorem ggX3_readSum_X3_readFactor : GoodIn wsX3_readSum wsX3_readFactor := goodIn_r _ [129, 2, 130, 4, 12, 19, 20, 21, 10, 22, 23, 24, 25, 26, 1, 27, 28, 29, 30, 31, 44, 45, 46, 32, 33, 34, 35, 36, 37, 47, 48, 49, 50, 51, 52, 53, 54, 55, 56, 57, 58, 13, 14, 15, 16, 17, 18, 131, 132, 133, 134, 135, 42, 43, 136, 137, 138, 139, 140, 141, 142, 143, 144, 145, 146, 147, 148, 149, 150, 151, 152, 153, 154, 155, 156, 157, 158, 159, 168, 169, 170, 171, 172, 173, 174, 175, 176, 177, 178, 179, 180, 181, 182, 183, 184, 185] rfl (by decide +kernel)
set_option maxRecDepth 20000 in
theorem gX3_readSum_X3_readFactor : GoodIn wsX3_readSum (wsV RX3 151 RX3 yX3_readFactor wsX3_readFactor) := goodIn_app (goodIn_of _ (by decide +kernel)) ggX3_readSum_X3_readFactor
set_option maxRecDepth 20000 in
theorem ggX3_readSum_X3_closeTerm : GoodIn wsX3_readSum wsX3_closeTerm := goodIn_r _ [163, 5, 12, 6, 42, 43, 164, 165, 166, 16, 167, 148, 149, 150, 151, 18, 13, 14, 15, 17, 168, 169, 170, 171, 172, 173, 174, 175, 176, 177, 178, 179, 180, 182, 183, 184, 185, 181] rfl (by decide +kernel)
set_option maxRecDepth 20000 in
theorem gX3_readSum_X3_closeTerm : GoodIn wsX3_readSum (wsV RX3 154 RX3 yX3_closeTerm wsX3_closeTerm) := goodIn_app (goodIn_of _ (by decide +kernel)) ggX3_readSum_X3_closeTerm
set_option maxRecDepth 20000 in
theorem ggX3_readSum_X2_copy : GoodIn wsX3_readSum wsX2_copy := goodIn_r _ [155, 18, 156, 157, 158, 159, 181] rfl (by decide +kernel)
set_option maxRecDepth 20000 in
theorem gX3_readSum_X2_copy : GoodIn wsX3_readSum (wsV RX3 120 RX2 yX2_copy wsX2_copy) := goodIn_app (goodIn_of _ (by decide +kernel)) ggX3_readSum_X2_copy
set_option maxRecDepth 20000 in
theorem ggX3_begin_X2_setTo : GoodIn wsX3_begin wsX2_setTo := goodIn_r _ [8, 9, 39] rfl (by decide +kernel)
set_option maxRecDepth 20000 in
theorem gX3_begin_X2_setTo : GoodIn wsX3_begin (wsV RX3 157 RX2 yX2_setTo wsX2_setTo) := goodIn_app (goodIn_of _ (by decide +kernel)) ggX3_begin_X2_setTo
set_option maxRecDepth 20000 in
theorem ggX3_begin_X3_take : GoodIn wsX3_begin wsX3_take := goodIn_r _ [14, 15, 16, 17, 18, 13, 19, 20, 21, 22, 23, 24, 25, 26, 27, 28, 29, 30, 31, 32, 33, 34, 35, 36, 37, 38] rfl (by decide +kernel)
set_option maxRecDepth 20000 in
theorem gX3_begin_X3_take : GoodIn wsX3_begin (wsV RX3 145 RX3 yX3_take wsX3_take) := goodIn_app (goodIn_of _ (by decide +kernel)) ggX3_begin_X3_take
set_option maxRecDepth 20000 in
theorem ggX3_closeTerm_X2_add : GoodIn wsX3_closeTerm wsX2_add := goodIn_r _ [10, 11, 12, 13, 9, 14, 15, 37] rfl (by decide +kernel)
set_option maxRecDepth 20000 in
theorem gX3_closeTerm_X2_add : GoodIn wsX3_closeTerm (wsV RX3 160 RX2 yX2_add wsX2_add) := goodIn_app (goodIn_of _ (by decide +kernel)) ggX3_closeTerm_X2_add
set_option maxRecDepth 20000 in
theorem ggX3_closeTerm_X2_setTo : GoodIn wsX3_closeTerm wsX2_setTo := goodIn_r _ [19, 15, 37] rfl (by decide +kernel)
set_option maxRecDepth 20000 in
theorem gX3_closeTerm_X2_setTo : GoodIn wsX3_closeTerm (wsV RX3 157 RX2 yX2_setTo wsX2_setTo) := goodIn_app (goodIn_of _ (by decide +kernel)) ggX3_closeTerm_X2_setTo
set_option maxRecDepth 20000 in
theorem ggX3_readFactor_X3_take : GoodIn wsX3_readFactor wsX3_take := goodIn_r _ [9, 1, 10, 11, 12, 8, 13, 14, 15, 16, 17, 18, 19, 78, 79, 80, 81, 82, 83, 84, 85, 86, 87, 88, 89, 90] rfl (by decide +kernel)
set_option maxRecDepth 20000 in
theorem gX3_readFactor_X3_take : GoodIn wsX3_readFactor (wsV RX3 145 RX3 yX3_take wsX3_take) := goodIn_app (goodIn_of _ (by decide +kernel)) ggX3_readFactor_X3_take
set_option maxRecDepth 20000 in
theorem ggX3_readFactor_X3_skipBlanks : GoodIn wsX3_readFactor wsX3_skipBlanks := goodIn_r _ [13, 1, 14, 15, 16, 17, 8, 18, 19, 78, 79, 80, 81, 82, 83, 84, 85, 86, 87, 88, 89, 90] rfl (by decide +kernel)
set_option maxRecDepth 20000 in
theorem gX3_readFactor_X3_skipBlanks : GoodIn wsX3_readFactor (wsV RX3 68 RX3 yX3_skipBlanks wsX3_skipBlanks) := goodIn_app (goodIn_of _ (by decide +kernel)) ggX3_readFactor_X3_skipBlanks
set_option maxRecDepth 20000 in
theorem ggX3_readFactor_X3_byteAt : GoodIn wsX3_readFactor wsX3_byteAt := goodIn_r _ [18, 14, 19, 78, 79, 80, 81, 82, 83, 84, 85, 86, 87, 88, 89, 90] rfl (by decide +kernel)
set_option maxRecDepth 20000 in
theorem gX3_readFactor_X3_byteAt : GoodIn wsX3_readFactor (wsV RX3 84 RX3 yX3_byteAt wsX3_byteAt) := goodIn_app (goodIn_of _ (by decide +kernel)) ggX3_readFactor_X3_byteAt
set_option maxRecDepth 20000 in
theorem ggX3_readFactor_X3_isDigit : GoodIn wsX3_readFactor wsX3_isDigit := goodIn_r _ [22] rfl (by decide +kernel)
set_option maxRecDepth 20000 in
theorem gX3_readFactor_X3_isDigit : GoodIn wsX3_readFactor (va_wsS RX3 88 yX3_isDigit wsX3_isDigit) := goodIn_app (goodIn_of _ (by decide +kernel)) ggX3_readFactor_X3_isDigit
set_option maxRecDepth 20000 in
theorem ggX3_readFactor_X3_fail : GoodIn wsX3_readFactor wsX3_fail := goodIn_r _ [26, 27, 28, 78, 79, 80, 81, 82, 83, 84, 85, 86, 87, 88, 89, 90] rfl (by decide +kernel)
set_option maxRecDepth 20000 in
theorem gX3_readFactor_X3_fail : GoodIn wsX3_readFactor (wsV RX3 92 RX3 yX3_fail wsX3_fail) := goodIn_app (goodIn_of _ (by decide +kernel)) ggX3_readFactor_X3_fail
set_option maxRecDepth 20000 in
theorem ggX3_readFactor_X3_readNumber : GoodIn wsX3_readFactor wsX3_readNumber := goodIn_r _ [32, 1, 14, 33, 34, 35, 36, 37, 38, 39, 40, 15, 16, 17, 8, 18, 19, 20, 21, 22, 78, 79, 80, 81, 82, 83, 84, 85, 86, 87, 88, 89, 90] rfl (by decide +kernel)
set_option maxRecDepth 20000 in
theorem gX3_readFactor_X3_readNumber : GoodIn wsX3_readFactor (wsV RX3 96 RX3 yX3_readNumber wsX3_readNumber) := goodIn_app (goodIn_of _ (by decide +kernel)) ggX3_readFactor_X3_readNumber
set_option maxRecDepth 20000 in
theorem ggX3_readFactor_X2_setTo : GoodIn wsX3_readFactor wsX2_setTo := goodIn_r _ [45, 46, 91] rfl (by decide +kernel)
set_option maxRecDepth 20000 in
theorem gX3_readFactor_X2_setTo : GoodIn wsX3_readFactor (wsV RX3 157 RX2 yX2_setTo wsX2_setTo) := goodIn_app (goodIn_of _ (by decide +kernel)) ggX3_readFactor_X2_setTo
set_option maxRecDepth 20000 in
theorem ggX3_readFactor_X3_multiply : GoodIn wsX3_readFactor wsX3_multiply := goodIn_r _ [50, 51, 52, 53, 54, 55, 56, 44, 57, 46, 58, 59, 38, 60, 61, 62, 63, 64, 65, 42, 43, 45, 66, 67, 68, 69, 70, 71, 72, 73, 74, 75, 76, 77, 78, 79, 80, 81, 82, 83, 84, 85, 86, 87, 88, 89, 90, 92, 93, 94, 95, 91] rfl (by decide +kernel)
set_option maxRecDepth 20000 in
theorem gX3_readFactor_X3_multiply : GoodIn wsX3_readFactor (wsV RX3 164 RX3 yX3_multiply wsX3_multiply) := goodIn_app (goodIn_of _ (by decide +kernel)) ggX3_readFactor_X3_multiply
set_option maxRecDepth 20000 in
theorem ggX3_readAtom_X3_byteAt : GoodIn wsX3_readAtom wsX3_byteAt := goodIn_r _ [9, 10, 11, 106, 107, 108, 109, 110, 111, 112, 113, 114, 115, 116, 117, 118] rfl (by decide +kernel)
set_option maxRecDepth 20000 in
theorem gX3_readAtom_X3_byteAt : GoodIn wsX3_readAtom (wsV RX3 84 RX3 yX3_byteAt wsX3_byteAt) := goodIn_app (goodIn_of _ (by decide +kernel)) ggX3_readAtom_X3_byteAt
set_option maxRecDepth 20000 in
theorem ggX3_readAtom_X3_isDigit : GoodIn wsX3_readAtom wsX3_isDigit := goodIn_r _ [14] rfl (by decide +kernel)
set_option maxRecDepth 20000 in
theorem gX3_readAtom_X3_isDigit : GoodIn wsX3_readAtom (va_wsS RX3 88 yX3_isDigit wsX3_isDigit) := goodIn_app (goodIn_of _ (by decide +kernel)) ggX3_readAtom_X3_isDigit
set_option maxRecDepth 20000 in
theorem ggX3_readAtom_X3_readNumber : GoodIn wsX3_readAtom wsX3_readNumber := goodIn_r _ [18, 1, 10, 19, 20, 21, 22, 23, 24, 25, 26, 5, 6, 7, 8, 9, 11, 12, 13, 14, 106, 107, 108, 109, 110, 111, 112, 113, 114, 115, 116, 117, 118] rfl (by decide +kernel)
set_option maxRecDepth 20000 in
theorem gX3_readAtom_X3_readNumber : GoodIn wsX3_readAtom (wsV RX3 96 RX3 yX3_readNumber wsX3_readNumber) := goodIn_app (goodIn_of _ (by decide +kernel)) ggX3_readAtom_X3_readNumber
set_option maxRecDepth 20000 in
theorem ggX3_readAtom_X11_mod : GoodIn wsX3_readAtom wsX11_mod := goodIn_r _ [29] rfl (by decide +kernel)
set_option maxRecDepth 20000 in
theorem gX3_readAtom_X11_mod_n168 : GoodIn wsX3_readAtom (wsX11_mod) := ggX3_readAtom_X11_mod
set_option maxRecDepth 20000 in
theorem ggX3_readAtom_X2_setTo : GoodIn wsX3_readAtom wsX2_setTo := goodIn_r _ [34, 35, 123] rfl (by decide +kernel)
set_option maxRecDepth 20000 in
theorem gX3_readAtom_X2_setTo : GoodIn wsX3_readAtom (wsV RX3 157 RX2 yX2_setTo wsX2_setTo) := goodIn_app (goodIn_of _ (by decide +kernel)) ggX3_readAtom_X2_setTo
set_option maxRecDepth 20000 in
theorem ggX3_readAtom_X3_fail : GoodIn wsX3_readAtom wsX3_fail := goodIn_r _ [39, 40, 41, 106, 107, 108, 109, 110, 111, 112, 113, 114, 115, 116, 117, 118] rfl (by decide +kernel)
set_option maxRecDepth 20000 in
theorem gX3_readAtom_X3_fail : GoodIn wsX3_readAtom (wsV RX3 92 RX3 yX3_fail wsX3_fail) := goodIn_app (goodIn_of _ (by decide +kernel)) ggX3_readAtom_X3_fail
set_option maxRecDepth 20000 in
theorem ggX3_readAtom_X3_standsWord : GoodIn wsX3_readAtom wsX3_standsWord := goodIn_r _ [45, 1, 46, 47, 48, 8, 49, 10, 5, 6, 7, 9, 11, 50, 51, 52, 53, 54, 55, 56, 57, 58, 59, 60, 61, 62, 63, 64, 65, 66, 67, 68, 69, 70, 71, 72, 73, 74, 75, 76, 77, 78, 79, 80, 81, 82, 83, 84, 85, 86, 87, 88, 89, 90, 91, 92, 93, 94, 95, 96, 97, 98, 106, 107, 108, 109, 110, 111, 112, 113, 114, 115, 116, 117, 118, 124, 125, 126, 127] rfl (by decide +kernel)
set_option maxRecDepth 20000 in
theorem gX3_readAtom_X3_standsWord : GoodIn wsX3_readAtom (wsV RX3 73 RX3 yX3_standsWord wsX3_standsWord) := goodIn_app (goodIn_of _ (by decide +kernel)) ggX3_readAtom_X3_standsWord
set_option maxRecDepth 20000 in
theorem ggX3_readAtom_X2_put : GoodIn wsX3_readAtom wsX2_put := goodIn_r _ [102, 35, 103, 104, 33, 105, 123] rfl (by decide +kernel)
set_option maxRecDepth 20000 in
theorem gX3_readAtom_X2_put : GoodIn wsX3_readAtom (wsV RX3 172 RX2 yX2_put wsX2_put) := goodIn_app (goodIn_of _ (by decide +kernel)) ggX3_readAtom_X2_put
set_option maxRecDepth 20000 in
theorem ggX3_readNumber_X3_byteAt : GoodIn wsX3_readNumber wsX3_byteAt := goodIn_r _ [15, 2, 16, 20, 21, 22, 23, 24, 25, 26, 27, 28, 29, 30, 31, 32] rfl (by decide +kernel)
set_option maxRecDepth 20000 in
theorem gX3_readNumber_X3_byteAt : GoodIn wsX3_readNumber (wsV RX3 84 RX3 yX3_byteAt wsX3_byteAt) := goodIn_app (goodIn_of _ (by decide +kernel)) ggX3_readNumber_X3_byteAt
set_option maxRecDepth 20000 in
theorem ggX3_readNumber_X3_isDigit : GoodIn wsX3_readNumber wsX3_isDigit := goodIn_r _ [19] rfl (by decide +kernel)
set_option maxRecDepth 20000 in
theorem gX3_readNumber_X3_isDigit : GoodIn wsX3_readNumber (va_wsS RX3 88 yX3_isDigit wsX3_isDigit) := goodIn_app (goodIn_of _ (by decide +kernel)) ggX3_readNumber_X3_isDigit
set_option maxRecDepth 20000 in
theorem ggX3_multiply_X2_top : GoodIn wsX3_multiply wsX2_top := goodIn_r _ [8, 9, 10, 11, 12, 13, 51] rfl (by decide +kernel)
set_option maxRecDepth 20000 in
theorem gX3_multiply_X2_top : GoodIn wsX3_multiply (wsV RX3 114 RX2 yX2_top wsX2_top) := goodIn_app (goodIn_of _ (by decide +kernel)) ggX3_multiply_X2_top
set_option maxRecDepth 20000 in
theorem ggX3_multiply_X2_product : GoodIn wsX3_multiply wsX2_product := goodIn_r _ [17, 9, 18, 19, 20, 7, 21, 22, 23, 24, 25, 51] rfl (by decide +kernel)
set_option maxRecDepth 20000 in
theorem gX3_multiply_X2_product : GoodIn wsX3_multiply (wsV RX3 190 RX2 yX2_product wsX2_product) := goodIn_app (goodIn_of _ (by decide +kernel)) ggX3_multiply_X2_product
set_option maxRecDepth 20000 in
theorem ggX3_multiply_X2_copy : GoodIn wsX3_multiply wsX2_copy := goodIn_r _ [29, 9, 30, 31, 32, 33, 51] rfl (by decide +kernel)
set_option maxRecDepth 20000 in
theorem gX3_multiply_X2_copy : GoodIn wsX3_multiply (wsV RX3 120 RX2 yX2_copy wsX2_copy) := goodIn_app (goodIn_of _ (by decide +kernel)) ggX3_multiply_X2_copy
set_option maxRecDepth 20000 in
theorem ggX3_expect_X3_take : GoodIn wsX3_expect wsX3_take := goodIn_r _ [6, 1, 7, 8, 9, 5, 10, 11, 12, 13, 14, 15, 16, 23, 24, 25, 26, 27, 28, 29, 30, 31, 32, 33, 34, 35] rfl (by decide +kernel)
set_option maxRecDepth 20000 in
theorem gX3_expect_X3_take : GoodIn wsX3_expect (wsV RX3 145 RX3 yX3_take wsX3_take) := goodIn_app (goodIn_of _ (by decide +kernel)) ggX3_expect_X3_take
set_option maxRecDepth 20000 in
theorem ggX3_expect_X3_fail : GoodIn wsX3_expect wsX3_fail := goodIn_r _ [20, 21, 22, 23, 24, 25, 26, 27, 28, 29, 30, 31, 32, 33, 34, 35] rfl (by decide +kernel)
set_option maxRecDepth 20000 in
theorem gX3_expect_X3_fail : GoodIn wsX3_expect (wsV RX3 92 RX3 yX3_fail wsX3_fail) := goodIn_app (goodIn_of _ (by decide +kernel)) ggX3_expect_X3_fail
set_option maxRecDepth 20000 in
theorem ggX3_take_X3_skipBlanks : GoodIn wsX3_take wsX3_skipBlanks := goodIn_r _ [6, 1, 7, 8, 9, 10, 5, 11, 12, 13, 14, 15, 16, 17, 18, 19, 20, 21, 22, 23, 24, 25] rfl (by decide +kernel)
set_option maxRecDepth 20000 in
theorem gX3_take_X3_skipBlanks : GoodIn wsX3_take (wsV RX3 68 RX3 yX3_skipBlanks wsX3_skipBlanks) := goodIn_app (goodIn_of _ (by decide +kernel)) ggX3_take_X3_skipBlanks
set_option maxRecDepth 20000 in
theorem ggX3_take_X3_byteAt : GoodIn wsX3_take wsX3_byteAt := goodIn_r _ [11, 7, 12, 13, 14, 15, 16, 17, 18, 19, 20, 21, 22, 23, 24, 25] rfl (by decide +kernel)
set_option maxRecDepth 20000 in
theorem gX3_take_X3_byteAt : GoodIn wsX3_take (wsV RX3 84 RX3 yX3_byteAt wsX3_byteAt) := goodIn_app (goodIn_of _ (by decide +kernel)) ggX3_take_X3_byteAt
set_option maxRecDepth 20000 in
theorem ggX3_skipBlanks_X3_byteAt : GoodIn wsX3_skipBlanks wsX3_byteAt := goodIn_r _ [7, 2, 8, 9, 10, 11, 12, 13, 14, 15, 16, 17, 18, 19, 20, 21] rfl (by decide +kernel)
set_option maxRecDepth 20000 in
theorem gX3_skipBlanks_X3_byteAt : GoodIn wsX3_skipBlanks (wsV RX3 84 RX3 yX3_byteAt wsX3_byteAt) := goodIn_app (goodIn_of _ (by decide +kernel)) ggX3_skipBlanks_X3_byteAt
set_option maxRecDepth 20000 in
theorem ggX3_standsWord_X3_wordEnd : GoodIn wsX3_standsWord wsX3_wordEnd := goodIn_r _ [6, 7, 8, 9, 10, 5, 11, 12, 62, 63, 64, 65, 66, 67, 68, 69, 70, 71, 72, 73, 74] rfl (by decide +kernel)
set_option maxRecDepth 20000 in
theorem gX3_standsWord_X3_wordEnd : GoodIn wsX3_standsWord (wsV RX3 124 RX3 yX3_wordEnd wsX3_wordEnd) := goodIn_app (goodIn_of _ (by decide +kernel)) ggX3_standsWord_X3_wordEnd
set_option maxRecDepth 20000 in
theorem ggX3_standsWord_J0_length_8abf5 : GoodIn wsX3_standsWord wsJ0_length_8abf5 := goodIn_r _ [17, 18, 19, 20, 21, 16, 22, 23, 24, 75, 76, 77, 78] rfl (by decide +kernel)
set_option maxRecDepth 20000 in
theorem gX3_standsWord_J0_length_8abf5 : GoodIn wsX3_standsWord (wsV RX3 194 RJ0 yJ0_length_8abf5 wsJ0_length_8abf5) := goodIn_app (goodIn_of _ (by decide +kernel)) ggX3_standsWord_J0_length_8abf5
set_option maxRecDepth 20000 in
theorem ggX3_standsWord_X3_byteAt : GoodIn wsX3_standsWord wsX3_byteAt := goodIn_r _ [11, 7, 12, 62, 63, 64, 65, 66, 67, 68, 69, 70, 71, 72, 73, 74] rfl (by decide +kernel)
set_option maxRecDepth 20000 in
theorem gX3_standsWord_X3_byteAt : GoodIn wsX3_standsWord (wsV RX3 84 RX3 yX3_byteAt wsX3_byteAt) := goodIn_app (goodIn_of _ (by decide +kernel)) ggX3_standsWord_X3_byteAt
set_option maxRecDepth 20000 in
theorem ggX3_standsWord_J0_charAt_5068e : GoodIn wsX3_standsWord wsJ0_charAt_5068e := goodIn_r _ [28, 18, 29, 30, 31, 16, 32, 23, 24, 33, 34, 35, 36, 37, 38, 39, 40, 41, 42, 43, 44, 45, 46, 47, 48, 49, 50, 51, 52, 53, 54, 55, 56, 57, 58, 59, 60, 61, 75, 76, 77, 78] rfl (by decide +kernel)
set_option maxRecDepth 20000 in
theorem gX3_standsWord_J0_charAt_5068e : GoodIn wsX3_standsWord (wsV RX3 198 RJ0 yJ0_charAt_5068e wsJ0_charAt_5068e) := goodIn_app (goodIn_of _ (by decide +kernel)) ggX3_standsWord_J0_charAt_5068e
set_option maxRecDepth 20000 in
theorem ggX3_wordEnd_X3_byteAt : GoodIn wsX3_wordEnd wsX3_byteAt := goodIn_r _ [6, 1, 7, 8, 9, 10, 11, 12, 13, 14, 15, 16, 17, 18, 19, 20] rfl (by decide +kernel)
set_option maxRecDepth 20000 in
theorem gX3_wordEnd_X3_byteAt : GoodIn wsX3_wordEnd (wsV RX3 84 RX3 yX3_byteAt wsX3_byteAt) := goodIn_app (goodIn_of _ (by decide +kernel)) ggX3_wordEnd_X3_byteAt
set_option maxRecDepth 20000 in
theorem ggX4_run_X4_load : GoodIn wsX4_run wsX4_load := goodIn_r _ [14, 15, 16, 17, 18, 19, 20, 21, 22, 23, 57] rfl (by decide +kernel)
set_option maxRecDepth 20000 in
theorem gX4_run_X4_load : GoodIn wsX4_run (va_wsS RX4 31 yX4_load wsX4_load) := goodIn_app (goodIn_of _ (by decide +kernel)) ggX4_run_X4_load
set_option maxRecDepth 20000 in
theorem ggX4_run_X4_whichFits : GoodIn wsX4_run wsX4_whichFits := goodIn_r _ [27, 2, 3, 28, 29, 13, 30, 51, 52, 53, 54, 55, 56] rfl (by decide +kernel)
set_option maxRecDepth 20000 in
theorem gX4_run_X4_whichFits : GoodIn wsX4_run (wsV RX4 35 RX4 yX4_whichFits wsX4_whichFits) := goodIn_app (goodIn_of _ (by decide +kernel)) ggX4_run_X4_whichFits
set_option maxRecDepth 20000 in
theorem ggX4_run_X4_leastPure : GoodIn wsX4_run wsX4_leastPure := goodIn_r _ [33] rfl (by decide +kernel)
set_option maxRecDepth 20000 in
theorem gX4_run_X4_leastPure : GoodIn wsX4_run (va_wsS RX4 39 yX4_leastPure wsX4_leastPure) := goodIn_app (goodIn_of _ (by decide +kernel)) ggX4_run_X4_leastPure
set_option maxRecDepth 20000 in
theorem ggX4_run_X4_split : GoodIn wsX4_run wsX4_split := goodIn_r _ [37, 2, 51, 52, 53, 54, 55, 56] rfl (by decide +kernel)
set_option maxRecDepth 20000 in
theorem gX4_run_X4_split : GoodIn wsX4_run (wsV RX4 49 RX4 yX4_split wsX4_split) := goodIn_app (goodIn_of _ (by decide +kernel)) ggX4_run_X4_split
set_option maxRecDepth 20000 in
theorem ggX4_run_X4_swap : GoodIn wsX4_run wsX4_swap := goodIn_r _ [41, 2, 3, 51, 52, 53, 54, 55, 56] rfl (by decide +kernel)
set_option maxRecDepth 20000 in
theorem gX4_run_X4_swap : GoodIn wsX4_run (wsV RX4 52 RX4 yX4_swap wsX4_swap) := goodIn_app (goodIn_of _ (by decide +kernel)) ggX4_run_X4_swap
set_option maxRecDepth 20000 in
theorem ggX4_run_X4_cut : GoodIn wsX4_run wsX4_cut := goodIn_r _ [45, 2, 3, 1, 28, 29, 13, 30, 46, 47, 48, 49, 50, 51, 52, 53, 54, 55, 56] rfl (by decide +kernel)
set_option maxRecDepth 20000 in
theorem gX4_run_X4_cut : GoodIn wsX4_run (wsV RX4 55 RX4 yX4_cut wsX4_cut) := goodIn_app (goodIn_of _ (by decide +kernel)) ggX4_run_X4_cut
set_option maxRecDepth 20000 in
theorem ggX4_load_X2_at : GoodIn wsX4_load wsX2_at := goodIn_r _ [5, 6, 7, 8, 4, 9, 10] rfl (by decide +kernel)
set_option maxRecDepth 20000 in
theorem gX4_load_X2_at : GoodIn wsX4_load (wsV RX4 58 RX2 yX2_at wsX2_at) := goodIn_app (goodIn_of _ (by decide +kernel)) ggX4_load_X2_at
