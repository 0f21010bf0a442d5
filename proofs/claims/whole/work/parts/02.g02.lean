set_option maxRecDepth 20000 in
theorem ggX10_addFar_X2_increase : GoodIn wsX10_addFar wsX2_increase := goodIn_r _ [9, 10, 11, 12, 8, 13, 14, 15, 16, 17, 18, 19, 20, 21, 22, 23, 24, 41] rfl (by decide +kernel)
set_option maxRecDepth 20000 in
theorem gX10_addFar_X2_increase : GoodIn wsX10_addFar (wsV RX10 64 RX2 yX2_increase wsX2_increase) := goodIn_app (goodIn_of _ (by decide +kernel)) ggX10_addFar_X2_increase
set_option maxRecDepth 20000 in
theorem ggX10_addFar_X10_shifted : GoodIn wsX10_addFar wsX10_shifted := goodIn_r _ [29, 30, 3, 31, 16, 8, 17, 32, 19, 33, 34, 18, 20, 38, 39, 40] rfl (by decide +kernel)
set_option maxRecDepth 20000 in
theorem gX10_addFar_X10_shifted : GoodIn wsX10_addFar (wsV RX10 54 RX10 yX10_shifted wsX10_shifted) := goodIn_app (goodIn_of _ (by decide +kernel)) ggX10_addFar_X10_shifted
set_option maxRecDepth 20000 in
theorem ggX10_shifted_X2_fits : GoodIn wsX10_shifted wsX2_fits := goodIn_r _ [6] rfl (by decide +kernel)
set_option maxRecDepth 20000 in
theorem gX10_shifted_X2_fits : GoodIn wsX10_shifted (va_wsS RX10 68 yX2_fits wsX2_fits) := goodIn_app (goodIn_of _ (by decide +kernel)) ggX10_shifted_X2_fits
set_option maxRecDepth 20000 in
theorem ggX10_shifted_X11_power : GoodIn wsX10_shifted wsX11_power := goodIn_r _ [9, 10, 11, 8, 12] rfl (by decide +kernel)
set_option maxRecDepth 20000 in
theorem gX10_shifted_X11_power_n75 : GoodIn wsX10_shifted (wsX11_power) := ggX10_shifted_X11_power
set_option maxRecDepth 20000 in
theorem ggX10_shifted_X11_mod : GoodIn wsX10_shifted wsX11_mod := goodIn_r _ [12] rfl (by decide +kernel)
set_option maxRecDepth 20000 in
theorem gX10_shifted_X11_mod_n58 : GoodIn wsX10_shifted (wsX11_mod) := ggX10_shifted_X11_mod
set_option maxRecDepth 20000 in
theorem ggX10_least_X2_leadAt : GoodIn wsX10_least wsX2_leadAt := goodIn_r _ [6, 7, 8, 9, 10, 11, 15] rfl (by decide +kernel)
set_option maxRecDepth 20000 in
theorem gX10_least_X2_leadAt : GoodIn wsX10_least (wsV RX10 78 RX2 yX2_leadAt wsX2_leadAt) := goodIn_app (goodIn_of _ (by decide +kernel)) ggX10_least_X2_leadAt
set_option maxRecDepth 20000 in
theorem ggX10_oftenTangent_X10_least : GoodIn wsX10_oftenTangent wsX10_least := goodIn_r _ [8, 2, 9, 10, 11, 12, 13, 14, 15, 16, 17, 18, 33, 34, 35, 36] rfl (by decide +kernel)
set_option maxRecDepth 20000 in
theorem gX10_oftenTangent_X10_least : GoodIn wsX10_oftenTangent (wsV RX10 82 RX10 yX10_least wsX10_least) := goodIn_app (goodIn_of _ (by decide +kernel)) ggX10_oftenTangent_X10_least
set_option maxRecDepth 20000 in
theorem ggX10_oftenTangent_X2_at : GoodIn wsX10_oftenTangent wsX2_at := goodIn_r _ [22, 18, 23, 24, 12, 25, 36] rfl (by decide +kernel)
set_option maxRecDepth 20000 in
theorem gX10_oftenTangent_X2_at : GoodIn wsX10_oftenTangent (wsV RX10 34 RX2 yX2_at wsX2_at) := goodIn_app (goodIn_of _ (by decide +kernel)) ggX10_oftenTangent_X2_at
set_option maxRecDepth 20000 in
theorem ggX10_oftenTangent_X10_divideOnce : GoodIn wsX10_oftenTangent wsX10_divideOnce := goodIn_r _ [29, 1, 3, 30, 31, 32, 33, 34, 35] rfl (by decide +kernel)
set_option maxRecDepth 20000 in
theorem gX10_oftenTangent_X10_divideOnce : GoodIn wsX10_oftenTangent (wsV RX10 85 RX10 yX10_divideOnce wsX10_divideOnce) := goodIn_app (goodIn_of _ (by decide +kernel)) ggX10_oftenTangent_X10_divideOnce
set_option maxRecDepth 20000 in
theorem ggX10_divideOnce_X11_mod : GoodIn wsX10_divideOnce wsX11_mod := goodIn_r _ [5] rfl (by decide +kernel)
set_option maxRecDepth 20000 in
theorem gX10_divideOnce_X11_mod_n58 : GoodIn wsX10_divideOnce (wsX11_mod) := ggX10_divideOnce_X11_mod
set_option maxRecDepth 20000 in
theorem ggX10_bendHere_X10_least : GoodIn wsX10_bendHere wsX10_least := goodIn_r _ [7, 1, 8, 9, 10, 11, 12, 13, 14, 15, 16, 17, 31, 32, 33, 34] rfl (by decide +kernel)
set_option maxRecDepth 20000 in
theorem gX10_bendHere_X10_least : GoodIn wsX10_bendHere (wsV RX10 82 RX10 yX10_least wsX10_least) := goodIn_app (goodIn_of _ (by decide +kernel)) ggX10_bendHere_X10_least
set_option maxRecDepth 20000 in
theorem ggX10_bendHere_X2_at : GoodIn wsX10_bendHere wsX2_at := goodIn_r _ [21, 17, 22, 23, 11, 24, 34] rfl (by decide +kernel)
set_option maxRecDepth 20000 in
theorem gX10_bendHere_X2_at : GoodIn wsX10_bendHere (wsV RX10 34 RX2 yX2_at wsX2_at) := goodIn_app (goodIn_of _ (by decide +kernel)) ggX10_bendHere_X2_at
set_option maxRecDepth 20000 in
theorem ggX10_bendHere_X11_mod : GoodIn wsX10_bendHere wsX11_mod := goodIn_r _ [27] rfl (by decide +kernel)
set_option maxRecDepth 20000 in
theorem gX10_bendHere_X11_mod_n58 : GoodIn wsX10_bendHere (wsX11_mod) := ggX10_bendHere_X11_mod
set_option maxRecDepth 20000 in
theorem ggX10_bendHere_X11_power : GoodIn wsX10_bendHere wsX11_power := goodIn_r _ [29, 30, 25, 26, 27] rfl (by decide +kernel)
set_option maxRecDepth 20000 in
theorem gX10_bendHere_X11_power_n75 : GoodIn wsX10_bendHere (wsX11_power) := ggX10_bendHere_X11_power
set_option maxRecDepth 20000 in
theorem ggX11_init_X8_init : GoodIn wsX11_init wsX8_init := goodIn_r _ [49, 50, 2, 3, 51, 44, 52, 53, 54, 55, 56, 57, 166, 167, 168, 169, 170] rfl (by decide +kernel)
set_option maxRecDepth 20000 in
theorem gX11_init_X8_init_n9 : GoodIn wsX11_init (wsX8_init) := ggX11_init_X8_init
set_option maxRecDepth 20000 in
theorem ggX11_init_X3_init : GoodIn wsX11_init wsX3_init := goodIn_r _ [60, 61, 2, 3, 62, 63, 64, 65, 12, 13, 66, 44, 67, 68, 69, 70, 53, 71, 72, 73, 74, 75, 76, 77, 78, 79, 80, 81, 82, 83, 84, 85, 86, 87, 88, 89, 90, 91, 171, 172, 173, 174, 175, 176, 177, 178, 179, 180, 181, 182, 183, 197, 198, 199, 200, 242] rfl (by decide +kernel)
set_option maxRecDepth 20000 in
theorem gX11_init_X3_init : GoodIn wsX11_init (wsX3_init) := ggX11_init_X3_init
set_option maxRecDepth 20000 in
theorem ggX11_init_X7_init : GoodIn wsX11_init wsX7_init := goodIn_r _ [81, 82, 2, 3, 83, 84, 85, 86, 44, 87, 73, 74, 88, 89, 90, 91, 197, 198, 199, 200, 242] rfl (by decide +kernel)
set_option maxRecDepth 20000 in
theorem gX11_init_X7_init : GoodIn wsX11_init (wsX7_init) := ggX11_init_X7_init
set_option maxRecDepth 20000 in
theorem ggX11_init_X1_init : GoodIn wsX11_init wsX1_init := goodIn_r _ [95, 96, 2, 3, 97, 98, 99, 100, 12, 13, 101, 80, 81, 82, 83, 84, 85, 86, 44, 87, 73, 74, 88, 89, 90, 91, 201, 202, 203, 197, 198, 199, 200, 242] rfl (by decide +kernel)
set_option maxRecDepth 20000 in
theorem gX11_init_X1_init : GoodIn wsX11_init (wsX1_init) := ggX11_init_X1_init
set_option maxRecDepth 20000 in
theorem ggX11_init_X9_init : GoodIn wsX11_init wsX9_init := goodIn_r _ [103, 104, 2, 3, 105, 106, 107, 204, 205, 206] rfl (by decide +kernel)
set_option maxRecDepth 20000 in
theorem gX11_init_X9_init_n35 : GoodIn wsX11_init (wsX9_init) := ggX11_init_X9_init
set_option maxRecDepth 20000 in
theorem ggX11_init_X10_init : GoodIn wsX11_init wsX10_init := goodIn_r _ [109, 110, 2, 3, 111, 73, 74, 112, 44, 113, 114, 88, 89, 90, 91, 242, 207, 208, 209] rfl (by decide +kernel)
set_option maxRecDepth 20000 in
theorem gX11_init_X10_init_n42 : GoodIn wsX11_init (wsX10_init) := ggX11_init_X10_init
set_option maxRecDepth 20000 in
theorem ggX11_init_X6_init : GoodIn wsX11_init wsX6_init := goodIn_r _ [117, 118, 2, 3, 119, 73, 74, 120, 121, 122, 44, 123, 124, 88, 89, 90, 91, 242, 210, 211, 212, 213, 214] rfl (by decide +kernel)
set_option maxRecDepth 20000 in
theorem gX11_init_X6_init : GoodIn wsX11_init (wsX6_init) := ggX11_init_X6_init
set_option maxRecDepth 20000 in
theorem ggX11_init_X4_init : GoodIn wsX11_init wsX4_init := goodIn_r _ [126, 127, 2, 3, 44, 128, 129, 130, 131, 132, 133, 215, 216, 217, 218, 219, 220] rfl (by decide +kernel)
set_option maxRecDepth 20000 in
theorem gX11_init_X4_init_n61 : GoodIn wsX11_init (wsX4_init) := ggX11_init_X4_init
set_option maxRecDepth 20000 in
theorem ggX11_init_X5_init : GoodIn wsX11_init wsX5_init := goodIn_r _ [136, 137, 2, 3, 44, 138, 139, 140, 141, 73, 74, 142, 143, 144, 145, 146, 147, 148, 149, 88, 89, 90, 91, 221, 222, 223, 224, 225, 226, 227, 228, 229, 230, 231, 242] rfl (by decide +kernel)
set_option maxRecDepth 20000 in
theorem gX11_init_X5_init : GoodIn wsX11_init (wsX5_init) := ggX11_init_X5_init
set_option maxRecDepth 20000 in
theorem ggX11_init_X0_init : GoodIn wsX11_init wsX0_init := goodIn_r _ [152, 153, 2, 3, 154, 73, 74, 155, 156, 157, 158, 159, 160, 161, 162, 20, 21, 163, 164, 165, 88, 89, 90, 44, 91, 102, 103, 104, 105, 106, 107, 242, 232, 233, 234, 235, 236, 237, 238, 239, 240, 241, 204, 205, 206] rfl (by decide +kernel)
set_option maxRecDepth 20000 in
theorem gX11_init_X0_init : GoodIn wsX11_init (wsX0_init) := ggX11_init_X0_init
set_option maxRecDepth 20000 in
theorem ggX11_feed_X3_hasRoomForFive : GoodIn wsX11_feed wsX3_hasRoomForFive := goodIn_r _ [7, 8, 33, 34, 35, 36, 37, 38, 39, 40, 41, 42, 43, 44, 45] rfl (by decide +kernel)
set_option maxRecDepth 20000 in
theorem gX11_feed_X3_hasRoomForFive : GoodIn wsX11_feed (wsV RX11 91 RX3 yX3_hasRoomForFive wsX3_hasRoomForFive) := goodIn_app (goodIn_of _ (by decide +kernel)) ggX11_feed_X3_hasRoomForFive
set_option maxRecDepth 20000 in
theorem ggX11_feed_X11_refuse : GoodIn wsX11_feed wsX11_refuse := goodIn_r _ [13, 14, 20, 21, 22, 23, 24, 25, 26, 27, 28, 29, 30, 31, 32] rfl (by decide +kernel)
set_option maxRecDepth 20000 in
theorem gX11_feed_X11_refuse : GoodIn wsX11_feed (wsV RX11 95 RX11 yX11_refuse wsX11_refuse) := goodIn_app (goodIn_of _ (by decide +kernel)) ggX11_feed_X11_refuse
set_option maxRecDepth 20000 in
theorem ggX11_feed_X3_append : GoodIn wsX11_feed wsX3_append := goodIn_r _ [18, 8, 19, 33, 34, 35, 36, 37, 38, 39, 40, 41, 42, 43, 44, 45] rfl (by decide +kernel)
set_option maxRecDepth 20000 in
theorem gX11_feed_X3_append : GoodIn wsX11_feed (wsV RX11 99 RX3 yX3_append wsX3_append) := goodIn_app (goodIn_of _ (by decide +kernel)) ggX11_feed_X3_append
set_option maxRecDepth 20000 in
theorem ggX11_end_X11_refuse : GoodIn wsX11_end wsX11_refuse := goodIn_r _ [7, 8, 9, 10, 11, 12, 13, 14, 15, 16, 17, 18, 19, 20, 21] rfl (by decide +kernel)
set_option maxRecDepth 20000 in
theorem gX11_end_X11_refuse : GoodIn wsX11_end (wsV RX11 95 RX11 yX11_refuse wsX11_refuse) := goodIn_app (goodIn_of _ (by decide +kernel)) ggX11_end_X11_refuse
set_option maxRecDepth 20000 in
theorem ggX11_curves_X3_readText : GoodIn wsX11_curves wsX3_readText := goodIn_r _ [15, 16, 17, 18, 19, 20, 21, 22, 23, 24, 25, 14, 26, 27, 28, 29, 30, 31, 32, 33, 34, 35, 36, 37, 38, 39, 40, 41, 42, 43, 44, 45, 46, 47, 48, 49, 50, 51, 52, 53, 54, 55, 56, 57, 58, 59, 60, 61, 62, 63, 64, 65, 66, 67, 68, 69, 70, 71, 72, 73, 74, 75, 76, 77, 78, 79, 80, 81, 82, 83, 84, 85, 86, 87, 88, 89, 90, 91, 92, 93, 94, 95, 96, 97, 98, 99, 100, 101, 102, 103, 104, 105, 106, 107, 108, 109, 110, 111, 112, 113, 114, 115, 116, 117, 118, 119, 120, 121, 122, 123, 124, 125, 126, 127, 128, 129, 130, 131, 132, 133, 134, 135, 136, 137, 138, 139, 140, 141, 142, 143, 144, 145, 146, 147, 148, 149, 150, 151, 152, 153, 154, 155, 156, 157, 158, 159, 160, 161, 162, 163, 164, 165, 166, 167, 168, 169, 170, 171, 172, 173, 174, 175, 176, 177, 178, 179, 180, 181, 182, 183, 184, 185, 186, 187, 188, 189, 190, 191, 192, 193, 194, 195, 196, 197, 198, 199, 200, 201, 202, 203, 204, 205, 206, 207, 208, 209, 210, 211, 212, 213, 214, 247, 248, 249, 250, 251, 252, 253, 254, 255, 256, 257, 258, 259, 260, 261, 262, 263, 264] rfl (by decide +kernel)
set_option maxRecDepth 20000 in
theorem gX11_curves_X3_readText : GoodIn wsX11_curves (wsV RX11 105 RX3 yX3_readText wsX3_readText) := goodIn_app (goodIn_of _ (by decide +kernel)) ggX11_curves_X3_readText
set_option maxRecDepth 20000 in
theorem ggX11_curves_X11_refuse : GoodIn wsX11_curves wsX11_refuse := goodIn_r _ [218, 219, 234, 235, 236, 237, 238, 239, 240, 241, 242, 243, 244, 245, 246] rfl (by decide +kernel)
set_option maxRecDepth 20000 in
theorem gX11_curves_X11_refuse : GoodIn wsX11_curves (wsV RX11 95 RX11 yX11_refuse wsX11_refuse) := goodIn_app (goodIn_of _ (by decide +kernel)) ggX11_curves_X11_refuse
set_option maxRecDepth 20000 in
theorem ggX11_curves_X7_copy : GoodIn wsX11_curves wsX7_copy := goodIn_r _ [223, 224, 135, 225, 136, 226, 204, 205, 206, 227, 200, 201, 156, 202, 158, 203, 260, 261, 262, 263, 264] rfl (by decide +kernel)
set_option maxRecDepth 20000 in
theorem gX11_curves_X7_copy : GoodIn wsX11_curves (wsV RX11 113 RX7 yX7_copy wsX7_copy) := goodIn_app (goodIn_of _ (by decide +kernel)) ggX11_curves_X7_copy
set_option maxRecDepth 20000 in
theorem ggX11_curves_X1_forget : GoodIn wsX11_curves wsX1_forget := goodIn_r _ [232, 233, 265, 266, 267] rfl (by decide +kernel)
set_option maxRecDepth 20000 in
theorem gX11_curves_X1_forget : GoodIn wsX11_curves (wsV RX11 117 RX1 yX1_forget wsX1_forget) := goodIn_app (goodIn_of _ (by decide +kernel)) ggX11_curves_X1_forget
set_option maxRecDepth 20000 in
theorem ggX11_has_X9_howMany : GoodIn wsX11_has wsX9_howMany := goodIn_r _ [9] rfl (by decide +kernel)
set_option maxRecDepth 20000 in
theorem gX11_has_X9_howMany : GoodIn wsX11_has (va_wsS RX11 126 yX9_howMany wsX9_howMany) := goodIn_app (goodIn_of _ (by decide +kernel)) ggX11_has_X9_howMany
set_option maxRecDepth 20000 in
theorem ggX11_letter_X7_letterOf : GoodIn wsX11_letter wsX7_letterOf := goodIn_r _ [6, 7, 8, 9, 10, 5, 11, 12, 13, 27, 28, 29, 30] rfl (by decide +kernel)
set_option maxRecDepth 20000 in
theorem gX11_letter_X7_letterOf : GoodIn wsX11_letter (wsV RX11 131 RX7 yX7_letterOf wsX7_letterOf) := goodIn_app (goodIn_of _ (by decide +kernel)) ggX11_letter_X7_letterOf
set_option maxRecDepth 20000 in
theorem ggX11_term_X7_find : GoodIn wsX11_term wsX7_find := goodIn_r _ [6, 7, 8, 32, 33, 34, 35] rfl (by decide +kernel)
set_option maxRecDepth 20000 in
theorem gX11_term_X7_find : GoodIn wsX11_term (wsV RX11 135 RX7 yX7_find wsX7_find) := goodIn_app (goodIn_of _ (by decide +kernel)) ggX11_term_X7_find
set_option maxRecDepth 20000 in
theorem ggX11_term_X2_fits : GoodIn wsX11_term wsX2_fits := goodIn_r _ [12] rfl (by decide +kernel)
set_option maxRecDepth 20000 in
theorem gX11_term_X2_fits : GoodIn wsX11_term (va_wsS RX11 139 yX2_fits wsX2_fits) := goodIn_app (goodIn_of _ (by decide +kernel)) ggX11_term_X2_fits
set_option maxRecDepth 20000 in
theorem ggX11_term_X2_at : GoodIn wsX11_term wsX2_at := goodIn_r _ [16, 17, 18, 10, 11, 12, 36] rfl (by decide +kernel)
set_option maxRecDepth 20000 in
theorem gX11_term_X2_at : GoodIn wsX11_term (wsV RX11 145 RX2 yX2_at wsX2_at) := goodIn_app (goodIn_of _ (by decide +kernel)) ggX11_term_X2_at
set_option maxRecDepth 20000 in
theorem ggX11_degree_X7_find : GoodIn wsX11_degree wsX7_find := goodIn_r _ [6, 7, 8, 32, 33, 34, 35] rfl (by decide +kernel)
set_option maxRecDepth 20000 in
theorem gX11_degree_X7_find : GoodIn wsX11_degree (wsV RX11 135 RX7 yX7_find wsX7_find) := goodIn_app (goodIn_of _ (by decide +kernel)) ggX11_degree_X7_find
set_option maxRecDepth 20000 in
theorem ggX11_degree_X2_top : GoodIn wsX11_degree wsX2_top := goodIn_r _ [13, 14, 15, 16, 17, 18, 36] rfl (by decide +kernel)
set_option maxRecDepth 20000 in
theorem gX11_degree_X2_top : GoodIn wsX11_degree (wsV RX11 148 RX2 yX2_top wsX2_top) := goodIn_app (goodIn_of _ (by decide +kernel)) ggX11_degree_X2_top
set_option maxRecDepth 20000 in
theorem ggX11_value_X7_find : GoodIn wsX11_value wsX7_find := goodIn_r _ [8, 9, 10, 52, 53, 54, 55] rfl (by decide +kernel)
set_option maxRecDepth 20000 in
theorem gX11_value_X7_find : GoodIn wsX11_value (wsV RX11 135 RX7 yX7_find wsX7_find) := goodIn_app (goodIn_of _ (by decide +kernel)) ggX11_value_X7_find
set_option maxRecDepth 20000 in
theorem ggX11_value_X9_go : GoodIn wsX11_value wsX9_go := goodIn_r _ [15, 16, 17, 18, 19, 20, 14, 21, 22, 23, 24, 56, 57, 58] rfl (by decide +kernel)
set_option maxRecDepth 20000 in
theorem gX11_value_X9_go : GoodIn wsX11_value (wsV RX11 152 RX9 yX9_go wsX9_go) := goodIn_app (goodIn_of _ (by decide +kernel)) ggX11_value_X9_go
set_option maxRecDepth 20000 in
theorem ggX11_value_X9_valueOf : GoodIn wsX11_value wsX9_valueOf := goodIn_r _ [28, 18, 17, 16, 29, 30, 31, 32, 33, 34, 35, 36, 37, 38, 56, 57, 58, 59] rfl (by decide +kernel)
set_option maxRecDepth 20000 in
theorem gX11_value_X9_valueOf : GoodIn wsX11_value (wsV RX11 155 RX9 yX9_valueOf wsX9_valueOf) := goodIn_app (goodIn_of _ (by decide +kernel)) ggX11_value_X9_valueOf
set_option maxRecDepth 20000 in
theorem ggX11_point_X11_choose : GoodIn wsX11_point wsX11_choose := goodIn_r _ [5, 6, 7, 8, 9, 10, 11, 12, 13, 14, 15, 16, 17, 18, 19, 20, 21, 4, 22, 23, 24, 25, 26, 27, 28, 29, 30, 31, 32, 33, 34, 35, 36, 37, 38, 39, 40, 41, 42, 43, 44, 45, 46, 47, 48, 49, 50, 51, 52, 53, 54, 55, 56, 57, 58, 59, 60, 61, 62, 63, 64, 65, 66, 67, 68, 69, 70, 71, 72, 73, 74, 75, 76, 77, 78, 79, 80, 81, 82, 83, 84, 85, 86, 87, 88, 89, 90, 91, 92, 93, 94, 95, 96, 97, 98, 99, 100, 101, 102, 103, 104, 105, 106, 107, 108, 109, 110, 111, 112, 113, 114, 115, 116, 117, 118, 119, 120, 121, 122, 123, 124, 125, 126, 127, 128, 129, 130, 131, 132, 133, 134, 135, 136, 137, 138, 139] rfl (by decide +kernel)
set_option maxRecDepth 20000 in
theorem gX11_point_X11_choose : GoodIn wsX11_point (wsV RX11 159 RX11 yX11_choose wsX11_choose) := goodIn_app (goodIn_of _ (by decide +kernel)) ggX11_point_X11_choose
set_option maxRecDepth 20000 in
theorem ggX11_order_X11_lookAt : GoodIn wsX11_order wsX11_lookAt := goodIn_r _ [6, 7, 8, 9, 1, 10, 11, 12, 13, 14, 15, 16, 17, 18, 19, 20, 21, 22, 23, 24, 25, 26, 27, 28, 29, 30, 31, 32, 33, 34, 35, 36, 37, 38, 39, 40, 41, 42, 43, 44, 45, 46, 47, 48, 49, 50, 51, 52, 53, 54, 55, 56, 57, 58, 59, 60, 61, 62, 63, 64, 65, 66, 67, 68, 69, 70, 71, 72, 5, 73, 74, 75, 76, 77, 78, 79, 80, 81, 82, 83, 84, 85, 86, 87, 88, 89, 101, 102, 103, 104, 105, 106, 107, 108, 109, 110, 111, 112, 113, 114, 115, 116, 117, 118, 119, 120, 121, 122, 123, 124] rfl (by decide +kernel)
set_option maxRecDepth 20000 in
theorem gX11_order_X11_lookAt : GoodIn wsX11_order (wsV RX11 163 RX11 yX11_lookAt wsX11_lookAt) := goodIn_app (goodIn_of _ (by decide +kernel)) ggX11_order_X11_lookAt
set_option maxRecDepth 20000 in
theorem ggX11_order_X10_least : GoodIn wsX11_order wsX10_least := goodIn_r _ [93, 37, 94, 95, 96, 42, 97, 98, 99, 51, 100, 44, 121, 122, 123, 124] rfl (by decide +kernel)
set_option maxRecDepth 20000 in
theorem gX11_order_X10_least : GoodIn wsX11_order (wsV RX11 166 RX10 yX10_least wsX10_least) := goodIn_app (goodIn_of _ (by decide +kernel)) ggX11_order_X10_least
set_option maxRecDepth 20000 in
theorem ggX11_local_X11_lookAt : GoodIn wsX11_local wsX11_lookAt := goodIn_r _ [7, 8, 9, 10, 1, 11, 12, 13, 14, 15, 16, 17, 18, 19, 20, 21, 22, 23, 24, 25, 26, 27, 28, 29, 30, 31, 32, 33, 34, 35, 36, 37, 38, 39, 40, 41, 42, 43, 44, 45, 46, 47, 48, 49, 50, 51, 52, 53, 54, 55, 56, 57, 58, 59, 60, 61, 62, 63, 64, 65, 66, 67, 68, 69, 70, 71, 72, 73, 6, 74, 75, 76, 77, 78, 79, 80, 81, 82, 83, 84, 85, 86, 87, 88, 89, 90, 93, 94, 95, 96, 97, 98, 99, 100, 101, 102, 103, 104, 105, 109, 110, 111, 112, 113, 114, 115, 106, 107, 108, 116] rfl (by decide +kernel)
set_option maxRecDepth 20000 in
theorem gX11_local_X11_lookAt : GoodIn wsX11_local (wsV RX11 163 RX11 yX11_lookAt wsX11_lookAt) := goodIn_app (goodIn_of _ (by decide +kernel)) ggX11_local_X11_lookAt
set_option maxRecDepth 20000 in
theorem ggX11_local_X2_fits : GoodIn wsX11_local wsX2_fits := goodIn_r _ [60] rfl (by decide +kernel)
set_option maxRecDepth 20000 in
theorem gX11_local_X2_fits : GoodIn wsX11_local (va_wsS RX11 139 yX2_fits wsX2_fits) := goodIn_app (goodIn_of _ (by decide +kernel)) ggX11_local_X2_fits
set_option maxRecDepth 20000 in
theorem ggX11_local_X2_at : GoodIn wsX11_local wsX2_at := goodIn_r _ [57, 45, 58, 59, 43, 60, 116] rfl (by decide +kernel)
set_option maxRecDepth 20000 in
theorem gX11_local_X2_at : GoodIn wsX11_local (wsV RX11 145 RX2 yX2_at wsX2_at) := goodIn_app (goodIn_of _ (by decide +kernel)) ggX11_local_X2_at
set_option maxRecDepth 20000 in
theorem ggX11_singular_X11_choose : GoodIn wsX11_singular wsX11_choose := goodIn_r _ [5, 6, 7, 8, 9, 10, 11, 12, 13, 14, 15, 16, 17, 18, 19, 20, 21, 4, 22, 23, 24, 25, 26, 27, 28, 29, 30, 31, 32, 33, 34, 35, 36, 37, 38, 39, 40, 41, 42, 43, 44, 45, 46, 47, 48, 49, 50, 51, 52, 53, 54, 55, 56, 57, 58, 59, 60, 61, 62, 63, 64, 65, 66, 67, 68, 69, 70, 71, 72, 73, 74, 75, 76, 77, 78, 79, 80, 81, 82, 83, 84, 85, 86, 87, 88, 89, 90, 91, 92, 93, 94, 95, 96, 97, 98, 99, 100, 101, 102, 103, 104, 105, 106, 107, 108, 109, 110, 111, 112, 113, 114, 115, 116, 117, 118, 119, 120, 121, 122, 123, 124, 125, 126, 127, 128, 129, 130, 131, 132, 133, 134, 135, 136, 137, 138, 139] rfl (by decide +kernel)
set_option maxRecDepth 20000 in
theorem gX11_singular_X11_choose : GoodIn wsX11_singular (wsV RX11 159 RX11 yX11_choose wsX11_choose) := goodIn_app (goodIn_of _ (by decide +kernel)) ggX11_singular_X11_choose
set_option maxRecDepth 20000 in
theorem ggX11_tangent_X11_lookAt : GoodIn wsX11_tangent wsX11_lookAt := goodIn_r _ [8, 2, 9, 3, 1, 10, 11, 12, 13, 14, 15, 16, 17, 18, 19, 20, 21, 22, 23, 24, 25, 26, 27, 28, 29, 30, 31, 32, 33, 34, 35, 36, 37, 38, 39, 40, 41, 42, 43, 44, 45, 46, 47, 48, 49, 50, 51, 52, 53, 54, 55, 56, 57, 58, 59, 60, 61, 62, 63, 64, 65, 66, 67, 68, 69, 70, 71, 72, 7, 73, 74, 75, 76, 77, 78, 79, 80, 81, 82, 83, 84, 85, 86, 87, 88, 89, 111, 112, 113, 114, 115, 116, 117, 118, 119, 120, 121, 122, 123, 124, 125, 126, 127, 128, 129, 130, 131, 132, 133, 134] rfl (by decide +kernel)
set_option maxRecDepth 20000 in
theorem gX11_tangent_X11_lookAt : GoodIn wsX11_tangent (wsV RX11 163 RX11 yX11_lookAt wsX11_lookAt) := goodIn_app (goodIn_of _ (by decide +kernel)) ggX11_tangent_X11_lookAt
set_option maxRecDepth 20000 in
theorem ggX11_tangent_X10_least : GoodIn wsX11_tangent wsX10_least := goodIn_r _ [93, 37, 94, 95, 96, 42, 97, 98, 99, 51, 100, 44, 131, 132, 133, 134] rfl (by decide +kernel)
set_option maxRecDepth 20000 in
theorem gX11_tangent_X10_least : GoodIn wsX11_tangent (wsV RX11 166 RX10 yX10_least wsX10_least) := goodIn_app (goodIn_of _ (by decide +kernel)) ggX11_tangent_X10_least
set_option maxRecDepth 20000 in
theorem ggX11_tangent_X10_oftenTangent : GoodIn wsX11_tangent wsX10_oftenTangent := goodIn_r _ [104, 105, 37, 36, 106, 91, 92, 34, 93, 94, 95, 96, 42, 97, 98, 99, 51, 100, 44, 53, 54, 55, 56, 57, 58, 59, 107, 108, 109, 110, 75, 7, 76, 131, 132, 133, 134] rfl (by decide +kernel)
set_option maxRecDepth 20000 in
theorem gX11_tangent_X10_oftenTangent : GoodIn wsX11_tangent (wsV RX11 173 RX10 yX10_oftenTangent wsX10_oftenTangent) := goodIn_app (goodIn_of _ (by decide +kernel)) ggX11_tangent_X10_oftenTangent
set_option maxRecDepth 20000 in
theorem ggX11_bend_X11_lookAt : GoodIn wsX11_bend wsX11_lookAt := goodIn_r _ [6, 7, 8, 9, 1, 10, 11, 12, 13, 14, 15, 16, 17, 18, 19, 20, 21, 22, 23, 24, 25, 26, 27, 28, 29, 30, 31, 32, 33, 34, 35, 36, 37, 38, 39, 40, 41, 42, 43, 44, 45, 46, 47, 48, 49, 50, 51, 52, 53, 54, 55, 56, 57, 58, 59, 60, 61, 62, 63, 64, 65, 66, 67, 68, 69, 70, 71, 72, 5, 73, 74, 75, 76, 77, 78, 79, 80, 81, 82, 83, 84, 85, 86, 87, 88, 89, 105, 106, 107, 108, 109, 110, 111, 112, 113, 114, 115, 116, 117, 118, 119, 120, 121, 122, 123, 124, 125, 126, 127, 128] rfl (by decide +kernel)
set_option maxRecDepth 20000 in
theorem gX11_bend_X11_lookAt : GoodIn wsX11_bend (wsV RX11 163 RX11 yX11_lookAt wsX11_lookAt) := goodIn_app (goodIn_of _ (by decide +kernel)) ggX11_bend_X11_lookAt
set_option maxRecDepth 20000 in
theorem ggX11_bend_X10_bendHere : GoodIn wsX11_bend wsX10_bendHere := goodIn_r _ [93, 37, 36, 94, 95, 96, 34, 97, 98, 99, 100, 42, 101, 102, 103, 51, 104, 44, 53, 54, 55, 56, 57, 58, 59, 75, 5, 76, 72, 73, 74, 125, 126, 127, 128] rfl (by decide +kernel)
set_option maxRecDepth 20000 in
theorem gX11_bend_X10_bendHere : GoodIn wsX11_bend (wsV RX11 176 RX10 yX10_bendHere wsX10_bendHere) := goodIn_app (goodIn_of _ (by decide +kernel)) ggX11_bend_X10_bendHere
set_option maxRecDepth 20000 in
theorem ggX11_flex_X11_choose : GoodIn wsX11_flex wsX11_choose := goodIn_r _ [5, 6, 7, 8, 9, 10, 11, 12, 13, 14, 15, 16, 17, 18, 19, 20, 21, 4, 22, 23, 24, 25, 26, 27, 28, 29, 30, 31, 32, 33, 34, 35, 36, 37, 38, 39, 40, 41, 42, 43, 44, 45, 46, 47, 48, 49, 50, 51, 52, 53, 54, 55, 56, 57, 58, 59, 60, 61, 62, 63, 64, 65, 66, 67, 68, 69, 70, 71, 72, 73, 74, 75, 76, 77, 78, 79, 80, 81, 82, 83, 84, 85, 86, 87, 88, 89, 90, 91, 92, 93, 94, 95, 96, 97, 98, 99, 100, 101, 102, 103, 104, 105, 106, 107, 108, 109, 110, 111, 112, 113, 114, 115, 116, 117, 118, 119, 120, 121, 122, 123, 124, 125, 126, 127, 128, 129, 130, 131, 132, 133, 134, 135, 136, 137, 138, 139] rfl (by decide +kernel)
set_option maxRecDepth 20000 in
theorem gX11_flex_X11_choose : GoodIn wsX11_flex (wsV RX11 159 RX11 yX11_choose wsX11_choose) := goodIn_app (goodIn_of _ (by decide +kernel)) ggX11_flex_X11_choose
set_option maxRecDepth 20000 in
theorem ggX11_genus_X7_find : GoodIn wsX11_genus wsX7_find := goodIn_r _ [8, 9, 10, 126, 127, 128, 129] rfl (by decide +kernel)
set_option maxRecDepth 20000 in
theorem gX11_genus_X7_find : GoodIn wsX11_genus (wsV RX11 135 RX7 yX7_find wsX7_find) := goodIn_app (goodIn_of _ (by decide +kernel)) ggX11_genus_X7_find
set_option maxRecDepth 20000 in
theorem ggX11_genus_X2_top : GoodIn wsX11_genus wsX2_top := goodIn_r _ [15, 16, 17, 18, 19, 20, 130] rfl (by decide +kernel)
set_option maxRecDepth 20000 in
theorem gX11_genus_X2_top : GoodIn wsX11_genus (wsV RX11 148 RX2 yX2_top wsX2_top) := goodIn_app (goodIn_of _ (by decide +kernel)) ggX11_genus_X2_top
set_option maxRecDepth 20000 in
theorem ggX11_genus_X9_howMany : GoodIn wsX11_genus wsX9_howMany := goodIn_r _ [24] rfl (by decide +kernel)
set_option maxRecDepth 20000 in
theorem gX11_genus_X9_howMany : GoodIn wsX11_genus (va_wsS RX11 126 yX9_howMany wsX9_howMany) := goodIn_app (goodIn_of _ (by decide +kernel)) ggX11_genus_X9_howMany
set_option maxRecDepth 20000 in
theorem ggX11_genus_X11_hasTrait : GoodIn wsX11_genus wsX11_hasTrait := goodIn_r _ [29, 30, 1, 2, 3, 31, 32, 33, 23, 34, 35, 36, 37, 38, 39, 40, 41, 22, 24, 42, 43, 44, 45, 46, 12, 13, 14, 15, 16, 17, 18, 19, 20, 47, 48, 49, 50, 51, 52, 53, 54, 55, 56, 57, 58, 59, 60, 61, 62, 63, 64, 65, 66, 67, 68, 69, 70, 71, 72, 73, 74, 75, 76, 77, 78, 79, 28, 80, 81, 82, 83, 84, 85, 86, 87, 88, 89, 90, 91, 92, 93, 94, 95, 96, 97, 98, 99, 100, 101, 102, 103, 104, 105, 106, 107, 108, 109, 110, 111, 112, 113, 114, 115, 116, 117, 118, 119, 120, 121, 122, 123, 124, 125, 126, 127, 128, 129, 131, 132, 133, 130, 134, 135, 136] rfl (by decide +kernel)
set_option maxRecDepth 20000 in
theorem gX11_genus_X11_hasTrait : GoodIn wsX11_genus (wsV RX11 179 RX11 yX11_hasTrait wsX11_hasTrait) := goodIn_app (goodIn_of _ (by decide +kernel)) ggX11_genus_X11_hasTrait
set_option maxRecDepth 20000 in
theorem ggX11_genus_X10_least : GoodIn wsX11_genus wsX10_least := goodIn_r _ [100, 53, 101, 102, 103, 14, 104, 105, 106, 19, 107, 16, 134, 135, 136, 130] rfl (by decide +kernel)
set_option maxRecDepth 20000 in
theorem gX11_genus_X10_least : GoodIn wsX11_genus (wsV RX11 166 RX10 yX10_least wsX10_least) := goodIn_app (goodIn_of _ (by decide +kernel)) ggX11_genus_X10_least
set_option maxRecDepth 20000 in
theorem ggX11_common_X7_find : GoodIn wsX11_common wsX7_find := goodIn_r _ [8, 9, 10, 134, 135, 136, 137] rfl (by decide +kernel)
set_option maxRecDepth 20000 in
theorem gX11_common_X7_find : GoodIn wsX11_common (wsV RX11 135 RX7 yX7_find wsX7_find) := goodIn_app (goodIn_of _ (by decide +kernel)) ggX11_common_X7_find
set_option maxRecDepth 20000 in
theorem ggX11_common_X6_find : GoodIn wsX11_common wsX6_find := goodIn_r _ [15, 16, 17, 18, 19, 20, 21, 22, 23, 24, 25, 26, 27, 28, 29, 30, 31, 32, 33, 34, 35, 36, 37, 38, 39, 40, 41, 42, 43, 44, 45, 14, 46, 47, 48, 49, 50, 51, 52, 53, 54, 55, 56, 57, 58, 59, 60, 61, 62, 63, 64, 65, 66, 67, 68, 69, 70, 71, 72, 73, 74, 75, 76, 77, 78, 79, 80, 81, 82, 83, 84, 85, 86, 87, 88, 89, 90, 91, 92, 93, 94, 95, 96, 97, 98, 99, 100, 101, 102, 103, 104, 105, 106, 107, 108, 109, 110, 111, 112, 113, 114, 115, 116, 117, 118, 119, 138, 139, 140, 141, 142, 143, 144, 145, 146, 147, 148] rfl (by decide +kernel)
set_option maxRecDepth 20000 in
theorem gX11_common_X6_find : GoodIn wsX11_common (wsV RX11 183 RX6 yX6_find wsX6_find) := goodIn_app (goodIn_of _ (by decide +kernel)) ggX11_common_X6_find
set_option maxRecDepth 20000 in
theorem ggX11_common_X2_top : GoodIn wsX11_common wsX2_top := goodIn_r _ [38, 39, 40, 41, 28, 42, 148] rfl (by decide +kernel)
set_option maxRecDepth 20000 in
theorem gX11_common_X2_top : GoodIn wsX11_common (wsV RX11 148 RX2 yX2_top wsX2_top) := goodIn_app (goodIn_of _ (by decide +kernel)) ggX11_common_X2_top
set_option maxRecDepth 20000 in
theorem ggX11_commonTerm_X7_find : GoodIn wsX11_commonTerm wsX7_find := goodIn_r _ [8, 9, 10, 135, 136, 137, 138] rfl (by decide +kernel)
set_option maxRecDepth 20000 in
theorem gX11_commonTerm_X7_find : GoodIn wsX11_commonTerm (wsV RX11 135 RX7 yX7_find wsX7_find) := goodIn_app (goodIn_of _ (by decide +kernel)) ggX11_commonTerm_X7_find
set_option maxRecDepth 20000 in
theorem ggX11_commonTerm_X2_fits : GoodIn wsX11_commonTerm wsX2_fits := goodIn_r _ [14] rfl (by decide +kernel)
set_option maxRecDepth 20000 in
theorem gX11_commonTerm_X2_fits : GoodIn wsX11_commonTerm (va_wsS RX11 139 yX2_fits wsX2_fits) := goodIn_app (goodIn_of _ (by decide +kernel)) ggX11_commonTerm_X2_fits
set_option maxRecDepth 20000 in
theorem ggX11_commonTerm_X6_find : GoodIn wsX11_commonTerm wsX6_find := goodIn_r _ [19, 20, 21, 22, 23, 24, 25, 26, 27, 28, 29, 30, 31, 32, 33, 34, 35, 36, 37, 38, 39, 40, 13, 41, 42, 43, 44, 45, 46, 47, 48, 18, 49, 50, 51, 52, 53, 54, 55, 56, 57, 12, 14, 58, 59, 60, 61, 62, 63, 64, 65, 66, 67, 68, 69, 70, 71, 72, 73, 74, 75, 76, 77, 78, 79, 80, 81, 82, 83, 84, 85, 86, 87, 88, 89, 90, 91, 92, 93, 94, 95, 96, 97, 98, 99, 100, 101, 102, 103, 104, 105, 106, 107, 108, 109, 110, 111, 112, 113, 114, 115, 116, 117, 118, 119, 120, 139, 140, 141, 142, 143, 144, 145, 146, 147, 148, 149] rfl (by decide +kernel)
set_option maxRecDepth 20000 in
theorem gX11_commonTerm_X6_find : GoodIn wsX11_commonTerm (wsV RX11 183 RX6 yX6_find wsX6_find) := goodIn_app (goodIn_of _ (by decide +kernel)) ggX11_commonTerm_X6_find
set_option maxRecDepth 20000 in
theorem ggX11_commonTerm_X2_at : GoodIn wsX11_commonTerm wsX2_at := goodIn_r _ [56, 42, 57, 12, 13, 14, 149] rfl (by decide +kernel)
set_option maxRecDepth 20000 in
theorem gX11_commonTerm_X2_at : GoodIn wsX11_commonTerm (wsV RX11 145 RX2 yX2_at wsX2_at) := goodIn_app (goodIn_of _ (by decide +kernel)) ggX11_commonTerm_X2_at
set_option maxRecDepth 20000 in
theorem ggX11_times_X7_find : GoodIn wsX11_times wsX7_find := goodIn_r _ [8, 9, 10, 235, 236, 237, 238] rfl (by decide +kernel)
set_option maxRecDepth 20000 in
theorem gX11_times_X7_find : GoodIn wsX11_times (wsV RX11 135 RX7 yX7_find wsX7_find) := goodIn_app (goodIn_of _ (by decide +kernel)) ggX11_times_X7_find
set_option maxRecDepth 20000 in
theorem ggX11_times_X9_isPoint : GoodIn wsX11_times wsX9_isPoint := goodIn_r _ [14, 15, 16, 13, 17] rfl (by decide +kernel)
set_option maxRecDepth 20000 in
theorem gX11_times_X9_isPoint : GoodIn wsX11_times (va_wsS RX11 186 yX9_isPoint wsX9_isPoint) := goodIn_app (goodIn_of _ (by decide +kernel)) ggX11_times_X9_isPoint
set_option maxRecDepth 20000 in
theorem ggX11_times_X6_find : GoodIn wsX11_times wsX6_find := goodIn_r _ [22, 23, 24, 25, 26, 27, 28, 29, 30, 31, 32, 33, 34, 35, 36, 37, 38, 39, 40, 41, 42, 43, 44, 45, 46, 47, 48, 49, 50, 51, 52, 21, 53, 54, 55, 56, 57, 58, 59, 60, 61, 62, 63, 64, 65, 66, 67, 68, 69, 70, 71, 72, 73, 74, 75, 76, 77, 78, 79, 80, 81, 82, 83, 84, 85, 86, 87, 88, 89, 90, 91, 92, 93, 94, 95, 96, 97, 98, 99, 100, 101, 102, 103, 104, 105, 106, 107, 108, 109, 110, 111, 112, 113, 114, 115, 116, 117, 118, 119, 120, 121, 122, 123, 124, 125, 126, 239, 240, 241, 242, 243, 244, 245, 246, 247, 248, 249] rfl (by decide +kernel)
set_option maxRecDepth 20000 in
theorem gX11_times_X6_find : GoodIn wsX11_times (wsV RX11 183 RX6 yX6_find wsX6_find) := goodIn_app (goodIn_of _ (by decide +kernel)) ggX11_times_X6_find
set_option maxRecDepth 20000 in
theorem ggX11_times_X11_timesAt : GoodIn wsX11_times wsX11_timesAt := goodIn_r _ [130, 131, 1, 2, 3, 132, 133, 134, 135, 136, 137, 138, 139, 13, 140, 141, 142, 143, 144, 12, 14, 15, 16, 17, 145, 146, 147, 148, 149, 42, 43, 44, 45, 46, 47, 48, 35, 49, 150, 151, 152, 153, 154, 155, 156, 157, 158, 87, 88, 89, 159, 160, 58, 59, 60, 61, 62, 63, 161, 162, 163, 164, 165, 166, 167, 168, 169, 170, 171, 172, 173, 78, 174, 175, 80, 81, 176, 177, 178, 179, 117, 118, 95, 96, 97, 180, 181, 182, 183, 184, 185, 186, 187, 188, 189, 190, 191, 192, 193, 194, 195, 196, 197, 198, 199, 200, 201, 202, 203, 204, 205, 206, 207, 208, 209, 210, 211, 212, 213, 214, 215, 216, 217, 218, 219, 220, 221, 77, 79, 222, 223, 224, 225, 226, 227, 228, 229, 230, 231, 232, 233, 234, 235, 236, 237, 238, 239, 240, 241, 242, 243, 250, 251, 252, 253, 254, 255, 249, 256, 257, 258, 259, 260, 261] rfl (by decide +kernel)
set_option maxRecDepth 20000 in
theorem gX11_times_X11_timesAt : GoodIn wsX11_times (wsV RX11 189 RX11 yX11_timesAt wsX11_timesAt) := goodIn_app (goodIn_of _ (by decide +kernel)) ggX11_times_X11_timesAt
set_option maxRecDepth 20000 in
theorem ggX11_rules_X11_times : GoodIn wsX11_rules wsX11_times := goodIn_r _ [7, 8, 9, 10, 11, 12, 13, 14, 15, 16, 17, 18, 19, 20, 21, 22, 23, 24, 25, 26, 27, 28, 29, 30, 31, 32, 33, 34, 35, 36, 37, 38, 39, 40, 41, 42, 43, 44, 45, 46, 47, 48, 49, 50, 51, 52, 53, 54, 55, 56, 57, 58, 59, 60, 61, 62, 63, 64, 65, 66, 67, 68, 69, 70, 71, 72, 73, 74, 75, 76, 77, 78, 79, 80, 81, 82, 83, 84, 6, 85, 86, 87, 88, 89, 90, 91, 92, 93, 94, 95, 96, 97, 98, 99, 100, 101, 102, 103, 104, 105, 106, 107, 108, 109, 110, 111, 112, 113, 114, 115, 116, 117, 118, 119, 120, 121, 122, 123, 124, 125, 126, 127, 128, 129, 130, 131, 132, 133, 134, 135, 136, 137, 138, 139, 140, 1, 141, 142, 143, 144, 145, 146, 147, 148, 149, 150, 151, 152, 153, 154, 155, 156, 157, 158, 159, 160, 161, 162, 163, 164, 165, 166, 167, 168, 169, 170, 171, 172, 173, 174, 175, 176, 177, 178, 179, 180, 181, 182, 183, 184, 185, 186, 187, 188, 189, 190, 191, 192, 193, 194, 195, 196, 197, 198, 199, 200, 201, 202, 203, 204, 205, 206, 207, 208, 209, 210, 211, 212, 213, 214, 215, 216, 217, 218, 219, 220, 221, 222, 223, 224, 225, 226, 227, 228, 229, 230, 231, 232, 233, 234, 235, 236, 237, 238, 239, 246, 247, 248, 249, 250, 251, 252, 253, 254, 255, 256, 257, 258, 259, 260, 261, 262, 263, 264, 265, 266, 240, 241, 242, 243, 244, 245] rfl (by decide +kernel)
set_option maxRecDepth 20000 in
theorem gX11_rules_X11_times : GoodIn wsX11_rules (wsV RX11 193 RX11 yX11_times wsX11_times) := goodIn_app (goodIn_of _ (by decide +kernel)) ggX11_rules_X11_times
set_option maxRecDepth 20000 in
theorem ggX11_rule_X11_times : GoodIn wsX11_rule wsX11_times := goodIn_r _ [6, 7, 8, 9, 10, 11, 12, 13, 14, 15, 16, 17, 18, 19, 20, 21, 22, 23, 24, 25, 26, 27, 28, 29, 30, 31, 32, 33, 34, 35, 36, 37, 38, 39, 40, 41, 42, 43, 44, 45, 46, 47, 48, 49, 50, 51, 52, 53, 54, 55, 56, 57, 58, 59, 60, 61, 62, 63, 64, 65, 66, 67, 68, 69, 70, 71, 72, 73, 74, 75, 76, 77, 78, 79, 80, 81, 82, 83, 5, 84, 85, 86, 87, 88, 89, 90, 91, 92, 93, 94, 95, 96, 97, 98, 99, 100, 101, 102, 103, 104, 105, 106, 107, 108, 109, 110, 111, 112, 113, 114, 115, 116, 117, 118, 119, 120, 121, 122, 123, 124, 125, 126, 127, 128, 129, 130, 131, 132, 133, 134, 135, 136, 137, 138, 139, 1, 140, 141, 142, 143, 144, 145, 146, 147, 148, 149, 150, 151, 152, 153, 154, 155, 156, 157, 158, 159, 160, 161, 162, 163, 164, 165, 166, 167, 168, 169, 170, 171, 172, 173, 174, 175, 176, 177, 178, 179, 180, 181, 182, 183, 184, 185, 186, 187, 188, 189, 190, 191, 192, 193, 194, 195, 196, 197, 198, 199, 200, 201, 202, 203, 204, 205, 206, 207, 208, 209, 210, 211, 212, 213, 214, 215, 216, 217, 218, 219, 220, 221, 222, 223, 224, 225, 230, 231, 232, 233, 234, 235, 236, 237, 238, 239, 240, 241, 242, 243, 244, 245, 246, 247, 248, 249, 250, 251, 252, 253, 254, 255, 256, 257, 258, 259, 260, 261, 262, 263, 264, 265, 266, 267, 268, 269] rfl (by decide +kernel)
set_option maxRecDepth 20000 in
theorem gX11_rule_X11_times : GoodIn wsX11_rule (wsV RX11 193 RX11 yX11_times wsX11_times) := goodIn_app (goodIn_of _ (by decide +kernel)) ggX11_rule_X11_times
set_option maxRecDepth 20000 in
theorem ggX11_rule_X4_kindOf : GoodIn wsX11_rule wsX4_kindOf := goodIn_r _ [229, 197, 198, 264, 265, 266, 267, 268, 269] rfl (by decide +kernel)
set_option maxRecDepth 20000 in
theorem gX11_rule_X4_kindOf : GoodIn wsX11_rule (wsV RX11 199 RX4 yX4_kindOf wsX4_kindOf) := goodIn_app (goodIn_of _ (by decide +kernel)) ggX11_rule_X4_kindOf
set_option maxRecDepth 20000 in
theorem ggX11_size_X7_find : GoodIn wsX11_size wsX7_find := goodIn_r _ [12, 13, 14, 179, 180, 181, 182] rfl (by decide +kernel)
set_option maxRecDepth 20000 in
theorem gX11_size_X7_find : GoodIn wsX11_size (wsV RX11 135 RX7 yX7_find wsX7_find) := goodIn_app (goodIn_of _ (by decide +kernel)) ggX11_size_X7_find
set_option maxRecDepth 20000 in
theorem ggX11_size_X9_go : GoodIn wsX11_size wsX9_go := goodIn_r _ [19, 20, 21, 22, 23, 24, 18, 25, 26, 27, 28, 186, 187, 188] rfl (by decide +kernel)
set_option maxRecDepth 20000 in
theorem gX11_size_X9_go : GoodIn wsX11_size (wsV RX11 152 RX9 yX9_go wsX9_go) := goodIn_app (goodIn_of _ (by decide +kernel)) ggX11_size_X9_go
set_option maxRecDepth 20000 in
theorem ggX11_size_X10_look : GoodIn wsX11_size wsX10_look := goodIn_r _ [33, 34, 35, 36, 37, 38, 39, 40, 41, 42, 43, 44, 45, 46, 47, 48, 49, 50, 51, 52, 53, 54, 55, 56, 57, 58, 59, 60, 32, 61, 62, 63, 64, 65, 66, 67, 68, 69, 70, 71, 72, 73, 74, 75, 76, 77, 78, 79, 80, 81, 82, 83, 84, 85, 86, 87, 88, 183, 184, 185, 186, 187, 188, 189] rfl (by decide +kernel)
set_option maxRecDepth 20000 in
theorem gX11_size_X10_look : GoodIn wsX11_size (wsV RX11 202 RX10 yX10_look wsX10_look) := goodIn_app (goodIn_of _ (by decide +kernel)) ggX11_size_X10_look
set_option maxRecDepth 20000 in
theorem ggX11_size_X5_sizeOf : GoodIn wsX11_size wsX5_sizeOf := goodIn_r _ [93, 94, 95, 96, 97, 92, 98, 99, 100, 101, 102, 103, 104, 105, 106, 107, 108, 109, 110, 111, 112, 113, 40, 114, 115, 116, 49, 117, 42, 118, 119, 120, 121, 122, 123, 124, 125, 126, 127, 128, 129, 130, 131, 132, 133, 134, 135, 136, 137, 138, 139, 140, 141, 142, 143, 144, 145, 52, 53, 54, 55, 56, 57, 146, 71, 147, 74, 75, 148, 149, 150, 151, 152, 153, 154, 155, 156, 157, 158, 159, 160, 161, 162, 163, 164, 165, 190, 191, 192, 193, 194, 195, 196, 197, 198, 199, 200, 189, 201, 202, 203, 204, 205] rfl (by decide +kernel)
set_option maxRecDepth 20000 in
theorem gX11_size_X5_sizeOf : GoodIn wsX11_size (wsV RX11 206 RX5 yX5_sizeOf wsX5_sizeOf) := goodIn_app (goodIn_of _ (by decide +kernel)) ggX11_size_X5_sizeOf
set_option maxRecDepth 20000 in
theorem ggX11_meet_X7_find : GoodIn wsX11_meet wsX7_find := goodIn_r _ [8, 9, 10, 243, 244, 245, 246] rfl (by decide +kernel)
set_option maxRecDepth 20000 in
theorem gX11_meet_X7_find : GoodIn wsX11_meet (wsV RX11 135 RX7 yX7_find wsX7_find) := goodIn_app (goodIn_of _ (by decide +kernel)) ggX11_meet_X7_find
set_option maxRecDepth 20000 in
theorem ggX11_meet_X6_find : GoodIn wsX11_meet wsX6_find := goodIn_r _ [15, 16, 17, 18, 19, 20, 21, 22, 23, 24, 25, 26, 27, 28, 29, 30, 31, 32, 33, 34, 35, 36, 37, 38, 39, 40, 41, 42, 43, 44, 45, 14, 46, 47, 48, 49, 50, 51, 52, 53, 54, 55, 56, 57, 58, 59, 60, 61, 62, 63, 64, 65, 66, 67, 68, 69, 70, 71, 72, 73, 74, 75, 76, 77, 78, 79, 80, 81, 82, 83, 84, 85, 86, 87, 88, 89, 90, 91, 92, 93, 94, 95, 96, 97, 98, 99, 100, 101, 102, 103, 104, 105, 106, 107, 108, 109, 110, 111, 112, 113, 114, 115, 116, 117, 118, 119, 247, 248, 249, 250, 251, 252, 253, 254, 255, 256, 257] rfl (by decide +kernel)
set_option maxRecDepth 20000 in
theorem gX11_meet_X6_find : GoodIn wsX11_meet (wsV RX11 183 RX6 yX6_find wsX6_find) := goodIn_app (goodIn_of _ (by decide +kernel)) ggX11_meet_X6_find
set_option maxRecDepth 20000 in
theorem ggX11_meet_X9_howMany : GoodIn wsX11_meet wsX9_howMany := goodIn_r _ [123] rfl (by decide +kernel)
set_option maxRecDepth 20000 in
theorem gX11_meet_X9_howMany : GoodIn wsX11_meet (va_wsS RX11 126 yX9_howMany wsX9_howMany) := goodIn_app (goodIn_of _ (by decide +kernel)) ggX11_meet_X9_howMany
set_option maxRecDepth 20000 in
theorem ggX11_meet_X11_timesBetween : GoodIn wsX11_meet wsX11_timesBetween := goodIn_r _ [127, 128, 129, 130, 71, 131, 132, 1, 3, 133, 134, 135, 122, 136, 137, 138, 139, 140, 141, 142, 143, 121, 123, 144, 145, 146, 147, 148, 35, 36, 37, 38, 39, 40, 41, 28, 42, 149, 150, 151, 152, 2, 153, 154, 155, 156, 157, 158, 159, 160, 161, 162, 163, 164, 165, 166, 80, 81, 82, 167, 168, 51, 52, 53, 54, 55, 56, 169, 170, 171, 172, 173, 174, 175, 176, 177, 178, 179, 180, 181, 182, 183, 73, 74, 184, 185, 186, 187, 110, 111, 88, 89, 90, 188, 189, 190, 191, 192, 193, 194, 195, 196, 197, 198, 199, 200, 201, 202, 203, 204, 205, 206, 207, 208, 209, 210, 211, 212, 213, 214, 215, 216, 217, 218, 219, 220, 221, 222, 223, 224, 225, 226, 227, 228, 229, 70, 72, 230, 231, 232, 233, 234, 235, 236, 237, 238, 239, 240, 241, 242, 243, 244, 245, 246, 258, 259, 260, 257, 247, 248, 249, 250, 251, 261, 262, 263, 264, 265, 266, 267, 268, 269] rfl (by decide +kernel)
set_option maxRecDepth 20000 in
theorem gX11_meet_X11_timesBetween : GoodIn wsX11_meet (wsV RX11 209 RX11 yX11_timesBetween wsX11_timesBetween) := goodIn_app (goodIn_of _ (by decide +kernel)) ggX11_meet_X11_timesBetween
set_option maxRecDepth 20000 in
theorem ggX11_meet_X11_areBothOn : GoodIn wsX11_meet wsX11_areBothOn := goodIn_r _ [131, 132, 1, 3, 133, 134, 135, 122, 136, 137, 138, 139, 140, 141, 142, 143, 121, 123, 144, 145, 146, 147, 148, 35, 36, 37, 38, 39, 40, 41, 28, 42, 230, 231, 232, 233, 234, 235, 236, 237, 238, 239, 240, 241, 242, 243, 244, 245, 246, 258, 259, 260, 257] rfl (by decide +kernel)
set_option maxRecDepth 20000 in
theorem gX11_meet_X11_areBothOn : GoodIn wsX11_meet (wsV RX11 213 RX11 yX11_areBothOn wsX11_areBothOn) := goodIn_app (goodIn_of _ (by decide +kernel)) ggX11_meet_X11_areBothOn
set_option maxRecDepth 20000 in
theorem ggX11_meet_X11_timesAt : GoodIn wsX11_meet wsX11_timesAt := goodIn_r _ [152, 132, 1, 3, 2, 153, 154, 155, 156, 157, 133, 134, 135, 122, 136, 137, 138, 139, 140, 141, 142, 143, 121, 123, 144, 145, 146, 147, 148, 35, 36, 37, 38, 39, 40, 41, 28, 42, 158, 159, 160, 161, 162, 163, 164, 165, 166, 80, 81, 82, 167, 168, 51, 52, 53, 54, 55, 56, 169, 170, 171, 172, 173, 174, 175, 176, 177, 178, 179, 180, 181, 71, 182, 183, 73, 74, 184, 185, 186, 187, 110, 111, 88, 89, 90, 188, 189, 190, 191, 192, 193, 194, 195, 196, 197, 198, 199, 200, 201, 202, 203, 204, 205, 206, 207, 208, 209, 210, 211, 212, 213, 214, 215, 216, 217, 218, 219, 220, 221, 222, 223, 224, 225, 226, 227, 228, 229, 70, 72, 230, 231, 232, 233, 234, 235, 236, 237, 238, 239, 240, 241, 242, 243, 244, 245, 246, 247, 248, 249, 250, 251, 261, 262, 263, 258, 259, 260, 257, 264, 265, 266, 267, 268, 269] rfl (by decide +kernel)
set_option maxRecDepth 20000 in
theorem gX11_meet_X11_timesAt : GoodIn wsX11_meet (wsV RX11 189 RX11 yX11_timesAt wsX11_timesAt) := goodIn_app (goodIn_of _ (by decide +kernel)) ggX11_meet_X11_timesAt
set_option maxRecDepth 20000 in
theorem ggX11_parts_X7_find : GoodIn wsX11_parts wsX7_find := goodIn_r _ [8, 9, 10, 137, 138, 139, 140] rfl (by decide +kernel)
set_option maxRecDepth 20000 in
theorem gX11_parts_X7_find : GoodIn wsX11_parts (wsV RX11 135 RX7 yX7_find wsX7_find) := goodIn_app (goodIn_of _ (by decide +kernel)) ggX11_parts_X7_find
set_option maxRecDepth 20000 in
theorem ggX11_parts_X2_top : GoodIn wsX11_parts wsX2_top := goodIn_r _ [15, 16, 17, 18, 19, 20, 141] rfl (by decide +kernel)
set_option maxRecDepth 20000 in
theorem gX11_parts_X2_top : GoodIn wsX11_parts (wsV RX11 148 RX2 yX2_top wsX2_top) := goodIn_app (goodIn_of _ (by decide +kernel)) ggX11_parts_X2_top
set_option maxRecDepth 20000 in
theorem ggX11_parts_X6_find : GoodIn wsX11_parts wsX6_find := goodIn_r _ [25, 26, 27, 28, 29, 30, 31, 32, 33, 34, 35, 36, 37, 19, 38, 39, 40, 41, 42, 43, 12, 13, 14, 15, 16, 17, 18, 20, 44, 45, 46, 24, 47, 48, 49, 50, 51, 52, 53, 54, 55, 56, 57, 58, 59, 60, 61, 62, 63, 64, 65, 66, 67, 68, 69, 70, 71, 72, 73, 74, 75, 76, 77, 78, 79, 80, 81, 82, 83, 84, 85, 86, 87, 88, 89, 90, 91, 92, 93, 94, 95, 96, 97, 98, 99, 100, 101, 102, 103, 104, 105, 106, 107, 108, 109, 110, 111, 112, 113, 114, 115, 116, 117, 118, 119, 120, 142, 143, 144, 145, 146, 147, 148, 149, 150, 151, 141] rfl (by decide +kernel)
set_option maxRecDepth 20000 in
theorem gX11_parts_X6_find : GoodIn wsX11_parts (wsV RX11 183 RX6 yX6_find wsX6_find) := goodIn_app (goodIn_of _ (by decide +kernel)) ggX11_parts_X6_find
set_option maxRecDepth 20000 in
theorem ggX11_parts_X11_forms : GoodIn wsX11_parts wsX11_forms := goodIn_r _ [123] rfl (by decide +kernel)
set_option maxRecDepth 20000 in
theorem gX11_parts_X11_forms : GoodIn wsX11_parts (va_wsS RX11 217 yX11_forms wsX11_forms) := goodIn_app (goodIn_of _ (by decide +kernel)) ggX11_parts_X11_forms
set_option maxRecDepth 20000 in
theorem ggX11_total_X7_find : GoodIn wsX11_total wsX7_find := goodIn_r _ [9, 10, 11, 298, 299, 300, 301] rfl (by decide +kernel)
set_option maxRecDepth 20000 in
theorem gX11_total_X7_find : GoodIn wsX11_total (wsV RX11 135 RX7 yX7_find wsX7_find) := goodIn_app (goodIn_of _ (by decide +kernel)) ggX11_total_X7_find
set_option maxRecDepth 20000 in
theorem ggX11_total_X6_find : GoodIn wsX11_total wsX6_find := goodIn_r _ [16, 17, 18, 19, 20, 21, 22, 23, 24, 25, 26, 27, 28, 29, 30, 31, 32, 33, 34, 35, 36, 37, 38, 39, 40, 41, 42, 43, 44, 45, 46, 15, 47, 48, 49, 50, 51, 52, 53, 54, 55, 56, 57, 58, 59, 60, 61, 62, 63, 64, 65, 66, 67, 68, 69, 70, 71, 72, 73, 74, 75, 76, 77, 78, 79, 80, 81, 82, 83, 84, 85, 86, 87, 88, 89, 90, 91, 92, 93, 94, 95, 96, 97, 98, 99, 100, 101, 102, 103, 104, 105, 106, 107, 108, 109, 110, 111, 112, 113, 114, 115, 116, 117, 118, 119, 120, 302, 303, 304, 305, 306, 307, 308, 309, 310, 311, 312] rfl (by decide +kernel)
set_option maxRecDepth 20000 in
theorem gX11_total_X6_find : GoodIn wsX11_total (wsV RX11 183 RX6 yX6_find wsX6_find) := goodIn_app (goodIn_of _ (by decide +kernel)) ggX11_total_X6_find
set_option maxRecDepth 20000 in
theorem ggX11_total_X2_top : GoodIn wsX11_total wsX2_top := goodIn_r _ [39, 40, 41, 42, 29, 43, 312] rfl (by decide +kernel)
set_option maxRecDepth 20000 in
theorem gX11_total_X2_top : GoodIn wsX11_total (wsV RX11 148 RX2 yX2_top wsX2_top) := goodIn_app (goodIn_of _ (by decide +kernel)) ggX11_total_X2_top
set_option maxRecDepth 20000 in
theorem ggX11_total_X5_nearOf : GoodIn wsX11_total wsX5_nearOf := goodIn_r _ [126, 127, 128, 129, 130, 131, 132, 125, 133, 134, 135, 136, 137, 138, 139, 140, 141, 142, 143, 144, 145, 107, 108, 38, 109, 110, 28, 29, 30, 40, 146, 23, 24, 25, 26, 27, 31, 32, 33, 34, 147, 36, 37, 39, 41, 42, 43, 148, 149, 150, 151, 152, 153, 154, 155, 156, 157, 158, 159, 160, 161, 162, 163, 164, 165, 52, 53, 54, 55, 56, 57, 71, 72, 73, 74, 75, 166, 167, 168, 169, 170, 171, 172, 173, 174, 63, 64, 65, 66, 67, 68, 69, 70, 313, 314, 315, 316, 317, 318, 319, 320, 321, 322, 323, 312, 307, 308, 309, 310, 311] rfl (by decide +kernel)
set_option maxRecDepth 20000 in
theorem gX11_total_X5_nearOf : GoodIn wsX11_total (wsV RX11 220 RX5 yX5_nearOf wsX5_nearOf) := goodIn_app (goodIn_of _ (by decide +kernel)) ggX11_total_X5_nearOf
set_option maxRecDepth 20000 in
theorem ggX11_total_X11_timesBetween : GoodIn wsX11_total wsX11_timesBetween := goodIn_r _ [178, 179, 180, 181, 72, 182, 183, 1, 3, 184, 185, 186, 187, 188, 189, 190, 191, 192, 193, 194, 195, 196, 197, 198, 199, 200, 201, 202, 36, 37, 38, 39, 40, 41, 42, 29, 43, 203, 204, 205, 206, 2, 207, 208, 209, 210, 211, 212, 213, 214, 215, 216, 217, 218, 219, 220, 81, 82, 83, 221, 222, 52, 53, 54, 55, 56, 57, 223, 224, 225, 226, 227, 228, 229, 230, 231, 232, 233, 234, 235, 236, 237, 74, 75, 238, 239, 240, 241, 111, 112, 89, 90, 91, 242, 243, 244, 245, 246, 247, 248, 249, 250, 251, 252, 253, 254, 255, 256, 257, 258, 259, 260, 261, 262, 263, 264, 265, 266, 267, 268, 269, 270, 271, 272, 273, 274, 275, 276, 277, 278, 279, 280, 281, 282, 283, 71, 73, 285, 286, 287, 288, 289, 290, 291, 292, 293, 294, 295, 296, 297, 298, 299, 300, 301, 324, 325, 326, 312, 302, 303, 304, 305, 306, 327, 328, 329, 330, 331, 332, 333, 334, 335] rfl (by decide +kernel)
set_option maxRecDepth 20000 in
theorem gX11_total_X11_timesBetween : GoodIn wsX11_total (wsV RX11 209 RX11 yX11_timesBetween wsX11_timesBetween) := goodIn_app (goodIn_of _ (by decide +kernel)) ggX11_total_X11_timesBetween
set_option maxRecDepth 20000 in
theorem ggX11_total_X9_howMany : GoodIn wsX11_total wsX9_howMany := goodIn_r _ [197] rfl (by decide +kernel)
set_option maxRecDepth 20000 in
theorem gX11_total_X9_howMany : GoodIn wsX11_total (va_wsS RX11 126 yX9_howMany wsX9_howMany) := goodIn_app (goodIn_of _ (by decide +kernel)) ggX11_total_X9_howMany
set_option maxRecDepth 20000 in
theorem ggX11_knot_X9_isPoint : GoodIn wsX11_knot wsX9_isPoint := goodIn_r _ [6, 7, 8, 5, 9] rfl (by decide +kernel)
set_option maxRecDepth 20000 in
theorem gX11_knot_X9_isPoint : GoodIn wsX11_knot (va_wsS RX11 186 yX9_isPoint wsX9_isPoint) := goodIn_app (goodIn_of _ (by decide +kernel)) ggX11_knot_X9_isPoint
set_option maxRecDepth 20000 in
theorem ggX11_knot_X11_countOn : GoodIn wsX11_knot wsX11_countOn := goodIn_r _ [14, 1, 15, 16, 17, 18, 13, 19, 20, 2, 21, 22, 23, 24, 25, 26, 27, 28, 29, 30, 5, 31, 32, 33, 34, 35, 4, 6, 7, 8, 9, 36, 37, 38, 39, 40, 41, 42, 43, 44, 45, 46, 47, 48, 49, 239, 240, 241, 242, 243, 244, 245, 246, 247, 248, 249, 250, 251, 252, 253, 254, 255, 256, 257, 258, 259] rfl (by decide +kernel)
set_option maxRecDepth 20000 in
theorem gX11_knot_X11_countOn : GoodIn wsX11_knot (wsV RX11 223 RX11 yX11_countOn wsX11_countOn) := goodIn_app (goodIn_of _ (by decide +kernel)) ggX11_knot_X11_countOn
set_option maxRecDepth 20000 in
theorem ggX11_knot_X11_coupleTimes : GoodIn wsX11_knot wsX11_coupleTimes := goodIn_r _ [53, 1, 15, 54, 2, 21, 22, 23, 24, 25, 26, 27, 55, 56, 57, 13, 58, 20, 28, 29, 30, 5, 31, 32, 33, 34, 35, 4, 6, 7, 8, 9, 36, 37, 38, 39, 40, 41, 42, 43, 44, 45, 46, 47, 48, 49, 59, 60, 61, 62, 63, 64, 65, 66, 67, 68, 69, 70, 71, 72, 73, 74, 75, 76, 77, 78, 79, 80, 81, 82, 83, 84, 85, 86, 87, 88, 89, 90, 91, 92, 93, 94, 95, 96, 97, 98, 99, 100, 101, 102, 103, 104, 105, 106, 107, 108, 109, 110, 111, 112, 113, 114, 115, 116, 117, 118, 119, 120, 121, 122, 123, 124, 125, 126, 127, 128, 129, 130, 131, 132, 133, 134, 135, 136, 137, 138, 139, 140, 141, 142, 143, 144, 145, 146, 147, 148, 149, 150, 151, 152, 153, 154, 155, 156, 157, 158, 159, 160, 161, 162, 163, 164, 165, 166, 167, 168, 169, 170, 171, 172, 173, 174, 175, 176, 177, 178, 179, 180, 181, 182, 183, 184, 185, 186, 187, 188, 189, 190, 191, 192, 193, 194, 195, 196, 197, 198, 199, 200, 201, 202, 203, 204, 205, 206, 207, 208, 209, 210, 211, 212, 213, 214, 215, 216, 217, 218, 219, 220, 221, 222, 223, 224, 225, 226, 227, 228, 229, 230, 231, 232, 233, 234, 235, 236, 237, 238, 239, 240, 241, 242, 243, 244, 245, 246, 247, 248, 249, 250, 251, 252, 253, 254, 255, 256, 257, 258, 259, 260, 261, 262, 263, 264, 265, 266, 267, 268, 269, 270, 271, 272, 273, 274, 275, 276, 277, 278] rfl (by decide +kernel)
set_option maxRecDepth 20000 in
theorem gX11_knot_X11_coupleTimes : GoodIn wsX11_knot (wsV RX11 226 RX11 yX11_coupleTimes wsX11_coupleTimes) := goodIn_app (goodIn_of _ (by decide +kernel)) ggX11_knot_X11_coupleTimes
set_option maxRecDepth 20000 in
theorem ggX11_most_X7_find : GoodIn wsX11_most wsX7_find := goodIn_r _ [8, 9, 10, 239, 240, 241, 242] rfl (by decide +kernel)
set_option maxRecDepth 20000 in
theorem gX11_most_X7_find : GoodIn wsX11_most (wsV RX11 135 RX7 yX7_find wsX7_find) := goodIn_app (goodIn_of _ (by decide +kernel)) ggX11_most_X7_find
set_option maxRecDepth 20000 in
theorem ggX11_most_X6_find : GoodIn wsX11_most wsX6_find := goodIn_r _ [15, 16, 17, 18, 19, 20, 21, 22, 23, 24, 25, 26, 27, 28, 29, 30, 31, 32, 33, 34, 35, 36, 37, 38, 39, 40, 41, 42, 43, 44, 45, 14, 46, 47, 48, 49, 50, 51, 52, 53, 54, 55, 56, 57, 58, 59, 60, 61, 62, 63, 64, 65, 66, 67, 68, 69, 70, 71, 72, 73, 74, 75, 76, 77, 78, 79, 80, 81, 82, 83, 84, 85, 86, 87, 88, 89, 90, 91, 92, 93, 94, 95, 96, 97, 98, 99, 100, 101, 102, 103, 104, 105, 106, 107, 108, 109, 110, 111, 112, 113, 114, 115, 116, 117, 118, 119, 243, 244, 245, 246, 247, 248, 249, 250, 251, 252, 253] rfl (by decide +kernel)
set_option maxRecDepth 20000 in
theorem gX11_most_X6_find : GoodIn wsX11_most (wsV RX11 183 RX6 yX6_find wsX6_find) := goodIn_app (goodIn_of _ (by decide +kernel)) ggX11_most_X6_find
set_option maxRecDepth 20000 in
theorem ggX11_most_X9_howMany : GoodIn wsX11_most wsX9_howMany := goodIn_r _ [123] rfl (by decide +kernel)
set_option maxRecDepth 20000 in
theorem gX11_most_X9_howMany : GoodIn wsX11_most (va_wsS RX11 126 yX9_howMany wsX9_howMany) := goodIn_app (goodIn_of _ (by decide +kernel)) ggX11_most_X9_howMany
