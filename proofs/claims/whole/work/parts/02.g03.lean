set_option maxRecDepth 20000 in
theorem ggX11_most_X11_areBothOn : GoodIn wsX11_most wsX11_areBothOn := goodIn_r _ [127, 128, 1, 3, 129, 130, 131, 122, 132, 133, 134, 135, 136, 137, 138, 139, 121, 123, 140, 141, 142, 143, 144, 35, 36, 37, 38, 39, 40, 41, 28, 42, 226, 227, 228, 229, 230, 231, 232, 233, 234, 235, 236, 237, 238, 239, 240, 241, 242, 254, 255, 256, 253] rfl (by decide +kernel)
set_option maxRecDepth 20000 in
theorem gX11_most_X11_areBothOn : GoodIn wsX11_most (wsV RX11 213 RX11 yX11_areBothOn wsX11_areBothOn) := goodIn_app (goodIn_of _ (by decide +kernel)) ggX11_most_X11_areBothOn
set_option maxRecDepth 20000 in
theorem ggX11_most_X11_timesAt : GoodIn wsX11_most wsX11_timesAt := goodIn_r _ [148, 128, 1, 3, 2, 149, 150, 151, 152, 153, 129, 130, 131, 122, 132, 133, 134, 135, 136, 137, 138, 139, 121, 123, 140, 141, 142, 143, 144, 35, 36, 37, 38, 39, 40, 41, 28, 42, 154, 155, 156, 157, 158, 159, 160, 161, 162, 80, 81, 82, 163, 164, 51, 52, 53, 54, 55, 56, 165, 166, 167, 168, 169, 170, 171, 172, 173, 174, 175, 176, 177, 71, 178, 179, 73, 74, 180, 181, 182, 183, 110, 111, 88, 89, 90, 184, 185, 186, 187, 188, 189, 190, 191, 192, 193, 194, 195, 196, 197, 198, 199, 200, 201, 202, 203, 204, 205, 206, 207, 208, 209, 210, 211, 212, 213, 214, 215, 216, 217, 218, 219, 220, 221, 222, 223, 224, 225, 70, 72, 226, 227, 228, 229, 230, 231, 232, 233, 234, 235, 236, 237, 238, 239, 240, 241, 242, 243, 244, 245, 246, 247, 257, 258, 259, 254, 255, 256, 253, 260, 261, 262, 263, 264, 265] rfl (by decide +kernel)
set_option maxRecDepth 20000 in
theorem gX11_most_X11_timesAt : GoodIn wsX11_most (wsV RX11 189 RX11 yX11_timesAt wsX11_timesAt) := goodIn_app (goodIn_of _ (by decide +kernel)) ggX11_most_X11_timesAt
set_option maxRecDepth 20000 in
theorem ggX11_move_X0_setMove : GoodIn wsX11_move wsX0_setMove := goodIn_r _ [9, 10, 11, 12, 13, 14, 15, 16, 17, 8, 18, 19, 20, 21, 22, 23, 24, 25, 26, 27, 28, 29, 30, 31, 32, 33, 34, 35, 36, 37, 38, 39, 126, 127, 128, 129, 130, 131, 132, 133, 134, 135, 136] rfl (by decide +kernel)
set_option maxRecDepth 20000 in
theorem gX11_move_X0_setMove : GoodIn wsX11_move (wsV RX11 229 RX0 yX0_setMove wsX0_setMove) := goodIn_app (goodIn_of _ (by decide +kernel)) ggX11_move_X0_setMove
set_option maxRecDepth 20000 in
theorem ggX11_move_X11_refuse : GoodIn wsX11_move wsX11_refuse := goodIn_r _ [43, 44, 109, 110, 111, 112, 113, 114, 115, 116, 117, 118, 119, 120, 121] rfl (by decide +kernel)
set_option maxRecDepth 20000 in
theorem gX11_move_X11_refuse : GoodIn wsX11_move (wsV RX11 95 RX11 yX11_refuse wsX11_refuse) := goodIn_app (goodIn_of _ (by decide +kernel)) ggX11_move_X11_refuse
set_option maxRecDepth 20000 in
theorem ggX11_move_X1_keep : GoodIn wsX11_move wsX1_keep := goodIn_r _ [49, 50, 51, 52, 53, 54, 55, 56, 57, 58, 48, 59, 60, 61, 62, 63, 64, 65, 66, 67, 68, 69, 70, 71, 72, 73, 74, 75, 76, 77, 78, 79, 22, 80, 24, 81, 137, 138, 139, 122, 123, 124, 125, 136] rfl (by decide +kernel)
set_option maxRecDepth 20000 in
theorem gX11_move_X1_keep : GoodIn wsX11_move (wsV RX11 233 RX1 yX1_keep wsX1_keep) := goodIn_app (goodIn_of _ (by decide +kernel)) ggX11_move_X1_keep
set_option maxRecDepth 20000 in
theorem ggX11_move_X0_moveAll : GoodIn wsX11_move wsX0_moveAll := goodIn_r _ [85, 86, 11, 87, 12, 88, 89, 10, 90, 91, 92, 93, 8, 94, 19, 20, 21, 22, 23, 24, 95, 96, 97, 98, 99, 100, 101, 102, 103, 36, 37, 38, 39, 29, 30, 31, 104, 105, 106, 107, 108, 78, 79, 80, 81, 74, 75, 76, 126, 127, 128, 129, 130, 131, 132, 133, 134, 135, 122, 123, 124, 125, 136] rfl (by decide +kernel)
set_option maxRecDepth 20000 in
theorem gX11_move_X0_moveAll : GoodIn wsX11_move (wsV RX11 236 RX0 yX0_moveAll wsX0_moveAll) := goodIn_app (goodIn_of _ (by decide +kernel)) ggX11_move_X0_moveAll
set_option maxRecDepth 20000 in
theorem ggX11_moved_X9_go : GoodIn wsX11_moved wsX9_go := goodIn_r _ [9, 10, 11, 12, 13, 14, 8, 15, 16, 17, 18, 80, 81, 82] rfl (by decide +kernel)
set_option maxRecDepth 20000 in
theorem gX11_moved_X9_go : GoodIn wsX11_moved (wsV RX11 152 RX9 yX9_go wsX9_go) := goodIn_app (goodIn_of _ (by decide +kernel)) ggX11_moved_X9_go
set_option maxRecDepth 20000 in
theorem ggX11_moved_X0_setMove : GoodIn wsX11_moved wsX0_setMove := goodIn_r _ [23, 24, 25, 26, 27, 28, 29, 30, 31, 22, 32, 33, 34, 35, 36, 37, 38, 39, 40, 41, 42, 43, 44, 45, 46, 47, 48, 49, 50, 51, 52, 53, 83, 84, 85, 86, 87, 88, 89, 90, 91, 92, 93] rfl (by decide +kernel)
set_option maxRecDepth 20000 in
theorem gX11_moved_X0_setMove : GoodIn wsX11_moved (wsV RX11 229 RX0 yX0_setMove wsX0_setMove) := goodIn_app (goodIn_of _ (by decide +kernel)) ggX11_moved_X0_setMove
set_option maxRecDepth 20000 in
theorem ggX11_moved_X0_whereTo : GoodIn wsX11_moved wsX0_whereTo := goodIn_r _ [57, 58, 59, 25, 60, 26, 24, 50, 51, 52, 36, 53, 38, 43, 44, 45, 46, 47, 48, 22, 49, 27, 28, 29, 61, 62, 80, 81, 82, 83, 84, 85, 86, 87, 88, 89, 90, 91, 92, 93] rfl (by decide +kernel)
set_option maxRecDepth 20000 in
theorem gX11_moved_X0_whereTo : GoodIn wsX11_moved (wsV RX11 239 RX0 yX0_whereTo wsX0_whereTo) := goodIn_app (goodIn_of _ (by decide +kernel)) ggX11_moved_X0_whereTo
set_option maxRecDepth 20000 in
theorem ggX11_make_X11_build : GoodIn wsX11_make wsX11_build := goodIn_r _ [10, 1, 3, 11, 12, 13, 14, 15, 16, 17, 18, 19, 20, 21, 22, 23, 24, 9, 25, 4, 26, 27, 28, 29, 30, 31, 32, 33, 34, 35, 36, 37, 38, 39, 40, 41, 42, 43, 44, 45, 46, 47, 48, 49, 50, 51, 52, 53, 54, 55, 56, 57, 58, 59, 60, 61, 62, 63, 64, 65, 66, 67, 68, 69, 70, 71, 72, 73, 74, 75, 76, 77, 78, 79, 80, 81, 82, 83, 84, 85, 86, 87, 88, 89, 90, 91, 92, 93, 94, 95, 96, 97, 98, 99, 100, 101, 102, 103, 104, 105, 106, 107, 108, 109, 110, 111, 112, 113, 114, 115, 116, 117, 118, 119, 120, 121, 122, 123, 124, 125, 126, 127, 128, 129, 130, 131, 132, 133, 134, 135, 136, 137, 138, 139, 140, 141, 142, 143, 144, 145, 146, 147, 148, 149, 150, 151, 152, 153, 154, 155, 156, 157, 158, 159, 160, 161, 162, 163, 164, 165, 166, 167, 168, 169, 170, 171, 172, 173, 174, 175, 176, 177, 178, 179, 180, 181, 182, 183, 184, 185, 186, 187, 188, 189, 190, 191, 192, 193, 194, 195, 196, 197, 198, 199, 200, 201, 202, 203, 204, 205, 206, 207, 208, 209, 210, 211, 212, 213, 214, 215, 216, 217, 218, 219, 220, 221, 222, 223, 224, 225, 226, 227, 228, 229, 230, 231, 232, 233, 234, 235, 236, 237, 238, 239, 240, 241, 242, 243, 244, 245, 246, 284, 285, 286, 287, 288, 289, 290, 291, 292, 293, 294, 295, 296, 297, 298, 299, 300, 311, 312, 313, 301, 302, 303, 304, 305, 306, 307, 308, 309, 310, 314, 315, 316, 317, 318, 319, 320, 321, 322, 323, 324, 325, 326, 327] rfl (by decide +kernel)
set_option maxRecDepth 20000 in
theorem gX11_make_X11_build : GoodIn wsX11_make (wsV RX11 243 RX11 yX11_build wsX11_build) := goodIn_app (goodIn_of _ (by decide +kernel)) ggX11_make_X11_build
set_option maxRecDepth 20000 in
theorem ggX11_make_X2_top : GoodIn wsX11_make wsX2_top := goodIn_r _ [30, 31, 32, 33, 34, 35, 314] rfl (by decide +kernel)
set_option maxRecDepth 20000 in
theorem gX11_make_X2_top : GoodIn wsX11_make (wsV RX11 148 RX2 yX2_top wsX2_top) := goodIn_app (goodIn_of _ (by decide +kernel)) ggX11_make_X2_top
set_option maxRecDepth 20000 in
theorem ggX11_make_X11_refuse : GoodIn wsX11_make wsX11_refuse := goodIn_r _ [250, 251, 284, 285, 286, 287, 288, 289, 290, 291, 292, 293, 294, 295, 296] rfl (by decide +kernel)
set_option maxRecDepth 20000 in
theorem gX11_make_X11_refuse : GoodIn wsX11_make (wsV RX11 95 RX11 yX11_refuse wsX11_refuse) := goodIn_app (goodIn_of _ (by decide +kernel)) ggX11_make_X11_refuse
set_option maxRecDepth 20000 in
theorem ggX11_make_X1_keep : GoodIn wsX11_make wsX1_keep := goodIn_r _ [256, 257, 258, 259, 260, 88, 34, 89, 261, 262, 255, 263, 264, 265, 266, 267, 268, 269, 270, 18, 271, 272, 20, 21, 273, 274, 57, 58, 59, 275, 53, 54, 29, 55, 31, 56, 328, 329, 330, 297, 298, 299, 300, 314] rfl (by decide +kernel)
set_option maxRecDepth 20000 in
theorem gX11_make_X1_keep : GoodIn wsX11_make (wsV RX11 233 RX1 yX1_keep wsX1_keep) := goodIn_app (goodIn_of _ (by decide +kernel)) ggX11_make_X1_keep
set_option maxRecDepth 20000 in
theorem ggX11_make_X7_add : GoodIn wsX11_make wsX7_add := goodIn_r _ [279, 20, 21, 275, 53, 54, 29, 55, 31, 56, 57, 58, 59, 280, 281, 282, 18, 283, 273, 297, 298, 299, 300, 314] rfl (by decide +kernel)
set_option maxRecDepth 20000 in
theorem gX11_make_X7_add : GoodIn wsX11_make (wsV RX11 250 RX7 yX7_add wsX7_add) := goodIn_app (goodIn_of _ (by decide +kernel)) ggX11_make_X7_add
set_option maxRecDepth 20000 in
theorem ggX11_drop_X7_find : GoodIn wsX11_drop wsX7_find := goodIn_r _ [7, 8, 9, 77, 78, 79, 80] rfl (by decide +kernel)
set_option maxRecDepth 20000 in
theorem gX11_drop_X7_find : GoodIn wsX11_drop (wsV RX11 135 RX7 yX7_find wsX7_find) := goodIn_app (goodIn_of _ (by decide +kernel)) ggX11_drop_X7_find
set_option maxRecDepth 20000 in
theorem ggX11_drop_X11_refuse : GoodIn wsX11_drop wsX11_refuse := goodIn_r _ [14, 15, 64, 65, 66, 67, 68, 69, 70, 71, 72, 73, 74, 75, 76] rfl (by decide +kernel)
set_option maxRecDepth 20000 in
theorem gX11_drop_X11_refuse : GoodIn wsX11_drop (wsV RX11 95 RX11 yX11_refuse wsX11_refuse) := goodIn_app (goodIn_of _ (by decide +kernel)) ggX11_drop_X11_refuse
set_option maxRecDepth 20000 in
theorem ggX11_drop_X2_top : GoodIn wsX11_drop wsX2_top := goodIn_r _ [20, 21, 22, 23, 24, 25, 81] rfl (by decide +kernel)
set_option maxRecDepth 20000 in
theorem gX11_drop_X2_top : GoodIn wsX11_drop (wsV RX11 148 RX2 yX2_top wsX2_top) := goodIn_app (goodIn_of _ (by decide +kernel)) ggX11_drop_X2_top
set_option maxRecDepth 20000 in
theorem ggX11_drop_X1_keep : GoodIn wsX11_drop wsX1_keep := goodIn_r _ [30, 31, 32, 33, 34, 35, 24, 36, 37, 38, 29, 39, 40, 41, 42, 43, 44, 45, 46, 6, 47, 48, 8, 9, 49, 50, 51, 52, 53, 54, 55, 56, 19, 57, 21, 58, 82, 83, 84, 77, 78, 79, 80, 81] rfl (by decide +kernel)
set_option maxRecDepth 20000 in
theorem gX11_drop_X1_keep : GoodIn wsX11_drop (wsV RX11 233 RX1 yX1_keep wsX1_keep) := goodIn_app (goodIn_of _ (by decide +kernel)) ggX11_drop_X1_keep
set_option maxRecDepth 20000 in
theorem ggX11_drop_X7_remove : GoodIn wsX11_drop wsX7_remove := goodIn_r _ [62, 8, 9, 49, 50, 51, 52, 53, 63, 4, 5, 6, 7, 54, 55, 56, 19, 57, 21, 58, 77, 78, 79, 80, 81] rfl (by decide +kernel)
set_option maxRecDepth 20000 in
theorem gX11_drop_X7_remove : GoodIn wsX11_drop (wsV RX11 254 RX7 yX7_remove wsX7_remove) := goodIn_app (goodIn_of _ (by decide +kernel)) ggX11_drop_X7_remove
set_option maxRecDepth 20000 in
theorem ggX11_undo_X1_back : GoodIn wsX11_undo wsX1_back := goodIn_r _ [7, 8, 9, 10, 11, 12, 6, 13, 14, 15, 16, 17, 18, 19, 20, 21, 22, 23, 24, 25, 26, 27, 28, 29, 30, 31, 32, 33, 34, 35, 36, 37, 57, 58, 59, 60, 61, 62, 63, 64] rfl (by decide +kernel)
set_option maxRecDepth 20000 in
theorem gX11_undo_X1_back : GoodIn wsX11_undo (wsV RX11 257 RX1 yX1_back wsX1_back) := goodIn_app (goodIn_of _ (by decide +kernel)) ggX11_undo_X1_back
set_option maxRecDepth 20000 in
theorem ggX11_undo_X11_refuse : GoodIn wsX11_undo wsX11_refuse := goodIn_r _ [42, 43, 44, 45, 46, 47, 48, 49, 50, 51, 52, 53, 54, 55, 56] rfl (by decide +kernel)
set_option maxRecDepth 20000 in
theorem gX11_undo_X11_refuse : GoodIn wsX11_undo (wsV RX11 95 RX11 yX11_refuse wsX11_refuse) := goodIn_app (goodIn_of _ (by decide +kernel)) ggX11_undo_X11_refuse
set_option maxRecDepth 20000 in
theorem ggX11_lookAt_X7_find : GoodIn wsX11_lookAt wsX7_find := goodIn_r _ [9, 10, 11, 99, 100, 101, 102] rfl (by decide +kernel)
set_option maxRecDepth 20000 in
theorem gX11_lookAt_X7_find : GoodIn wsX11_lookAt (wsV RX11 135 RX7 yX7_find wsX7_find) := goodIn_app (goodIn_of _ (by decide +kernel)) ggX11_lookAt_X7_find
set_option maxRecDepth 20000 in
theorem ggX11_lookAt_X9_go : GoodIn wsX11_lookAt wsX9_go := goodIn_r _ [16, 17, 18, 19, 20, 21, 15, 22, 23, 24, 25, 103, 104, 105] rfl (by decide +kernel)
set_option maxRecDepth 20000 in
theorem gX11_lookAt_X9_go : GoodIn wsX11_lookAt (wsV RX11 152 RX9 yX9_go wsX9_go) := goodIn_app (goodIn_of _ (by decide +kernel)) ggX11_lookAt_X9_go
set_option maxRecDepth 20000 in
theorem ggX11_lookAt_X10_look : GoodIn wsX11_lookAt wsX10_look := goodIn_r _ [30, 31, 32, 33, 34, 35, 36, 37, 38, 39, 40, 41, 42, 43, 44, 45, 46, 47, 48, 49, 50, 51, 52, 53, 54, 55, 56, 57, 29, 58, 59, 60, 61, 62, 63, 64, 65, 66, 67, 68, 69, 70, 71, 72, 73, 74, 75, 76, 77, 78, 79, 80, 81, 82, 83, 84, 85, 106, 107, 108, 103, 104, 105, 109] rfl (by decide +kernel)
set_option maxRecDepth 20000 in
theorem gX11_lookAt_X10_look : GoodIn wsX11_lookAt (wsV RX11 202 RX10 yX10_look wsX10_look) := goodIn_app (goodIn_of _ (by decide +kernel)) ggX11_lookAt_X10_look
set_option maxRecDepth 20000 in
theorem ggX11_choose_X7_find : GoodIn wsX11_choose wsX7_find := goodIn_r _ [7, 8, 9, 125, 126, 127, 128] rfl (by decide +kernel)
set_option maxRecDepth 20000 in
theorem gX11_choose_X7_find : GoodIn wsX11_choose (wsV RX11 135 RX7 yX7_find wsX7_find) := goodIn_app (goodIn_of _ (by decide +kernel)) ggX11_choose_X7_find
set_option maxRecDepth 20000 in
theorem ggX11_choose_X9_howMany : GoodIn wsX11_choose wsX9_howMany := goodIn_r _ [13] rfl (by decide +kernel)
set_option maxRecDepth 20000 in
theorem gX11_choose_X9_howMany : GoodIn wsX11_choose (va_wsS RX11 126 yX9_howMany wsX9_howMany) := goodIn_app (goodIn_of _ (by decide +kernel)) ggX11_choose_X9_howMany
set_option maxRecDepth 20000 in
theorem ggX11_choose_X11_hasTrait : GoodIn wsX11_choose wsX11_hasTrait := goodIn_r _ [18, 19, 1, 2, 20, 21, 22, 23, 12, 24, 25, 26, 27, 28, 29, 30, 31, 11, 13, 32, 33, 34, 35, 36, 37, 38, 39, 40, 41, 42, 43, 44, 45, 46, 47, 48, 49, 50, 51, 52, 53, 54, 55, 56, 57, 58, 59, 60, 61, 62, 63, 64, 65, 66, 67, 68, 69, 70, 71, 72, 73, 74, 75, 76, 77, 78, 17, 79, 80, 81, 82, 83, 84, 85, 86, 87, 88, 89, 90, 91, 92, 93, 94, 95, 96, 97, 98, 99, 100, 101, 102, 103, 104, 105, 106, 107, 108, 109, 110, 111, 112, 113, 114, 115, 116, 117, 118, 119, 120, 121, 122, 123, 124, 125, 126, 127, 128, 129, 130, 131, 132, 133, 134, 135] rfl (by decide +kernel)
set_option maxRecDepth 20000 in
theorem gX11_choose_X11_hasTrait : GoodIn wsX11_choose (wsV RX11 179 RX11 yX11_hasTrait wsX11_hasTrait) := goodIn_app (goodIn_of _ (by decide +kernel)) ggX11_choose_X11_hasTrait
set_option maxRecDepth 20000 in
theorem ggX11_hasTrait_X9_go : GoodIn wsX11_hasTrait wsX9_go := goodIn_r _ [9, 10, 11, 12, 13, 14, 8, 15, 16, 17, 18, 117, 118, 119] rfl (by decide +kernel)
set_option maxRecDepth 20000 in
theorem gX11_hasTrait_X9_go : GoodIn wsX11_hasTrait (wsV RX11 152 RX9 yX9_go wsX9_go) := goodIn_app (goodIn_of _ (by decide +kernel)) ggX11_hasTrait_X9_go
set_option maxRecDepth 20000 in
theorem ggX11_hasTrait_X9_valueOf : GoodIn wsX11_hasTrait wsX9_valueOf := goodIn_r _ [22, 12, 11, 10, 23, 24, 25, 26, 27, 28, 29, 30, 31, 32, 117, 118, 119, 120] rfl (by decide +kernel)
set_option maxRecDepth 20000 in
theorem gX11_hasTrait_X9_valueOf : GoodIn wsX11_hasTrait (wsV RX11 155 RX9 yX9_valueOf wsX9_valueOf) := goodIn_app (goodIn_of _ (by decide +kernel)) ggX11_hasTrait_X9_valueOf
set_option maxRecDepth 20000 in
theorem ggX11_hasTrait_X10_look : GoodIn wsX11_hasTrait wsX10_look := goodIn_r _ [37, 38, 39, 40, 41, 42, 43, 26, 44, 28, 45, 24, 25, 27, 29, 30, 31, 32, 46, 47, 48, 49, 50, 51, 52, 53, 54, 55, 36, 56, 57, 58, 59, 60, 61, 62, 63, 64, 65, 66, 67, 68, 69, 70, 71, 72, 73, 74, 75, 76, 77, 78, 79, 80, 81, 82, 83, 121, 122, 123, 117, 118, 119, 120] rfl (by decide +kernel)
set_option maxRecDepth 20000 in
theorem gX11_hasTrait_X10_look : GoodIn wsX11_hasTrait (wsV RX11 202 RX10 yX10_look wsX10_look) := goodIn_app (goodIn_of _ (by decide +kernel)) ggX11_hasTrait_X10_look
set_option maxRecDepth 20000 in
theorem ggX11_hasTrait_X10_least : GoodIn wsX11_hasTrait wsX10_least := goodIn_r _ [87, 39, 88, 89, 90, 26, 91, 92, 93, 31, 94, 28, 121, 122, 123, 120] rfl (by decide +kernel)
set_option maxRecDepth 20000 in
theorem gX11_hasTrait_X10_least : GoodIn wsX11_hasTrait (wsV RX11 166 RX10 yX10_least wsX10_least) := goodIn_app (goodIn_of _ (by decide +kernel)) ggX11_hasTrait_X10_least
set_option maxRecDepth 20000 in
theorem ggX11_hasTrait_X10_bendHere : GoodIn wsX11_hasTrait wsX10_bendHere := goodIn_r _ [98, 39, 38, 99, 85, 86, 36, 87, 88, 89, 90, 26, 91, 92, 93, 31, 94, 28, 46, 47, 48, 49, 50, 51, 52, 69, 66, 70, 65, 67, 68, 121, 122, 123, 120] rfl (by decide +kernel)
set_option maxRecDepth 20000 in
theorem gX11_hasTrait_X10_bendHere : GoodIn wsX11_hasTrait (wsV RX11 176 RX10 yX10_bendHere wsX10_bendHere) := goodIn_app (goodIn_of _ (by decide +kernel)) ggX11_hasTrait_X10_bendHere
set_option maxRecDepth 20000 in
theorem ggX11_timesAt_X9_go : GoodIn wsX11_timesAt wsX9_go := goodIn_r _ [14, 15, 16, 17, 18, 19, 13, 20, 21, 22, 23, 154, 155, 156] rfl (by decide +kernel)
set_option maxRecDepth 20000 in
theorem gX11_timesAt_X9_go : GoodIn wsX11_timesAt (wsV RX11 152 RX9 yX9_go wsX9_go) := goodIn_app (goodIn_of _ (by decide +kernel)) ggX11_timesAt_X9_go
set_option maxRecDepth 20000 in
theorem ggX11_timesAt_X9_valueOf : GoodIn wsX11_timesAt wsX9_valueOf := goodIn_r _ [27, 17, 16, 15, 28, 29, 30, 31, 32, 33, 34, 35, 36, 37, 154, 155, 156, 157] rfl (by decide +kernel)
set_option maxRecDepth 20000 in
theorem gX11_timesAt_X9_valueOf : GoodIn wsX11_timesAt (wsV RX11 155 RX9 yX9_valueOf wsX9_valueOf) := goodIn_app (goodIn_of _ (by decide +kernel)) ggX11_timesAt_X9_valueOf
set_option maxRecDepth 20000 in
theorem ggX11_timesAt_X10_look : GoodIn wsX11_timesAt wsX10_look := goodIn_r _ [42, 43, 44, 45, 46, 47, 48, 31, 49, 33, 50, 29, 30, 32, 34, 35, 36, 37, 51, 52, 53, 54, 55, 56, 57, 58, 59, 60, 41, 61, 62, 63, 64, 65, 66, 67, 68, 69, 70, 71, 72, 73, 74, 75, 76, 77, 78, 79, 80, 81, 82, 83, 84, 85, 86, 87, 88, 151, 152, 153, 154, 155, 156, 157] rfl (by decide +kernel)
set_option maxRecDepth 20000 in
theorem gX11_timesAt_X10_look : GoodIn wsX11_timesAt (wsV RX11 202 RX10 yX10_look wsX10_look) := goodIn_app (goodIn_of _ (by decide +kernel)) ggX11_timesAt_X10_look
set_option maxRecDepth 20000 in
theorem ggX11_timesAt_X4_run : GoodIn wsX11_timesAt wsX4_run := goodIn_r _ [93, 94, 95, 96, 97, 98, 99, 100, 35, 36, 37, 101, 102, 92, 103, 104, 52, 53, 31, 54, 33, 55, 56, 57, 105, 106, 107, 108, 109, 110, 111, 112, 113, 114, 115, 116, 117, 118, 119, 120, 121, 122, 123, 124, 125, 126, 127, 71, 128, 74, 75, 158, 159, 160, 161, 162, 163, 157] rfl (by decide +kernel)
set_option maxRecDepth 20000 in
theorem gX11_timesAt_X4_run : GoodIn wsX11_timesAt (wsV RX11 264 RX4 yX4_run wsX4_run) := goodIn_app (goodIn_of _ (by decide +kernel)) ggX11_timesAt_X4_run
set_option maxRecDepth 20000 in
theorem ggX11_areBothOn_X9_go : GoodIn wsX11_areBothOn wsX9_go := goodIn_r _ [8, 9, 10, 11, 12, 13, 7, 14, 15, 16, 17, 49, 50, 51] rfl (by decide +kernel)
set_option maxRecDepth 20000 in
theorem gX11_areBothOn_X9_go : GoodIn wsX11_areBothOn (wsV RX11 152 RX9 yX9_go wsX9_go) := goodIn_app (goodIn_of _ (by decide +kernel)) ggX11_areBothOn_X9_go
set_option maxRecDepth 20000 in
theorem ggX11_areBothOn_X9_valueOf : GoodIn wsX11_areBothOn wsX9_valueOf := goodIn_r _ [21, 11, 10, 9, 22, 23, 24, 25, 26, 27, 28, 29, 30, 31, 49, 50, 51, 52] rfl (by decide +kernel)
set_option maxRecDepth 20000 in
theorem gX11_areBothOn_X9_valueOf : GoodIn wsX11_areBothOn (wsV RX11 155 RX9 yX9_valueOf wsX9_valueOf) := goodIn_app (goodIn_of _ (by decide +kernel)) ggX11_areBothOn_X9_valueOf
set_option maxRecDepth 20000 in
theorem ggX11_timesBetween_X11_areBothOn : GoodIn wsX11_timesBetween wsX11_areBothOn := goodIn_r _ [5, 6, 7, 8, 9, 10, 11, 12, 13, 14, 15, 16, 17, 18, 19, 20, 21, 22, 23, 24, 25, 26, 27, 28, 29, 30, 31, 32, 33, 34, 35, 36, 137, 138, 139, 140, 141, 142, 143, 144, 145, 146, 147, 148, 149, 150, 151, 152, 153, 154, 155, 156, 157] rfl (by decide +kernel)
set_option maxRecDepth 20000 in
theorem gX11_timesBetween_X11_areBothOn : GoodIn wsX11_timesBetween (wsV RX11 213 RX11 yX11_areBothOn wsX11_areBothOn) := goodIn_app (goodIn_of _ (by decide +kernel)) ggX11_timesBetween_X11_areBothOn
set_option maxRecDepth 20000 in
theorem ggX11_timesBetween_X11_timesAt : GoodIn wsX11_timesBetween wsX11_timesAt := goodIn_r _ [40, 6, 7, 8, 41, 42, 43, 44, 45, 46, 9, 10, 11, 12, 13, 14, 15, 16, 17, 18, 19, 20, 21, 22, 23, 24, 25, 26, 27, 28, 29, 30, 31, 32, 33, 34, 35, 36, 47, 48, 49, 50, 51, 52, 53, 54, 55, 56, 57, 58, 59, 60, 61, 62, 63, 64, 65, 66, 67, 68, 69, 70, 71, 72, 73, 74, 75, 76, 77, 78, 79, 4, 80, 81, 82, 83, 84, 85, 86, 87, 88, 89, 90, 91, 92, 93, 94, 95, 96, 97, 98, 99, 100, 101, 102, 103, 104, 105, 106, 107, 108, 109, 110, 111, 112, 113, 114, 115, 116, 117, 118, 119, 120, 121, 122, 123, 124, 125, 126, 127, 128, 129, 130, 131, 132, 133, 134, 135, 136, 137, 138, 139, 140, 141, 142, 143, 144, 145, 146, 147, 148, 149, 150, 151, 152, 153, 158, 159, 160, 161, 162, 163, 164, 165, 154, 155, 156, 157, 166, 167, 168, 169, 170, 171] rfl (by decide +kernel)
set_option maxRecDepth 20000 in
theorem gX11_timesBetween_X11_timesAt : GoodIn wsX11_timesBetween (wsV RX11 189 RX11 yX11_timesAt wsX11_timesAt) := goodIn_app (goodIn_of _ (by decide +kernel)) ggX11_timesBetween_X11_timesAt
set_option maxRecDepth 20000 in
theorem ggX11_countOn_X11_value : GoodIn wsX11_countOn wsX11_value := goodIn_r _ [7, 1, 8, 9, 10, 11, 12, 13, 14, 15, 16, 17, 18, 19, 20, 21, 22, 23, 24, 25, 26, 27, 28, 29, 30, 31, 32, 33, 34, 35, 36, 37, 38, 39, 40, 41, 42, 43, 44, 45, 46, 47, 48, 49, 50, 51, 52, 53, 54, 55, 56, 57, 58, 59, 60, 61, 62, 63, 64, 65] rfl (by decide +kernel)
set_option maxRecDepth 20000 in
theorem gX11_countOn_X11_value : GoodIn wsX11_countOn (wsV RX11 267 RX11 yX11_value wsX11_value) := goodIn_app (goodIn_of _ (by decide +kernel)) ggX11_countOn_X11_value
set_option maxRecDepth 20000 in
theorem ggX11_coupleTimes_X7_find : GoodIn wsX11_coupleTimes wsX7_find := goodIn_r _ [9, 10, 11, 239, 240, 241, 242] rfl (by decide +kernel)
set_option maxRecDepth 20000 in
theorem gX11_coupleTimes_X7_find : GoodIn wsX11_coupleTimes (wsV RX11 135 RX7 yX7_find wsX7_find) := goodIn_app (goodIn_of _ (by decide +kernel)) ggX11_coupleTimes_X7_find
set_option maxRecDepth 20000 in
theorem ggX11_coupleTimes_X11_areBothOn : GoodIn wsX11_coupleTimes wsX11_areBothOn := goodIn_r _ [16, 17, 1, 4, 18, 19, 20, 21, 22, 23, 24, 25, 26, 27, 28, 29, 30, 31, 32, 33, 34, 35, 36, 37, 38, 39, 40, 41, 42, 43, 44, 45, 226, 227, 228, 229, 230, 231, 232, 233, 234, 235, 236, 237, 238, 239, 240, 241, 242, 243, 244, 245, 246] rfl (by decide +kernel)
set_option maxRecDepth 20000 in
theorem gX11_coupleTimes_X11_areBothOn : GoodIn wsX11_coupleTimes (wsV RX11 213 RX11 yX11_areBothOn wsX11_areBothOn) := goodIn_app (goodIn_of _ (by decide +kernel)) ggX11_coupleTimes_X11_areBothOn
set_option maxRecDepth 20000 in
theorem ggX11_coupleTimes_X6_find : GoodIn wsX11_coupleTimes wsX6_find := goodIn_r _ [50, 51, 52, 53, 54, 55, 56, 57, 58, 59, 60, 61, 62, 44, 63, 64, 65, 66, 67, 68, 37, 38, 39, 40, 41, 42, 43, 45, 69, 70, 71, 49, 72, 73, 74, 75, 76, 77, 78, 79, 80, 81, 82, 83, 84, 85, 86, 87, 88, 89, 90, 91, 92, 93, 94, 95, 96, 15, 97, 98, 99, 100, 101, 102, 103, 104, 105, 106, 107, 108, 109, 110, 111, 112, 113, 114, 115, 116, 117, 118, 119, 120, 121, 122, 123, 124, 125, 126, 127, 128, 129, 130, 131, 132, 133, 134, 135, 136, 137, 138, 139, 140, 141, 142, 143, 144, 247, 248, 249, 250, 251, 252, 253, 254, 255, 256, 246] rfl (by decide +kernel)
set_option maxRecDepth 20000 in
theorem gX11_coupleTimes_X6_find : GoodIn wsX11_coupleTimes (wsV RX11 183 RX6 yX6_find wsX6_find) := goodIn_app (goodIn_of _ (by decide +kernel)) ggX11_coupleTimes_X6_find
set_option maxRecDepth 20000 in
theorem ggX11_coupleTimes_X11_timesAt : GoodIn wsX11_coupleTimes wsX11_timesAt := goodIn_r _ [148, 17, 1, 4, 3, 149, 150, 151, 152, 153, 18, 19, 20, 21, 22, 23, 24, 25, 26, 27, 28, 29, 30, 31, 32, 33, 34, 35, 36, 37, 38, 39, 40, 41, 42, 43, 44, 45, 154, 155, 156, 157, 158, 159, 160, 161, 162, 105, 106, 107, 163, 164, 77, 78, 79, 80, 81, 82, 165, 166, 167, 168, 169, 170, 171, 172, 173, 174, 175, 176, 177, 15, 178, 179, 98, 99, 180, 181, 182, 183, 135, 136, 113, 114, 115, 184, 185, 186, 187, 188, 189, 190, 191, 192, 193, 194, 195, 196, 197, 198, 199, 200, 201, 202, 203, 204, 205, 206, 207, 208, 209, 210, 211, 212, 213, 214, 215, 216, 217, 218, 219, 220, 221, 222, 223, 224, 225, 96, 97, 226, 227, 228, 229, 230, 231, 232, 233, 234, 235, 236, 237, 238, 239, 240, 241, 242, 247, 248, 249, 250, 251, 257, 258, 259, 243, 244, 245, 246, 260, 261, 262, 263, 264, 265] rfl (by decide +kernel)
set_option maxRecDepth 20000 in
theorem gX11_coupleTimes_X11_timesAt : GoodIn wsX11_coupleTimes (wsV RX11 189 RX11 yX11_timesAt wsX11_timesAt) := goodIn_app (goodIn_of _ (by decide +kernel)) ggX11_coupleTimes_X11_timesAt
set_option maxRecDepth 20000 in
theorem ggX11_build_X7_find : GoodIn wsX11_build wsX7_find := goodIn_r _ [11, 12, 13, 254, 255, 256, 257] rfl (by decide +kernel)
set_option maxRecDepth 20000 in
theorem gX11_build_X7_find : GoodIn wsX11_build (wsV RX11 135 RX7 yX7_find wsX7_find) := goodIn_app (goodIn_of _ (by decide +kernel)) ggX11_build_X7_find
set_option maxRecDepth 20000 in
theorem ggX11_build_X11_buildProduct : GoodIn wsX11_build wsX11_buildProduct := goodIn_r _ [18, 2, 19, 1, 3, 20, 21, 22, 23, 24, 25, 26, 27, 28, 29, 30, 31, 32, 33, 34, 35, 36, 37, 38, 39, 40, 41, 241, 242, 243, 244, 245, 246, 247, 248, 249, 250, 251, 252, 253, 261, 262, 263, 264, 265, 266, 267, 268, 269, 270, 254, 255, 256, 257, 271] rfl (by decide +kernel)
set_option maxRecDepth 20000 in
theorem gX11_build_X11_buildProduct : GoodIn wsX11_build (wsV RX11 270 RX11 yX11_buildProduct wsX11_buildProduct) := goodIn_app (goodIn_of _ (by decide +kernel)) ggX11_build_X11_buildProduct
set_option maxRecDepth 20000 in
theorem ggX11_build_X11_buildMix : GoodIn wsX11_build wsX11_buildMix := goodIn_r _ [45, 2, 19, 1, 3, 46, 47, 48, 23, 49, 25, 50, 51, 52, 53, 54, 55, 17, 56, 57, 58, 59, 60, 38, 39, 40, 41, 241, 242, 243, 244, 245, 246, 247, 248, 249, 250, 251, 252, 253, 261, 262, 263, 264, 265, 266, 267, 268, 269, 270, 254, 255, 256, 257, 271] rfl (by decide +kernel)
set_option maxRecDepth 20000 in
theorem gX11_build_X11_buildMix : GoodIn wsX11_build (wsV RX11 274 RX11 yX11_buildMix wsX11_buildMix) := goodIn_app (goodIn_of _ (by decide +kernel)) ggX11_build_X11_buildMix
set_option maxRecDepth 20000 in
theorem ggX11_build_X11_buildCommon : GoodIn wsX11_build wsX11_buildCommon := goodIn_r _ [64, 2, 19, 65, 1, 3, 66, 67, 68, 69, 70, 71, 72, 73, 74, 75, 76, 77, 78, 79, 80, 81, 82, 28, 83, 84, 85, 86, 87, 88, 21, 22, 23, 24, 25, 26, 27, 29, 89, 90, 91, 92, 93, 94, 95, 96, 97, 98, 99, 100, 101, 102, 103, 104, 105, 106, 107, 108, 109, 110, 111, 112, 113, 114, 115, 116, 17, 117, 55, 56, 118, 119, 120, 121, 122, 35, 36, 37, 123, 124, 125, 126, 127, 128, 129, 130, 131, 47, 48, 49, 50, 51, 52, 53, 132, 133, 134, 135, 34, 136, 137, 138, 139, 140, 141, 142, 143, 38, 39, 40, 41, 144, 145, 146, 147, 46, 241, 242, 243, 244, 245, 246, 247, 248, 249, 250, 251, 252, 253, 261, 262, 263, 264, 265, 266, 267, 268, 269, 270, 254, 255, 256, 257, 272, 273, 274, 275, 276, 277, 278, 279, 280, 281, 271] rfl (by decide +kernel)
set_option maxRecDepth 20000 in
theorem gX11_build_X11_buildCommon : GoodIn wsX11_build (wsV RX11 277 RX11 yX11_buildCommon wsX11_buildCommon) := goodIn_app (goodIn_of _ (by decide +kernel)) ggX11_build_X11_buildCommon
set_option maxRecDepth 20000 in
theorem ggX11_build_X0_lineThrough : GoodIn wsX11_build wsX0_lineThrough := goodIn_r _ [152, 153, 154, 155, 156, 157, 158, 159, 160, 161, 162, 163, 164, 165, 166, 167, 168, 169, 170, 171, 172, 173, 174, 175, 151, 176, 177, 55, 17, 56, 178, 179, 180, 181, 35, 36, 23, 37, 25, 182, 128, 129, 130, 100, 101, 102, 183, 21, 22, 24, 26, 27, 28, 29, 184, 145, 146, 147, 136, 137, 138, 139, 140, 141, 82, 83, 142, 97, 98, 99, 116, 117, 261, 262, 263, 264, 265, 266, 267, 268, 269, 270, 282, 283, 284, 271] rfl (by decide +kernel)
set_option maxRecDepth 20000 in
theorem gX11_build_X0_lineThrough : GoodIn wsX11_build (wsV RX11 280 RX0 yX0_lineThrough wsX0_lineThrough) := goodIn_app (goodIn_of _ (by decide +kernel)) ggX11_build_X0_lineThrough
set_option maxRecDepth 20000 in
theorem ggX11_build_X11_lookAt : GoodIn wsX11_build wsX11_lookAt := goodIn_r _ [188, 1, 6, 3, 4, 7, 8, 9, 10, 11, 12, 13, 189, 160, 161, 162, 163, 164, 165, 166, 167, 168, 169, 170, 171, 172, 190, 191, 192, 193, 194, 195, 196, 197, 198, 35, 36, 23, 37, 25, 199, 21, 22, 24, 26, 27, 28, 29, 200, 97, 98, 99, 100, 101, 102, 201, 202, 203, 204, 205, 206, 207, 208, 209, 210, 211, 212, 213, 17, 214, 54, 55, 56, 215, 216, 217, 218, 142, 143, 128, 129, 130, 219, 220, 221, 222, 241, 242, 243, 244, 245, 246, 247, 248, 249, 250, 251, 252, 253, 254, 255, 256, 257, 282, 283, 284, 258, 259, 260, 271] rfl (by decide +kernel)
set_option maxRecDepth 20000 in
theorem gX11_build_X11_lookAt : GoodIn wsX11_build (wsV RX11 163 RX11 yX11_lookAt wsX11_lookAt) := goodIn_app (goodIn_of _ (by decide +kernel)) ggX11_build_X11_lookAt
set_option maxRecDepth 20000 in
theorem ggX11_build_X10_least : GoodIn wsX11_build wsX10_least := goodIn_r _ [226, 196, 227, 138, 139, 23, 140, 141, 82, 28, 83, 25, 258, 259, 260, 271] rfl (by decide +kernel)
set_option maxRecDepth 20000 in
theorem gX11_build_X10_least : GoodIn wsX11_build (wsV RX11 166 RX10 yX10_least wsX10_least) := goodIn_app (goodIn_of _ (by decide +kernel)) ggX11_build_X10_least
set_option maxRecDepth 20000 in
theorem ggX11_build_X0_lineTangent : GoodIn wsX11_build wsX0_lineTangent := goodIn_r _ [231, 153, 157, 158, 156, 232, 97, 98, 23, 99, 25, 100, 101, 102, 173, 174, 175, 151, 176, 177, 55, 17, 56, 178, 179, 180, 181, 35, 36, 37, 182, 128, 129, 130, 183, 21, 22, 24, 26, 27, 28, 29, 184, 145, 146, 147, 136, 137, 138, 139, 140, 141, 82, 83, 142, 116, 117, 261, 262, 263, 264, 265, 266, 267, 268, 269, 270, 282, 283, 284, 271] rfl (by decide +kernel)
set_option maxRecDepth 20000 in
theorem gX11_build_X0_lineTangent : GoodIn wsX11_build (wsV RX11 284 RX0 yX0_lineTangent wsX0_lineTangent) := goodIn_app (goodIn_of _ (by decide +kernel)) ggX11_build_X0_lineTangent
set_option maxRecDepth 20000 in
theorem ggX11_build_X11_buildDerivative : GoodIn wsX11_build wsX11_buildDerivative := goodIn_r _ [236, 2, 1, 3, 237, 238, 239, 151, 240, 153, 177, 181, 35, 36, 23, 37, 25, 232, 97, 98, 99, 100, 101, 102, 55, 17, 56, 182, 128, 129, 130, 241, 242, 243, 244, 245, 246, 247, 248, 249, 250, 251, 252, 253, 254, 255, 256, 257, 261, 262, 263, 264, 265, 266, 267, 268, 269, 270, 271] rfl (by decide +kernel)
set_option maxRecDepth 20000 in
theorem gX11_build_X11_buildDerivative : GoodIn wsX11_build (wsV RX11 288 RX11 yX11_buildDerivative wsX11_buildDerivative) := goodIn_app (goodIn_of _ (by decide +kernel)) ggX11_build_X11_buildDerivative
set_option maxRecDepth 20000 in
theorem ggX11_buildProduct_X2_top : GoodIn wsX11_buildProduct wsX2_top := goodIn_r _ [9, 10, 11, 12, 13, 14, 54] rfl (by decide +kernel)
set_option maxRecDepth 20000 in
theorem gX11_buildProduct_X2_top : GoodIn wsX11_buildProduct (wsV RX11 148 RX2 yX2_top wsX2_top) := goodIn_app (goodIn_of _ (by decide +kernel)) ggX11_buildProduct_X2_top
set_option maxRecDepth 20000 in
theorem ggX11_buildProduct_X2_product : GoodIn wsX11_buildProduct wsX2_product := goodIn_r _ [18, 10, 19, 20, 21, 8, 22, 23, 24, 25, 26, 54] rfl (by decide +kernel)
set_option maxRecDepth 20000 in
theorem gX11_buildProduct_X2_product : GoodIn wsX11_buildProduct (wsV RX11 292 RX2 yX2_product wsX2_product) := goodIn_app (goodIn_of _ (by decide +kernel)) ggX11_buildProduct_X2_product
set_option maxRecDepth 20000 in
theorem ggX11_buildMix_X2_copy : GoodIn wsX11_buildMix wsX2_copy := goodIn_r _ [9, 10, 11, 12, 13, 14, 54] rfl (by decide +kernel)
set_option maxRecDepth 20000 in
theorem gX11_buildMix_X2_copy : GoodIn wsX11_buildMix (wsV RX11 296 RX2 yX2_copy wsX2_copy) := goodIn_app (goodIn_of _ (by decide +kernel)) ggX11_buildMix_X2_copy
set_option maxRecDepth 20000 in
theorem ggX11_buildMix_X11_mod : GoodIn wsX11_buildMix wsX11_mod := goodIn_r _ [18] rfl (by decide +kernel)
set_option maxRecDepth 20000 in
theorem gX11_buildMix_X11_mod : GoodIn wsX11_buildMix (va_wsS RX11 299 yX11_mod wsX11_mod) := goodIn_app (goodIn_of _ (by decide +kernel)) ggX11_buildMix_X11_mod
set_option maxRecDepth 20000 in
theorem ggX11_buildMix_X2_add : GoodIn wsX11_buildMix wsX2_add := goodIn_r _ [22, 23, 24, 25, 8, 26, 10, 54] rfl (by decide +kernel)
set_option maxRecDepth 20000 in
theorem gX11_buildMix_X2_add : GoodIn wsX11_buildMix (wsV RX11 302 RX2 yX2_add wsX2_add) := goodIn_app (goodIn_of _ (by decide +kernel)) ggX11_buildMix_X2_add
set_option maxRecDepth 20000 in
theorem ggX11_buildCommon_X6_find : GoodIn wsX11_buildCommon wsX6_find := goodIn_r _ [10, 11, 12, 13, 14, 15, 16, 17, 18, 19, 20, 21, 22, 23, 24, 25, 26, 27, 28, 29, 30, 31, 32, 33, 34, 35, 36, 37, 38, 39, 40, 9, 41, 42, 43, 44, 45, 46, 47, 48, 49, 50, 51, 52, 53, 54, 55, 56, 57, 58, 59, 60, 61, 62, 63, 64, 65, 66, 67, 68, 69, 70, 71, 72, 73, 74, 75, 76, 77, 78, 79, 80, 81, 82, 83, 84, 85, 86, 87, 88, 89, 90, 91, 92, 93, 94, 95, 96, 97, 98, 99, 100, 101, 102, 103, 104, 105, 106, 107, 108, 109, 110, 111, 112, 113, 114, 143, 144, 145, 146, 147, 148, 149, 150, 151, 152, 153] rfl (by decide +kernel)
set_option maxRecDepth 20000 in
theorem gX11_buildCommon_X6_find : GoodIn wsX11_buildCommon (wsV RX11 183 RX6 yX6_find wsX6_find) := goodIn_app (goodIn_of _ (by decide +kernel)) ggX11_buildCommon_X6_find
set_option maxRecDepth 20000 in
theorem ggX11_buildCommon_X2_copy : GoodIn wsX11_buildCommon wsX2_copy := goodIn_r _ [89, 34, 90, 91, 92, 93, 153] rfl (by decide +kernel)
set_option maxRecDepth 20000 in
theorem gX11_buildCommon_X2_copy : GoodIn wsX11_buildCommon (wsV RX11 296 RX2 yX2_copy wsX2_copy) := goodIn_app (goodIn_of _ (by decide +kernel)) ggX11_buildCommon_X2_copy
set_option maxRecDepth 20000 in
theorem ggX11_buildDerivative_X0_derive : GoodIn wsX11_buildDerivative wsX0_derive := goodIn_r _ [8, 9, 10, 11, 12, 13, 14, 15, 16, 17, 18, 19, 20, 21, 22, 23, 24, 25, 26, 27, 28, 29, 30, 48, 49, 50, 51, 52, 53, 54, 55, 56, 57, 58] rfl (by decide +kernel)
set_option maxRecDepth 20000 in
theorem gX11_buildDerivative_X0_derive : GoodIn wsX11_buildDerivative (wsV RX11 305 RX0 yX0_derive wsX0_derive) := goodIn_app (goodIn_of _ (by decide +kernel)) ggX11_buildDerivative_X0_derive
set_option maxRecDepth 20000 in
theorem ggX11_power_X11_mod : GoodIn wsX11_power wsX11_mod := goodIn_r _ [4] rfl (by decide +kernel)
set_option maxRecDepth 20000 in
theorem gX11_power_X11_mod : GoodIn wsX11_power (va_wsS RX11 299 yX11_mod wsX11_mod) := goodIn_app (goodIn_of _ (by decide +kernel)) ggX11_power_X11_mod
set_option maxRecDepth 20000 in
theorem ggJ0_length_8abf5_J0_coder_7d493 : GoodIn wsJ0_length_8abf5 wsJ0_coder_7d493 := goodIn_r _ [6, 7, 8] rfl (by decide +kernel)
set_option maxRecDepth 20000 in
theorem gJ0_length_8abf5_J0_coder_7d493 : GoodIn wsJ0_length_8abf5 (wsV RJ0 335 RJ0 yJ0_coder_7d493 wsJ0_coder_7d493) := goodIn_app (goodIn_of _ (by decide +kernel)) ggJ0_length_8abf5_J0_coder_7d493
set_option maxRecDepth 20000 in
theorem ggJ0_charAt_5068e_J0_isLatin1_aae02 : GoodIn wsJ0_charAt_5068e wsJ0_isLatin1_aae02 := goodIn_r _ [6, 7, 8] rfl (by decide +kernel)
set_option maxRecDepth 20000 in
theorem gJ0_charAt_5068e_J0_isLatin1_aae02 : GoodIn wsJ0_charAt_5068e (wsV RJ0 492 RJ0 yJ0_isLatin1_aae02 wsJ0_isLatin1_aae02) := goodIn_app (goodIn_of _ (by decide +kernel)) ggJ0_charAt_5068e_J0_isLatin1_aae02
set_option maxRecDepth 20000 in
theorem ggJ0_charAt_5068e_J1_charAt_3b067 : GoodIn wsJ0_charAt_5068e wsJ1_charAt_3b067 := goodIn_r _ [12, 13, 14, 5, 15, 16, 17, 18, 19, 20] rfl (by decide +kernel)
set_option maxRecDepth 20000 in
theorem gJ0_charAt_5068e_J1_charAt_3b067 : GoodIn wsJ0_charAt_5068e (va_wsS RJ0 495 yJ1_charAt_3b067 wsJ1_charAt_3b067) := goodIn_app (goodIn_of _ (by decide +kernel)) ggJ0_charAt_5068e_J1_charAt_3b067
set_option maxRecDepth 20000 in
theorem ggJ0_charAt_5068e_J2_charAt_3b067 : GoodIn wsJ0_charAt_5068e wsJ2_charAt_3b067 := goodIn_r _ [24, 25, 26, 23, 27, 28, 29, 30, 31, 14, 5, 15, 16, 17, 18, 19, 20, 32, 33, 34, 35, 36, 37] rfl (by decide +kernel)
set_option maxRecDepth 20000 in
theorem gJ0_charAt_5068e_J2_charAt_3b067 : GoodIn wsJ0_charAt_5068e (va_wsS RJ0 498 yJ2_charAt_3b067 wsJ2_charAt_3b067) := goodIn_app (goodIn_of _ (by decide +kernel)) ggJ0_charAt_5068e_J2_charAt_3b067
set_option maxRecDepth 20000 in
theorem ggJ0_checkIndex_df160_J3_checkIndex_8e157 : GoodIn wsJ0_checkIndex_df160 wsJ3_checkIndex_8e157 := goodIn_r _ [5] rfl (by decide +kernel)
set_option maxRecDepth 20000 in
theorem gJ0_checkIndex_df160_J3_checkIndex_8e157 : GoodIn wsJ0_checkIndex_df160 (va_wsS RJ0 1059 yJ3_checkIndex_8e157 wsJ3_checkIndex_8e157) := goodIn_app (goodIn_of _ (by decide +kernel)) ggJ0_checkIndex_df160_J3_checkIndex_8e157
set_option maxRecDepth 20000 in
theorem ggJ1_charAt_3b067_J0_checkIndex_df160 : GoodIn wsJ1_charAt_3b067 wsJ0_checkIndex_df160 := goodIn_r _ [4, 5, 6, 7, 8, 9] rfl (by decide +kernel)
set_option maxRecDepth 20000 in
theorem gJ1_charAt_3b067_J0_checkIndex_df160 : GoodIn wsJ1_charAt_3b067 (va_wsS RJ1 9 yJ0_checkIndex_df160 wsJ0_checkIndex_df160) := goodIn_app (goodIn_of _ (by decide +kernel)) ggJ1_charAt_3b067_J0_checkIndex_df160
set_option maxRecDepth 20000 in
theorem ggJ2_getChar_3b067_J2_length_9d52b : GoodIn wsJ2_getChar_3b067 wsJ2_length_9d52b := goodIn_r _ [7] rfl (by decide +kernel)
set_option maxRecDepth 20000 in
theorem gJ2_getChar_3b067_J2_length_9d52b : GoodIn wsJ2_getChar_3b067 (va_wsS RJ2 48 yJ2_length_9d52b wsJ2_length_9d52b) := goodIn_app (goodIn_of _ (by decide +kernel)) ggJ2_getChar_3b067_J2_length_9d52b
set_option maxRecDepth 20000 in
theorem ggJ2_charAt_3b067_J2_checkIndex_2214a : GoodIn wsJ2_charAt_3b067 wsJ2_checkIndex_2214a := goodIn_r _ [4, 5, 6, 3, 7, 8, 9, 10, 11, 12, 13, 14, 15, 16] rfl (by decide +kernel)
set_option maxRecDepth 20000 in
theorem gJ2_charAt_3b067_J2_checkIndex_2214a : GoodIn wsJ2_charAt_3b067 (va_wsS RJ2 67 yJ2_checkIndex_2214a wsJ2_checkIndex_2214a) := goodIn_app (goodIn_of _ (by decide +kernel)) ggJ2_charAt_3b067_J2_checkIndex_2214a
set_option maxRecDepth 20000 in
theorem ggJ2_charAt_3b067_J2_getChar_3b067 : GoodIn wsJ2_charAt_3b067 wsJ2_getChar_3b067 := goodIn_r _ [19, 20, 21, 22, 5, 6, 3, 7] rfl (by decide +kernel)
set_option maxRecDepth 20000 in
theorem gJ2_charAt_3b067_J2_getChar_3b067 : GoodIn wsJ2_charAt_3b067 (va_wsS RJ2 71 yJ2_getChar_3b067 wsJ2_getChar_3b067) := goodIn_app (goodIn_of _ (by decide +kernel)) ggJ2_charAt_3b067_J2_getChar_3b067
set_option maxRecDepth 20000 in
theorem ggJ2_checkIndex_2214a_J2_length_9d52b : GoodIn wsJ2_checkIndex_2214a wsJ2_length_9d52b := goodIn_r _ [4] rfl (by decide +kernel)
set_option maxRecDepth 20000 in
theorem gJ2_checkIndex_2214a_J2_length_9d52b : GoodIn wsJ2_checkIndex_2214a (va_wsS RJ2 48 yJ2_length_9d52b wsJ2_length_9d52b) := goodIn_app (goodIn_of _ (by decide +kernel)) ggJ2_checkIndex_2214a_J2_length_9d52b
set_option maxRecDepth 20000 in
theorem ggJ2_checkIndex_2214a_J0_checkIndex_df160 : GoodIn wsJ2_checkIndex_2214a wsJ0_checkIndex_df160 := goodIn_r _ [8, 9, 10, 11, 12, 13] rfl (by decide +kernel)
set_option maxRecDepth 20000 in
theorem gJ2_checkIndex_2214a_J0_checkIndex_df160 : GoodIn wsJ2_checkIndex_2214a (va_wsS RJ2 414 yJ0_checkIndex_df160 wsJ0_checkIndex_df160) := goodIn_app (goodIn_of _ (by decide +kernel)) ggJ2_checkIndex_2214a_J0_checkIndex_df160
