set_option maxRecDepth 20000 in
theorem ggX3_readFactor_X3_readNumber : GoodIn wsX3_readFactor wsX3_readNumber := goodIn_r _ [32, 1, 14, 33, 34, 35, 36, 37, 38, 39, 40, 15, 16, 17, 8, 18, 19, 20, 21, 22, 78, 79, 80, 81, 82, 83, 84, 85, 86, 87, 88, 89, 90] rfl (by decide +kernel)
set_option maxRecDepth 20000 in
theorem gX3_readFactor_X3_readNumber : GoodIn wsX3_readFactor (wsV RX3 96 RX3 yX3_readNumber wsX3_readNumber) := goodIn_app (goodIn_of _ (by decide +kernel)) ggX3_readFactor_X3_readNumber
set_option maxRecDepth 20000 in
theorem ggX3_readFactor_X2_setTo : GoodIn wsX3_readFactor wsX2_setTo := goodIn_r _ [45, 46, 91] rfl (by decide +kernel)
set_option maxRecDepth 20000 in
theorem gX3_readFactor_X2_setTo : GoodIn wsX3_readFactor (wsV RX3 157 RX2 yX2_setTo wsX2_setTo) := goodIn_app (goodIn_of _ (by decide +kernel)) ggX3_readFactor_X2_setTo
set_option maxRecDepth 20000 in
theorem ggX3_readFactor_X3_multiply : GoodIn wsX3_readFactor wsX3_multiply := goodIn_r _ [50, 51, 52, 53, 54, 55, 56, 44, 57, 46, 58, 59, 38, 60, 61, 62, 63, 64, 65, 42, 43, 45, 66, 67, 68, 69, 70, 71, 72, 73, 74, 75, 76, 77, 78, 79, 80, 81, 82, 83, 84, 85, 86, 87, 88, 89, 90, 92, 93, 94, 95, 91] rfl (by decide +kernel)
set_option maxRecDepth 20000 in
theorem gX3_readFactor_X3_multiply : GoodIn wsX3_readFactor (wsV RX3 164 RX3 yX3_multiply wsX3_multiply) := goodIn_app (goodIn_of _ (by decide +kernel)) ggX3_readFactor_X3_multiply
set_option maxRecDepth 20000 in
theorem ggX3_readAtom_X3_byteAt : GoodIn wsX3_readAtom wsX3_byteAt := goodIn_r _ [9, 10, 11, 106, 107, 108, 109, 110, 111, 112, 113, 114, 115, 116, 117, 118] rfl (by decide +kernel)
set_option maxRecDepth 20000 in
theorem gX3_readAtom_X3_byteAt : GoodIn wsX3_readAtom (wsV RX3 84 RX3 yX3_byteAt wsX3_byteAt) := goodIn_app (goodIn_of _ (by decide +kernel)) ggX3_readAtom_X3_byteAt
set_option maxRecDepth 20000 in
theorem ggX3_readAtom_X3_isDigit : GoodIn wsX3_readAtom wsX3_isDigit := goodIn_r _ [14] rfl (by decide +kernel)
set_option maxRecDepth 20000 in
theorem gX3_readAtom_X3_isDigit : GoodIn wsX3_readAtom (va_wsS RX3 88 yX3_isDigit wsX3_isDigit) := goodIn_app (goodIn_of _ (by decide +kernel)) ggX3_readAtom_X3_isDigit
set_option maxRecDepth 20000 in
theorem ggX3_readAtom_X3_readNumber : GoodIn wsX3_readAtom wsX3_readNumber := goodIn_r _ [18, 1, 10, 19, 20, 21, 22, 23, 24, 25, 26, 5, 6, 7, 8, 9, 11, 12, 13, 14, 106, 107, 108, 109, 110, 111, 112, 113, 114, 115, 116, 117, 118] rfl (by decide +kernel)
set_option maxRecDepth 20000 in
theorem gX3_readAtom_X3_readNumber : GoodIn wsX3_readAtom (wsV RX3 96 RX3 yX3_readNumber wsX3_readNumber) := goodIn_app (goodIn_of _ (by decide +kernel)) ggX3_readAtom_X3_readNumber
set_option maxRecDepth 20000 in
theorem ggX3_readAtom_X11_mod : GoodIn wsX3_readAtom wsX11_mod := goodIn_r _ [29] rfl (by decide +kernel)
set_option maxRecDepth 20000 in
theorem gX3_readAtom_X11_mod_n168 : GoodIn wsX3_readAtom (wsX11_mod) := ggX3_readAtom_X11_mod
set_option maxRecDepth 20000 in
theorem ggX3_readAtom_X2_setTo : GoodIn wsX3_readAtom wsX2_setTo := goodIn_r _ [34, 35, 123] rfl (by decide +kernel)
set_option maxRecDepth 20000 in
theorem gX3_readAtom_X2_setTo : GoodIn wsX3_readAtom (wsV RX3 157 RX2 yX2_setTo wsX2_setTo) := goodIn_app (goodIn_of _ (by decide +kernel)) ggX3_readAtom_X2_setTo
set_option maxRecDepth 20000 in
theorem ggX3_readAtom_X3_fail : GoodIn wsX3_readAtom wsX3_fail := goodIn_r _ [39, 40, 41, 106, 107, 108, 109, 110, 111, 112, 113, 114, 115, 116, 117, 118] rfl (by decide +kernel)
set_option maxRecDepth 20000 in
theorem gX3_readAtom_X3_fail : GoodIn wsX3_readAtom (wsV RX3 92 RX3 yX3_fail wsX3_fail) := goodIn_app (goodIn_of _ (by decide +kernel)) ggX3_readAtom_X3_fail
set_option maxRecDepth 20000 in
theorem ggX3_readAtom_X3_standsWord : GoodIn wsX3_readAtom wsX3_standsWord := goodIn_r _ [45, 1, 46, 47, 48, 8, 49, 10, 5, 6, 7, 9, 11, 50, 51, 52, 53, 54, 55, 56, 57, 58, 59, 60, 61, 62, 63, 64, 65, 66, 67, 68, 69, 70, 71, 72, 73, 74, 75, 76, 77, 78, 79, 80, 81, 82, 83, 84, 85, 86, 87, 88, 89, 90, 91, 92, 93, 94, 95, 96, 97, 98, 106, 107, 108, 109, 110, 111, 112, 113, 114, 115, 116, 117, 118] rfl (by decide +kernel)
set_option maxRecDepth 20000 in
theorem gX3_readAtom_X3_standsWord : GoodIn wsX3_readAtom (wsV RX3 73 RX3 yX3_standsWord wsX3_standsWord) := goodIn_app (goodIn_of _ (by decide +kernel)) ggX3_readAtom_X3_standsWord
set_option maxRecDepth 20000 in
theorem ggX3_readAtom_X2_put : GoodIn wsX3_readAtom wsX2_put := goodIn_r _ [102, 35, 103, 104, 33, 105, 123] rfl (by decide +kernel)
set_option maxRecDepth 20000 in
theorem gX3_readAtom_X2_put : GoodIn wsX3_readAtom (wsV RX3 172 RX2 yX2_put wsX2_put) := goodIn_app (goodIn_of _ (by decide +kernel)) ggX3_readAtom_X2_put
set_option maxRecDepth 20000 in
theorem ggX3_readNumber_X3_byteAt : GoodIn wsX3_readNumber wsX3_byteAt := goodIn_r _ [15, 2, 16, 20, 21, 22, 23, 24, 25, 26, 27, 28, 29, 30, 31, 32] rfl (by decide +kernel)
set_option maxRecDepth 20000 in
theorem gX3_readNumber_X3_byteAt : GoodIn wsX3_readNumber (wsV RX3 84 RX3 yX3_byteAt wsX3_byteAt) := goodIn_app (goodIn_of _ (by decide +kernel)) ggX3_readNumber_X3_byteAt
set_option maxRecDepth 20000 in
theorem ggX3_readNumber_X3_isDigit : GoodIn wsX3_readNumber wsX3_isDigit := goodIn_r _ [19] rfl (by decide +kernel)
set_option maxRecDepth 20000 in
theorem gX3_readNumber_X3_isDigit : GoodIn wsX3_readNumber (va_wsS RX3 88 yX3_isDigit wsX3_isDigit) := goodIn_app (goodIn_of _ (by decide +kernel)) ggX3_readNumber_X3_isDigit
set_option maxRecDepth 20000 in
theorem ggX3_multiply_X2_top : GoodIn wsX3_multiply wsX2_top := goodIn_r _ [8, 9, 10, 11, 12, 13, 51] rfl (by decide +kernel)
set_option maxRecDepth 20000 in
theorem gX3_multiply_X2_top : GoodIn wsX3_multiply (wsV RX3 114 RX2 yX2_top wsX2_top) := goodIn_app (goodIn_of _ (by decide +kernel)) ggX3_multiply_X2_top
set_option maxRecDepth 20000 in
theorem ggX3_multiply_X2_product : GoodIn wsX3_multiply wsX2_product := goodIn_r _ [17, 9, 18, 19, 20, 7, 21, 22, 23, 24, 25, 51] rfl (by decide +kernel)
set_option maxRecDepth 20000 in
theorem gX3_multiply_X2_product : GoodIn wsX3_multiply (wsV RX3 190 RX2 yX2_product wsX2_product) := goodIn_app (goodIn_of _ (by decide +kernel)) ggX3_multiply_X2_product
set_option maxRecDepth 20000 in
theorem ggX3_multiply_X2_copy : GoodIn wsX3_multiply wsX2_copy := goodIn_r _ [29, 9, 30, 31, 32, 33, 51] rfl (by decide +kernel)
set_option maxRecDepth 20000 in
theorem gX3_multiply_X2_copy : GoodIn wsX3_multiply (wsV RX3 120 RX2 yX2_copy wsX2_copy) := goodIn_app (goodIn_of _ (by decide +kernel)) ggX3_multiply_X2_copy
set_option maxRecDepth 20000 in
theorem ggX3_expect_X3_take : GoodIn wsX3_expect wsX3_take := goodIn_r _ [6, 1, 7, 8, 9, 5, 10, 11, 12, 13, 14, 15, 16, 23, 24, 25, 26, 27, 28, 29, 30, 31, 32, 33, 34, 35] rfl (by decide +kernel)
set_option maxRecDepth 20000 in
theorem gX3_expect_X3_take : GoodIn wsX3_expect (wsV RX3 145 RX3 yX3_take wsX3_take) := goodIn_app (goodIn_of _ (by decide +kernel)) ggX3_expect_X3_take
set_option maxRecDepth 20000 in
theorem ggX3_expect_X3_fail : GoodIn wsX3_expect wsX3_fail := goodIn_r _ [20, 21, 22, 23, 24, 25, 26, 27, 28, 29, 30, 31, 32, 33, 34, 35] rfl (by decide +kernel)
set_option maxRecDepth 20000 in
theorem gX3_expect_X3_fail : GoodIn wsX3_expect (wsV RX3 92 RX3 yX3_fail wsX3_fail) := goodIn_app (goodIn_of _ (by decide +kernel)) ggX3_expect_X3_fail
set_option maxRecDepth 20000 in
theorem ggX3_take_X3_skipBlanks : GoodIn wsX3_take wsX3_skipBlanks := goodIn_r _ [6, 1, 7, 8, 9, 10, 5, 11, 12, 13, 14, 15, 16, 17, 18, 19, 20, 21, 22, 23, 24, 25] rfl (by decide +kernel)
set_option maxRecDepth 20000 in
theorem gX3_take_X3_skipBlanks : GoodIn wsX3_take (wsV RX3 68 RX3 yX3_skipBlanks wsX3_skipBlanks) := goodIn_app (goodIn_of _ (by decide +kernel)) ggX3_take_X3_skipBlanks
set_option maxRecDepth 20000 in
theorem ggX3_take_X3_byteAt : GoodIn wsX3_take wsX3_byteAt := goodIn_r _ [11, 7, 12, 13, 14, 15, 16, 17, 18, 19, 20, 21, 22, 23, 24, 25] rfl (by decide +kernel)
set_option maxRecDepth 20000 in
theorem gX3_take_X3_byteAt : GoodIn wsX3_take (wsV RX3 84 RX3 yX3_byteAt wsX3_byteAt) := goodIn_app (goodIn_of _ (by decide +kernel)) ggX3_take_X3_byteAt
set_option maxRecDepth 20000 in
theorem ggX3_skipBlanks_X3_byteAt : GoodIn wsX3_skipBlanks wsX3_byteAt := goodIn_r _ [7, 2, 8, 9, 10, 11, 12, 13, 14, 15, 16, 17, 18, 19, 20, 21] rfl (by decide +kernel)
set_option maxRecDepth 20000 in
theorem gX3_skipBlanks_X3_byteAt : GoodIn wsX3_skipBlanks (wsV RX3 84 RX3 yX3_byteAt wsX3_byteAt) := goodIn_app (goodIn_of _ (by decide +kernel)) ggX3_skipBlanks_X3_byteAt
set_option maxRecDepth 20000 in
theorem ggX3_standsWord_X3_wordEnd : GoodIn wsX3_standsWord wsX3_wordEnd := goodIn_r _ [6, 7, 8, 9, 10, 5, 11, 12, 62, 63, 64, 65, 66, 67, 68, 69, 70, 71, 72, 73, 74] rfl (by decide +kernel)
set_option maxRecDepth 20000 in
theorem gX3_standsWord_X3_wordEnd : GoodIn wsX3_standsWord (wsV RX3 124 RX3 yX3_wordEnd wsX3_wordEnd) := goodIn_app (goodIn_of _ (by decide +kernel)) ggX3_standsWord_X3_wordEnd
set_option maxRecDepth 20000 in
theorem ggX3_standsWord_J0_length_8abf5 : GoodIn wsX3_standsWord wsJ0_length_8abf5 := goodIn_r _ [17, 18, 19, 20, 21, 16, 22, 23, 24] rfl (by decide +kernel)
set_option maxRecDepth 20000 in
theorem gX3_standsWord_J0_length_8abf5 : GoodIn wsX3_standsWord (wsV RX3 194 RJ0 yJ0_length_8abf5 wsJ0_length_8abf5) := goodIn_app (goodIn_of _ (by decide +kernel)) ggX3_standsWord_J0_length_8abf5
set_option maxRecDepth 20000 in
theorem ggX3_standsWord_X3_byteAt : GoodIn wsX3_standsWord wsX3_byteAt := goodIn_r _ [11, 7, 12, 62, 63, 64, 65, 66, 67, 68, 69, 70, 71, 72, 73, 74] rfl (by decide +kernel)
set_option maxRecDepth 20000 in
theorem gX3_standsWord_X3_byteAt : GoodIn wsX3_standsWord (wsV RX3 84 RX3 yX3_byteAt wsX3_byteAt) := goodIn_app (goodIn_of _ (by decide +kernel)) ggX3_standsWord_X3_byteAt
set_option maxRecDepth 20000 in
theorem ggX3_standsWord_J0_charAt_5068e : GoodIn wsX3_standsWord wsJ0_charAt_5068e := goodIn_r _ [28, 18, 29, 30, 31, 16, 32, 23, 24, 33, 34, 35, 36, 37, 38, 39, 40, 41, 42, 43, 44, 45, 46, 47, 48, 49, 50, 51, 52, 53, 54, 55, 56, 57, 58, 59, 60, 61] rfl (by decide +kernel)
set_option maxRecDepth 20000 in
theorem gX3_standsWord_J0_charAt_5068e : GoodIn wsX3_standsWord (wsV RX3 198 RJ0 yJ0_charAt_5068e wsJ0_charAt_5068e) := goodIn_app (goodIn_of _ (by decide +kernel)) ggX3_standsWord_J0_charAt_5068e
set_option maxRecDepth 20000 in
theorem ggX3_wordEnd_X3_byteAt : GoodIn wsX3_wordEnd wsX3_byteAt := goodIn_r _ [6, 1, 7, 8, 9, 10, 11, 12, 13, 14, 15, 16, 17, 18, 19, 20] rfl (by decide +kernel)
set_option maxRecDepth 20000 in
theorem gX3_wordEnd_X3_byteAt : GoodIn wsX3_wordEnd (wsV RX3 84 RX3 yX3_byteAt wsX3_byteAt) := goodIn_app (goodIn_of _ (by decide +kernel)) ggX3_wordEnd_X3_byteAt
set_option maxRecDepth 20000 in
theorem ggX4_run_X4_load : GoodIn wsX4_run wsX4_load := goodIn_r _ [14, 15, 16, 17, 18, 19, 20, 21, 22, 23, 57] rfl (by decide +kernel)
set_option maxRecDepth 20000 in
theorem gX4_run_X4_load : GoodIn wsX4_run (va_wsS RX4 31 yX4_load wsX4_load) := goodIn_app (goodIn_of _ (by decide +kernel)) ggX4_run_X4_load
set_option maxRecDepth 20000 in
theorem ggX4_run_X4_whichFits : GoodIn wsX4_run wsX4_whichFits := goodIn_r _ [27, 2, 3, 28, 29, 13, 30, 51, 52, 53, 54, 55, 56] rfl (by decide +kernel)
set_option maxRecDepth 20000 in
theorem gX4_run_X4_whichFits : GoodIn wsX4_run (wsV RX4 35 RX4 yX4_whichFits wsX4_whichFits) := goodIn_app (goodIn_of _ (by decide +kernel)) ggX4_run_X4_whichFits
set_option maxRecDepth 20000 in
theorem ggX4_run_X4_leastPure : GoodIn wsX4_run wsX4_leastPure := goodIn_r _ [33] rfl (by decide +kernel)
set_option maxRecDepth 20000 in
theorem gX4_run_X4_leastPure : GoodIn wsX4_run (va_wsS RX4 39 yX4_leastPure wsX4_leastPure) := goodIn_app (goodIn_of _ (by decide +kernel)) ggX4_run_X4_leastPure
set_option maxRecDepth 20000 in
theorem ggX4_run_X4_split : GoodIn wsX4_run wsX4_split := goodIn_r _ [37, 2, 51, 52, 53, 54, 55, 56] rfl (by decide +kernel)
set_option maxRecDepth 20000 in
theorem gX4_run_X4_split : GoodIn wsX4_run (wsV RX4 49 RX4 yX4_split wsX4_split) := goodIn_app (goodIn_of _ (by decide +kernel)) ggX4_run_X4_split
set_option maxRecDepth 20000 in
theorem ggX4_run_X4_swap : GoodIn wsX4_run wsX4_swap := goodIn_r _ [41, 2, 3, 51, 52, 53, 54, 55, 56] rfl (by decide +kernel)
set_option maxRecDepth 20000 in
theorem gX4_run_X4_swap : GoodIn wsX4_run (wsV RX4 52 RX4 yX4_swap wsX4_swap) := goodIn_app (goodIn_of _ (by decide +kernel)) ggX4_run_X4_swap
set_option maxRecDepth 20000 in
theorem ggX4_run_X4_cut : GoodIn wsX4_run wsX4_cut := goodIn_r _ [45, 2, 3, 1, 28, 29, 13, 30, 46, 47, 48, 49, 50, 51, 52, 53, 54, 55, 56] rfl (by decide +kernel)
set_option maxRecDepth 20000 in
theorem gX4_run_X4_cut : GoodIn wsX4_run (wsV RX4 55 RX4 yX4_cut wsX4_cut) := goodIn_app (goodIn_of _ (by decide +kernel)) ggX4_run_X4_cut
set_option maxRecDepth 20000 in
theorem ggX4_load_X2_at : GoodIn wsX4_load wsX2_at := goodIn_r _ [5, 6, 7, 8, 4, 9, 10] rfl (by decide +kernel)
set_option maxRecDepth 20000 in
theorem gX4_load_X2_at : GoodIn wsX4_load (wsV RX4 58 RX2 yX2_at wsX2_at) := goodIn_app (goodIn_of _ (by decide +kernel)) ggX4_load_X2_at
set_option maxRecDepth 20000 in
theorem ggX4_whichFits_X4_greatestPure : GoodIn wsX4_whichFits wsX4_greatestPure := goodIn_r _ [6] rfl (by decide +kernel)
set_option maxRecDepth 20000 in
theorem gX4_whichFits_X4_greatestPure : GoodIn wsX4_whichFits (va_wsS RX4 63 yX4_greatestPure wsX4_greatestPure) := goodIn_app (goodIn_of _ (by decide +kernel)) ggX4_whichFits_X4_greatestPure
set_option maxRecDepth 20000 in
theorem ggX4_cut_X4_greatestPure : GoodIn wsX4_cut wsX4_greatestPure := goodIn_r _ [7] rfl (by decide +kernel)
set_option maxRecDepth 20000 in
theorem gX4_cut_X4_greatestPure : GoodIn wsX4_cut (va_wsS RX4 63 yX4_greatestPure wsX4_greatestPure) := goodIn_app (goodIn_of _ (by decide +kernel)) ggX4_cut_X4_greatestPure
set_option maxRecDepth 20000 in
theorem ggX4_cut_X11_inverse : GoodIn wsX4_cut wsX11_inverse := goodIn_r _ [10] rfl (by decide +kernel)
set_option maxRecDepth 20000 in
theorem gX4_cut_X11_inverse_n66 : GoodIn wsX4_cut (wsX11_inverse) := ggX4_cut_X11_inverse
set_option maxRecDepth 20000 in
theorem ggX4_cut_X11_mod : GoodIn wsX4_cut wsX11_mod := goodIn_r _ [12] rfl (by decide +kernel)
set_option maxRecDepth 20000 in
theorem gX4_cut_X11_mod_n69 : GoodIn wsX4_cut (wsX11_mod) := ggX4_cut_X11_mod
set_option maxRecDepth 20000 in
theorem ggX5_init_X2_init : GoodIn wsX5_init wsX2_init := goodIn_r _ [20, 21, 2, 3, 4, 22, 34] rfl (by decide +kernel)
set_option maxRecDepth 20000 in
theorem gX5_init_X2_init_n25 : GoodIn wsX5_init (wsX2_init) := ggX5_init_X2_init
set_option maxRecDepth 20000 in
theorem ggX5_sizeOf_X5_begin : GoodIn wsX5_sizeOf wsX5_begin := goodIn_r _ [6, 7, 8, 9, 10, 1, 11, 12, 13, 14, 15, 16, 17, 5, 18, 19, 20, 21, 22, 23, 24, 25, 26, 27, 28, 29, 30, 31, 32, 33, 34, 35, 36, 37, 38, 86, 87, 88, 89, 90, 91, 92, 93, 94, 95, 96, 97, 98, 99, 100, 101, 102] rfl (by decide +kernel)
set_option maxRecDepth 20000 in
theorem gX5_sizeOf_X5_begin : GoodIn wsX5_sizeOf (wsV RX5 54 RX5 yX5_begin wsX5_begin) := goodIn_app (goodIn_of _ (by decide +kernel)) ggX5_sizeOf_X5_begin
set_option maxRecDepth 20000 in
theorem ggX5_sizeOf_X5_addMultiples : GoodIn wsX5_sizeOf wsX5_addMultiples := goodIn_r _ [42, 13, 43, 44, 45, 5, 46, 47, 48, 49, 50, 51, 10, 8, 52, 53, 54, 55, 7, 11, 12, 9, 56, 57, 58, 22, 59, 28, 60, 61, 62, 63, 64, 65, 66, 67, 68, 69, 70, 71, 72, 14, 73, 74, 75, 76, 77, 78, 79, 32, 80, 37, 35, 36, 38, 81, 82, 83, 84, 85, 86, 87, 88, 89, 90, 91, 92, 93, 94, 95, 96, 97, 98, 99, 100, 101, 102] rfl (by decide +kernel)
set_option maxRecDepth 20000 in
theorem gX5_sizeOf_X5_addMultiples : GoodIn wsX5_sizeOf (wsV RX5 58 RX5 yX5_addMultiples wsX5_addMultiples) := goodIn_app (goodIn_of _ (by decide +kernel)) ggX5_sizeOf_X5_addMultiples
set_option maxRecDepth 20000 in
theorem ggX5_nearOf_X5_begin : GoodIn wsX5_nearOf wsX5_begin := goodIn_r _ [8, 9, 10, 11, 12, 13, 14, 15, 1, 3, 16, 17, 18, 7, 19, 20, 21, 22, 23, 24, 25, 26, 27, 28, 29, 30, 31, 32, 33, 34, 35, 36, 37, 38, 39, 93, 94, 95, 96, 97, 98, 99, 100, 101, 102, 103, 104, 105, 106, 107, 108, 109] rfl (by decide +kernel)
set_option maxRecDepth 20000 in
theorem gX5_nearOf_X5_begin : GoodIn wsX5_nearOf (wsV RX5 54 RX5 yX5_begin wsX5_begin) := goodIn_app (goodIn_of _ (by decide +kernel)) ggX5_nearOf_X5_begin
set_option maxRecDepth 20000 in
theorem ggX5_nearOf_X2_top : GoodIn wsX5_nearOf wsX2_top := goodIn_r _ [43, 29, 44, 45, 27, 46, 104] rfl (by decide +kernel)
set_option maxRecDepth 20000 in
theorem gX5_nearOf_X2_top : GoodIn wsX5_nearOf (wsV RX5 62 RX2 yX2_top wsX2_top) := goodIn_app (goodIn_of _ (by decide +kernel)) ggX5_nearOf_X2_top
set_option maxRecDepth 20000 in
theorem ggX5_nearOf_X5_addMultiples : GoodIn wsX5_nearOf wsX5_addMultiples := goodIn_r _ [50, 1, 51, 52, 53, 7, 54, 55, 56, 57, 58, 59, 12, 10, 60, 61, 62, 63, 9, 14, 15, 11, 64, 65, 66, 23, 67, 29, 68, 69, 70, 71, 72, 73, 74, 75, 76, 77, 78, 79, 2, 3, 80, 81, 82, 83, 84, 85, 86, 33, 87, 38, 36, 37, 39, 88, 89, 90, 91, 92, 93, 94, 95, 96, 97, 98, 99, 100, 101, 102, 103, 104, 105, 106, 107, 108, 109] rfl (by decide +kernel)
set_option maxRecDepth 20000 in
theorem gX5_nearOf_X5_addMultiples : GoodIn wsX5_nearOf (wsV RX5 58 RX5 yX5_addMultiples wsX5_addMultiples) := goodIn_app (goodIn_of _ (by decide +kernel)) ggX5_nearOf_X5_addMultiples
set_option maxRecDepth 20000 in
theorem ggX5_nearOf_X5_clearLine : GoodIn wsX5_nearOf wsX5_clearLine := goodIn_r _ [83, 2, 93, 94, 95, 96, 97, 98, 99, 100, 101, 102, 103] rfl (by decide +kernel)
set_option maxRecDepth 20000 in
theorem gX5_nearOf_X5_clearLine : GoodIn wsX5_nearOf (wsV RX5 65 RX5 yX5_clearLine wsX5_clearLine) := goodIn_app (goodIn_of _ (by decide +kernel)) ggX5_nearOf_X5_clearLine
set_option maxRecDepth 20000 in
theorem ggX5_nearOf_X8_add : GoodIn wsX5_nearOf wsX8_add := goodIn_r _ [87, 38, 36, 37, 39, 88, 89, 90, 91, 33, 92, 71, 72, 73, 74, 75, 105, 106, 107, 108, 109] rfl (by decide +kernel)
set_option maxRecDepth 20000 in
theorem gX5_nearOf_X8_add : GoodIn wsX5_nearOf (wsV RX5 68 RX8 yX8_add wsX8_add) := goodIn_app (goodIn_of _ (by decide +kernel)) ggX5_nearOf_X8_add
set_option maxRecDepth 20000 in
theorem ggX5_begin_X5_findLead : GoodIn wsX5_begin wsX5_findLead := goodIn_r _ [14, 6, 7, 3, 1, 15, 16, 17, 18, 19, 20, 21, 22, 23, 24, 35, 36, 37, 38, 39, 40, 41, 42, 43, 44, 45, 46] rfl (by decide +kernel)
set_option maxRecDepth 20000 in
theorem gX5_begin_X5_findLead : GoodIn wsX5_begin (wsV RX5 72 RX5 yX5_findLead wsX5_findLead) := goodIn_app (goodIn_of _ (by decide +kernel)) ggX5_begin_X5_findLead
set_option maxRecDepth 20000 in
theorem ggX5_begin_X8_begin : GoodIn wsX5_begin wsX8_begin := goodIn_r _ [29, 30, 21, 22, 23, 31, 32, 33, 34, 47, 48, 49, 50, 51] rfl (by decide +kernel)
set_option maxRecDepth 20000 in
theorem gX5_begin_X8_begin : GoodIn wsX5_begin (wsV RX5 75 RX8 yX8_begin wsX8_begin) := goodIn_app (goodIn_of _ (by decide +kernel)) ggX5_begin_X8_begin
set_option maxRecDepth 20000 in
theorem ggX5_findLead_X2_leadAt : GoodIn wsX5_findLead wsX2_leadAt := goodIn_r _ [9, 10, 11, 12, 13, 14, 26] rfl (by decide +kernel)
set_option maxRecDepth 20000 in
theorem gX5_findLead_X2_leadAt : GoodIn wsX5_findLead (wsV RX5 78 RX2 yX2_leadAt wsX2_leadAt) := goodIn_app (goodIn_of _ (by decide +kernel)) ggX5_findLead_X2_leadAt
set_option maxRecDepth 20000 in
theorem ggX5_addMultiples_X5_setRow : GoodIn wsX5_addMultiples wsX5_setRow := goodIn_r _ [6, 7, 8, 9, 10, 5, 11, 12, 13, 60, 61, 62, 63, 64, 65, 66, 67, 68, 69, 70, 71] rfl (by decide +kernel)
set_option maxRecDepth 20000 in
theorem gX5_addMultiples_X5_setRow : GoodIn wsX5_addMultiples (wsV RX5 82 RX5 yX5_setRow wsX5_setRow) := goodIn_app (goodIn_of _ (by decide +kernel)) ggX5_addMultiples_X5_setRow
set_option maxRecDepth 20000 in
theorem ggX5_addMultiples_X5_reduceRow : GoodIn wsX5_addMultiples wsX5_reduceRow := goodIn_r _ [17, 18, 19, 20, 12, 13, 21, 7, 22, 23, 24, 25, 26, 27, 28, 29, 30, 31, 32, 33, 34, 35, 8, 9, 10, 5, 11, 60, 61, 62, 63, 64, 65, 66, 67, 68, 69, 70, 71] rfl (by decide +kernel)
set_option maxRecDepth 20000 in
theorem gX5_addMultiples_X5_reduceRow : GoodIn wsX5_addMultiples (wsV RX5 86 RX5 yX5_reduceRow wsX5_reduceRow) := goodIn_app (goodIn_of _ (by decide +kernel)) ggX5_addMultiples_X5_reduceRow
set_option maxRecDepth 20000 in
theorem ggX5_addMultiples_X5_addRow : GoodIn wsX5_addMultiples wsX5_addRow := goodIn_r _ [39, 13, 1, 40, 7, 41, 42, 43, 44, 5, 45, 46, 47, 48, 49, 50, 51, 52, 53, 54, 55, 56, 57, 58, 59, 31, 32, 33, 34, 35, 60, 61, 62, 63, 64, 65, 66, 67, 68, 69, 70, 72, 73, 74, 75, 76] rfl (by decide +kernel)
set_option maxRecDepth 20000 in
theorem gX5_addMultiples_X5_addRow : GoodIn wsX5_addMultiples (wsV RX5 89 RX5 yX5_addRow wsX5_addRow) := goodIn_app (goodIn_of _ (by decide +kernel)) ggX5_addMultiples_X5_addRow
set_option maxRecDepth 20000 in
theorem ggX5_setRow_X5_addToRow : GoodIn wsX5_setRow wsX5_addToRow := goodIn_r _ [6, 7, 8, 1, 9, 10, 11, 12, 13, 14, 15, 16, 17, 18, 19, 20] rfl (by decide +kernel)
set_option maxRecDepth 20000 in
theorem gX5_setRow_X5_addToRow : GoodIn wsX5_setRow (wsV RX5 93 RX5 yX5_addToRow wsX5_addToRow) := goodIn_app (goodIn_of _ (by decide +kernel)) ggX5_setRow_X5_addToRow
set_option maxRecDepth 20000 in
theorem ggX5_reduceRow_X2_at : GoodIn wsX5_reduceRow wsX2_at := goodIn_r _ [12, 13, 14, 15, 11, 16, 38] rfl (by decide +kernel)
set_option maxRecDepth 20000 in
theorem gX5_reduceRow_X2_at : GoodIn wsX5_reduceRow (wsV RX5 100 RX2 yX2_at wsX2_at) := goodIn_app (goodIn_of _ (by decide +kernel)) ggX5_reduceRow_X2_at
set_option maxRecDepth 20000 in
theorem ggX5_reduceRow_X11_inverse : GoodIn wsX5_reduceRow wsX11_inverse := goodIn_r _ [19] rfl (by decide +kernel)
set_option maxRecDepth 20000 in
theorem gX5_reduceRow_X11_inverse_n104 : GoodIn wsX5_reduceRow (wsX11_inverse) := ggX5_reduceRow_X11_inverse
set_option maxRecDepth 20000 in
theorem ggX5_reduceRow_X11_mod : GoodIn wsX5_reduceRow wsX11_mod := goodIn_r _ [21] rfl (by decide +kernel)
set_option maxRecDepth 20000 in
theorem gX5_reduceRow_X11_mod_n107 : GoodIn wsX5_reduceRow (wsX11_mod) := ggX5_reduceRow_X11_mod
set_option maxRecDepth 20000 in
theorem ggX5_reduceRow_X5_addToRow : GoodIn wsX5_reduceRow wsX5_addToRow := goodIn_r _ [26, 4, 5, 7, 27, 28, 29, 30, 31, 32, 33, 34, 35, 36, 37, 38] rfl (by decide +kernel)
set_option maxRecDepth 20000 in
theorem gX5_reduceRow_X5_addToRow : GoodIn wsX5_reduceRow (wsV RX5 93 RX5 yX5_addToRow wsX5_addToRow) := goodIn_app (goodIn_of _ (by decide +kernel)) ggX5_reduceRow_X5_addToRow
set_option maxRecDepth 20000 in
theorem ggX5_addRow_X5_clearLine : GoodIn wsX5_addRow wsX5_clearLine := goodIn_r _ [10, 3, 30, 31, 32, 33, 34, 35, 36, 37, 38, 39, 40] rfl (by decide +kernel)
set_option maxRecDepth 20000 in
theorem gX5_addRow_X5_clearLine : GoodIn wsX5_addRow (wsV RX5 65 RX5 yX5_clearLine wsX5_clearLine) := goodIn_app (goodIn_of _ (by decide +kernel)) ggX5_addRow_X5_clearLine
set_option maxRecDepth 20000 in
theorem ggX5_addRow_X8_add : GoodIn wsX5_addRow wsX8_add := goodIn_r _ [15, 16, 17, 18, 19, 20, 21, 22, 23, 14, 24, 25, 26, 27, 28, 29, 41, 42, 43, 44, 45] rfl (by decide +kernel)
set_option maxRecDepth 20000 in
theorem gX5_addRow_X8_add : GoodIn wsX5_addRow (wsV RX5 68 RX8 yX8_add wsX8_add) := goodIn_app (goodIn_of _ (by decide +kernel)) ggX5_addRow_X8_add
set_option maxRecDepth 20000 in
theorem ggX6_init_X2_init : GoodIn wsX6_init wsX2_init := goodIn_r _ [14, 15, 2, 3, 10, 16, 17] rfl (by decide +kernel)
set_option maxRecDepth 20000 in
theorem gX6_init_X2_init_n11 : GoodIn wsX6_init (wsX2_init) := ggX6_init_X2_init
set_option maxRecDepth 20000 in
theorem ggX6_find_X8_begin : GoodIn wsX6_find wsX8_begin := goodIn_r _ [10, 11, 12, 13, 14, 15, 16, 17, 18, 111, 112, 113, 114, 115] rfl (by decide +kernel)
set_option maxRecDepth 20000 in
theorem gX6_find_X8_begin : GoodIn wsX6_find (wsV RX6 34 RX8 yX8_begin wsX8_begin) := goodIn_app (goodIn_of _ (by decide +kernel)) ggX6_find_X8_begin
set_option maxRecDepth 20000 in
theorem ggX6_find_X2_top : GoodIn wsX6_find wsX2_top := goodIn_r _ [23, 24, 25, 26, 13, 27, 116] rfl (by decide +kernel)
set_option maxRecDepth 20000 in
theorem gX6_find_X2_top : GoodIn wsX6_find (wsV RX6 38 RX2 yX2_top wsX2_top) := goodIn_app (goodIn_of _ (by decide +kernel)) ggX6_find_X2_top
set_option maxRecDepth 20000 in
theorem ggX6_find_X6_setLine : GoodIn wsX6_find wsX6_setLine := goodIn_r _ [32, 2, 33, 34, 31, 35, 36, 37, 38, 22, 39, 24, 40, 41, 42, 43, 44, 45, 46, 106, 107, 108, 109, 110, 116] rfl (by decide +kernel)
set_option maxRecDepth 20000 in
theorem gX6_find_X6_setLine : GoodIn wsX6_find (wsV RX6 42 RX6 yX6_setLine wsX6_setLine) := goodIn_app (goodIn_of _ (by decide +kernel)) ggX6_find_X6_setLine
set_option maxRecDepth 20000 in
theorem ggX6_find_X8_add : GoodIn wsX6_find wsX8_add := goodIn_r _ [50, 17, 15, 16, 18, 51, 52, 53, 54, 9, 55, 56, 57, 58, 59, 60, 111, 112, 113, 114, 115] rfl (by decide +kernel)
set_option maxRecDepth 20000 in
theorem gX6_find_X8_add : GoodIn wsX6_find (wsV RX6 46 RX8 yX8_add wsX8_add) := goodIn_app (goodIn_of _ (by decide +kernel)) ggX6_find_X8_add
set_option maxRecDepth 20000 in
theorem ggX6_find_X6_findCofactor : GoodIn wsX6_find wsX6_findCofactor := goodIn_r _ [64, 5, 1, 2, 65, 66, 67, 22, 68, 24, 28, 29, 30, 31, 32, 33, 34, 35, 36, 37, 38, 39, 40, 41, 42, 43, 44, 45, 46, 47, 48, 49, 9, 50, 17, 15, 16, 18, 51, 52, 53, 54, 55, 56, 57, 58, 59, 60, 69, 70, 71, 72, 73, 74, 75, 76, 106, 107, 108, 109, 110, 116, 111, 112, 113, 114, 115] rfl (by decide +kernel)
set_option maxRecDepth 20000 in
theorem gX6_find_X6_findCofactor : GoodIn wsX6_find (wsV RX6 50 RX6 yX6_findCofactor wsX6_findCofactor) := goodIn_app (goodIn_of _ (by decide +kernel)) ggX6_find_X6_findCofactor
set_option maxRecDepth 20000 in
theorem ggX6_find_X2_copy : GoodIn wsX6_find wsX2_copy := goodIn_r _ [80, 24, 81, 82, 83, 84, 116] rfl (by decide +kernel)
set_option maxRecDepth 20000 in
theorem gX6_find_X2_copy : GoodIn wsX6_find (wsV RX6 54 RX2 yX2_copy wsX2_copy) := goodIn_app (goodIn_of _ (by decide +kernel)) ggX6_find_X2_copy
set_option maxRecDepth 20000 in
theorem ggX6_find_X2_quotient : GoodIn wsX6_find wsX2_quotient := goodIn_r _ [88, 89, 66, 67, 22, 68, 24, 90, 20, 21, 23, 25, 26, 13, 27, 91, 92, 93, 94, 95, 12, 14, 96, 37, 38, 39, 40, 41, 42, 56, 57, 58, 59, 60, 97, 74, 75, 76, 98, 99, 100, 101, 116] rfl (by decide +kernel)
set_option maxRecDepth 20000 in
theorem gX6_find_X2_quotient : GoodIn wsX6_find (wsV RX6 58 RX2 yX2_quotient wsX2_quotient) := goodIn_app (goodIn_of _ (by decide +kernel)) ggX6_find_X2_quotient
set_option maxRecDepth 20000 in
theorem ggX6_find_X2_normalize : GoodIn wsX6_find wsX2_normalize := goodIn_r _ [105, 24, 90, 20, 21, 22, 23, 25, 26, 13, 27, 91, 92, 93, 94, 95, 12, 14, 96, 37, 38, 39, 40, 41, 42, 56, 57, 58, 59, 60, 116] rfl (by decide +kernel)
set_option maxRecDepth 20000 in
theorem gX6_find_X2_normalize : GoodIn wsX6_find (wsV RX6 62 RX2 yX2_normalize wsX2_normalize) := goodIn_app (goodIn_of _ (by decide +kernel)) ggX6_find_X2_normalize
set_option maxRecDepth 20000 in
theorem ggX6_findCofactor_X2_setTo : GoodIn wsX6_findCofactor wsX2_setTo := goodIn_r _ [8, 9, 61] rfl (by decide +kernel)
set_option maxRecDepth 20000 in
theorem gX6_findCofactor_X2_setTo : GoodIn wsX6_findCofactor (wsV RX6 66 RX2 yX2_setTo wsX2_setTo) := goodIn_app (goodIn_of _ (by decide +kernel)) ggX6_findCofactor_X2_setTo
set_option maxRecDepth 20000 in
theorem ggX6_findCofactor_X6_setLine : GoodIn wsX6_findCofactor wsX6_setLine := goodIn_r _ [14, 3, 15, 16, 13, 17, 18, 19, 20, 7, 21, 9, 22, 23, 24, 25, 26, 27, 28, 56, 57, 58, 59, 60, 61] rfl (by decide +kernel)
set_option maxRecDepth 20000 in
theorem gX6_findCofactor_X6_setLine : GoodIn wsX6_findCofactor (wsV RX6 42 RX6 yX6_setLine wsX6_setLine) := goodIn_app (goodIn_of _ (by decide +kernel)) ggX6_findCofactor_X6_setLine
set_option maxRecDepth 20000 in
theorem ggX6_findCofactor_X6_column : GoodIn wsX6_findCofactor wsX6_column := goodIn_r _ [17] rfl (by decide +kernel)
set_option maxRecDepth 20000 in
theorem gX6_findCofactor_X6_column : GoodIn wsX6_findCofactor (va_wsS RX6 69 yX6_column wsX6_column) := goodIn_app (goodIn_of _ (by decide +kernel)) ggX6_findCofactor_X6_column
set_option maxRecDepth 20000 in
theorem ggX6_findCofactor_X6_setColumn : GoodIn wsX6_findCofactor wsX6_setColumn := goodIn_r _ [28, 3, 56, 57, 58, 59, 60] rfl (by decide +kernel)
set_option maxRecDepth 20000 in
theorem gX6_findCofactor_X6_setColumn : GoodIn wsX6_findCofactor (wsV RX6 73 RX6 yX6_setColumn wsX6_setColumn) := goodIn_app (goodIn_of _ (by decide +kernel)) ggX6_findCofactor_X6_setColumn
set_option maxRecDepth 20000 in
theorem ggX6_findCofactor_X8_add : GoodIn wsX6_findCofactor wsX8_add := goodIn_r _ [33, 34, 35, 36, 37, 38, 39, 40, 41, 32, 42, 43, 44, 45, 46, 47, 62, 63, 64, 65, 66] rfl (by decide +kernel)
set_option maxRecDepth 20000 in
theorem gX6_findCofactor_X8_add : GoodIn wsX6_findCofactor (wsV RX6 46 RX8 yX8_add wsX8_add) := goodIn_app (goodIn_of _ (by decide +kernel)) ggX6_findCofactor_X8_add
set_option maxRecDepth 20000 in
theorem ggX6_findCofactor_X6_takeCofactor : GoodIn wsX6_findCofactor wsX6_takeCofactor := goodIn_r _ [51, 1, 3, 15, 16, 13, 17, 52, 53, 54, 7, 55, 9, 22, 23, 24, 56, 57, 58, 59, 60, 61] rfl (by decide +kernel)
set_option maxRecDepth 20000 in
theorem gX6_findCofactor_X6_takeCofactor : GoodIn wsX6_findCofactor (wsV RX6 77 RX6 yX6_takeCofactor wsX6_takeCofactor) := goodIn_app (goodIn_of _ (by decide +kernel)) ggX6_findCofactor_X6_takeCofactor
set_option maxRecDepth 20000 in
theorem ggX6_takeCofactor_X6_column : GoodIn wsX6_takeCofactor wsX6_column := goodIn_r _ [6] rfl (by decide +kernel)
set_option maxRecDepth 20000 in
theorem gX6_takeCofactor_X6_column : GoodIn wsX6_takeCofactor (va_wsS RX6 69 yX6_column wsX6_column) := goodIn_app (goodIn_of _ (by decide +kernel)) ggX6_takeCofactor_X6_column
set_option maxRecDepth 20000 in
theorem ggX6_takeCofactor_X2_put : GoodIn wsX6_takeCofactor wsX2_put := goodIn_r _ [11, 12, 13, 14, 10, 15, 21] rfl (by decide +kernel)
set_option maxRecDepth 20000 in
theorem gX6_takeCofactor_X2_put : GoodIn wsX6_takeCofactor (wsV RX6 80 RX2 yX2_put wsX2_put) := goodIn_app (goodIn_of _ (by decide +kernel)) ggX6_takeCofactor_X2_put
set_option maxRecDepth 20000 in
theorem ggX6_setLine_X6_column : GoodIn wsX6_setLine wsX6_column := goodIn_r _ [5] rfl (by decide +kernel)
set_option maxRecDepth 20000 in
theorem gX6_setLine_X6_column : GoodIn wsX6_setLine (va_wsS RX6 69 yX6_column wsX6_column) := goodIn_app (goodIn_of _ (by decide +kernel)) ggX6_setLine_X6_column
set_option maxRecDepth 20000 in
theorem ggX6_setLine_X2_at : GoodIn wsX6_setLine wsX2_at := goodIn_r _ [10, 11, 12, 13, 9, 14, 24] rfl (by decide +kernel)
set_option maxRecDepth 20000 in
theorem gX6_setLine_X2_at : GoodIn wsX6_setLine (wsV RX6 83 RX2 yX2_at wsX2_at) := goodIn_app (goodIn_of _ (by decide +kernel)) ggX6_setLine_X2_at
set_option maxRecDepth 20000 in
theorem ggX6_setLine_X6_setColumn : GoodIn wsX6_setLine wsX6_setColumn := goodIn_r _ [18, 1, 19, 20, 21, 22, 23] rfl (by decide +kernel)
set_option maxRecDepth 20000 in
theorem gX6_setLine_X6_setColumn : GoodIn wsX6_setLine (wsV RX6 73 RX6 yX6_setColumn wsX6_setColumn) := goodIn_app (goodIn_of _ (by decide +kernel)) ggX6_setLine_X6_setColumn
set_option maxRecDepth 20000 in
theorem ggX7_init_X2_init : GoodIn wsX7_init wsX2_init := goodIn_r _ [13, 14, 2, 3, 8, 15, 20] rfl (by decide +kernel)
set_option maxRecDepth 20000 in
theorem gX7_init_X2_init_n28 : GoodIn wsX7_init (wsX2_init) := ggX7_init_X2_init
set_option maxRecDepth 20000 in
theorem ggX7_letterOf_X7_find : GoodIn wsX7_letterOf wsX7_find := goodIn_r _ [6, 7, 8, 9, 10, 11, 12] rfl (by decide +kernel)
set_option maxRecDepth 20000 in
theorem gX7_letterOf_X7_find : GoodIn wsX7_letterOf (wsV RX7 29 RX7 yX7_find wsX7_find) := goodIn_app (goodIn_of _ (by decide +kernel)) ggX7_letterOf_X7_find
set_option maxRecDepth 20000 in
theorem ggX7_copy_X2_copy : GoodIn wsX7_copy wsX2_copy := goodIn_r _ [13, 14, 15, 6, 7, 8, 20] rfl (by decide +kernel)
set_option maxRecDepth 20000 in
theorem gX7_copy_X2_copy : GoodIn wsX7_copy (wsV RX7 33 RX2 yX2_copy wsX2_copy) := goodIn_app (goodIn_of _ (by decide +kernel)) ggX7_copy_X2_copy
set_option maxRecDepth 20000 in
theorem ggX7_add_X2_copy : GoodIn wsX7_add wsX2_copy := goodIn_r _ [7, 8, 9, 10, 11, 12, 23] rfl (by decide +kernel)
set_option maxRecDepth 20000 in
theorem gX7_add_X2_copy : GoodIn wsX7_add (wsV RX7 33 RX2 yX2_copy wsX2_copy) := goodIn_app (goodIn_of _ (by decide +kernel)) ggX7_add_X2_copy
set_option maxRecDepth 20000 in
theorem ggX7_add_X7_setLetter : GoodIn wsX7_add wsX7_setLetter := goodIn_r _ [17, 1, 18, 19, 20, 21, 22] rfl (by decide +kernel)
set_option maxRecDepth 20000 in
theorem gX7_add_X7_setLetter : GoodIn wsX7_add (wsV RX7 43 RX7 yX7_setLetter wsX7_setLetter) := goodIn_app (goodIn_of _ (by decide +kernel)) ggX7_add_X7_setLetter
set_option maxRecDepth 20000 in
theorem ggX7_remove_X7_find : GoodIn wsX7_remove wsX7_find := goodIn_r _ [12, 1, 2, 20, 21, 22, 23] rfl (by decide +kernel)
set_option maxRecDepth 20000 in
theorem gX7_remove_X7_find : GoodIn wsX7_remove (wsV RX7 29 RX7 yX7_find wsX7_find) := goodIn_app (goodIn_of _ (by decide +kernel)) ggX7_remove_X7_find
set_option maxRecDepth 20000 in
theorem ggX7_remove_X2_copy : GoodIn wsX7_remove wsX2_copy := goodIn_r _ [17, 18, 19, 5, 6, 7, 24] rfl (by decide +kernel)
set_option maxRecDepth 20000 in
theorem gX7_remove_X2_copy : GoodIn wsX7_remove (wsV RX7 33 RX2 yX2_copy wsX2_copy) := goodIn_app (goodIn_of _ (by decide +kernel)) ggX7_remove_X2_copy
set_option maxRecDepth 20000 in
theorem ggX8_add_X8_keep : GoodIn wsX8_add wsX8_keep := goodIn_r _ [10, 1, 2, 5, 4, 11, 12, 13, 14, 15, 16, 17, 18, 19, 20] rfl (by decide +kernel)
set_option maxRecDepth 20000 in
theorem gX8_add_X8_keep : GoodIn wsX8_add (wsV RX8 36 RX8 yX8_keep wsX8_keep) := goodIn_app (goodIn_of _ (by decide +kernel)) ggX8_add_X8_keep
set_option maxRecDepth 20000 in
theorem ggX8_keep_X11_inverse : GoodIn wsX8_keep wsX11_inverse := goodIn_r _ [7] rfl (by decide +kernel)
set_option maxRecDepth 20000 in
theorem gX8_keep_X11_inverse_n40 : GoodIn wsX8_keep (wsX11_inverse) := ggX8_keep_X11_inverse
set_option maxRecDepth 20000 in
theorem ggX8_keep_X11_mod : GoodIn wsX8_keep wsX11_mod := goodIn_r _ [9] rfl (by decide +kernel)
set_option maxRecDepth 20000 in
theorem gX8_keep_X11_mod_n43 : GoodIn wsX8_keep (wsX11_mod) := ggX8_keep_X11_mod
set_option maxRecDepth 20000 in
theorem ggX9_isPoint_X9_howMany : GoodIn wsX9_isPoint wsX9_howMany := goodIn_r _ [4] rfl (by decide +kernel)
set_option maxRecDepth 20000 in
theorem gX9_isPoint_X9_howMany : GoodIn wsX9_isPoint (va_wsS RX9 21 yX9_howMany wsX9_howMany) := goodIn_app (goodIn_of _ (by decide +kernel)) ggX9_isPoint_X9_howMany
set_option maxRecDepth 20000 in
theorem ggX9_go_X9_isPoint : GoodIn wsX9_go wsX9_isPoint := goodIn_r _ [7, 8, 9, 6, 10] rfl (by decide +kernel)
set_option maxRecDepth 20000 in
theorem gX9_go_X9_isPoint : GoodIn wsX9_go (va_wsS RX9 25 yX9_isPoint wsX9_isPoint) := goodIn_app (goodIn_of _ (by decide +kernel)) ggX9_go_X9_isPoint
set_option maxRecDepth 20000 in
theorem ggX9_valueOf_X2_top : GoodIn wsX9_valueOf wsX2_top := goodIn_r _ [8, 9, 10, 11, 12, 13, 17] rfl (by decide +kernel)
set_option maxRecDepth 20000 in
theorem gX9_valueOf_X2_top : GoodIn wsX9_valueOf (wsV RX9 29 RX2 yX2_top wsX2_top) := goodIn_app (goodIn_of _ (by decide +kernel)) ggX9_valueOf_X2_top
set_option maxRecDepth 20000 in
theorem ggX10_init_X2_init : GoodIn wsX10_init wsX2_init := goodIn_r _ [12, 13, 2, 3, 8, 14, 15] rfl (by decide +kernel)
set_option maxRecDepth 20000 in
theorem gX10_init_X2_init_n11 : GoodIn wsX10_init (wsX2_init) := ggX10_init_X2_init
set_option maxRecDepth 20000 in
theorem ggX10_look_X2_setTo : GoodIn wsX10_look wsX2_setTo := goodIn_r _ [8, 9, 63] rfl (by decide +kernel)
set_option maxRecDepth 20000 in
theorem gX10_look_X2_setTo : GoodIn wsX10_look (wsV RX10 26 RX2 yX2_setTo wsX2_setTo) := goodIn_app (goodIn_of _ (by decide +kernel)) ggX10_look_X2_setTo
set_option maxRecDepth 20000 in
theorem ggX10_look_X2_top : GoodIn wsX10_look wsX2_top := goodIn_r _ [13, 9, 14, 15, 16, 17, 63] rfl (by decide +kernel)
set_option maxRecDepth 20000 in
theorem gX10_look_X2_top : GoodIn wsX10_look (wsV RX10 30 RX2 yX2_top wsX2_top) := goodIn_app (goodIn_of _ (by decide +kernel)) ggX10_look_X2_top
set_option maxRecDepth 20000 in
theorem ggX10_look_X2_at : GoodIn wsX10_look wsX2_at := goodIn_r _ [21, 9, 22, 23, 7, 24, 63] rfl (by decide +kernel)
set_option maxRecDepth 20000 in
theorem gX10_look_X2_at : GoodIn wsX10_look (wsV RX10 34 RX2 yX2_at wsX2_at) := goodIn_app (goodIn_of _ (by decide +kernel)) ggX10_look_X2_at
set_option maxRecDepth 20000 in
theorem ggX10_look_X10_addNear : GoodIn wsX10_look wsX10_addNear := goodIn_r _ [29, 30, 1, 2, 31, 32, 33, 34, 28, 35, 36, 37, 23, 7, 24, 38, 39, 40, 41, 42, 43, 44, 45, 46, 47, 48, 19, 20, 21, 9, 22, 49, 50, 51, 52, 60, 61, 62, 57, 58, 59, 63] rfl (by decide +kernel)
set_option maxRecDepth 20000 in
theorem gX10_look_X10_addNear : GoodIn wsX10_look (wsV RX10 43 RX10 yX10_addNear wsX10_addNear) := goodIn_app (goodIn_of _ (by decide +kernel)) ggX10_look_X10_addNear
set_option maxRecDepth 20000 in
theorem ggX10_look_X10_addFar : GoodIn wsX10_look wsX10_addFar := goodIn_r _ [56, 30, 2, 1, 31, 44, 45, 46, 7, 47, 48, 19, 20, 21, 9, 22, 23, 24, 42, 39, 43, 49, 50, 51, 52, 32, 33, 34, 28, 35, 36, 37, 38, 40, 41, 60, 61, 62, 57, 58, 59, 63] rfl (by decide +kernel)
set_option maxRecDepth 20000 in
theorem gX10_look_X10_addFar : GoodIn wsX10_look (wsV RX10 47 RX10 yX10_addFar wsX10_addFar) := goodIn_app (goodIn_of _ (by decide +kernel)) ggX10_look_X10_addFar
set_option maxRecDepth 20000 in
theorem ggX10_addNear_X10_shifted : GoodIn wsX10_addNear wsX10_shifted := goodIn_r _ [9, 10, 2, 11, 12, 13, 14, 15, 16, 17, 18, 19, 20, 38, 39, 40] rfl (by decide +kernel)
set_option maxRecDepth 20000 in
theorem gX10_addNear_X10_shifted : GoodIn wsX10_addNear (wsV RX10 54 RX10 yX10_shifted wsX10_shifted) := goodIn_app (goodIn_of _ (by decide +kernel)) ggX10_addNear_X10_shifted
set_option maxRecDepth 20000 in
theorem ggX10_addNear_X11_mod : GoodIn wsX10_addNear wsX11_mod := goodIn_r _ [20] rfl (by decide +kernel)
set_option maxRecDepth 20000 in
theorem gX10_addNear_X11_mod_n58 : GoodIn wsX10_addNear (wsX11_mod) := ggX10_addNear_X11_mod
set_option maxRecDepth 20000 in
theorem ggX10_addNear_X2_increase : GoodIn wsX10_addNear wsX2_increase := goodIn_r _ [24, 25, 26, 27, 13, 28, 29, 30, 12, 14, 19, 16, 20, 31, 32, 33, 34, 41] rfl (by decide +kernel)
set_option maxRecDepth 20000 in
theorem gX10_addNear_X2_increase : GoodIn wsX10_addNear (wsV RX10 64 RX2 yX2_increase wsX2_increase) := goodIn_app (goodIn_of _ (by decide +kernel)) ggX10_addNear_X2_increase
