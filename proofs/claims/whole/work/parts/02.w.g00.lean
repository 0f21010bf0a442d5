set_option maxRecDepth 20000 in
theorem ggX12_feed_X12_refuses : GoodIn wsX12_feed wsX12_refuses := goodIn_r _ [6, 7, 13, 14, 15, 16, 17, 18, 19, 20, 21, 22, 23, 24, 25, 26, 27, 28, 29, 30, 31, 32, 33, 34, 35, 36, 37, 38, 39, 40, 41, 42, 43, 44, 45, 46, 47, 48, 49] rfl (by decide +kernel)
set_option maxRecDepth 20000 in
theorem gX12_feed_X12_refuses : GoodIn wsX12_feed (wsV RX12 124 RX12 yX12_refuses wsX12_refuses) := goodIn_app (goodIn_of _ (by decide +kernel)) ggX12_feed_X12_refuses
set_option maxRecDepth 20000 in
theorem ggX12_feed_X12_lays : GoodIn wsX12_feed wsX12_lays := goodIn_r _ [11, 12, 1, 13, 14, 15, 16, 17, 18, 19, 20, 21, 22, 23, 24, 25, 26, 27, 28, 29, 30, 31, 32, 33, 34, 35, 36, 37, 38, 39, 40, 41, 42, 43, 44, 45, 46, 47, 48, 49] rfl (by decide +kernel)
set_option maxRecDepth 20000 in
theorem gX12_feed_X12_lays : GoodIn wsX12_feed (wsV RX12 128 RX12 yX12_lays wsX12_lays) := goodIn_app (goodIn_of _ (by decide +kernel)) ggX12_feed_X12_lays
set_option maxRecDepth 20000 in
theorem ggX12_end_X12_isRefused : GoodIn wsX12_end wsX12_isRefused := goodIn_r _ [6, 7, 8, 9, 10, 11, 12, 13, 14, 15, 16, 17, 18, 19, 20, 21, 22, 23, 24, 25, 26, 27, 28, 29, 30, 31, 32, 33, 34, 35, 36, 37, 38, 39, 40, 41, 42, 43, 44] rfl (by decide +kernel)
set_option maxRecDepth 20000 in
theorem gX12_end_X12_isRefused : GoodIn wsX12_end (wsV RX12 132 RX12 yX12_isRefused wsX12_isRefused) := goodIn_app (goodIn_of _ (by decide +kernel)) ggX12_end_X12_isRefused
set_option maxRecDepth 20000 in
theorem ggX12_isSmall_X12_byteAt : GoodIn wsX12_isSmall wsX12_byteAt := goodIn_r _ [5, 6, 7, 8, 9, 10, 11, 12, 13, 14, 15, 16, 17, 18, 19, 20, 21, 22, 23, 24, 25, 26, 27, 28, 29, 30, 31, 32, 33, 34, 35, 36, 37, 38, 39, 40, 41, 42, 43, 44] rfl (by decide +kernel)
set_option maxRecDepth 20000 in
theorem gX12_isSmall_X12_byteAt : GoodIn wsX12_isSmall (wsV RX12 136 RX12 yX12_byteAt wsX12_byteAt) := goodIn_app (goodIn_of _ (by decide +kernel)) ggX12_isSmall_X12_byteAt
set_option maxRecDepth 20000 in
theorem ggX12_isDigit_X12_byteAt : GoodIn wsX12_isDigit wsX12_byteAt := goodIn_r _ [5, 6, 7, 8, 9, 10, 11, 12, 13, 14, 15, 16, 17, 18, 19, 20, 21, 22, 23, 24, 25, 26, 27, 28, 29, 30, 31, 32, 33, 34, 35, 36, 37, 38, 39, 40, 41, 42, 43, 44] rfl (by decide +kernel)
set_option maxRecDepth 20000 in
theorem gX12_isDigit_X12_byteAt : GoodIn wsX12_isDigit (wsV RX12 136 RX12 yX12_byteAt wsX12_byteAt) := goodIn_app (goodIn_of _ (by decide +kernel)) ggX12_isDigit_X12_byteAt
set_option maxRecDepth 20000 in
theorem ggX12_here_X12_byteAt : GoodIn wsX12_here wsX12_byteAt := goodIn_r _ [6, 7, 8, 9, 10, 11, 12, 13, 14, 15, 16, 17, 18, 19, 20, 21, 22, 23, 24, 25, 26, 27, 28, 29, 30, 31, 32, 33, 34, 35, 36, 37, 38, 39, 40, 41, 42, 43, 44, 45] rfl (by decide +kernel)
set_option maxRecDepth 20000 in
theorem gX12_here_X12_byteAt : GoodIn wsX12_here (wsV RX12 136 RX12 yX12_byteAt wsX12_byteAt) := goodIn_app (goodIn_of _ (by decide +kernel)) ggX12_here_X12_byteAt
set_option maxRecDepth 20000 in
theorem ggX12_isMark_X12_goesWell : GoodIn wsX12_isMark wsX12_goesWell := goodIn_r _ [5, 6, 18, 19, 20, 21, 22, 23, 24, 25, 26, 27, 28, 29, 30, 31, 32, 33, 34, 35, 36, 37, 38, 39, 40, 41, 42, 43, 44, 45, 46, 47, 48, 49, 50, 51, 52, 53, 54] rfl (by decide +kernel)
set_option maxRecDepth 20000 in
theorem gX12_isMark_X12_goesWell : GoodIn wsX12_isMark (wsV RX12 139 RX12 yX12_goesWell wsX12_goesWell) := goodIn_app (goodIn_of _ (by decide +kernel)) ggX12_isMark_X12_goesWell
set_option maxRecDepth 20000 in
theorem ggX12_isMark_X12_here : GoodIn wsX12_isMark wsX12_here := goodIn_r _ [10, 11, 12, 13, 14, 4, 15, 16, 17, 18, 19, 20, 21, 22, 23, 24, 25, 26, 27, 28, 29, 30, 31, 32, 33, 34, 35, 36, 37, 38, 39, 40, 41, 42, 43, 44, 45, 46, 47, 48, 49, 50, 51, 52, 53, 54] rfl (by decide +kernel)
set_option maxRecDepth 20000 in
theorem gX12_isMark_X12_here : GoodIn wsX12_isMark (wsV RX12 143 RX12 yX12_here wsX12_here) := goodIn_app (goodIn_of _ (by decide +kernel)) ggX12_isMark_X12_here
set_option maxRecDepth 20000 in
theorem ggX12_mark_X12_goesWell : GoodIn wsX12_mark wsX12_goesWell := goodIn_r _ [6, 7, 23, 24, 25, 26, 27, 28, 29, 30, 31, 32, 33, 34, 35, 36, 37, 38, 39, 40, 41, 42, 43, 44, 45, 46, 47, 48, 49, 50, 51, 52, 53, 54, 55, 56, 57, 58, 59] rfl (by decide +kernel)
set_option maxRecDepth 20000 in
theorem gX12_mark_X12_goesWell : GoodIn wsX12_mark (wsV RX12 139 RX12 yX12_goesWell wsX12_goesWell) := goodIn_app (goodIn_of _ (by decide +kernel)) ggX12_mark_X12_goesWell
set_option maxRecDepth 20000 in
theorem ggX12_mark_X12_here : GoodIn wsX12_mark wsX12_here := goodIn_r _ [11, 1, 12, 13, 14, 5, 15, 16, 17, 23, 24, 25, 26, 27, 28, 29, 30, 31, 32, 33, 34, 35, 36, 37, 38, 39, 40, 41, 42, 43, 44, 45, 46, 47, 48, 49, 50, 51, 52, 53, 54, 55, 56, 57, 58, 59] rfl (by decide +kernel)
set_option maxRecDepth 20000 in
theorem gX12_mark_X12_here : GoodIn wsX12_mark (wsV RX12 143 RX12 yX12_here wsX12_here) := goodIn_app (goodIn_of _ (by decide +kernel)) ggX12_mark_X12_here
set_option maxRecDepth 20000 in
theorem ggX12_mark_X12_faults : GoodIn wsX12_mark wsX12_faults := goodIn_r _ [21, 7, 22, 23, 24, 25, 26, 27, 28, 29, 30, 31, 32, 33, 34, 35, 36, 37, 38, 39, 40, 41, 42, 43, 44, 45, 46, 47, 48, 49, 50, 51, 52, 53, 54, 55, 56, 57, 58, 59] rfl (by decide +kernel)
set_option maxRecDepth 20000 in
theorem gX12_mark_X12_faults : GoodIn wsX12_mark (wsV RX12 147 RX12 yX12_faults wsX12_faults) := goodIn_app (goodIn_of _ (by decide +kernel)) ggX12_mark_X12_faults
set_option maxRecDepth 20000 in
theorem ggX12_isWordHere_X12_here : GoodIn wsX12_isWordHere wsX12_here := goodIn_r _ [6, 1, 7, 8, 9, 5, 10, 11, 12, 26, 27, 28, 29, 30, 31, 32, 33, 34, 35, 36, 37, 38, 39, 40, 41, 42, 43, 44, 45, 46, 47, 48, 49, 50, 51, 52, 53, 54, 55, 56, 57, 58, 59, 60, 61, 62] rfl (by decide +kernel)
set_option maxRecDepth 20000 in
theorem gX12_isWordHere_X12_here : GoodIn wsX12_isWordHere (wsV RX12 143 RX12 yX12_here wsX12_here) := goodIn_app (goodIn_of _ (by decide +kernel)) ggX12_isWordHere_X12_here
set_option maxRecDepth 20000 in
theorem ggX12_isWordHere_X12_goesWell : GoodIn wsX12_isWordHere wsX12_goesWell := goodIn_r _ [16, 17, 26, 27, 28, 29, 30, 31, 32, 33, 34, 35, 36, 37, 38, 39, 40, 41, 42, 43, 44, 45, 46, 47, 48, 49, 50, 51, 52, 53, 54, 55, 56, 57, 58, 59, 60, 61, 62] rfl (by decide +kernel)
set_option maxRecDepth 20000 in
theorem gX12_isWordHere_X12_goesWell : GoodIn wsX12_isWordHere (wsV RX12 139 RX12 yX12_goesWell wsX12_goesWell) := goodIn_app (goodIn_of _ (by decide +kernel)) ggX12_isWordHere_X12_goesWell
set_option maxRecDepth 20000 in
theorem ggX12_isWordHere_X12_isSmall : GoodIn wsX12_isWordHere wsX12_isSmall := goodIn_r _ [21, 7, 8, 9, 5, 10, 11, 12, 26, 27, 28, 29, 30, 31, 32, 33, 34, 35, 36, 37, 38, 39, 40, 41, 42, 43, 44, 45, 46, 47, 48, 49, 50, 51, 52, 53, 54, 55, 56, 57, 58, 59, 60, 61, 62] rfl (by decide +kernel)
set_option maxRecDepth 20000 in
theorem gX12_isWordHere_X12_isSmall : GoodIn wsX12_isWordHere (wsV RX12 151 RX12 yX12_isSmall wsX12_isSmall) := goodIn_app (goodIn_of _ (by decide +kernel)) ggX12_isWordHere_X12_isSmall
set_option maxRecDepth 20000 in
theorem ggX12_isWordHere_X12_isDigit : GoodIn wsX12_isWordHere wsX12_isDigit := goodIn_r _ [25, 7, 8, 9, 5, 10, 11, 12, 26, 27, 28, 29, 30, 31, 32, 33, 34, 35, 36, 37, 38, 39, 40, 41, 42, 43, 44, 45, 46, 47, 48, 49, 50, 51, 52, 53, 54, 55, 56, 57, 58, 59, 60, 61, 62] rfl (by decide +kernel)
set_option maxRecDepth 20000 in
theorem gX12_isWordHere_X12_isDigit : GoodIn wsX12_isWordHere (wsV RX12 154 RX12 yX12_isDigit wsX12_isDigit) := goodIn_app (goodIn_of _ (by decide +kernel)) ggX12_isWordHere_X12_isDigit
set_option maxRecDepth 20000 in
theorem ggX12_word_X12_goesWell : GoodIn wsX12_word wsX12_goesWell := goodIn_r _ [7, 8, 36, 37, 38, 39, 40, 41, 42, 43, 44, 45, 46, 47, 48, 49, 50, 51, 52, 53, 54, 55, 56, 57, 58, 59, 60, 61, 62, 63, 64, 65, 66, 67, 68, 69, 70, 71, 72] rfl (by decide +kernel)
set_option maxRecDepth 20000 in
theorem gX12_word_X12_goesWell : GoodIn wsX12_word (wsV RX12 139 RX12 yX12_goesWell wsX12_goesWell) := goodIn_app (goodIn_of _ (by decide +kernel)) ggX12_word_X12_goesWell
set_option maxRecDepth 20000 in
theorem ggX12_word_X12_isWordHere : GoodIn wsX12_word wsX12_isWordHere := goodIn_r _ [12, 1, 13, 14, 15, 6, 16, 17, 18, 19, 20, 21, 22, 3, 4, 5, 7, 8, 23, 24, 25, 26, 27, 28, 29, 30, 36, 37, 38, 39, 40, 41, 42, 43, 44, 45, 46, 47, 48, 49, 50, 51, 52, 53, 54, 55, 56, 57, 58, 59, 60, 61, 62, 63, 64, 65, 66, 67, 68, 69, 70, 71, 72] rfl (by decide +kernel)
set_option maxRecDepth 20000 in
theorem gX12_word_X12_isWordHere : GoodIn wsX12_word (wsV RX12 157 RX12 yX12_isWordHere wsX12_isWordHere) := goodIn_app (goodIn_of _ (by decide +kernel)) ggX12_word_X12_isWordHere
set_option maxRecDepth 20000 in
theorem ggX12_word_X12_faults : GoodIn wsX12_word wsX12_faults := goodIn_r _ [34, 8, 35, 36, 37, 38, 39, 40, 41, 42, 43, 44, 45, 46, 47, 48, 49, 50, 51, 52, 53, 54, 55, 56, 57, 58, 59, 60, 61, 62, 63, 64, 65, 66, 67, 68, 69, 70, 71, 72] rfl (by decide +kernel)
set_option maxRecDepth 20000 in
theorem gX12_word_X12_faults : GoodIn wsX12_word (wsV RX12 147 RX12 yX12_faults wsX12_faults) := goodIn_app (goodIn_of _ (by decide +kernel)) ggX12_word_X12_faults
set_option maxRecDepth 20000 in
theorem ggX12_word_X12_isSmall : GoodIn wsX12_word wsX12_isSmall := goodIn_r _ [26, 17, 18, 19, 6, 20, 21, 22, 36, 37, 38, 39, 40, 41, 42, 43, 44, 45, 46, 47, 48, 49, 50, 51, 52, 53, 54, 55, 56, 57, 58, 59, 60, 61, 62, 63, 64, 65, 66, 67, 68, 69, 70, 71, 72] rfl (by decide +kernel)
set_option maxRecDepth 20000 in
theorem gX12_word_X12_isSmall : GoodIn wsX12_word (wsV RX12 151 RX12 yX12_isSmall wsX12_isSmall) := goodIn_app (goodIn_of _ (by decide +kernel)) ggX12_word_X12_isSmall
set_option maxRecDepth 20000 in
theorem ggX12_own_X12_isSpelled : GoodIn wsX12_own wsX12_isSpelled := goodIn_r _ [5, 6, 7, 8, 9, 10, 11, 12, 13, 14, 15, 16, 17, 18, 19, 20, 21, 22, 23, 24, 25, 26, 27, 28, 29, 30, 31, 32, 33, 34, 35, 36, 37, 38, 39, 40, 41, 42, 43, 44, 45] rfl (by decide +kernel)
set_option maxRecDepth 20000 in
theorem gX12_own_X12_isSpelled : GoodIn wsX12_own (wsV RX12 160 RX12 yX12_isSpelled wsX12_isSpelled) := goodIn_app (goodIn_of _ (by decide +kernel)) ggX12_own_X12_isSpelled
set_option maxRecDepth 20000 in
theorem ggX12_comes_X12_isWordHere : GoodIn wsX12_comes wsX12_isWordHere := goodIn_r _ [6, 1, 7, 8, 9, 5, 10, 11, 12, 13, 14, 15, 16, 17, 18, 19, 20, 21, 22, 23, 24, 25, 26, 27, 28, 29, 48, 49, 50, 51, 52, 53, 54, 55, 56, 57, 58, 59, 60, 61, 62, 63, 64, 65, 66, 67, 68, 69, 70, 71, 72, 73, 74, 75, 76, 77, 78, 79, 80, 81, 82, 83, 84] rfl (by decide +kernel)
set_option maxRecDepth 20000 in
theorem gX12_comes_X12_isWordHere : GoodIn wsX12_comes (wsV RX12 157 RX12 yX12_isWordHere wsX12_isWordHere) := goodIn_app (goodIn_of _ (by decide +kernel)) ggX12_comes_X12_isWordHere
set_option maxRecDepth 20000 in
theorem ggX12_comes_X12_word : GoodIn wsX12_comes wsX12_word := goodIn_r _ [33, 1, 34, 17, 18, 19, 5, 20, 21, 2, 3, 4, 6, 7, 8, 9, 10, 11, 12, 13, 14, 15, 16, 22, 23, 24, 25, 26, 27, 28, 29, 35, 36, 37, 38, 39, 48, 49, 50, 51, 52, 53, 54, 55, 56, 57, 58, 59, 60, 61, 62, 63, 64, 65, 66, 67, 68, 69, 70, 71, 72, 73, 74, 75, 76, 77, 78, 79, 80, 81, 82, 83, 84] rfl (by decide +kernel)
set_option maxRecDepth 20000 in
theorem gX12_comes_X12_word : GoodIn wsX12_comes (wsV RX12 164 RX12 yX12_word wsX12_word) := goodIn_app (goodIn_of _ (by decide +kernel)) ggX12_comes_X12_word
set_option maxRecDepth 20000 in
theorem ggX12_comes_X12_own : GoodIn wsX12_comes wsX12_own := goodIn_r _ [43, 44, 45, 46, 5, 47, 1, 34, 16, 48, 49, 50, 51, 52, 53, 54, 55, 56, 57, 58, 59, 60, 61, 62, 63, 64, 65, 66, 67, 68, 69, 70, 71, 72, 73, 74, 75, 76, 77, 78, 79, 80, 81, 82, 83, 84] rfl (by decide +kernel)
set_option maxRecDepth 20000 in
theorem gX12_comes_X12_own : GoodIn wsX12_comes (wsV RX12 167 RX12 yX12_own wsX12_own) := goodIn_app (goodIn_of _ (by decide +kernel)) ggX12_comes_X12_own
set_option maxRecDepth 20000 in
theorem ggX12_name_X12_word : GoodIn wsX12_name wsX12_word := goodIn_r _ [8, 1, 2, 9, 10, 11, 7, 12, 13, 14, 15, 16, 17, 18, 19, 20, 21, 22, 23, 24, 25, 26, 3, 27, 28, 29, 30, 31, 32, 33, 34, 35, 36, 37, 38, 39, 48, 49, 50, 51, 52, 53, 54, 55, 56, 57, 58, 59, 60, 61, 62, 63, 64, 65, 66, 67, 68, 69, 70, 71, 72, 73, 74, 75, 76, 77, 78, 79, 80, 81, 82, 83, 84] rfl (by decide +kernel)
set_option maxRecDepth 20000 in
theorem gX12_name_X12_word : GoodIn wsX12_name (wsV RX12 164 RX12 yX12_word wsX12_word) := goodIn_app (goodIn_of _ (by decide +kernel)) ggX12_name_X12_word
set_option maxRecDepth 20000 in
theorem ggX12_name_X12_goesWell : GoodIn wsX12_name wsX12_goesWell := goodIn_r _ [12, 13, 48, 49, 50, 51, 52, 53, 54, 55, 56, 57, 58, 59, 60, 61, 62, 63, 64, 65, 66, 67, 68, 69, 70, 71, 72, 73, 74, 75, 76, 77, 78, 79, 80, 81, 82, 83, 84] rfl (by decide +kernel)
set_option maxRecDepth 20000 in
theorem gX12_name_X12_goesWell : GoodIn wsX12_name (wsV RX12 139 RX12 yX12_goesWell wsX12_goesWell) := goodIn_app (goodIn_of _ (by decide +kernel)) ggX12_name_X12_goesWell
set_option maxRecDepth 20000 in
theorem ggX12_name_X12_own : GoodIn wsX12_name wsX12_own := goodIn_r _ [43, 44, 45, 46, 7, 47, 1, 2, 3, 48, 49, 50, 51, 52, 53, 54, 55, 56, 57, 58, 59, 60, 61, 62, 63, 64, 65, 66, 67, 68, 69, 70, 71, 72, 73, 74, 75, 76, 77, 78, 79, 80, 81, 82, 83, 84] rfl (by decide +kernel)
set_option maxRecDepth 20000 in
theorem gX12_name_X12_own : GoodIn wsX12_name (wsV RX12 167 RX12 yX12_own wsX12_own) := goodIn_app (goodIn_of _ (by decide +kernel)) ggX12_name_X12_own
set_option maxRecDepth 20000 in
theorem ggX12_name_X12_faults : GoodIn wsX12_name wsX12_faults := goodIn_r _ [38, 13, 39, 48, 49, 50, 51, 52, 53, 54, 55, 56, 57, 58, 59, 60, 61, 62, 63, 64, 65, 66, 67, 68, 69, 70, 71, 72, 73, 74, 75, 76, 77, 78, 79, 80, 81, 82, 83, 84] rfl (by decide +kernel)
set_option maxRecDepth 20000 in
theorem gX12_name_X12_faults : GoodIn wsX12_name (wsV RX12 147 RX12 yX12_faults wsX12_faults) := goodIn_app (goodIn_of _ (by decide +kernel)) ggX12_name_X12_faults
set_option maxRecDepth 20000 in
theorem ggX12_number_X12_goesWell : GoodIn wsX12_number wsX12_goesWell := goodIn_r _ [10, 11, 35, 36, 37, 38, 39, 40, 41, 42, 43, 44, 45, 46, 47, 48, 49, 50, 51, 52, 53, 54, 55, 56, 57, 58, 59, 60, 61, 62, 63, 64, 65, 66, 67, 68, 69, 70, 71] rfl (by decide +kernel)
set_option maxRecDepth 20000 in
theorem gX12_number_X12_goesWell : GoodIn wsX12_number (wsV RX12 139 RX12 yX12_goesWell wsX12_goesWell) := goodIn_app (goodIn_of _ (by decide +kernel)) ggX12_number_X12_goesWell
set_option maxRecDepth 20000 in
theorem ggX12_number_X12_here : GoodIn wsX12_number wsX12_here := goodIn_r _ [15, 1, 16, 17, 18, 9, 19, 20, 21, 35, 36, 37, 38, 39, 40, 41, 42, 43, 44, 45, 46, 47, 48, 49, 50, 51, 52, 53, 54, 55, 56, 57, 58, 59, 60, 61, 62, 63, 64, 65, 66, 67, 68, 69, 70, 71] rfl (by decide +kernel)
set_option maxRecDepth 20000 in
theorem gX12_number_X12_here : GoodIn wsX12_number (wsV RX12 143 RX12 yX12_here wsX12_here) := goodIn_app (goodIn_of _ (by decide +kernel)) ggX12_number_X12_here
set_option maxRecDepth 20000 in
theorem ggX12_number_X12_isDigit : GoodIn wsX12_number wsX12_isDigit := goodIn_r _ [25, 16, 17, 18, 9, 19, 20, 21, 35, 36, 37, 38, 39, 40, 41, 42, 43, 44, 45, 46, 47, 48, 49, 50, 51, 52, 53, 54, 55, 56, 57, 58, 59, 60, 61, 62, 63, 64, 65, 66, 67, 68, 69, 70, 71] rfl (by decide +kernel)
set_option maxRecDepth 20000 in
theorem gX12_number_X12_isDigit : GoodIn wsX12_number (wsV RX12 154 RX12 yX12_isDigit wsX12_isDigit) := goodIn_app (goodIn_of _ (by decide +kernel)) ggX12_number_X12_isDigit
set_option maxRecDepth 20000 in
theorem ggX12_number_X12_isSmall : GoodIn wsX12_number wsX12_isSmall := goodIn_r _ [29, 16, 17, 18, 9, 19, 20, 21, 35, 36, 37, 38, 39, 40, 41, 42, 43, 44, 45, 46, 47, 48, 49, 50, 51, 52, 53, 54, 55, 56, 57, 58, 59, 60, 61, 62, 63, 64, 65, 66, 67, 68, 69, 70, 71] rfl (by decide +kernel)
set_option maxRecDepth 20000 in
theorem gX12_number_X12_isSmall : GoodIn wsX12_number (wsV RX12 151 RX12 yX12_isSmall wsX12_isSmall) := goodIn_app (goodIn_of _ (by decide +kernel)) ggX12_number_X12_isSmall
set_option maxRecDepth 20000 in
theorem ggX12_number_X12_faults : GoodIn wsX12_number wsX12_faults := goodIn_r _ [33, 11, 34, 35, 36, 37, 38, 39, 40, 41, 42, 43, 44, 45, 46, 47, 48, 49, 50, 51, 52, 53, 54, 55, 56, 57, 58, 59, 60, 61, 62, 63, 64, 65, 66, 67, 68, 69, 70, 71] rfl (by decide +kernel)
set_option maxRecDepth 20000 in
theorem gX12_number_X12_faults : GoodIn wsX12_number (wsV RX12 147 RX12 yX12_faults wsX12_faults) := goodIn_app (goodIn_of _ (by decide +kernel)) ggX12_number_X12_faults
set_option maxRecDepth 20000 in
theorem ggX12_number_X12_byteAt : GoodIn wsX12_number wsX12_byteAt := goodIn_r _ [19, 20, 21, 35, 36, 37, 38, 39, 40, 41, 42, 43, 44, 45, 46, 47, 48, 49, 50, 51, 52, 53, 54, 55, 56, 57, 58, 59, 60, 61, 62, 63, 64, 65, 66, 67, 68, 69, 70, 71] rfl (by decide +kernel)
set_option maxRecDepth 20000 in
theorem gX12_number_X12_byteAt : GoodIn wsX12_number (wsV RX12 136 RX12 yX12_byteAt wsX12_byteAt) := goodIn_app (goodIn_of _ (by decide +kernel)) ggX12_number_X12_byteAt
set_option maxRecDepth 20000 in
theorem ggX12_power_X12_modulo : GoodIn wsX12_power wsX12_modulo := goodIn_r _ [6, 1, 7, 8, 9, 10, 11, 12, 13, 14, 15, 16, 17, 18, 19, 20, 21, 22, 23, 24, 25, 26, 27, 28, 29, 30, 31, 32, 33, 34, 35, 36, 37, 38, 39, 40, 41, 42, 43] rfl (by decide +kernel)
set_option maxRecDepth 20000 in
theorem gX12_power_X12_modulo : GoodIn wsX12_power (wsV RX12 176 RX12 yX12_modulo wsX12_modulo) := goodIn_app (goodIn_of _ (by decide +kernel)) ggX12_power_X12_modulo
set_option maxRecDepth 20000 in
theorem ggX12_inverse_X12_power : GoodIn wsX12_inverse wsX12_power := goodIn_r _ [6, 1, 7, 8, 9, 5, 10, 11, 12, 13, 14, 15, 16, 17, 18, 19, 20, 21, 22, 23, 24, 25, 26, 27, 28, 29, 30, 31, 32, 33, 34, 35, 36, 37, 38, 39, 40, 41, 42, 43, 44, 45, 46, 47] rfl (by decide +kernel)
set_option maxRecDepth 20000 in
theorem gX12_inverse_X12_power : GoodIn wsX12_inverse (wsV RX12 180 RX12 yX12_power wsX12_power) := goodIn_app (goodIn_of _ (by decide +kernel)) ggX12_inverse_X12_power
set_option maxRecDepth 20000 in
theorem ggX12_sets_X12_modulo : GoodIn wsX12_sets wsX12_modulo := goodIn_r _ [6, 7, 8, 9, 10, 11, 12, 13, 14, 15, 16, 17, 18, 19, 20, 21, 22, 23, 24, 25, 26, 27, 28, 29, 30, 31, 32, 33, 34, 35, 36, 37, 38, 39, 40, 41, 42, 43, 44] rfl (by decide +kernel)
set_option maxRecDepth 20000 in
theorem gX12_sets_X12_modulo : GoodIn wsX12_sets (wsV RX12 176 RX12 yX12_modulo wsX12_modulo) := goodIn_app (goodIn_of _ (by decide +kernel)) ggX12_sets_X12_modulo
set_option maxRecDepth 20000 in
theorem ggX12_degreeOf_X12_cell : GoodIn wsX12_degreeOf wsX12_cell := goodIn_r _ [5, 6, 7, 8, 9, 10, 11, 12, 13, 14, 15, 16, 17, 18, 19, 20, 21, 22, 23, 24, 25, 26, 27, 28, 29, 30, 31, 32, 33, 34, 35, 36, 37, 38, 39, 40, 41, 42, 43] rfl (by decide +kernel)
set_option maxRecDepth 20000 in
theorem gX12_degreeOf_X12_cell : GoodIn wsX12_degreeOf (wsV RX12 184 RX12 yX12_cell wsX12_cell) := goodIn_app (goodIn_of _ (by decide +kernel)) ggX12_degreeOf_X12_cell
set_option maxRecDepth 20000 in
theorem ggX12_adds_X12_cell : GoodIn wsX12_adds wsX12_cell := goodIn_r _ [5, 6, 16, 17, 18, 19, 20, 21, 22, 23, 24, 25, 26, 27, 28, 29, 30, 31, 32, 33, 34, 35, 36, 37, 38, 39, 40, 41, 42, 43, 44, 45, 46, 47, 48, 49, 50, 51, 52] rfl (by decide +kernel)
set_option maxRecDepth 20000 in
theorem gX12_adds_X12_cell : GoodIn wsX12_adds (wsV RX12 184 RX12 yX12_cell wsX12_cell) := goodIn_app (goodIn_of _ (by decide +kernel)) ggX12_adds_X12_cell
set_option maxRecDepth 20000 in
theorem ggX12_adds_X12_sets : GoodIn wsX12_adds wsX12_sets := goodIn_r _ [10, 6, 11, 12, 13, 4, 14, 15, 16, 17, 18, 19, 20, 21, 22, 23, 24, 25, 26, 27, 28, 29, 30, 31, 32, 33, 34, 35, 36, 37, 38, 39, 40, 41, 42, 43, 44, 45, 46, 47, 48, 49, 50, 51, 52] rfl (by decide +kernel)
set_option maxRecDepth 20000 in
theorem gX12_adds_X12_sets : GoodIn wsX12_adds (wsV RX12 188 RX12 yX12_sets wsX12_sets) := goodIn_app (goodIn_of _ (by decide +kernel)) ggX12_adds_X12_sets
set_option maxRecDepth 20000 in
theorem ggX12_multiplies_X12_cell : GoodIn wsX12_multiplies wsX12_cell := goodIn_r _ [7, 8, 21, 22, 23, 24, 25, 26, 27, 28, 29, 30, 31, 32, 33, 34, 35, 36, 37, 38, 39, 40, 41, 42, 43, 44, 45, 46, 47, 48, 49, 50, 51, 52, 53, 54, 55, 56, 57] rfl (by decide +kernel)
set_option maxRecDepth 20000 in
theorem gX12_multiplies_X12_cell : GoodIn wsX12_multiplies (wsV RX12 184 RX12 yX12_cell wsX12_cell) := goodIn_app (goodIn_of _ (by decide +kernel)) ggX12_multiplies_X12_cell
set_option maxRecDepth 20000 in
theorem ggX12_multiplies_X12_empties : GoodIn wsX12_multiplies wsX12_empties := goodIn_r _ [12, 8, 21, 22, 23, 24, 25, 26, 27, 28, 29, 30, 31, 32, 33, 34, 35, 36, 37, 38, 39, 40, 41, 42, 43, 44, 45, 46, 47, 48, 49, 50, 51, 52, 53, 54, 55, 56, 57] rfl (by decide +kernel)
set_option maxRecDepth 20000 in
theorem gX12_multiplies_X12_empties : GoodIn wsX12_multiplies (wsV RX12 192 RX12 yX12_empties wsX12_empties) := goodIn_app (goodIn_of _ (by decide +kernel)) ggX12_multiplies_X12_empties
set_option maxRecDepth 20000 in
theorem ggX12_multiplies_X12_sets : GoodIn wsX12_multiplies wsX12_sets := goodIn_r _ [16, 8, 17, 18, 19, 6, 20, 2, 21, 22, 23, 24, 25, 26, 27, 28, 29, 30, 31, 32, 33, 34, 35, 36, 37, 38, 39, 40, 41, 42, 43, 44, 45, 46, 47, 48, 49, 50, 51, 52, 53, 54, 55, 56, 57] rfl (by decide +kernel)
set_option maxRecDepth 20000 in
theorem gX12_multiplies_X12_sets : GoodIn wsX12_multiplies (wsV RX12 188 RX12 yX12_sets wsX12_sets) := goodIn_app (goodIn_of _ (by decide +kernel)) ggX12_multiplies_X12_sets
set_option maxRecDepth 20000 in
theorem ggX12_beginsSum_X12_sumOf : GoodIn wsX12_beginsSum wsX12_sumOf := goodIn_r _ [7] rfl (by decide +kernel)
set_option maxRecDepth 20000 in
theorem gX12_beginsSum_X12_sumOf : GoodIn wsX12_beginsSum (va_wsS RX12 195 yX12_sumOf wsX12_sumOf) := goodIn_app (goodIn_of _ (by decide +kernel)) ggX12_beginsSum_X12_sumOf
set_option maxRecDepth 20000 in
theorem ggX12_beginsSum_X12_empties : GoodIn wsX12_beginsSum wsX12_empties := goodIn_r _ [11, 12, 48, 49, 50, 51, 52, 53, 54, 55, 56, 57, 58, 59, 60, 61, 62, 63, 64, 65, 66, 67, 68, 69, 70, 71, 72, 73, 74, 75, 76, 77, 78, 79, 80, 81, 82, 83, 84] rfl (by decide +kernel)
set_option maxRecDepth 20000 in
theorem gX12_beginsSum_X12_empties : GoodIn wsX12_beginsSum (wsV RX12 192 RX12 yX12_empties wsX12_empties) := goodIn_app (goodIn_of _ (by decide +kernel)) ggX12_beginsSum_X12_empties
set_option maxRecDepth 20000 in
theorem ggX12_beginsSum_X12_isMark : GoodIn wsX12_beginsSum wsX12_isMark := goodIn_r _ [16, 17, 18, 19, 6, 20, 21, 22, 23, 24, 25, 3, 26, 27, 28, 29, 30, 31, 48, 49, 50, 51, 52, 53, 54, 55, 56, 57, 58, 59, 60, 61, 62, 63, 64, 65, 66, 67, 68, 69, 70, 71, 72, 73, 74, 75, 76, 77, 78, 79, 80, 81, 82, 83, 84] rfl (by decide +kernel)
set_option maxRecDepth 20000 in
theorem gX12_beginsSum_X12_isMark : GoodIn wsX12_beginsSum (wsV RX12 198 RX12 yX12_isMark wsX12_isMark) := goodIn_app (goodIn_of _ (by decide +kernel)) ggX12_beginsSum_X12_isMark
set_option maxRecDepth 20000 in
theorem ggX12_beginsSum_X12_beginsTerm : GoodIn wsX12_beginsSum wsX12_beginsTerm := goodIn_r _ [35, 1, 36, 37, 6, 38, 8, 9, 10, 11, 12, 39, 40, 41, 42, 43, 44, 45, 46, 47, 48, 49, 50, 51, 52, 53, 54, 55, 56, 57, 58, 59, 60, 61, 62, 63, 64, 65, 66, 67, 68, 69, 70, 71, 72, 73, 74, 75, 76, 77, 78, 79, 80, 81, 82, 83, 84] rfl (by decide +kernel)
set_option maxRecDepth 20000 in
theorem gX12_beginsSum_X12_beginsTerm : GoodIn wsX12_beginsSum (wsV RX12 201 RX12 yX12_beginsTerm wsX12_beginsTerm) := goodIn_app (goodIn_of _ (by decide +kernel)) ggX12_beginsSum_X12_beginsTerm
set_option maxRecDepth 20000 in
theorem ggX12_beginsTerm_X12_productOf : GoodIn wsX12_beginsTerm wsX12_productOf := goodIn_r _ [5] rfl (by decide +kernel)
set_option maxRecDepth 20000 in
theorem gX12_beginsTerm_X12_productOf : GoodIn wsX12_beginsTerm (va_wsS RX12 204 yX12_productOf wsX12_productOf) := goodIn_app (goodIn_of _ (by decide +kernel)) ggX12_beginsTerm_X12_productOf
set_option maxRecDepth 20000 in
theorem ggX12_beginsTerm_X12_empties : GoodIn wsX12_beginsTerm wsX12_empties := goodIn_r _ [9, 10, 20, 21, 22, 23, 24, 25, 26, 27, 28, 29, 30, 31, 32, 33, 34, 35, 36, 37, 38, 39, 40, 41, 42, 43, 44, 45, 46, 47, 48, 49, 50, 51, 52, 53, 54, 55, 56] rfl (by decide +kernel)
set_option maxRecDepth 20000 in
theorem gX12_beginsTerm_X12_empties : GoodIn wsX12_beginsTerm (wsV RX12 192 RX12 yX12_empties wsX12_empties) := goodIn_app (goodIn_of _ (by decide +kernel)) ggX12_beginsTerm_X12_empties
set_option maxRecDepth 20000 in
theorem ggX12_beginsTerm_X12_sets : GoodIn wsX12_beginsTerm wsX12_sets := goodIn_r _ [14, 10, 15, 16, 17, 4, 18, 19, 20, 21, 22, 23, 24, 25, 26, 27, 28, 29, 30, 31, 32, 33, 34, 35, 36, 37, 38, 39, 40, 41, 42, 43, 44, 45, 46, 47, 48, 49, 50, 51, 52, 53, 54, 55, 56] rfl (by decide +kernel)
set_option maxRecDepth 20000 in
theorem gX12_beginsTerm_X12_sets : GoodIn wsX12_beginsTerm (wsV RX12 188 RX12 yX12_sets wsX12_sets) := goodIn_app (goodIn_of _ (by decide +kernel)) ggX12_beginsTerm_X12_sets
set_option maxRecDepth 20000 in
theorem ggX12_endsTerm_X12_sumOf : GoodIn wsX12_endsTerm wsX12_sumOf := goodIn_r _ [6] rfl (by decide +kernel)
set_option maxRecDepth 20000 in
theorem gX12_endsTerm_X12_sumOf : GoodIn wsX12_endsTerm (va_wsS RX12 195 yX12_sumOf wsX12_sumOf) := goodIn_app (goodIn_of _ (by decide +kernel)) ggX12_endsTerm_X12_sumOf
set_option maxRecDepth 20000 in
theorem ggX12_endsTerm_X12_productOf : GoodIn wsX12_endsTerm wsX12_productOf := goodIn_r _ [9] rfl (by decide +kernel)
set_option maxRecDepth 20000 in
theorem gX12_endsTerm_X12_productOf : GoodIn wsX12_endsTerm (va_wsS RX12 204 yX12_productOf wsX12_productOf) := goodIn_app (goodIn_of _ (by decide +kernel)) ggX12_endsTerm_X12_productOf
set_option maxRecDepth 20000 in
theorem ggX12_endsTerm_X12_adds : GoodIn wsX12_endsTerm wsX12_adds := goodIn_r _ [13, 14, 15, 16, 5, 17, 18, 19, 20, 21, 22, 23, 24, 25, 26, 27, 28, 29, 30, 31, 32, 33, 34, 35, 36, 37, 38, 39, 40, 41, 42, 43, 44, 45, 46, 47, 48, 49, 50, 51, 52, 53, 54, 55, 56, 57, 58, 59, 60, 61, 62, 63, 64] rfl (by decide +kernel)
set_option maxRecDepth 20000 in
theorem gX12_endsTerm_X12_adds : GoodIn wsX12_endsTerm (wsV RX12 207 RX12 yX12_adds wsX12_adds) := goodIn_app (goodIn_of _ (by decide +kernel)) ggX12_endsTerm_X12_adds
set_option maxRecDepth 20000 in
theorem ggX12_takesAtom_X12_isMark : GoodIn wsX12_takesAtom wsX12_isMark := goodIn_r _ [10, 11, 12, 13, 9, 14, 15, 16, 17, 18, 19, 1, 20, 21, 22, 23, 24, 25, 75, 76, 77, 78, 79, 80, 81, 82, 83, 84, 85, 86, 87, 88, 89, 90, 91, 92, 93, 94, 95, 96, 97, 98, 99, 100, 101, 102, 103, 104, 105, 106, 107, 108, 109, 110, 111] rfl (by decide +kernel)
set_option maxRecDepth 20000 in
theorem gX12_takesAtom_X12_isMark : GoodIn wsX12_takesAtom (wsV RX12 198 RX12 yX12_isMark wsX12_isMark) := goodIn_app (goodIn_of _ (by decide +kernel)) ggX12_takesAtom_X12_isMark
set_option maxRecDepth 20000 in
theorem ggX12_takesAtom_X12_number : GoodIn wsX12_takesAtom wsX12_number := goodIn_r _ [29, 1, 3, 30, 31, 32, 11, 12, 13, 9, 14, 15, 16, 17, 18, 19, 20, 21, 22, 23, 24, 25, 33, 34, 35, 36, 37, 38, 39, 40, 41, 42, 43, 44, 45, 75, 76, 77, 78, 79, 80, 81, 82, 83, 84, 85, 86, 87, 88, 89, 90, 91, 92, 93, 94, 95, 96, 97, 98, 99, 100, 101, 102, 103, 104, 105, 106, 107, 108, 109, 110, 111] rfl (by decide +kernel)
set_option maxRecDepth 20000 in
theorem gX12_takesAtom_X12_number : GoodIn wsX12_takesAtom (wsV RX12 211 RX12 yX12_number wsX12_number) := goodIn_app (goodIn_of _ (by decide +kernel)) ggX12_takesAtom_X12_number
set_option maxRecDepth 20000 in
theorem ggX12_takesAtom_X12_goesWell : GoodIn wsX12_takesAtom wsX12_goesWell := goodIn_r _ [14, 15, 75, 76, 77, 78, 79, 80, 81, 82, 83, 84, 85, 86, 87, 88, 89, 90, 91, 92, 93, 94, 95, 96, 97, 98, 99, 100, 101, 102, 103, 104, 105, 106, 107, 108, 109, 110, 111] rfl (by decide +kernel)
set_option maxRecDepth 20000 in
theorem gX12_takesAtom_X12_goesWell : GoodIn wsX12_takesAtom (wsV RX12 139 RX12 yX12_goesWell wsX12_goesWell) := goodIn_app (goodIn_of _ (by decide +kernel)) ggX12_takesAtom_X12_goesWell
set_option maxRecDepth 20000 in
theorem ggX12_takesAtom_X12_faults : GoodIn wsX12_takesAtom wsX12_faults := goodIn_r _ [44, 15, 45, 75, 76, 77, 78, 79, 80, 81, 82, 83, 84, 85, 86, 87, 88, 89, 90, 91, 92, 93, 94, 95, 96, 97, 98, 99, 100, 101, 102, 103, 104, 105, 106, 107, 108, 109, 110, 111] rfl (by decide +kernel)
set_option maxRecDepth 20000 in
theorem gX12_takesAtom_X12_faults : GoodIn wsX12_takesAtom (wsV RX12 147 RX12 yX12_faults wsX12_faults) := goodIn_app (goodIn_of _ (by decide +kernel)) ggX12_takesAtom_X12_faults
set_option maxRecDepth 20000 in
theorem ggX12_takesAtom_X12_empties : GoodIn wsX12_takesAtom wsX12_empties := goodIn_r _ [49, 50, 75, 76, 77, 78, 79, 80, 81, 82, 83, 84, 85, 86, 87, 88, 89, 90, 91, 92, 93, 94, 95, 96, 97, 98, 99, 100, 101, 102, 103, 104, 105, 106, 107, 108, 109, 110, 111] rfl (by decide +kernel)
set_option maxRecDepth 20000 in
theorem gX12_takesAtom_X12_empties : GoodIn wsX12_takesAtom (wsV RX12 192 RX12 yX12_empties wsX12_empties) := goodIn_app (goodIn_of _ (by decide +kernel)) ggX12_takesAtom_X12_empties
set_option maxRecDepth 20000 in
theorem ggX12_takesAtom_X12_sets : GoodIn wsX12_takesAtom wsX12_sets := goodIn_r _ [54, 50, 55, 56, 57, 9, 58, 59, 75, 76, 77, 78, 79, 80, 81, 82, 83, 84, 85, 86, 87, 88, 89, 90, 91, 92, 93, 94, 95, 96, 97, 98, 99, 100, 101, 102, 103, 104, 105, 106, 107, 108, 109, 110, 111] rfl (by decide +kernel)
set_option maxRecDepth 20000 in
theorem gX12_takesAtom_X12_sets : GoodIn wsX12_takesAtom (wsV RX12 188 RX12 yX12_sets wsX12_sets) := goodIn_app (goodIn_of _ (by decide +kernel)) ggX12_takesAtom_X12_sets
set_option maxRecDepth 20000 in
theorem ggX12_takesAtom_X12_atomOf : GoodIn wsX12_takesAtom wsX12_atomOf := goodIn_r _ [62] rfl (by decide +kernel)
set_option maxRecDepth 20000 in
theorem gX12_takesAtom_X12_atomOf : GoodIn wsX12_takesAtom (va_wsS RX12 217 yX12_atomOf wsX12_atomOf) := goodIn_app (goodIn_of _ (by decide +kernel)) ggX12_takesAtom_X12_atomOf
set_option maxRecDepth 20000 in
theorem ggX12_takesAtom_X12_multiplies : GoodIn wsX12_takesAtom wsX12_multiplies := goodIn_r _ [66, 67, 59, 68, 69, 70, 9, 71, 50, 46, 47, 48, 49, 51, 52, 53, 54, 55, 56, 57, 58, 75, 76, 77, 78, 79, 80, 81, 82, 83, 84, 85, 86, 87, 88, 89, 90, 91, 92, 93, 94, 95, 96, 97, 98, 99, 100, 101, 102, 103, 104, 105, 106, 107, 108, 109, 110, 111] rfl (by decide +kernel)
set_option maxRecDepth 20000 in
theorem gX12_takesAtom_X12_multiplies : GoodIn wsX12_takesAtom (wsV RX12 220 RX12 yX12_multiplies wsX12_multiplies) := goodIn_app (goodIn_of _ (by decide +kernel)) ggX12_takesAtom_X12_multiplies
set_option maxRecDepth 20000 in
theorem ggX12_takesAtom_X12_productOf : GoodIn wsX12_takesAtom wsX12_productOf := goodIn_r _ [74] rfl (by decide +kernel)
set_option maxRecDepth 20000 in
theorem gX12_takesAtom_X12_productOf : GoodIn wsX12_takesAtom (va_wsS RX12 204 yX12_productOf wsX12_productOf) := goodIn_app (goodIn_of _ (by decide +kernel)) ggX12_takesAtom_X12_productOf
set_option maxRecDepth 20000 in
theorem ggX12_opensBracket_X12_here : GoodIn wsX12_opensBracket wsX12_here := goodIn_r _ [8, 3, 9, 10, 11, 7, 12, 13, 14, 97, 98, 99, 100, 101, 102, 103, 104, 105, 106, 107, 108, 109, 110, 111, 112, 113, 114, 115, 116, 117, 118, 119, 120, 121, 122, 123, 124, 125, 126, 127, 128, 129, 130, 131, 132, 133] rfl (by decide +kernel)
set_option maxRecDepth 20000 in
theorem gX12_opensBracket_X12_here : GoodIn wsX12_opensBracket (wsV RX12 143 RX12 yX12_here wsX12_here) := goodIn_app (goodIn_of _ (by decide +kernel)) ggX12_opensBracket_X12_here
set_option maxRecDepth 20000 in
theorem ggX12_opensBracket_X12_isMark : GoodIn wsX12_opensBracket wsX12_isMark := goodIn_r _ [18, 19, 20, 21, 7, 22, 23, 4, 5, 6, 8, 3, 9, 10, 11, 12, 13, 14, 97, 98, 99, 100, 101, 102, 103, 104, 105, 106, 107, 108, 109, 110, 111, 112, 113, 114, 115, 116, 117, 118, 119, 120, 121, 122, 123, 124, 125, 126, 127, 128, 129, 130, 131, 132, 133] rfl (by decide +kernel)
set_option maxRecDepth 20000 in
theorem gX12_opensBracket_X12_isMark : GoodIn wsX12_opensBracket (wsV RX12 198 RX12 yX12_isMark wsX12_isMark) := goodIn_app (goodIn_of _ (by decide +kernel)) ggX12_opensBracket_X12_isMark
set_option maxRecDepth 20000 in
theorem ggX12_opensBracket_X12_faults : GoodIn wsX12_opensBracket wsX12_faults := goodIn_r _ [27, 23, 28, 97, 98, 99, 100, 101, 102, 103, 104, 105, 106, 107, 108, 109, 110, 111, 112, 113, 114, 115, 116, 117, 118, 119, 120, 121, 122, 123, 124, 125, 126, 127, 128, 129, 130, 131, 132, 133] rfl (by decide +kernel)
set_option maxRecDepth 20000 in
theorem gX12_opensBracket_X12_faults : GoodIn wsX12_opensBracket (wsV RX12 147 RX12 yX12_faults wsX12_faults) := goodIn_app (goodIn_of _ (by decide +kernel)) ggX12_opensBracket_X12_faults
set_option maxRecDepth 20000 in
theorem ggX12_opensBracket_X12_goesWell : GoodIn wsX12_opensBracket wsX12_goesWell := goodIn_r _ [22, 23, 97, 98, 99, 100, 101, 102, 103, 104, 105, 106, 107, 108, 109, 110, 111, 112, 113, 114, 115, 116, 117, 118, 119, 120, 121, 122, 123, 124, 125, 126, 127, 128, 129, 130, 131, 132, 133] rfl (by decide +kernel)
set_option maxRecDepth 20000 in
theorem gX12_opensBracket_X12_goesWell : GoodIn wsX12_opensBracket (wsV RX12 139 RX12 yX12_goesWell wsX12_goesWell) := goodIn_app (goodIn_of _ (by decide +kernel)) ggX12_opensBracket_X12_goesWell
set_option maxRecDepth 20000 in
theorem ggX12_opensBracket_X12_beginsSum : GoodIn wsX12_opensBracket wsX12_beginsSum := goodIn_r _ [32, 2, 33, 3, 34, 35, 7, 36, 37, 38, 39, 40, 41, 15, 16, 17, 18, 19, 20, 21, 22, 23, 4, 5, 6, 8, 9, 10, 11, 12, 13, 14, 42, 43, 44, 45, 46, 47, 48, 49, 50, 51, 52, 53, 54, 55, 56, 57, 97, 98, 99, 100, 101, 102, 103, 104, 105, 106, 107, 108, 109, 110, 111, 112, 113, 114, 115, 116, 117, 118, 119, 120, 121, 122, 123, 124, 125, 126, 127, 128, 129, 130, 131, 132, 133] rfl (by decide +kernel)
set_option maxRecDepth 20000 in
theorem gX12_opensBracket_X12_beginsSum : GoodIn wsX12_opensBracket (wsV RX12 224 RX12 yX12_beginsSum wsX12_beginsSum) := goodIn_app (goodIn_of _ (by decide +kernel)) ggX12_opensBracket_X12_beginsSum
set_option maxRecDepth 20000 in
theorem ggX12_opensBracket_X12_atomOf : GoodIn wsX12_opensBracket wsX12_atomOf := goodIn_r _ [60] rfl (by decide +kernel)
set_option maxRecDepth 20000 in
theorem gX12_opensBracket_X12_atomOf : GoodIn wsX12_opensBracket (va_wsS RX12 217 yX12_atomOf wsX12_atomOf) := goodIn_app (goodIn_of _ (by decide +kernel)) ggX12_opensBracket_X12_atomOf
set_option maxRecDepth 20000 in
theorem ggX12_opensBracket_X12_empties : GoodIn wsX12_opensBracket wsX12_empties := goodIn_r _ [40, 41, 97, 98, 99, 100, 101, 102, 103, 104, 105, 106, 107, 108, 109, 110, 111, 112, 113, 114, 115, 116, 117, 118, 119, 120, 121, 122, 123, 124, 125, 126, 127, 128, 129, 130, 131, 132, 133] rfl (by decide +kernel)
set_option maxRecDepth 20000 in
theorem gX12_opensBracket_X12_empties : GoodIn wsX12_opensBracket (wsV RX12 192 RX12 yX12_empties wsX12_empties) := goodIn_app (goodIn_of _ (by decide +kernel)) ggX12_opensBracket_X12_empties
set_option maxRecDepth 20000 in
theorem ggX12_opensBracket_X12_isDigit : GoodIn wsX12_opensBracket wsX12_isDigit := goodIn_r _ [64, 9, 10, 11, 7, 12, 13, 14, 97, 98, 99, 100, 101, 102, 103, 104, 105, 106, 107, 108, 109, 110, 111, 112, 113, 114, 115, 116, 117, 118, 119, 120, 121, 122, 123, 124, 125, 126, 127, 128, 129, 130, 131, 132, 133] rfl (by decide +kernel)
set_option maxRecDepth 20000 in
theorem gX12_opensBracket_X12_isDigit : GoodIn wsX12_opensBracket (wsV RX12 154 RX12 yX12_isDigit wsX12_isDigit) := goodIn_app (goodIn_of _ (by decide +kernel)) ggX12_opensBracket_X12_isDigit
set_option maxRecDepth 20000 in
theorem ggX12_opensBracket_X12_number : GoodIn wsX12_opensBracket wsX12_number := goodIn_r _ [68, 3, 69, 70, 71, 72, 19, 20, 21, 7, 22, 23, 4, 5, 6, 8, 9, 10, 11, 12, 13, 14, 61, 62, 63, 64, 73, 74, 75, 76, 24, 25, 26, 27, 28, 97, 98, 99, 100, 101, 102, 103, 104, 105, 106, 107, 108, 109, 110, 111, 112, 113, 114, 115, 116, 117, 118, 119, 120, 121, 122, 123, 124, 125, 126, 127, 128, 129, 130, 131, 132, 133] rfl (by decide +kernel)
set_option maxRecDepth 20000 in
theorem gX12_opensBracket_X12_number : GoodIn wsX12_opensBracket (wsV RX12 211 RX12 yX12_number wsX12_number) := goodIn_app (goodIn_of _ (by decide +kernel)) ggX12_opensBracket_X12_number
set_option maxRecDepth 20000 in
theorem ggX12_opensBracket_X12_sets : GoodIn wsX12_opensBracket wsX12_sets := goodIn_r _ [52, 41, 53, 54, 55, 7, 56, 57, 97, 98, 99, 100, 101, 102, 103, 104, 105, 106, 107, 108, 109, 110, 111, 112, 113, 114, 115, 116, 117, 118, 119, 120, 121, 122, 123, 124, 125, 126, 127, 128, 129, 130, 131, 132, 133] rfl (by decide +kernel)
set_option maxRecDepth 20000 in
theorem gX12_opensBracket_X12_sets : GoodIn wsX12_opensBracket (wsV RX12 188 RX12 yX12_sets wsX12_sets) := goodIn_app (goodIn_of _ (by decide +kernel)) ggX12_opensBracket_X12_sets
set_option maxRecDepth 20000 in
theorem ggX12_opensBracket_X12_comes : GoodIn wsX12_opensBracket wsX12_comes := goodIn_r _ [80, 3, 81, 82, 83, 7, 84, 4, 5, 6, 8, 9, 10, 11, 12, 13, 14, 19, 20, 21, 22, 23, 73, 74, 75, 76, 61, 62, 63, 64, 85, 86, 87, 88, 69, 24, 25, 26, 27, 28, 89, 90, 91, 92, 93, 94, 95, 96, 97, 98, 99, 100, 101, 102, 103, 104, 105, 106, 107, 108, 109, 110, 111, 112, 113, 114, 115, 116, 117, 118, 119, 120, 121, 122, 123, 124, 125, 126, 127, 128, 129, 130, 131, 132, 133] rfl (by decide +kernel)
set_option maxRecDepth 20000 in
theorem gX12_opensBracket_X12_comes : GoodIn wsX12_opensBracket (wsV RX12 227 RX12 yX12_comes wsX12_comes) := goodIn_app (goodIn_of _ (by decide +kernel)) ggX12_opensBracket_X12_comes
set_option maxRecDepth 20000 in
theorem ggX12_opensBracket_X12_word : GoodIn wsX12_opensBracket wsX12_word := goodIn_r _ [88, 3, 69, 19, 20, 21, 7, 22, 23, 81, 82, 83, 84, 4, 5, 6, 8, 9, 10, 11, 12, 13, 14, 73, 74, 75, 76, 61, 62, 63, 64, 24, 25, 26, 27, 28, 97, 98, 99, 100, 101, 102, 103, 104, 105, 106, 107, 108, 109, 110, 111, 112, 113, 114, 115, 116, 117, 118, 119, 120, 121, 122, 123, 124, 125, 126, 127, 128, 129, 130, 131, 132, 133] rfl (by decide +kernel)
set_option maxRecDepth 20000 in
theorem gX12_opensBracket_X12_word : GoodIn wsX12_opensBracket (wsV RX12 164 RX12 yX12_word wsX12_word) := goodIn_app (goodIn_of _ (by decide +kernel)) ggX12_opensBracket_X12_word
set_option maxRecDepth 20000 in
theorem ggX12_goesOn_X12_goesWell : GoodIn wsX12_goesOn wsX12_goesWell := goodIn_r _ [8, 9, 103, 104, 105, 106, 107, 108, 109, 110, 111, 112, 113, 114, 115, 116, 117, 118, 119, 120, 121, 122, 123, 124, 125, 126, 127, 128, 129, 130, 131, 132, 133, 134, 135, 136, 137, 138, 139] rfl (by decide +kernel)
set_option maxRecDepth 20000 in
theorem gX12_goesOn_X12_goesWell : GoodIn wsX12_goesOn (wsV RX12 139 RX12 yX12_goesWell wsX12_goesWell) := goodIn_app (goodIn_of _ (by decide +kernel)) ggX12_goesOn_X12_goesWell
set_option maxRecDepth 20000 in
theorem ggX12_goesOn_X12_here : GoodIn wsX12_goesOn wsX12_here := goodIn_r _ [13, 1, 14, 15, 16, 7, 17, 18, 19, 103, 104, 105, 106, 107, 108, 109, 110, 111, 112, 113, 114, 115, 116, 117, 118, 119, 120, 121, 122, 123, 124, 125, 126, 127, 128, 129, 130, 131, 132, 133, 134, 135, 136, 137, 138, 139] rfl (by decide +kernel)
set_option maxRecDepth 20000 in
theorem gX12_goesOn_X12_here : GoodIn wsX12_goesOn (wsV RX12 143 RX12 yX12_here wsX12_here) := goodIn_app (goodIn_of _ (by decide +kernel)) ggX12_goesOn_X12_here
set_option maxRecDepth 20000 in
theorem ggX12_goesOn_X12_endsTerm : GoodIn wsX12_goesOn wsX12_endsTerm := goodIn_r _ [23, 3, 2, 24, 25, 7, 26, 27, 28, 29, 30, 31, 32, 33, 34, 35, 36, 37, 38, 39, 40, 41, 42, 43, 44, 45, 46, 47, 103, 104, 105, 106, 107, 108, 109, 110, 111, 112, 113, 114, 115, 116, 117, 118, 119, 120, 121, 122, 123, 124, 125, 126, 127, 128, 129, 130, 131, 132, 133, 134, 135, 136, 137, 138, 139] rfl (by decide +kernel)
set_option maxRecDepth 20000 in
theorem gX12_goesOn_X12_endsTerm : GoodIn wsX12_goesOn (wsV RX12 230 RX12 yX12_endsTerm wsX12_endsTerm) := goodIn_app (goodIn_of _ (by decide +kernel)) ggX12_goesOn_X12_endsTerm
set_option maxRecDepth 20000 in
theorem ggX12_goesOn_X12_beginsTerm : GoodIn wsX12_goesOn wsX12_beginsTerm := goodIn_r _ [51, 3, 27, 28, 7, 29, 52, 53, 54, 55, 38, 39, 40, 41, 42, 43, 44, 45, 46, 47, 103, 104, 105, 106, 107, 108, 109, 110, 111, 112, 113, 114, 115, 116, 117, 118, 119, 120, 121, 122, 123, 124, 125, 126, 127, 128, 129, 130, 131, 132, 133, 134, 135, 136, 137, 138, 139] rfl (by decide +kernel)
set_option maxRecDepth 20000 in
theorem gX12_goesOn_X12_beginsTerm : GoodIn wsX12_goesOn (wsV RX12 201 RX12 yX12_beginsTerm wsX12_beginsTerm) := goodIn_app (goodIn_of _ (by decide +kernel)) ggX12_goesOn_X12_beginsTerm
set_option maxRecDepth 20000 in
theorem ggX12_goesOn_X12_mark : GoodIn wsX12_goesOn wsX12_mark := goodIn_r _ [59, 1, 4, 5, 6, 7, 8, 9, 10, 11, 12, 13, 14, 15, 16, 17, 18, 19, 60, 61, 62, 63, 64, 103, 104, 105, 106, 107, 108, 109, 110, 111, 112, 113, 114, 115, 116, 117, 118, 119, 120, 121, 122, 123, 124, 125, 126, 127, 128, 129, 130, 131, 132, 133, 134, 135, 136, 137, 138, 139] rfl (by decide +kernel)
set_option maxRecDepth 20000 in
theorem gX12_goesOn_X12_mark : GoodIn wsX12_goesOn (wsV RX12 233 RX12 yX12_mark wsX12_mark) := goodIn_app (goodIn_of _ (by decide +kernel)) ggX12_goesOn_X12_mark
set_option maxRecDepth 20000 in
theorem ggX12_goesOn_X12_atomOf : GoodIn wsX12_goesOn wsX12_atomOf := goodIn_r _ [67] rfl (by decide +kernel)
set_option maxRecDepth 20000 in
theorem gX12_goesOn_X12_atomOf : GoodIn wsX12_goesOn (va_wsS RX12 217 yX12_atomOf wsX12_atomOf) := goodIn_app (goodIn_of _ (by decide +kernel)) ggX12_goesOn_X12_atomOf
set_option maxRecDepth 20000 in
theorem ggX12_goesOn_X12_sumOf : GoodIn wsX12_goesOn wsX12_sumOf := goodIn_r _ [26] rfl (by decide +kernel)
set_option maxRecDepth 20000 in
theorem gX12_goesOn_X12_sumOf : GoodIn wsX12_goesOn (va_wsS RX12 195 yX12_sumOf wsX12_sumOf) := goodIn_app (goodIn_of _ (by decide +kernel)) ggX12_goesOn_X12_sumOf
set_option maxRecDepth 20000 in
theorem ggX12_goesOn_X12_copies : GoodIn wsX12_goesOn wsX12_copies := goodIn_r _ [71, 38, 103, 104, 105, 106, 107, 108, 109, 110, 111, 112, 113, 114, 115, 116, 117, 118, 119, 120, 121, 122, 123, 124, 125, 126, 127, 128, 129, 130, 131, 132, 133, 134, 135, 136, 137, 138, 139] rfl (by decide +kernel)
set_option maxRecDepth 20000 in
theorem gX12_goesOn_X12_copies : GoodIn wsX12_goesOn (wsV RX12 236 RX12 yX12_copies wsX12_copies) := goodIn_app (goodIn_of _ (by decide +kernel)) ggX12_goesOn_X12_copies
set_option maxRecDepth 20000 in
theorem ggX12_goesOn_X12_takesAtom : GoodIn wsX12_goesOn wsX12_takesAtom := goodIn_r _ [75, 1, 76, 77, 3, 78, 79, 80, 81, 7, 82, 4, 5, 6, 8, 9, 10, 11, 12, 13, 14, 15, 16, 17, 18, 19, 83, 84, 85, 86, 87, 88, 89, 90, 91, 92, 93, 94, 95, 96, 97, 60, 61, 62, 63, 64, 52, 53, 54, 55, 38, 39, 40, 41, 42, 43, 44, 45, 46, 47, 65, 66, 67, 98, 99, 100, 101, 102, 34, 35, 36, 37, 27, 28, 29, 103, 104, 105, 106, 107, 108, 109, 110, 111, 112, 113, 114, 115, 116, 117, 118, 119, 120, 121, 122, 123, 124, 125, 126, 127, 128, 129, 130, 131, 132, 133, 134, 135, 136, 137, 138, 139] rfl (by decide +kernel)
set_option maxRecDepth 20000 in
theorem gX12_goesOn_X12_takesAtom : GoodIn wsX12_goesOn (wsV RX12 239 RX12 yX12_takesAtom wsX12_takesAtom) := goodIn_app (goodIn_of _ (by decide +kernel)) ggX12_goesOn_X12_takesAtom
set_option maxRecDepth 20000 in
theorem ggX12_readsSum_X12_beginsSum : GoodIn wsX12_readsSum wsX12_beginsSum := goodIn_r _ [6, 1, 7, 8, 9, 10, 5, 11, 12, 13, 14, 15, 16, 17, 18, 19, 20, 21, 22, 23, 24, 25, 26, 27, 28, 29, 30, 31, 32, 33, 34, 35, 36, 37, 38, 39, 40, 41, 42, 43, 44, 45, 46, 47, 48, 49, 50, 51, 135, 136, 137, 138, 139, 140, 141, 142, 143, 144, 145, 146, 147, 148, 149, 150, 151, 152, 153, 154, 155, 156, 157, 158, 159, 160, 161, 162, 163, 164, 165, 166, 167, 168, 169, 170, 171] rfl (by decide +kernel)
set_option maxRecDepth 20000 in
theorem gX12_readsSum_X12_beginsSum : GoodIn wsX12_readsSum (wsV RX12 224 RX12 yX12_beginsSum wsX12_beginsSum) := goodIn_app (goodIn_of _ (by decide +kernel)) ggX12_readsSum_X12_beginsSum
set_option maxRecDepth 20000 in
theorem ggX12_readsSum_X12_goesWell : GoodIn wsX12_readsSum wsX12_goesWell := goodIn_r _ [24, 25, 135, 136, 137, 138, 139, 140, 141, 142, 143, 144, 145, 146, 147, 148, 149, 150, 151, 152, 153, 154, 155, 156, 157, 158, 159, 160, 161, 162, 163, 164, 165, 166, 167, 168, 169, 170, 171] rfl (by decide +kernel)
set_option maxRecDepth 20000 in
theorem gX12_readsSum_X12_goesWell : GoodIn wsX12_readsSum (wsV RX12 139 RX12 yX12_goesWell wsX12_goesWell) := goodIn_app (goodIn_of _ (by decide +kernel)) ggX12_readsSum_X12_goesWell
set_option maxRecDepth 20000 in
theorem ggX12_readsSum_X12_opensBracket : GoodIn wsX12_readsSum wsX12_opensBracket := goodIn_r _ [55, 56, 1, 8, 26, 27, 28, 5, 29, 30, 31, 32, 33, 34, 35, 17, 18, 19, 20, 21, 22, 23, 24, 25, 57, 58, 59, 60, 61, 2, 3, 4, 6, 7, 9, 10, 11, 12, 13, 14, 15, 16, 36, 37, 38, 39, 40, 41, 42, 43, 44, 45, 46, 47, 48, 49, 50, 51, 62, 63, 64, 65, 66, 67, 68, 69, 70, 71, 72, 73, 74, 75, 76, 77, 78, 79, 80, 81, 82, 83, 84, 85, 86, 87, 88, 89, 90, 91, 92, 93, 94, 95, 96, 97, 98, 99, 100, 135, 136, 137, 138, 139, 140, 141, 142, 143, 144, 145, 146, 147, 148, 149, 150, 151, 152, 153, 154, 155, 156, 157, 158, 159, 160, 161, 162, 163, 164, 165, 166, 167, 168, 169, 170, 171] rfl (by decide +kernel)
set_option maxRecDepth 20000 in
theorem gX12_readsSum_X12_opensBracket : GoodIn wsX12_readsSum (wsV RX12 242 RX12 yX12_opensBracket wsX12_opensBracket) := goodIn_app (goodIn_of _ (by decide +kernel)) ggX12_readsSum_X12_opensBracket
set_option maxRecDepth 20000 in
theorem ggX12_readsSum_X12_takesAtom : GoodIn wsX12_readsSum wsX12_takesAtom := goodIn_r _ [104, 8, 105, 73, 1, 56, 17, 18, 19, 5, 20, 21, 22, 23, 24, 25, 26, 27, 28, 29, 30, 31, 32, 33, 34, 35, 69, 70, 71, 72, 74, 75, 76, 65, 66, 67, 68, 77, 78, 79, 80, 57, 58, 59, 60, 61, 12, 13, 14, 15, 16, 43, 44, 45, 46, 47, 48, 49, 50, 51, 62, 63, 64, 106, 107, 108, 109, 110, 111, 112, 113, 114, 40, 41, 42, 135, 136, 137, 138, 139, 140, 141, 142, 143, 144, 145, 146, 147, 148, 149, 150, 151, 152, 153, 154, 155, 156, 157, 158, 159, 160, 161, 162, 163, 164, 165, 166, 167, 168, 169, 170, 171] rfl (by decide +kernel)
set_option maxRecDepth 20000 in
theorem gX12_readsSum_X12_takesAtom : GoodIn wsX12_readsSum (wsV RX12 239 RX12 yX12_takesAtom wsX12_takesAtom) := goodIn_app (goodIn_of _ (by decide +kernel)) ggX12_readsSum_X12_takesAtom
set_option maxRecDepth 20000 in
theorem ggX12_readsSum_X12_goesOn : GoodIn wsX12_readsSum wsX12_goesOn := goodIn_r _ [118, 8, 7, 1, 21, 22, 23, 5, 24, 25, 26, 27, 28, 29, 30, 31, 32, 33, 34, 35, 119, 120, 121, 122, 9, 10, 11, 40, 41, 42, 123, 124, 125, 126, 111, 112, 113, 114, 16, 43, 44, 45, 46, 47, 48, 49, 50, 51, 36, 37, 38, 39, 12, 13, 14, 15, 127, 128, 129, 130, 57, 58, 59, 60, 61, 62, 63, 64, 131, 132, 133, 134, 101, 102, 103, 104, 105, 73, 56, 17, 18, 19, 20, 69, 70, 71, 72, 74, 75, 76, 65, 66, 67, 68, 77, 78, 79, 80, 106, 107, 108, 109, 110, 135, 136, 137, 138, 139, 140, 141, 142, 143, 144, 145, 146, 147, 148, 149, 150, 151, 152, 153, 154, 155, 156, 157, 158, 159, 160, 161, 162, 163, 164, 165, 166, 167, 168, 169, 170, 171] rfl (by decide +kernel)
set_option maxRecDepth 20000 in
theorem gX12_readsSum_X12_goesOn : GoodIn wsX12_readsSum (wsV RX12 245 RX12 yX12_goesOn wsX12_goesOn) := goodIn_app (goodIn_of _ (by decide +kernel)) ggX12_readsSum_X12_goesOn
set_option maxRecDepth 20000 in
theorem ggX12_readsCurve_X12_word : GoodIn wsX12_readsCurve wsX12_word := goodIn_r _ [8, 9, 1, 10, 11, 12, 7, 13, 14, 15, 16, 17, 18, 19, 20, 21, 22, 23, 24, 25, 26, 27, 28, 29, 30, 31, 32, 33, 34, 35, 36, 37, 38, 39, 40, 41, 149, 150, 151, 152, 153, 154, 155, 156, 157, 158, 159, 160, 161, 162, 163, 164, 165, 166, 167, 168, 169, 170, 171, 172, 173, 174, 175, 176, 177, 178, 179, 180, 181, 182, 183, 184, 185] rfl (by decide +kernel)
set_option maxRecDepth 20000 in
theorem gX12_readsCurve_X12_word : GoodIn wsX12_readsCurve (wsV RX12 164 RX12 yX12_word wsX12_word) := goodIn_app (goodIn_of _ (by decide +kernel)) ggX12_readsCurve_X12_word
set_option maxRecDepth 20000 in
theorem ggX12_readsCurve_X12_goesWell : GoodIn wsX12_readsCurve wsX12_goesWell := goodIn_r _ [13, 14, 149, 150, 151, 152, 153, 154, 155, 156, 157, 158, 159, 160, 161, 162, 163, 164, 165, 166, 167, 168, 169, 170, 171, 172, 173, 174, 175, 176, 177, 178, 179, 180, 181, 182, 183, 184, 185] rfl (by decide +kernel)
set_option maxRecDepth 20000 in
theorem gX12_readsCurve_X12_goesWell : GoodIn wsX12_readsCurve (wsV RX12 139 RX12 yX12_goesWell wsX12_goesWell) := goodIn_app (goodIn_of _ (by decide +kernel)) ggX12_readsCurve_X12_goesWell
set_option maxRecDepth 20000 in
theorem ggX12_readsCurve_X12_own : GoodIn wsX12_readsCurve wsX12_own := goodIn_r _ [45, 46, 47, 48, 7, 49, 9, 1, 28, 149, 150, 151, 152, 153, 154, 155, 156, 157, 158, 159, 160, 161, 162, 163, 164, 165, 166, 167, 168, 169, 170, 171, 172, 173, 174, 175, 176, 177, 178, 179, 180, 181, 182, 183, 184, 185] rfl (by decide +kernel)
set_option maxRecDepth 20000 in
theorem gX12_readsCurve_X12_own : GoodIn wsX12_readsCurve (wsV RX12 167 RX12 yX12_own wsX12_own) := goodIn_app (goodIn_of _ (by decide +kernel)) ggX12_readsCurve_X12_own
set_option maxRecDepth 20000 in
theorem ggX12_readsCurve_X12_faults : GoodIn wsX12_readsCurve wsX12_faults := goodIn_r _ [40, 14, 41, 149, 150, 151, 152, 153, 154, 155, 156, 157, 158, 159, 160, 161, 162, 163, 164, 165, 166, 167, 168, 169, 170, 171, 172, 173, 174, 175, 176, 177, 178, 179, 180, 181, 182, 183, 184, 185] rfl (by decide +kernel)
set_option maxRecDepth 20000 in
theorem gX12_readsCurve_X12_faults : GoodIn wsX12_readsCurve (wsV RX12 147 RX12 yX12_faults wsX12_faults) := goodIn_app (goodIn_of _ (by decide +kernel)) ggX12_readsCurve_X12_faults
set_option maxRecDepth 20000 in
theorem ggX12_readsCurve_X12_name : GoodIn wsX12_readsCurve wsX12_name := goodIn_r _ [53, 9, 1, 28, 4, 5, 6, 7, 8, 10, 11, 12, 13, 14, 15, 16, 17, 18, 19, 20, 21, 22, 23, 24, 25, 26, 27, 29, 30, 31, 32, 33, 34, 35, 36, 37, 38, 39, 40, 41, 42, 43, 44, 45, 46, 47, 48, 49, 149, 150, 151, 152, 153, 154, 155, 156, 157, 158, 159, 160, 161, 162, 163, 164, 165, 166, 167, 168, 169, 170, 171, 172, 173, 174, 175, 176, 177, 178, 179, 180, 181, 182, 183, 184, 185] rfl (by decide +kernel)
set_option maxRecDepth 20000 in
theorem gX12_readsCurve_X12_name : GoodIn wsX12_readsCurve (wsV RX12 248 RX12 yX12_name wsX12_name) := goodIn_app (goodIn_of _ (by decide +kernel)) ggX12_readsCurve_X12_name
set_option maxRecDepth 20000 in
theorem ggX12_readsCurve_X12_mark : GoodIn wsX12_readsCurve wsX12_mark := goodIn_r _ [57, 9, 10, 11, 12, 7, 13, 14, 19, 20, 21, 22, 23, 24, 25, 26, 27, 28, 37, 38, 39, 40, 41, 149, 150, 151, 152, 153, 154, 155, 156, 157, 158, 159, 160, 161, 162, 163, 164, 165, 166, 167, 168, 169, 170, 171, 172, 173, 174, 175, 176, 177, 178, 179, 180, 181, 182, 183, 184, 185] rfl (by decide +kernel)
set_option maxRecDepth 20000 in
theorem gX12_readsCurve_X12_mark : GoodIn wsX12_readsCurve (wsV RX12 233 RX12 yX12_mark wsX12_mark) := goodIn_app (goodIn_of _ (by decide +kernel)) ggX12_readsCurve_X12_mark
set_option maxRecDepth 20000 in
theorem ggX12_readsCurve_X12_readsSum : GoodIn wsX12_readsCurve wsX12_readsSum := goodIn_r _ [61, 62, 63, 64, 65, 7, 66, 67, 9, 68, 69, 70, 71, 72, 73, 74, 75, 76, 77, 78, 79, 10, 11, 12, 13, 14, 19, 20, 21, 22, 23, 24, 25, 26, 27, 28, 80, 81, 82, 83, 84, 85, 86, 87, 88, 89, 90, 91, 92, 93, 94, 95, 96, 97, 98, 99, 100, 37, 38, 39, 40, 41, 101, 102, 103, 33, 34, 35, 36, 104, 105, 106, 107, 1, 108, 109, 110, 29, 30, 31, 32, 111, 112, 113, 114, 15, 16, 17, 18, 4, 5, 6, 8, 42, 43, 44, 45, 46, 47, 48, 49, 115, 116, 117, 118, 119, 120, 121, 122, 123, 124, 125, 126, 127, 128, 129, 130, 131, 132, 133, 134, 135, 136, 137, 138, 139, 140, 54, 55, 56, 57, 141, 142, 143, 144, 149, 150, 151, 152, 153, 154, 155, 156, 157, 158, 159, 160, 161, 162, 163, 164, 165, 166, 167, 168, 169, 170, 171, 172, 173, 174, 175, 176, 177, 178, 179, 180, 181, 182, 183, 184, 185] rfl (by decide +kernel)
set_option maxRecDepth 20000 in
theorem gX12_readsCurve_X12_readsSum : GoodIn wsX12_readsCurve (wsV RX12 251 RX12 yX12_readsSum wsX12_readsSum) := goodIn_app (goodIn_of _ (by decide +kernel)) ggX12_readsCurve_X12_readsSum
set_option maxRecDepth 20000 in
theorem ggX12_readsCurve_X12_sumOf : GoodIn wsX12_readsCurve wsX12_sumOf := goodIn_r _ [70] rfl (by decide +kernel)
set_option maxRecDepth 20000 in
theorem gX12_readsCurve_X12_sumOf : GoodIn wsX12_readsCurve (va_wsS RX12 195 yX12_sumOf wsX12_sumOf) := goodIn_app (goodIn_of _ (by decide +kernel)) ggX12_readsCurve_X12_sumOf
set_option maxRecDepth 20000 in
theorem ggX12_readsCurve_X12_copies : GoodIn wsX12_readsCurve wsX12_copies := goodIn_r _ [144, 75, 149, 150, 151, 152, 153, 154, 155, 156, 157, 158, 159, 160, 161, 162, 163, 164, 165, 166, 167, 168, 169, 170, 171, 172, 173, 174, 175, 176, 177, 178, 179, 180, 181, 182, 183, 184, 185] rfl (by decide +kernel)
set_option maxRecDepth 20000 in
theorem gX12_readsCurve_X12_copies : GoodIn wsX12_readsCurve (wsV RX12 236 RX12 yX12_copies wsX12_copies) := goodIn_app (goodIn_of _ (by decide +kernel)) ggX12_readsCurve_X12_copies
set_option maxRecDepth 20000 in
theorem ggX12_readsCurve_X12_degreeOf : GoodIn wsX12_readsCurve wsX12_degreeOf := goodIn_r _ [148, 125, 126, 127, 7, 128, 75, 149, 150, 151, 152, 153, 154, 155, 156, 157, 158, 159, 160, 161, 162, 163, 164, 165, 166, 167, 168, 169, 170, 171, 172, 173, 174, 175, 176, 177, 178, 179, 180, 181, 182, 183, 184, 185] rfl (by decide +kernel)
set_option maxRecDepth 20000 in
theorem gX12_readsCurve_X12_degreeOf : GoodIn wsX12_readsCurve (wsV RX12 254 RX12 yX12_degreeOf wsX12_degreeOf) := goodIn_app (goodIn_of _ (by decide +kernel)) ggX12_readsCurve_X12_degreeOf
set_option maxRecDepth 20000 in
theorem ggX12_readsField_X12_comes : GoodIn wsX12_readsField wsX12_comes := goodIn_r _ [7, 8, 9, 10, 11, 6, 12, 13, 14, 15, 16, 17, 18, 19, 20, 21, 22, 23, 24, 25, 26, 27, 28, 29, 30, 31, 32, 33, 34, 35, 36, 37, 38, 39, 1, 40, 41, 42, 43, 44, 45, 46, 47, 48, 49, 50, 51, 52, 69, 70, 71, 72, 73, 74, 75, 76, 77, 78, 79, 80, 81, 82, 83, 84, 85, 86, 87, 88, 89, 90, 91, 92, 93, 94, 95, 96, 97, 98, 99, 100, 101, 102, 103, 104, 105] rfl (by decide +kernel)
set_option maxRecDepth 20000 in
theorem gX12_readsField_X12_comes : GoodIn wsX12_readsField (wsV RX12 227 RX12 yX12_comes wsX12_comes) := goodIn_app (goodIn_of _ (by decide +kernel)) ggX12_readsField_X12_comes
set_option maxRecDepth 20000 in
theorem ggX12_readsField_X12_word : GoodIn wsX12_readsField wsX12_word := goodIn_r _ [39, 8, 1, 23, 24, 25, 6, 26, 27, 9, 10, 11, 12, 13, 14, 15, 16, 17, 18, 19, 20, 21, 22, 28, 29, 30, 31, 32, 33, 34, 35, 40, 41, 42, 43, 44, 69, 70, 71, 72, 73, 74, 75, 76, 77, 78, 79, 80, 81, 82, 83, 84, 85, 86, 87, 88, 89, 90, 91, 92, 93, 94, 95, 96, 97, 98, 99, 100, 101, 102, 103, 104, 105] rfl (by decide +kernel)
set_option maxRecDepth 20000 in
theorem gX12_readsField_X12_word : GoodIn wsX12_readsField (wsV RX12 164 RX12 yX12_word wsX12_word) := goodIn_app (goodIn_of _ (by decide +kernel)) ggX12_readsField_X12_word
set_option maxRecDepth 20000 in
theorem ggX12_readsField_X12_number : GoodIn wsX12_readsField wsX12_number := goodIn_r _ [56, 8, 1, 57, 58, 59, 23, 24, 25, 6, 26, 27, 13, 14, 15, 16, 17, 18, 19, 20, 21, 22, 32, 33, 34, 35, 28, 29, 30, 31, 40, 41, 42, 43, 44, 69, 70, 71, 72, 73, 74, 75, 76, 77, 78, 79, 80, 81, 82, 83, 84, 85, 86, 87, 88, 89, 90, 91, 92, 93, 94, 95, 96, 97, 98, 99, 100, 101, 102, 103, 104, 105] rfl (by decide +kernel)
set_option maxRecDepth 20000 in
theorem gX12_readsField_X12_number : GoodIn wsX12_readsField (wsV RX12 211 RX12 yX12_number wsX12_number) := goodIn_app (goodIn_of _ (by decide +kernel)) ggX12_readsField_X12_number
