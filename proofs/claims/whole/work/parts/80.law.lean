def RL : String := "CurveMeetsLaw"
abbrev cL_law : ByteArray := code
def yL_law : MethodName := ⟨RL, "law", "([I)Z"⟩
def wsL_law_r1 : List Cond := [Cond.classLink RL 7 RX11, Cond.instantiable RX11 13, Cond.initialized RX11, Cond.classLink RL 10 RX12, Cond.instantiable RX12 37, Cond.initialized RX12, Cond.methodLink RL 9 yX11_init, Cond.instanceMethod yX11_init, Cond.code yX11_init cX11_init 2 none, Cond.methodLink RX11 1 objectInit, Cond.instanceMethod objectInit, Cond.code objectInit ⟨#[0xb1]⟩ 1 none, Cond.classLink RX11 7 RX8, Cond.instantiable RX8 5, Cond.initialized RX8, Cond.classLink RX11 10 RX3, Cond.instantiable RX3 13, Cond.initialized RX3, Cond.fieldLink RX11 13 "CurveMeets" "reader" "LCurveMeets$Reader;", Cond.classLink RX11 19 RX7, Cond.instantiable RX7 4, Cond.initialized RX7, Cond.fieldLink RX11 22 "CurveMeets" "shelf" "LCurveMeets$Shelf;", Cond.classLink RX11 26 RX1]
def wsL_law_r2 : List Cond := [Cond.instantiable RX1 3, Cond.initialized RX1, Cond.fieldLink RX11 29 "CurveMeets" "past" "LCurveMeets$Past;", Cond.classLink RX11 33 RX9, Cond.instantiable RX9 3, Cond.initialized RX9, Cond.fieldLink RX11 36 "CurveMeets" "spot" "LCurveMeets$Spot;", Cond.classLink RX11 40 RX10, Cond.instantiable RX10 3, Cond.initialized RX10, Cond.fieldLink RX11 43 "CurveMeets" "view" "LCurveMeets$View;", Cond.fieldLink RX11 47 "CurveMeets" "otherView" "LCurveMeets$View;", Cond.classLink RX11 50 RX6, Cond.instantiable RX6 5, Cond.initialized RX6, Cond.fieldLink RX11 55 "CurveMeets" "sharing" "LCurveMeets$Sharing;", Cond.classLink RX11 59 RX4, Cond.instantiable RX4 6, Cond.initialized RX4, Cond.fieldLink RX11 62 "CurveMeets" "reduction" "LCurveMeets$Reduction;", Cond.classLink RX11 66 RX5, Cond.instantiable RX5 11, Cond.initialized RX5, Cond.fieldLink RX11 69 "CurveMeets" "ring" "LCurveMeets$Ring;"]
def wsL_law_r3 : List Cond := [Cond.classLink RX11 73 RX0, Cond.instantiable RX0 10, Cond.initialized RX0, Cond.fieldLink RX11 76 "CurveMeets" "maker" "LCurveMeets$Maker;", Cond.arrayClass .int, Cond.fieldLink RX11 80 "CurveMeets" "refused" "[I", Cond.fieldLink RX11 84 "CurveMeets" "faultKind" "I", Cond.fieldLink RX11 88 "CurveMeets" "faultPlace" "I", Cond.instanceMethod yX8_init, Cond.code yX8_init cX8_init 1 none, Cond.methodLink RX8 3 objectInit, Cond.classLink RX8 11 "[[I", Cond.fieldLink RX8 13 "CurveMeets$Space" "rows" "[[I", Cond.arrayClass .boolean, Cond.fieldLink RX8 16 "CurveMeets$Space" "known" "[Z", Cond.fieldLink RX8 20 "CurveMeets$Space" "width" "I", Cond.fieldLink RX8 24 "CurveMeets$Space" "limit" "I", Cond.fieldLink RX8 27 "CurveMeets$Space" "p" "I", Cond.methodLink RX11 12 yX3_init, Cond.instanceMethod yX3_init, Cond.code yX3_init cX3_init 2 none, Cond.methodLink RX3 3 objectInit, Cond.fieldLink RX3 9 "CurveMeets$Reader" "length" "I", Cond.fieldLink RX3 15 "CurveMeets$Reader" "faultKind" "I"]
def wsL_law_r4 : List Cond := [Cond.fieldLink RX3 18 "CurveMeets$Reader" "faultPlace" "I", Cond.classLink RX3 21 RX7, Cond.fieldLink RX3 24 "CurveMeets$Reader" "draft" "LCurveMeets$Shelf;", Cond.fieldLink RX3 28 "CurveMeets$Reader" "tape" "[I", Cond.classLink RX3 32 RX2, Cond.fieldLink RX3 34 "CurveMeets$Reader" "sums" "[LCurveMeets$Poly;", Cond.fieldLink RX3 38 "CurveMeets$Reader" "products" "[LCurveMeets$Poly;", Cond.fieldLink RX3 41 "CurveMeets$Reader" "isMinus" "[Z", Cond.fieldLink RX3 45 "CurveMeets$Reader" "starts" "[I", Cond.instantiable RX2 1, Cond.initialized RX2, Cond.fieldLink RX3 49 "CurveMeets$Reader" "atom" "LCurveMeets$Poly;", Cond.fieldLink RX3 53 "CurveMeets$Reader" "powered" "LCurveMeets$Poly;", Cond.fieldLink RX3 56 "CurveMeets$Reader" "scratch" "LCurveMeets$Poly;", Cond.fieldLink RX3 59 "CurveMeets$Reader" "place" "I", Cond.methodLink RX3 23 yX7_init, Cond.instanceMethod yX7_init, Cond.code yX7_init cX7_init 2 none, Cond.methodLink RX7 3 objectInit, Cond.fieldLink RX7 9 "CurveMeets$Shelf" "p" "I", Cond.fieldLink RX7 15 "CurveMeets$Shelf" "count" "I", Cond.classLink RX7 18 RX2, Cond.fieldLink RX7 20 "CurveMeets$Shelf" "polys" "[LCurveMeets$Poly;", Cond.fieldLink RX7 24 "CurveMeets$Shelf" "letters" "[I"]
def wsL_law_r5 : List Cond := [Cond.instanceMethod yX2_init, Cond.code yX2_init cX2_init 1 none, Cond.methodLink RX2 3 objectInit, Cond.fieldLink RX2 11 "CurveMeets$Poly" "cells" "[I", Cond.methodLink RX11 21 yX7_init, Cond.methodLink RX11 28 yX1_init, Cond.instanceMethod yX1_init, Cond.code yX1_init cX1_init 2 none, Cond.methodLink RX1 3 objectInit, Cond.fieldLink RX1 9 "CurveMeets$Past" "count" "I", Cond.fieldLink RX1 15 "CurveMeets$Past" "next" "I", Cond.classLink RX1 18 RX7, Cond.fieldLink RX1 20 "CurveMeets$Past" "shelves" "[LCurveMeets$Shelf;", Cond.methodLink RX1 24 yX7_init, Cond.instanceMethod yX9_init, Cond.code yX9_init cX9_init 1 none, Cond.methodLink RX9 3 objectInit, Cond.fieldLink RX9 9 "CurveMeets$Spot" "x" "I", Cond.fieldLink RX9 15 "CurveMeets$Spot" "y" "I", Cond.fieldLink RX9 18 "CurveMeets$Spot" "z" "I", Cond.instanceMethod yX10_init, Cond.code yX10_init cX10_init 1 none, Cond.methodLink RX10 3 objectInit, Cond.classLink RX10 9 RX2]
def wsL_law_r6 : List Cond := [Cond.fieldLink RX10 12 "CurveMeets$View" "poly" "LCurveMeets$Poly;", Cond.fieldLink RX10 18 "CurveMeets$View" "lowest" "[I", Cond.fieldLink RX10 22 "CurveMeets$View" "p" "I", Cond.methodLink RX11 52 yX6_init, Cond.instanceMethod yX6_init, Cond.code yX6_init cX6_init 2 none, Cond.methodLink RX6 3 objectInit, Cond.classLink RX6 9 RX2, Cond.fieldLink RX6 12 "CurveMeets$Sharing" "part" "LCurveMeets$Poly;", Cond.fieldLink RX6 18 "CurveMeets$Sharing" "cofactor" "LCurveMeets$Poly;", Cond.fieldLink RX6 21 "CurveMeets$Sharing" "rest" "LCurveMeets$Poly;", Cond.fieldLink RX6 26 "CurveMeets$Sharing" "line" "[I", Cond.fieldLink RX6 30 "CurveMeets$Sharing" "space" "LCurveMeets$Space;", Cond.instanceMethod yX4_init, Cond.code yX4_init cX4_init 1 none, Cond.methodLink RX4 5 objectInit, Cond.fieldLink RX4 11 "CurveMeets$Reduction" "often" "[I", Cond.fieldLink RX4 15 "CurveMeets$Reduction" "kinds" "[I", Cond.fieldLink RX4 18 "CurveMeets$Reduction" "steps" "I", Cond.fieldLink RX4 22 "CurveMeets$Reduction" "f" "[I", Cond.fieldLink RX4 25 "CurveMeets$Reduction" "g" "[I", Cond.fieldLink RX4 28 "CurveMeets$Reduction" "p" "I", Cond.methodLink RX11 68 yX5_init, Cond.instanceMethod yX5_init]
def wsL_law_r7 : List Cond := [Cond.code yX5_init cX5_init 2 none, Cond.methodLink RX5 5 objectInit, Cond.fieldLink RX5 11 "CurveMeets$Ring" "row" "[I", Cond.fieldLink RX5 15 "CurveMeets$Ring" "columns" "[I", Cond.fieldLink RX5 20 "CurveMeets$Ring" "line" "[I", Cond.classLink RX5 23 RX2, Cond.fieldLink RX5 26 "CurveMeets$Ring" "divisor" "LCurveMeets$Poly;", Cond.fieldLink RX5 30 "CurveMeets$Ring" "p" "I", Cond.fieldLink RX5 34 "CurveMeets$Ring" "top" "I", Cond.fieldLink RX5 37 "CurveMeets$Ring" "isLocal" "Z", Cond.fieldLink RX5 41 "CurveMeets$Ring" "leadX" "I", Cond.fieldLink RX5 44 "CurveMeets$Ring" "leadY" "I", Cond.fieldLink RX5 47 "CurveMeets$Ring" "width" "I", Cond.fieldLink RX5 50 "CurveMeets$Ring" "space" "LCurveMeets$Space;", Cond.methodLink RX11 75 yX0_init, Cond.instanceMethod yX0_init, Cond.code yX0_init cX0_init 2 none, Cond.methodLink RX0 3 objectInit, Cond.classLink RX0 9 RX2, Cond.fieldLink RX0 12 "CurveMeets$Maker" "made" "LCurveMeets$Poly;", Cond.fieldLink RX0 18 "CurveMeets$Maker" "powersX" "[LCurveMeets$Poly;", Cond.fieldLink RX0 22 "CurveMeets$Maker" "powersY" "[LCurveMeets$Poly;", Cond.fieldLink RX0 25 "CurveMeets$Maker" "results" "[LCurveMeets$Poly;", Cond.fieldLink RX0 28 "CurveMeets$Maker" "scratch" "LCurveMeets$Poly;"]
def wsL_law_r8 : List Cond := [Cond.fieldLink RX0 31 "CurveMeets$Maker" "newX" "LCurveMeets$Poly;", Cond.fieldLink RX0 34 "CurveMeets$Maker" "newY" "LCurveMeets$Poly;", Cond.classLink RX0 37 RX9, Cond.fieldLink RX0 40 "CurveMeets$Maker" "first" "LCurveMeets$Spot;", Cond.fieldLink RX0 44 "CurveMeets$Maker" "second" "LCurveMeets$Spot;", Cond.fieldLink RX0 47 "CurveMeets$Maker" "p" "I", Cond.methodLink RL 12 yX12_init, Cond.instanceMethod yX12_init, Cond.code yX12_init cX12_init 1 none, Cond.methodLink RX12 1 objectInit, Cond.fieldLink RX12 7 "CurveMeetsModel" "tape" "[I", Cond.fieldLink RX12 13 "CurveMeetsModel" "taped" "I", Cond.fieldLink RX12 17 "CurveMeetsModel" "refused" "[I", Cond.fieldLink RX12 20 "CurveMeetsModel" "faultKind" "I", Cond.fieldLink RX12 23 "CurveMeetsModel" "faultPlace" "I", Cond.fieldLink RX12 26 "CurveMeetsModel" "size" "I", Cond.fieldLink RX12 29 "CurveMeetsModel" "at" "I", Cond.fieldLink RX12 32 "CurveMeetsModel" "begun" "I", Cond.fieldLink RX12 35 "CurveMeetsModel" "wrong" "I", Cond.fieldLink RX12 38 "CurveMeetsModel" "wrongAt" "I", Cond.fieldLink RX12 41 "CurveMeetsModel" "prime" "I", Cond.fieldLink RX12 44 "CurveMeetsModel" "cells" "[I", Cond.arrayClass .long, Cond.fieldLink RX12 47 "CurveMeetsModel" "wide" "[J"]
def wsL_law_r9 : List Cond := [Cond.fieldLink RX12 51 "CurveMeetsModel" "curves" "I", Cond.fieldLink RX12 54 "CurveMeetsModel" "names" "[I", Cond.fieldLink RX12 57 "CurveMeetsModel" "told" "I", Cond.fieldLink RX12 60 "CurveMeetsModel" "openAt" "[I", Cond.fieldLink RX12 63 "CurveMeetsModel" "openSign" "[I", Cond.fieldLink RX12 66 "CurveMeetsModel" "openAtom" "[I", Cond.fieldLink RX12 69 "CurveMeetsModel" "open" "I", Cond.fieldLink RX12 72 "CurveMeetsModel" "lowest" "[I", Cond.constant RX12 75 (105625), Cond.fieldLink RX12 76 "CurveMeetsModel" "pile" "[I", Cond.fieldLink RX12 79 "CurveMeetsModel" "pivotRow" "[I", Cond.fieldLink RX12 82 "CurveMeetsModel" "rowMany" "I", Cond.fieldLink RX12 85 "CurveMeetsModel" "rowWide" "I", Cond.fieldLink RX12 88 "CurveMeetsModel" "vector" "[I", Cond.fieldLink RX12 91 "CurveMeetsModel" "free" "I", Cond.fieldLink RX12 94 "CurveMeetsModel" "unknown" "[I", Cond.fieldLink RX12 97 "CurveMeetsModel" "equation" "[I", Cond.fieldLink RX12 100 "CurveMeetsModel" "standsFor" "[I", Cond.fieldLink RX12 103 "CurveMeetsModel" "f" "[I", Cond.fieldLink RX12 106 "CurveMeetsModel" "g" "[I", Cond.fieldLink RX12 109 "CurveMeetsModel" "ruled" "[I", Cond.fieldLink RX12 112 "CurveMeetsModel" "ruleMany" "I", Cond.fieldLink RX12 115 "CurveMeetsModel" "rules" "[I", Cond.fieldLink RX12 118 "CurveMeetsModel" "undos" "I"]
def wsL_law_r10 : List Cond := [Cond.fieldLink RX12 121 "CurveMeetsModel" "kept" "[I", Cond.methodLink RL 13 yX11_feed, Cond.instanceMethod yX11_feed, Cond.selects RX11 yX11_feed yX11_feed, Cond.code yX11_feed cX11_feed 6 (some .int), Cond.fieldLink RX11 102 "CurveMeets$Reader" "length" "I", Cond.methodLink RX11 91 yX3_hasRoomForFive, Cond.instanceMethod yX3_hasRoomForFive, Cond.selects RX3 yX3_hasRoomForFive yX3_hasRoomForFive, Cond.code yX3_hasRoomForFive cX3_hasRoomForFive 1 (some .boolean), Cond.methodLink RX11 95 yX11_refuse, Cond.instanceMethod yX11_refuse, Cond.selects RX11 yX11_refuse yX11_refuse, Cond.code yX11_refuse cX11_refuse 2 none, Cond.methodLink RX11 99 yX3_append, Cond.instanceMethod yX3_append, Cond.selects RX3 yX3_append yX3_append, Cond.code yX3_append cX3_append 3 none, Cond.methodLink RL 17 yX12_feed, Cond.instanceMethod yX12_feed, Cond.selects RX12 yX12_feed yX12_feed, Cond.code yX12_feed cX12_feed 6 (some .int), Cond.methodLink RX12 124 yX12_refuses, Cond.instanceMethod yX12_refuses]
def wsL_law_r11 : List Cond := [Cond.selects RX12 yX12_refuses yX12_refuses, Cond.code yX12_refuses cX12_refuses 2 (some .int), Cond.methodLink RX12 128 yX12_lays, Cond.instanceMethod yX12_lays, Cond.selects RX12 yX12_lays yX12_lays, Cond.code yX12_lays cX12_lays 3 none, Cond.methodLink RL 18 yX11_end, Cond.instanceMethod yX11_end, Cond.selects RX11 yX11_end yX11_end, Cond.code yX11_end cX11_end 2 (some .boolean), Cond.methodLink RL 22 yX12_end, Cond.instanceMethod yX12_end, Cond.selects RX12 yX12_end yX12_end, Cond.code yX12_end cX12_end 2 (some .boolean), Cond.methodLink RX12 132 yX12_isRefused, Cond.instanceMethod yX12_isRefused, Cond.selects RX12 yX12_isRefused yX12_isRefused, Cond.code yX12_isRefused cX12_isRefused 2 (some .boolean), Cond.methodLink RL 23 yX11_curves, Cond.instanceMethod yX11_curves, Cond.selects RX11 yX11_curves yX11_curves, Cond.code yX11_curves cX11_curves 2 (some .int), Cond.fieldLink RX11 108 "CurveMeets$Reader" "faultKind" "I", Cond.fieldLink RX11 109 "CurveMeets$Reader" "faultPlace" "I"]
def wsL_law_r12 : List Cond := [Cond.fieldLink RX11 110 "CurveMeets$Reader" "draft" "LCurveMeets$Shelf;", Cond.fieldLink RX11 120 "CurveMeets$Shelf" "count" "I", Cond.methodLink RX11 105 yX3_readText, Cond.instanceMethod yX3_readText, Cond.selects RX3 yX3_readText yX3_readText, Cond.code yX3_readText cX3_readText 2 (some .boolean), Cond.fieldLink RX3 62 "CurveMeets$Shelf" "p" "I", Cond.fieldLink RX3 65 "CurveMeets$Shelf" "count" "I", Cond.methodLink RX3 68 yX3_skipBlanks, Cond.instanceMethod yX3_skipBlanks, Cond.selects RX3 yX3_skipBlanks yX3_skipBlanks, Cond.code yX3_skipBlanks cX3_skipBlanks 1 none, Cond.methodLink RX3 84 yX3_byteAt, Cond.instanceMethod yX3_byteAt, Cond.selects RX3 yX3_byteAt yX3_byteAt, Cond.code yX3_byteAt cX3_byteAt 2 (some .int), Cond.methodLink RX3 73 yX3_standsWord, Cond.instanceMethod yX3_standsWord, Cond.selects RX3 yX3_standsWord yX3_standsWord, Cond.code yX3_standsWord cX3_standsWord 3 (some .boolean), Cond.methodLink RX3 124 yX3_wordEnd, Cond.instanceMethod yX3_wordEnd, Cond.selects RX3 yX3_wordEnd yX3_wordEnd, Cond.code yX3_wordEnd cX3_wordEnd 3 (some .int)]
def wsL_law_r13 : List Cond := [Cond.methodLink RX3 194 yJ0_length_8abf5, Cond.instanceMethod yJ0_length_8abf5, Cond.selects RJ0 yJ0_length_8abf5 yJ0_length_8abf5, Cond.initialized RJ0, Cond.code yJ0_length_8abf5 cJ0_length_8abf5 1 (some .int), Cond.fieldLink RJ0 9 "java/lang/String" "value" "[B", Cond.methodLink RJ0 335 yJ0_coder_7d493, Cond.instanceMethod yJ0_coder_7d493, Cond.selects RJ0 yJ0_coder_7d493 yJ0_coder_7d493, Cond.code yJ0_coder_7d493 cJ0_coder_7d493 1 (some .byte), Cond.fieldLink RJ0 38 "java/lang/String" "COMPACT_STRINGS" "Z", Cond.fieldLink RJ0 15 "java/lang/String" "coder" "B", Cond.methodLink RX3 198 yJ0_charAt_5068e, Cond.instanceMethod yJ0_charAt_5068e, Cond.selects RJ0 yJ0_charAt_5068e yJ0_charAt_5068e, Cond.code yJ0_charAt_5068e cJ0_charAt_5068e 2 (some .char), Cond.methodLink RJ0 492 yJ0_isLatin1_aae02, Cond.instanceMethod yJ0_isLatin1_aae02, Cond.selects RJ0 yJ0_isLatin1_aae02 yJ0_isLatin1_aae02, Cond.code yJ0_isLatin1_aae02 cJ0_isLatin1_aae02 1 (some .boolean), Cond.methodLink RJ0 495 yJ1_charAt_3b067, Cond.static yJ1_charAt_3b067, Cond.initialized RJ1, Cond.code yJ1_charAt_3b067 cJ1_charAt_3b067 2 (some .char)]
def wsL_law_r14 : List Cond := [Cond.methodLink RJ1 9 yJ0_checkIndex_df160, Cond.static yJ0_checkIndex_df160, Cond.code yJ0_checkIndex_df160 cJ0_checkIndex_df160 2 none, Cond.fieldLink RJ0 1053 "jdk/internal/util/Preconditions" "SIOOBE_FORMATTER" "Ljava/util/function/BiFunction;", Cond.methodLink RJ0 1059 yJ3_checkIndex_8e157, Cond.static yJ3_checkIndex_8e157, Cond.initialized RJ3, Cond.code yJ3_checkIndex_8e157 cJ3_checkIndex_8e157 3 (some .int), Cond.methodLink RJ0 498 yJ2_charAt_3b067, Cond.static yJ2_charAt_3b067, Cond.initialized RJ2, Cond.code yJ2_charAt_3b067 cJ2_charAt_3b067 2 (some .char), Cond.methodLink RJ2 67 yJ2_checkIndex_2214a, Cond.static yJ2_checkIndex_2214a, Cond.code yJ2_checkIndex_2214a cJ2_checkIndex_2214a 2 none, Cond.methodLink RJ2 48 yJ2_length_9d52b, Cond.static yJ2_length_9d52b, Cond.code yJ2_length_9d52b cJ2_length_9d52b 1 (some .int), Cond.methodLink RJ2 414 yJ0_checkIndex_df160, Cond.methodLink RJ2 71 yJ2_getChar_3b067, Cond.static yJ2_getChar_3b067, Cond.code yJ2_getChar_3b067 cJ2_getChar_3b067 2 (some .char), Cond.fieldLink RJ2 44 "java/lang/StringUTF16" "$assertionsDisabled" "Z", Cond.fieldLink RJ2 59 "java/lang/StringUTF16" "HI_BYTE_SHIFT" "I"]
def wsL_law_r15 : List Cond := [Cond.fieldLink RJ2 63 "java/lang/StringUTF16" "LO_BYTE_SHIFT" "I", Cond.methodLink RX3 77 yX3_readField, Cond.instanceMethod yX3_readField, Cond.selects RX3 yX3_readField yX3_readField, Cond.code yX3_readField cX3_readField 4 (some .boolean), Cond.fieldLink RX3 100 "CurveMeets$Reader" "PRIMES" "[I", Cond.methodLink RX3 88 yX3_isDigit, Cond.static yX3_isDigit, Cond.code yX3_isDigit cX3_isDigit 1 (some .boolean), Cond.methodLink RX3 92 yX3_fail, Cond.instanceMethod yX3_fail, Cond.selects RX3 yX3_fail yX3_fail, Cond.code yX3_fail cX3_fail 3 (some .boolean), Cond.methodLink RX3 96 yX3_readNumber, Cond.instanceMethod yX3_readNumber, Cond.selects RX3 yX3_readNumber yX3_readNumber, Cond.code yX3_readNumber cX3_readNumber 3 (some .int), Cond.constantLong RX3 176 (10), Cond.constantLong RX3 178 (48), Cond.constantLong RX3 180 (2147483648), Cond.methodLink RX3 182 Lib.MathLoose.min_long.x, Cond.static Lib.MathLoose.min_long.x, Cond.initialized "java/lang/Math", Cond.code Lib.MathLoose.min_long.x Lib.MathLoose.min_long.code 4 (some .long)]
def wsL_law_r16 : List Cond := [Cond.constantLong RX3 188 (2147483647), Cond.methodLink RX3 103 yX3_expect, Cond.instanceMethod yX3_expect, Cond.selects RX3 yX3_expect yX3_expect, Cond.code yX3_expect cX3_expect 2 (some .boolean), Cond.methodLink RX3 145 yX3_take, Cond.instanceMethod yX3_take, Cond.selects RX3 yX3_take yX3_take, Cond.code yX3_take cX3_take 2 (some .boolean), Cond.methodLink RX3 81 yX3_readCurve, Cond.instanceMethod yX3_readCurve, Cond.selects RX3 yX3_readCurve yX3_readCurve, Cond.code yX3_readCurve cX3_readCurve 2 (some .boolean), Cond.methodLink RX3 108 yX3_readName, Cond.instanceMethod yX3_readName, Cond.selects RX3 yX3_readName yX3_readName, Cond.code yX3_readName cX3_readName 4 (some .boolean), Cond.methodLink RX3 131 yX7_setLetter, Cond.instanceMethod yX7_setLetter, Cond.selects RX7 yX7_setLetter yX7_setLetter, Cond.code yX7_setLetter cX7_setLetter 3 none, Cond.methodLink RX3 135 yX3_isNameTaken, Cond.instanceMethod yX3_isNameTaken, Cond.selects RX3 yX3_isNameTaken yX3_isNameTaken]
def wsL_law_r17 : List Cond := [Cond.code yX3_isNameTaken cX3_isNameTaken 5 (some .boolean), Cond.methodLink RX3 111 yX3_readSum, Cond.instanceMethod yX3_readSum, Cond.selects RX3 yX3_readSum yX3_readSum, Cond.code yX3_readSum cX3_readSum 4 (some .boolean), Cond.methodLink RX3 141 yX3_begin, Cond.instanceMethod yX3_begin, Cond.selects RX3 yX3_begin yX3_begin, Cond.code yX3_begin cX3_begin 2 none, Cond.methodLink RX3 157 yX2_setTo, Cond.instanceMethod yX2_setTo, Cond.selects RX2 yX2_setTo yX2_setTo, Cond.code yX2_setTo cX2_setTo 3 none, Cond.methodLink RX3 148 yX3_readAtom, Cond.instanceMethod yX3_readAtom, Cond.selects RX3 yX3_readAtom yX3_readAtom, Cond.code yX3_readAtom cX3_readAtom 3 (some .boolean), Cond.static yX11_mod, Cond.code yX11_mod cX11_mod 3 (some .int), Cond.methodLink RX3 172 yX2_put, Cond.instanceMethod yX2_put, Cond.selects RX2 yX2_put yX2_put, Cond.code yX2_put cX2_put 4 none, Cond.methodLink RX2 15 yX2_fits]
def wsL_law_r18 : List Cond := [Cond.static yX2_fits, Cond.code yX2_fits cX2_fits 2 (some .boolean), Cond.methodLink RX3 151 yX3_readFactor, Cond.instanceMethod yX3_readFactor, Cond.selects RX3 yX3_readFactor yX3_readFactor, Cond.code yX3_readFactor cX3_readFactor 5 (some .boolean), Cond.methodLink RX3 164 yX3_multiply, Cond.instanceMethod yX3_multiply, Cond.selects RX3 yX3_multiply yX3_multiply, Cond.code yX3_multiply cX3_multiply 5 (some .boolean), Cond.methodLink RX3 114 yX2_top, Cond.instanceMethod yX2_top, Cond.selects RX2 yX2_top yX2_top, Cond.code yX2_top cX2_top 4 (some .int), Cond.methodLink RX2 30 Lib.Math.max.name, Cond.static Lib.Math.max.name, Cond.code Lib.Math.max.name Lib.Math.max.code 2 (some .int), Cond.methodLink RX3 190 yX2_product, Cond.instanceMethod yX2_product, Cond.selects RX2 yX2_product yX2_product, Cond.code yX2_product cX2_product 6 none, Cond.methodLink RX2 48 yX2_setTo, Cond.methodLink RX2 44 yX2_addShifted, Cond.instanceMethod yX2_addShifted]
def wsL_law_r19 : List Cond := [Cond.selects RX2 yX2_addShifted yX2_addShifted, Cond.code yX2_addShifted cX2_addShifted 11 none, Cond.methodLink RX3 120 yX2_copy, Cond.instanceMethod yX2_copy, Cond.selects RX2 yX2_copy yX2_copy, Cond.code yX2_copy cX2_copy 2 none, Cond.methodLink RX2 38 arraycopyName, Cond.native arraycopyName, Cond.static arraycopyName, Cond.initialized "java/lang/System", Cond.methodLink RX3 154 yX3_closeTerm, Cond.instanceMethod yX3_closeTerm, Cond.selects RX3 yX3_closeTerm yX3_closeTerm, Cond.code yX3_closeTerm cX3_closeTerm 2 none, Cond.methodLink RX3 160 yX2_add, Cond.instanceMethod yX2_add, Cond.selects RX2 yX2_add yX2_add, Cond.code yX2_add cX2_add 4 none, Cond.methodLink RX11 113 yX7_copy, Cond.instanceMethod yX7_copy, Cond.selects RX7 yX7_copy yX7_copy, Cond.code yX7_copy cX7_copy 3 none, Cond.methodLink RX7 37 arraycopyName, Cond.methodLink RX7 33 yX2_copy]
def wsL_law_r20 : List Cond := [Cond.methodLink RX11 117 yX1_forget, Cond.instanceMethod yX1_forget, Cond.selects RX1 yX1_forget yX1_forget, Cond.code yX1_forget cX1_forget 1 none, Cond.methodLink RL 27 yX12_curves, Cond.instanceMethod yX12_curves, Cond.selects RX12 yX12_curves yX12_curves, Cond.code yX12_curves cX12_curves 3 (some .int), Cond.methodLink RX12 265 yX12_readsField, Cond.instanceMethod yX12_readsField, Cond.selects RX12 yX12_readsField yX12_readsField, Cond.code yX12_readsField cX12_readsField 3 none, Cond.methodLink RX12 227 yX12_comes, Cond.instanceMethod yX12_comes, Cond.selects RX12 yX12_comes yX12_comes, Cond.code yX12_comes cX12_comes 3 (some .int), Cond.methodLink RX12 157 yX12_isWordHere, Cond.instanceMethod yX12_isWordHere, Cond.selects RX12 yX12_isWordHere yX12_isWordHere, Cond.code yX12_isWordHere cX12_isWordHere 1 (some .boolean), Cond.methodLink RX12 143 yX12_here, Cond.instanceMethod yX12_here, Cond.selects RX12 yX12_here yX12_here, Cond.code yX12_here cX12_here 1 (some .int)]
def wsL_law_r21 : List Cond := [Cond.methodLink RX12 136 yX12_byteAt, Cond.instanceMethod yX12_byteAt, Cond.selects RX12 yX12_byteAt yX12_byteAt, Cond.code yX12_byteAt cX12_byteAt 2 (some .int), Cond.methodLink RX12 139 yX12_goesWell, Cond.instanceMethod yX12_goesWell, Cond.selects RX12 yX12_goesWell yX12_goesWell, Cond.code yX12_goesWell cX12_goesWell 1 (some .boolean), Cond.methodLink RX12 151 yX12_isSmall, Cond.instanceMethod yX12_isSmall, Cond.selects RX12 yX12_isSmall yX12_isSmall, Cond.code yX12_isSmall cX12_isSmall 2 (some .boolean), Cond.methodLink RX12 154 yX12_isDigit, Cond.instanceMethod yX12_isDigit, Cond.selects RX12 yX12_isDigit yX12_isDigit, Cond.code yX12_isDigit cX12_isDigit 2 (some .boolean), Cond.methodLink RX12 164 yX12_word, Cond.instanceMethod yX12_word, Cond.selects RX12 yX12_word yX12_word, Cond.code yX12_word cX12_word 1 none, Cond.methodLink RX12 147 yX12_faults, Cond.instanceMethod yX12_faults, Cond.selects RX12 yX12_faults yX12_faults, Cond.code yX12_faults cX12_faults 3 none]
def wsL_law_r22 : List Cond := [Cond.methodLink RX12 167 yX12_own, Cond.instanceMethod yX12_own, Cond.selects RX12 yX12_own yX12_own, Cond.code yX12_own cX12_own 1 (some .int), Cond.methodLink RX12 160 yX12_isSpelled, Cond.instanceMethod yX12_isSpelled, Cond.selects RX12 yX12_isSpelled yX12_isSpelled, Cond.code yX12_isSpelled cX12_isSpelled 7 (some .boolean), Cond.methodLink RX12 211 yX12_number, Cond.instanceMethod yX12_number, Cond.selects RX12 yX12_number yX12_number, Cond.code yX12_number cX12_number 3 (some .long), Cond.constantLong RX12 170 (2147483647), Cond.constantLong RX12 172 (10), Cond.constantLong RX12 174 (48), Cond.methodLink RX12 261 yX12_isPrime, Cond.static yX12_isPrime, Cond.code yX12_isPrime cX12_isPrime 4 (some .boolean), Cond.constantLong RX12 257 (2), Cond.constantLong RX12 259 (31), Cond.methodLink RX12 233 yX12_mark, Cond.instanceMethod yX12_mark, Cond.selects RX12 yX12_mark yX12_mark, Cond.code yX12_mark cX12_mark 2 none]
def wsL_law_r23 : List Cond := [Cond.methodLink RX12 268 yX12_readsCurve, Cond.instanceMethod yX12_readsCurve, Cond.selects RX12 yX12_readsCurve yX12_readsCurve, Cond.code yX12_readsCurve cX12_readsCurve 4 none, Cond.methodLink RX12 248 yX12_name, Cond.instanceMethod yX12_name, Cond.selects RX12 yX12_name yX12_name, Cond.code yX12_name cX12_name 3 (some .int), Cond.methodLink RX12 251 yX12_readsSum, Cond.instanceMethod yX12_readsSum, Cond.selects RX12 yX12_readsSum yX12_readsSum, Cond.code yX12_readsSum cX12_readsSum 2 none, Cond.methodLink RX12 224 yX12_beginsSum, Cond.instanceMethod yX12_beginsSum, Cond.selects RX12 yX12_beginsSum yX12_beginsSum, Cond.code yX12_beginsSum cX12_beginsSum 1 none, Cond.methodLink RX12 195 yX12_sumOf, Cond.static yX12_sumOf, Cond.code yX12_sumOf cX12_sumOf 1 (some .int), Cond.methodLink RX12 192 yX12_empties, Cond.instanceMethod yX12_empties, Cond.selects RX12 yX12_empties yX12_empties, Cond.code yX12_empties cX12_empties 3 none, Cond.methodLink RX12 198 yX12_isMark]
def wsL_law_r24 : List Cond := [Cond.instanceMethod yX12_isMark, Cond.selects RX12 yX12_isMark yX12_isMark, Cond.code yX12_isMark cX12_isMark 2 (some .boolean), Cond.methodLink RX12 201 yX12_beginsTerm, Cond.instanceMethod yX12_beginsTerm, Cond.selects RX12 yX12_beginsTerm yX12_beginsTerm, Cond.code yX12_beginsTerm cX12_beginsTerm 1 none, Cond.methodLink RX12 204 yX12_productOf, Cond.static yX12_productOf, Cond.code yX12_productOf cX12_productOf 1 (some .int), Cond.methodLink RX12 188 yX12_sets, Cond.instanceMethod yX12_sets, Cond.selects RX12 yX12_sets yX12_sets, Cond.code yX12_sets cX12_sets 6 none, Cond.methodLink RX12 176 yX12_modulo, Cond.instanceMethod yX12_modulo, Cond.selects RX12 yX12_modulo yX12_modulo, Cond.code yX12_modulo cX12_modulo 5 (some .int), Cond.methodLink RX12 242 yX12_opensBracket, Cond.instanceMethod yX12_opensBracket, Cond.selects RX12 yX12_opensBracket yX12_opensBracket, Cond.code yX12_opensBracket cX12_opensBracket 2 (some .boolean), Cond.methodLink RX12 217 yX12_atomOf, Cond.static yX12_atomOf]
def wsL_law_r25 : List Cond := [Cond.code yX12_atomOf cX12_atomOf 1 (some .int), Cond.methodLink RX12 239 yX12_takesAtom, Cond.instanceMethod yX12_takesAtom, Cond.selects RX12 yX12_takesAtom yX12_takesAtom, Cond.code yX12_takesAtom cX12_takesAtom 4 none, Cond.constantLong RX12 215 (4), Cond.methodLink RX12 220 yX12_multiplies, Cond.instanceMethod yX12_multiplies, Cond.selects RX12 yX12_multiplies yX12_multiplies, Cond.code yX12_multiplies cX12_multiplies 8 (some .boolean), Cond.methodLink RX12 184 yX12_cell, Cond.instanceMethod yX12_cell, Cond.selects RX12 yX12_cell yX12_cell, Cond.code yX12_cell cX12_cell 4 (some .int), Cond.methodLink RX12 245 yX12_goesOn, Cond.instanceMethod yX12_goesOn, Cond.selects RX12 yX12_goesOn yX12_goesOn, Cond.code yX12_goesOn cX12_goesOn 3 (some .boolean), Cond.methodLink RX12 230 yX12_endsTerm, Cond.instanceMethod yX12_endsTerm, Cond.selects RX12 yX12_endsTerm yX12_endsTerm, Cond.code yX12_endsTerm cX12_endsTerm 1 none, Cond.methodLink RX12 207 yX12_adds, Cond.instanceMethod yX12_adds]
def wsL_law_r26 : List Cond := [Cond.selects RX12 yX12_adds yX12_adds, Cond.code yX12_adds cX12_adds 7 none, Cond.methodLink RX12 236 yX12_copies, Cond.instanceMethod yX12_copies, Cond.selects RX12 yX12_copies yX12_copies, Cond.code yX12_copies cX12_copies 4 none, Cond.methodLink RX12 254 yX12_degreeOf, Cond.instanceMethod yX12_degreeOf, Cond.selects RX12 yX12_degreeOf yX12_degreeOf, Cond.code yX12_degreeOf cX12_degreeOf 5 (some .int), Cond.methodLink RL 28 yX11_fault, Cond.instanceMethod yX11_fault, Cond.selects RX11 yX11_fault yX11_fault, Cond.code yX11_fault cX11_fault 2 (some .int), Cond.methodLink RL 32 yX12_fault, Cond.instanceMethod yX12_fault, Cond.selects RX12 yX12_fault yX12_fault, Cond.code yX12_fault cX12_fault 2 (some .int), Cond.methodLink RL 33 yX11_has, Cond.instanceMethod yX11_has, Cond.selects RX11 yX11_has yX11_has, Cond.code yX11_has cX11_has 2 (some .int), Cond.fieldLink RX11 123 "CurveMeets$Shelf" "p" "I", Cond.fieldLink RX11 130 "CurveMeets$Past" "count" "I"]
def wsL_law_r27 : List Cond := [Cond.methodLink RX11 126 yX9_howMany, Cond.static yX9_howMany, Cond.code yX9_howMany cX9_howMany 1 (some .int), Cond.methodLink RL 36 yX12_has, Cond.instanceMethod yX12_has, Cond.selects RX12 yX12_has yX12_has, Cond.code yX12_has cX12_has 2 (some .int), Cond.methodLink RX12 274 yX12_points, Cond.instanceMethod yX12_points, Cond.selects RX12 yX12_points yX12_points, Cond.code yX12_points cX12_points 1 (some .int), Cond.methodLink RL 37 yX11_letter, Cond.instanceMethod yX11_letter, Cond.selects RX11 yX11_letter yX11_letter, Cond.code yX11_letter cX11_letter 3 (some .int), Cond.methodLink RX11 131 yX7_letterOf, Cond.instanceMethod yX7_letterOf, Cond.selects RX7 yX7_letterOf yX7_letterOf, Cond.code yX7_letterOf cX7_letterOf 3 (some .int), Cond.methodLink RX7 29 yX7_find, Cond.instanceMethod yX7_find, Cond.selects RX7 yX7_find yX7_find, Cond.code yX7_find cX7_find 2 (some (.object "CurveMeets$Poly")), Cond.methodLink RL 41 yX12_letter]
def wsL_law_r28 : List Cond := [Cond.instanceMethod yX12_letter, Cond.selects RX12 yX12_letter yX12_letter, Cond.code yX12_letter cX12_letter 3 (some .int), Cond.methodLink RX12 286 yX12_isCurve, Cond.instanceMethod yX12_isCurve, Cond.selects RX12 yX12_isCurve yX12_isCurve, Cond.code yX12_isCurve cX12_isCurve 2 (some .boolean), Cond.methodLink RX12 271 yX12_isIn, Cond.static yX12_isIn, Cond.code yX12_isIn cX12_isIn 3 (some .boolean), Cond.methodLink RL 42 yX11_term, Cond.instanceMethod yX11_term, Cond.selects RX11 yX11_term yX11_term, Cond.code yX11_term cX11_term 5 (some .int), Cond.methodLink RX11 135 yX7_find, Cond.methodLink RX11 139 yX2_fits, Cond.methodLink RX11 145 yX2_at, Cond.instanceMethod yX2_at, Cond.selects RX2 yX2_at yX2_at, Cond.code yX2_at cX2_at 3 (some .int), Cond.methodLink RL 46 yX12_term, Cond.instanceMethod yX12_term, Cond.selects RX12 yX12_term yX12_term, Cond.code yX12_term cX12_term 4 (some .int)]
def wsL_law_r29 : List Cond := [Cond.methodLink RX12 289 yX12_isTerm, Cond.static yX12_isTerm, Cond.code yX12_isTerm cX12_isTerm 2 (some .boolean), Cond.methodLink RL 47 yX11_degree, Cond.instanceMethod yX11_degree, Cond.selects RX11 yX11_degree yX11_degree, Cond.code yX11_degree cX11_degree 3 (some .int), Cond.methodLink RX11 148 yX2_top, Cond.methodLink RL 50 yX12_degree, Cond.instanceMethod yX12_degree, Cond.selects RX12 yX12_degree yX12_degree, Cond.code yX12_degree cX12_degree 2 (some .int), Cond.methodLink RL 51 yX11_value, Cond.instanceMethod yX11_value, Cond.selects RX11 yX11_value yX11_value, Cond.code yX11_value cX11_value 4 (some .int), Cond.methodLink RX11 152 yX9_go, Cond.instanceMethod yX9_go, Cond.selects RX9 yX9_go yX9_go, Cond.code yX9_go cX9_go 4 (some .boolean), Cond.methodLink RX9 25 yX9_isPoint, Cond.static yX9_isPoint, Cond.code yX9_isPoint cX9_isPoint 2 (some .boolean), Cond.methodLink RX9 21 yX9_howMany]
def wsL_law_r30 : List Cond := [Cond.methodLink RX11 155 yX9_valueOf, Cond.instanceMethod yX9_valueOf, Cond.selects RX9 yX9_valueOf yX9_valueOf, Cond.code yX9_valueOf cX9_valueOf 8 (some .int), Cond.methodLink RX9 29 yX2_top, Cond.methodLink RL 54 yX12_value, Cond.instanceMethod yX12_value, Cond.selects RX12 yX12_value yX12_value, Cond.code yX12_value cX12_value 3 (some .int), Cond.methodLink RX12 296 yX12_isPoint, Cond.instanceMethod yX12_isPoint, Cond.selects RX12 yX12_isPoint yX12_isPoint, Cond.code yX12_isPoint cX12_isPoint 2 (some .boolean), Cond.methodLink RX12 299 yX12_valueAt, Cond.instanceMethod yX12_valueAt, Cond.selects RX12 yX12_valueAt yX12_valueAt, Cond.code yX12_valueAt cX12_valueAt 3 (some .int), Cond.methodLink RX12 293 yX12_valueOf, Cond.instanceMethod yX12_valueOf, Cond.selects RX12 yX12_valueOf yX12_valueOf, Cond.code yX12_valueOf cX12_valueOf 9 (some .int), Cond.methodLink RX12 277 yX12_isNear, Cond.instanceMethod yX12_isNear, Cond.selects RX12 yX12_isNear yX12_isNear]
def wsL_law_r31 : List Cond := [Cond.code yX12_isNear cX12_isNear 2 (some .boolean), Cond.methodLink RX12 280 yX12_xOf, Cond.instanceMethod yX12_xOf, Cond.selects RX12 yX12_xOf yX12_xOf, Cond.code yX12_xOf cX12_xOf 2 (some .int), Cond.methodLink RX12 180 yX12_power, Cond.instanceMethod yX12_power, Cond.selects RX12 yX12_power yX12_power, Cond.code yX12_power cX12_power 6 (some .int), Cond.methodLink RX12 283 yX12_yOf, Cond.instanceMethod yX12_yOf, Cond.selects RX12 yX12_yOf yX12_yOf, Cond.code yX12_yOf cX12_yOf 2 (some .int), Cond.methodLink RL 55 yX11_point, Cond.instanceMethod yX11_point, Cond.selects RX11 yX11_point yX11_point, Cond.code yX11_point cX11_point 3 (some .int), Cond.methodLink RX11 159 yX11_choose, Cond.instanceMethod yX11_choose, Cond.selects RX11 yX11_choose yX11_choose, Cond.code yX11_choose cX11_choose 8 (some .int), Cond.methodLink RX11 179 yX11_hasTrait, Cond.instanceMethod yX11_hasTrait, Cond.selects RX11 yX11_hasTrait yX11_hasTrait]
def wsL_law_r32 : List Cond := [Cond.code yX11_hasTrait cX11_hasTrait 5 (some .boolean), Cond.methodLink RX11 202 yX10_look, Cond.instanceMethod yX10_look, Cond.selects RX10 yX10_look yX10_look, Cond.code yX10_look cX10_look 8 none, Cond.fieldLink RX10 38 "CurveMeets$Spot" "z" "I", Cond.methodLink RX10 26 yX2_setTo, Cond.methodLink RX10 30 yX2_top, Cond.methodLink RX10 34 yX2_at, Cond.methodLink RX10 43 yX10_addNear, Cond.instanceMethod yX10_addNear, Cond.selects RX10 yX10_addNear yX10_addNear, Cond.code yX10_addNear cX10_addNear 8 none, Cond.fieldLink RX10 51 "CurveMeets$Spot" "x" "I", Cond.fieldLink RX10 61 "CurveMeets$Spot" "y" "I", Cond.methodLink RX10 54 yX10_shifted, Cond.instanceMethod yX10_shifted, Cond.selects RX10 yX10_shifted yX10_shifted, Cond.code yX10_shifted cX10_shifted 4 (some .int), Cond.fieldLink RX10 72 "CurveMeets$View" "CHOICES" "[I", Cond.methodLink RX10 68 yX2_fits, Cond.static yX11_power, Cond.code yX11_power cX11_power 5 (some .int), Cond.methodLink RX11 299 yX11_mod]
def wsL_law_r33 : List Cond := [Cond.methodLink RX10 64 yX2_increase, Cond.instanceMethod yX2_increase, Cond.selects RX2 yX2_increase yX2_increase, Cond.code yX2_increase cX2_increase 5 none, Cond.methodLink RX2 19 yX2_at, Cond.methodLink RX2 26 yX2_put, Cond.methodLink RX10 47 yX10_addFar, Cond.instanceMethod yX10_addFar, Cond.selects RX10 yX10_addFar yX10_addFar, Cond.code yX10_addFar cX10_addFar 7 none, Cond.methodLink RX11 166 yX10_least, Cond.instanceMethod yX10_least, Cond.selects RX10 yX10_least yX10_least, Cond.code yX10_least cX10_least 2 (some .int), Cond.methodLink RX10 78 yX2_leadAt, Cond.instanceMethod yX2_leadAt, Cond.selects RX2 yX2_leadAt yX2_leadAt, Cond.code yX2_leadAt cX2_leadAt 3 (some .int), Cond.methodLink RX2 35 Lib.Math.min.name, Cond.static Lib.Math.min.name, Cond.code Lib.Math.min.name Lib.Math.min.code 2 (some .int), Cond.methodLink RX11 176 yX10_bendHere, Cond.instanceMethod yX10_bendHere, Cond.selects RX10 yX10_bendHere yX10_bendHere]
def wsL_law_r34 : List Cond := [Cond.code yX10_bendHere cX10_bendHere 7 (some .int), Cond.methodLink RX10 82 yX10_least, Cond.methodLink RL 58 yX12_point, Cond.instanceMethod yX12_point, Cond.selects RX12 yX12_point yX12_point, Cond.code yX12_point cX12_point 5 (some .int), Cond.methodLink RL 59 yX11_order, Cond.instanceMethod yX11_order, Cond.selects RX11 yX11_order yX11_order, Cond.code yX11_order cX11_order 3 (some .int), Cond.methodLink RX11 163 yX11_lookAt, Cond.instanceMethod yX11_lookAt, Cond.selects RX11 yX11_lookAt yX11_lookAt, Cond.code yX11_lookAt cX11_lookAt 4 (some .boolean), Cond.methodLink RL 62 yX12_order, Cond.instanceMethod yX12_order, Cond.selects RX12 yX12_order yX12_order, Cond.code yX12_order cX12_order 3 (some .int), Cond.methodLink RX12 316 yX12_orderAt, Cond.instanceMethod yX12_orderAt, Cond.selects RX12 yX12_orderAt yX12_orderAt, Cond.code yX12_orderAt cX12_orderAt 3 (some .int), Cond.methodLink RX12 309 yX12_laysLocal, Cond.instanceMethod yX12_laysLocal]
def wsL_law_r35 : List Cond := [Cond.selects RX12 yX12_laysLocal yX12_laysLocal, Cond.code yX12_laysLocal cX12_laysLocal 10 none, Cond.methodLink RX12 302 yX12_sets1, Cond.static yX12_sets1, Cond.code yX12_sets1 cX12_sets1 4 (some .int), Cond.methodLink RX12 305 yX12_addsPowers, Cond.instanceMethod yX12_addsPowers, Cond.selects RX12 yX12_addsPowers yX12_addsPowers, Cond.code yX12_addsPowers cX12_addsPowers 8 none, Cond.methodLink RX12 313 yX12_orderOf, Cond.instanceMethod yX12_orderOf, Cond.selects RX12 yX12_orderOf yX12_orderOf, Cond.code yX12_orderOf cX12_orderOf 5 (some .int), Cond.methodLink RL 63 yX11_local, Cond.instanceMethod yX11_local, Cond.selects RX11 yX11_local yX11_local, Cond.code yX11_local cX11_local 5 (some .int), Cond.fieldLink RX11 169 "CurveMeets$View" "poly" "LCurveMeets$Poly;", Cond.methodLink RL 67 yX12_local, Cond.instanceMethod yX12_local, Cond.selects RX12 yX12_local yX12_local, Cond.code yX12_local cX12_local 5 (some .int), Cond.methodLink RL 68 yX11_singular, Cond.instanceMethod yX11_singular]
def wsL_law_r36 : List Cond := [Cond.selects RX11 yX11_singular yX11_singular, Cond.code yX11_singular cX11_singular 3 (some .int), Cond.methodLink RL 71 yX12_singular, Cond.instanceMethod yX12_singular, Cond.selects RX12 yX12_singular yX12_singular, Cond.code yX12_singular cX12_singular 5 (some .int), Cond.methodLink RL 72 yX11_tangent, Cond.instanceMethod yX11_tangent, Cond.selects RX11 yX11_tangent yX11_tangent, Cond.code yX11_tangent cX11_tangent 9 (some .int), Cond.methodLink RX11 173 yX10_oftenTangent, Cond.instanceMethod yX10_oftenTangent, Cond.selects RX10 yX10_oftenTangent yX10_oftenTangent, Cond.code yX10_oftenTangent cX10_oftenTangent 4 (some .int), Cond.methodLink RX10 85 yX10_divideOnce, Cond.instanceMethod yX10_divideOnce, Cond.selects RX10 yX10_divideOnce yX10_divideOnce, Cond.code yX10_divideOnce cX10_divideOnce 6 (some .boolean), Cond.methodLink RL 75 yX12_tangent, Cond.instanceMethod yX12_tangent, Cond.selects RX12 yX12_tangent yX12_tangent, Cond.code yX12_tangent cX12_tangent 10 (some .int), Cond.methodLink RX12 325 yX12_oftenTangent, Cond.instanceMethod yX12_oftenTangent]
def wsL_law_r37 : List Cond := [Cond.selects RX12 yX12_oftenTangent yX12_oftenTangent, Cond.code yX12_oftenTangent cX12_oftenTangent 5 (some .int), Cond.methodLink RX12 319 yX12_atT, Cond.instanceMethod yX12_atT, Cond.selects RX12 yX12_atT yX12_atT, Cond.code yX12_atT cX12_atT 6 (some .int), Cond.methodLink RX12 322 yX12_divides, Cond.instanceMethod yX12_divides, Cond.selects RX12 yX12_divides yX12_divides, Cond.code yX12_divides cX12_divides 8 none, Cond.methodLink RL 76 yX11_bend, Cond.instanceMethod yX11_bend, Cond.selects RX11 yX11_bend yX11_bend, Cond.code yX11_bend cX11_bend 3 (some .int), Cond.methodLink RL 79 yX12_bend, Cond.instanceMethod yX12_bend, Cond.selects RX12 yX12_bend yX12_bend, Cond.code yX12_bend cX12_bend 3 (some .int), Cond.methodLink RX12 331 yX12_bendHere, Cond.instanceMethod yX12_bendHere, Cond.selects RX12 yX12_bendHere yX12_bendHere, Cond.code yX12_bendHere cX12_bendHere 9 (some .int), Cond.methodLink RX12 328 yX12_inverse, Cond.instanceMethod yX12_inverse]
def wsL_law_r38 : List Cond := [Cond.selects RX12 yX12_inverse yX12_inverse, Cond.code yX12_inverse cX12_inverse 2 (some .int), Cond.methodLink RL 80 yX11_flex, Cond.instanceMethod yX11_flex, Cond.selects RX11 yX11_flex yX11_flex, Cond.code yX11_flex cX11_flex 3 (some .int), Cond.methodLink RL 83 yX12_flex, Cond.instanceMethod yX12_flex, Cond.selects RX12 yX12_flex yX12_flex, Cond.code yX12_flex cX12_flex 6 (some .int), Cond.methodLink RL 84 yX11_genus, Cond.instanceMethod yX11_genus, Cond.selects RX11 yX11_genus yX11_genus, Cond.code yX11_genus cX11_genus 8 (some .int), Cond.methodLink RL 87 yX12_genus, Cond.instanceMethod yX12_genus, Cond.selects RX12 yX12_genus yX12_genus, Cond.code yX12_genus cX12_genus 6 (some .int), Cond.methodLink RL 88 yX11_common, Cond.instanceMethod yX11_common, Cond.selects RX11 yX11_common yX11_common, Cond.code yX11_common cX11_common 5 (some .int), Cond.methodLink RX11 183 yX6_find, Cond.instanceMethod yX6_find]
def wsL_law_r39 : List Cond := [Cond.selects RX6 yX6_find yX6_find, Cond.code yX6_find cX6_find 7 (some (.object "CurveMeets$Poly")), Cond.methodLink RX6 34 yX8_begin, Cond.instanceMethod yX8_begin, Cond.selects RX8 yX8_begin yX8_begin, Cond.code yX8_begin cX8_begin 5 none, Cond.methodLink RX8 30 Lib.Math.min.name, Cond.methodLink RX6 38 yX2_top, Cond.methodLink RX6 42 yX6_setLine, Cond.instanceMethod yX6_setLine, Cond.selects RX6 yX6_setLine yX6_setLine, Cond.code yX6_setLine cX6_setLine 6 none, Cond.methodLink RX6 69 yX6_column, Cond.static yX6_column, Cond.code yX6_column cX6_column 3 (some .int), Cond.methodLink RX6 83 yX2_at, Cond.methodLink RX6 73 yX6_setColumn, Cond.instanceMethod yX6_setColumn, Cond.selects RX6 yX6_setColumn yX6_setColumn, Cond.code yX6_setColumn cX6_setColumn 3 none, Cond.methodLink RX6 46 yX8_add, Cond.instanceMethod yX8_add, Cond.selects RX8 yX8_add yX8_add, Cond.code yX8_add cX8_add 7 (some .boolean)]
def wsL_law_r40 : List Cond := [Cond.methodLink RX8 36 yX8_keep, Cond.instanceMethod yX8_keep, Cond.selects RX8 yX8_keep yX8_keep, Cond.code yX8_keep cX8_keep 5 none, Cond.static yX11_inverse, Cond.code yX11_inverse cX11_inverse 3 (some .int), Cond.methodLink RX6 50 yX6_findCofactor, Cond.instanceMethod yX6_findCofactor, Cond.selects RX6 yX6_findCofactor yX6_findCofactor, Cond.code yX6_findCofactor cX6_findCofactor 5 none, Cond.methodLink RX6 66 yX2_setTo, Cond.methodLink RX6 77 yX6_takeCofactor, Cond.instanceMethod yX6_takeCofactor, Cond.selects RX6 yX6_takeCofactor yX6_takeCofactor, Cond.code yX6_takeCofactor cX6_takeCofactor 3 none, Cond.methodLink RX6 80 yX2_put, Cond.methodLink RX6 54 yX2_copy, Cond.methodLink RX6 58 yX2_quotient, Cond.instanceMethod yX2_quotient, Cond.selects RX2 yX2_quotient yX2_quotient, Cond.code yX2_quotient cX2_quotient 11 none, Cond.methodLink RX2 52 yX2_top, Cond.methodLink RX2 56 yX2_leadAt, Cond.methodLink RX6 62 yX2_normalize]
def wsL_law_r41 : List Cond := [Cond.instanceMethod yX2_normalize, Cond.selects RX2 yX2_normalize yX2_normalize, Cond.code yX2_normalize cX2_normalize 6 none, Cond.methodLink RL 91 yX12_common, Cond.instanceMethod yX12_common, Cond.selects RX12 yX12_common yX12_common, Cond.code yX12_common cX12_common 3 (some .int), Cond.methodLink RX12 363 yX12_areCurves, Cond.instanceMethod yX12_areCurves, Cond.selects RX12 yX12_areCurves yX12_areCurves, Cond.code yX12_areCurves cX12_areCurves 3 (some .boolean), Cond.methodLink RX12 366 yX12_laysCommon, Cond.instanceMethod yX12_laysCommon, Cond.selects RX12 yX12_laysCommon yX12_laysCommon, Cond.code yX12_laysCommon cX12_laysCommon 10 none, Cond.constantLong RX12 352 (-1), Cond.methodLink RX12 343 yX12_emptiesEquations, Cond.instanceMethod yX12_emptiesEquations, Cond.selects RX12 yX12_emptiesEquations yX12_emptiesEquations, Cond.code yX12_emptiesEquations cX12_emptiesEquations 2 none, Cond.methodLink RX12 346 yX12_addsUnknowns, Cond.instanceMethod yX12_addsUnknowns, Cond.selects RX12 yX12_addsUnknowns yX12_addsUnknowns, Cond.code yX12_addsUnknowns cX12_addsUnknowns 11 none]
def wsL_law_r42 : List Cond := [Cond.methodLink RX12 340 yX12_termAt, Cond.static yX12_termAt, Cond.code yX12_termAt cX12_termAt 2 (some .int), Cond.methodLink RX12 349 yX12_manyTerms, Cond.static yX12_manyTerms, Cond.code yX12_manyTerms cX12_manyTerms 1 (some .int), Cond.methodLink RX12 354 yX12_solves, Cond.instanceMethod yX12_solves, Cond.selects RX12 yX12_solves yX12_solves, Cond.code yX12_solves cX12_solves 10 (some .boolean), Cond.methodLink RX12 337 yX12_swapsRows, Cond.instanceMethod yX12_swapsRows, Cond.selects RX12 yX12_swapsRows yX12_swapsRows, Cond.code yX12_swapsRows cX12_swapsRows 6 none, Cond.methodLink RX12 357 yX12_dividesBy, Cond.instanceMethod yX12_dividesBy, Cond.selects RX12 yX12_dividesBy yX12_dividesBy, Cond.code yX12_dividesBy cX12_dividesBy 7 none, Cond.methodLink RX12 360 yX12_normal, Cond.instanceMethod yX12_normal, Cond.selects RX12 yX12_normal yX12_normal, Cond.code yX12_normal cX12_normal 8 none, Cond.methodLink RL 92 yX11_commonTerm, Cond.instanceMethod yX11_commonTerm]
def wsL_law_r43 : List Cond := [Cond.selects RX11 yX11_commonTerm yX11_commonTerm, Cond.code yX11_commonTerm cX11_commonTerm 7 (some .int), Cond.methodLink RL 95 yX12_commonTerm, Cond.instanceMethod yX12_commonTerm, Cond.selects RX12 yX12_commonTerm yX12_commonTerm, Cond.code yX12_commonTerm cX12_commonTerm 5 (some .int), Cond.methodLink RL 96 yX11_times, Cond.instanceMethod yX11_times, Cond.selects RX11 yX11_times yX11_times, Cond.code yX11_times cX11_times 6 (some .int), Cond.methodLink RX11 186 yX9_isPoint, Cond.methodLink RX11 189 yX11_timesAt, Cond.instanceMethod yX11_timesAt, Cond.selects RX11 yX11_timesAt yX11_timesAt, Cond.code yX11_timesAt cX11_timesAt 4 (some .int), Cond.fieldLink RX11 261 "CurveMeets$Sharing" "part" "LCurveMeets$Poly;", Cond.methodLink RX11 264 yX4_run, Cond.instanceMethod yX4_run, Cond.selects RX4 yX4_run yX4_run, Cond.code yX4_run cX4_run 6 (some .int), Cond.methodLink RX4 43 Lib.Math.max.name, Cond.methodLink RX4 31 yX4_load, Cond.static yX4_load, Cond.code yX4_load cX4_load 4 none]
def wsL_law_r44 : List Cond := [Cond.methodLink RX4 58 yX2_at, Cond.methodLink RX4 35 yX4_whichFits, Cond.instanceMethod yX4_whichFits, Cond.selects RX4 yX4_whichFits yX4_whichFits, Cond.code yX4_whichFits cX4_whichFits 3 (some .int), Cond.methodLink RX4 63 yX4_greatestPure, Cond.static yX4_greatestPure, Cond.code yX4_greatestPure cX4_greatestPure 2 (some .int), Cond.methodLink RX4 39 yX4_leastPure, Cond.static yX4_leastPure, Cond.code yX4_leastPure cX4_leastPure 2 (some .int), Cond.methodLink RX4 49 yX4_split, Cond.instanceMethod yX4_split, Cond.selects RX4 yX4_split yX4_split, Cond.code yX4_split cX4_split 3 none, Cond.methodLink RX4 52 yX4_swap, Cond.instanceMethod yX4_swap, Cond.selects RX4 yX4_swap yX4_swap, Cond.code yX4_swap cX4_swap 2 none, Cond.methodLink RX4 55 yX4_cut, Cond.instanceMethod yX4_cut, Cond.selects RX4 yX4_cut yX4_cut, Cond.code yX4_cut cX4_cut 9 none, Cond.methodLink RL 99 yX12_times]
def wsL_law_r45 : List Cond := [Cond.instanceMethod yX12_times, Cond.selects RX12 yX12_times yX12_times, Cond.code yX12_times cX12_times 4 (some .int), Cond.methodLink RX12 392 yX12_isAsked, Cond.instanceMethod yX12_isAsked, Cond.selects RX12 yX12_isAsked yX12_isAsked, Cond.code yX12_isAsked cX12_isAsked 4 (some .boolean), Cond.methodLink RX12 395 yX12_timesAt, Cond.instanceMethod yX12_timesAt, Cond.selects RX12 yX12_timesAt yX12_timesAt, Cond.code yX12_timesAt cX12_timesAt 7 (some .int), Cond.methodLink RX12 369 yX12_laysLong, Cond.instanceMethod yX12_laysLong, Cond.selects RX12 yX12_laysLong yX12_laysLong, Cond.code yX12_laysLong cX12_laysLong 6 none, Cond.methodLink RX12 373 yX12_greatestOf, Cond.static yX12_greatestOf, Cond.code yX12_greatestOf cX12_greatestOf 2 (some .int), Cond.methodLink RX12 377 yX12_goesBy, Cond.instanceMethod yX12_goesBy, Cond.selects RX12 yX12_goesBy yX12_goesBy, Cond.code yX12_goesBy cX12_goesBy 2 none, Cond.methodLink RX12 380 yX12_leastOf, Cond.static yX12_leastOf]
def wsL_law_r46 : List Cond := [Cond.code yX12_leastOf cX12_leastOf 2 (some .int), Cond.methodLink RX12 383 yX12_splits, Cond.instanceMethod yX12_splits, Cond.selects RX12 yX12_splits yX12_splits, Cond.code yX12_splits cX12_splits 3 none, Cond.methodLink RX12 386 yX12_swaps, Cond.instanceMethod yX12_swaps, Cond.selects RX12 yX12_swaps yX12_swaps, Cond.code yX12_swaps cX12_swaps 3 none, Cond.methodLink RX12 389 yX12_cuts, Cond.instanceMethod yX12_cuts, Cond.selects RX12 yX12_cuts yX12_cuts, Cond.code yX12_cuts cX12_cuts 8 none, Cond.methodLink RL 100 yX11_rules, Cond.instanceMethod yX11_rules, Cond.selects RX11 yX11_rules yX11_rules, Cond.code yX11_rules cX11_rules 5 (some .int), Cond.fieldLink RX11 196 "CurveMeets$Reduction" "often" "[I", Cond.methodLink RX11 193 yX11_times, Cond.methodLink RL 103 yX12_rules, Cond.instanceMethod yX12_rules, Cond.selects RX12 yX12_rules yX12_rules, Cond.code yX12_rules cX12_rules 5 (some .int), Cond.methodLink RL 104 yX11_rule]
def wsL_law_r47 : List Cond := [Cond.instanceMethod yX11_rule, Cond.selects RX11 yX11_rule yX11_rule, Cond.code yX11_rule cX11_rule 5 (some .int), Cond.methodLink RX11 199 yX4_kindOf, Cond.instanceMethod yX4_kindOf, Cond.selects RX4 yX4_kindOf yX4_kindOf, Cond.code yX4_kindOf cX4_kindOf 2 (some .int), Cond.methodLink RL 107 yX12_rule, Cond.instanceMethod yX12_rule, Cond.selects RX12 yX12_rule yX12_rule, Cond.code yX12_rule cX12_rule 5 (some .int), Cond.methodLink RL 108 yX11_size, Cond.instanceMethod yX11_size, Cond.selects RX11 yX11_size yX11_size, Cond.code yX11_size cX11_size 6 (some .int), Cond.methodLink RX11 206 yX5_sizeOf, Cond.instanceMethod yX5_sizeOf, Cond.selects RX5 yX5_sizeOf yX5_sizeOf, Cond.code yX5_sizeOf cX5_sizeOf 4 (some .int), Cond.methodLink RX5 54 yX5_begin, Cond.instanceMethod yX5_begin, Cond.selects RX5 yX5_begin yX5_begin, Cond.code yX5_begin cX5_begin 8 none, Cond.methodLink RX5 72 yX5_findLead]
def wsL_law_r48 : List Cond := [Cond.instanceMethod yX5_findLead, Cond.selects RX5 yX5_findLead yX5_findLead, Cond.code yX5_findLead cX5_findLead 4 none, Cond.methodLink RX5 78 yX2_leadAt, Cond.methodLink RX5 75 yX8_begin, Cond.methodLink RX5 58 yX5_addMultiples, Cond.instanceMethod yX5_addMultiples, Cond.selects RX5 yX5_addMultiples yX5_addMultiples, Cond.code yX5_addMultiples cX5_addMultiples 6 (some .int), Cond.methodLink RX5 82 yX5_setRow, Cond.instanceMethod yX5_setRow, Cond.selects RX5 yX5_setRow yX5_setRow, Cond.code yX5_setRow cX5_setRow 5 none, Cond.methodLink RX5 93 yX5_addToRow, Cond.instanceMethod yX5_addToRow, Cond.selects RX5 yX5_addToRow yX5_addToRow, Cond.code yX5_addToRow cX5_addToRow 9 none, Cond.methodLink RX5 86 yX5_reduceRow, Cond.instanceMethod yX5_reduceRow, Cond.selects RX5 yX5_reduceRow yX5_reduceRow, Cond.code yX5_reduceRow cX5_reduceRow 7 none, Cond.methodLink RX5 100 yX2_at, Cond.methodLink RX5 89 yX5_addRow, Cond.instanceMethod yX5_addRow]
def wsL_law_r49 : List Cond := [Cond.selects RX5 yX5_addRow yX5_addRow, Cond.code yX5_addRow cX5_addRow 4 (some .boolean), Cond.methodLink RX5 65 yX5_clearLine, Cond.instanceMethod yX5_clearLine, Cond.selects RX5 yX5_clearLine yX5_clearLine, Cond.code yX5_clearLine cX5_clearLine 2 none, Cond.methodLink RX5 68 yX8_add, Cond.methodLink RL 111 yX12_size, Cond.instanceMethod yX12_size, Cond.selects RX12 yX12_size yX12_size, Cond.code yX12_size cX12_size 4 (some .int), Cond.methodLink RX12 407 yX12_beginsPile, Cond.instanceMethod yX12_beginsPile, Cond.selects RX12 yX12_beginsPile yX12_beginsPile, Cond.code yX12_beginsPile cX12_beginsPile 3 none, Cond.methodLink RX12 410 yX12_pilesLocal, Cond.instanceMethod yX12_pilesLocal, Cond.selects RX12 yX12_pilesLocal yX12_pilesLocal, Cond.code yX12_pilesLocal cX12_pilesLocal 6 none, Cond.methodLink RX12 398 yX12_emptiesVector, Cond.instanceMethod yX12_emptiesVector, Cond.selects RX12 yX12_emptiesVector yX12_emptiesVector, Cond.code yX12_emptiesVector cX12_emptiesVector 2 none, Cond.methodLink RX12 401 yX12_longAt]
def wsL_law_r50 : List Cond := [Cond.static yX12_longAt, Cond.code yX12_longAt cX12_longAt 2 (some .int), Cond.methodLink RX12 404 yX12_piles, Cond.instanceMethod yX12_piles, Cond.selects RX12 yX12_piles yX12_piles, Cond.code yX12_piles cX12_piles 4 (some .boolean), Cond.methodLink RX12 334 yX12_reduced, Cond.instanceMethod yX12_reduced, Cond.selects RX12 yX12_reduced yX12_reduced, Cond.code yX12_reduced cX12_reduced 5 (some .int), Cond.methodLink RL 112 yX11_meet, Cond.instanceMethod yX11_meet, Cond.selects RX11 yX11_meet yX11_meet, Cond.code yX11_meet cX11_meet 10 (some .int), Cond.methodLink RX11 209 yX11_timesBetween, Cond.instanceMethod yX11_timesBetween, Cond.selects RX11 yX11_timesBetween yX11_timesBetween, Cond.code yX11_timesBetween cX11_timesBetween 8 (some .int), Cond.methodLink RX11 213 yX11_areBothOn, Cond.instanceMethod yX11_areBothOn, Cond.selects RX11 yX11_areBothOn yX11_areBothOn, Cond.code yX11_areBothOn cX11_areBothOn 4 (some .boolean), Cond.methodLink RL 115 yX12_meet, Cond.instanceMethod yX12_meet]
def wsL_law_r51 : List Cond := [Cond.selects RX12 yX12_meet yX12_meet, Cond.code yX12_meet cX12_meet 7 (some .int), Cond.methodLink RX12 423 yX12_timesAmong, Cond.instanceMethod yX12_timesAmong, Cond.selects RX12 yX12_timesAmong yX12_timesAmong, Cond.code yX12_timesAmong cX12_timesAmong 8 (some .int), Cond.methodLink RX12 420 yX12_areOn, Cond.instanceMethod yX12_areOn, Cond.selects RX12 yX12_areOn yX12_areOn, Cond.code yX12_areOn cX12_areOn 4 (some .boolean), Cond.methodLink RL 116 yX11_parts, Cond.instanceMethod yX11_parts, Cond.selects RX11 yX11_parts yX11_parts, Cond.code yX11_parts cX11_parts 9 (some .int), Cond.methodLink RX11 217 yX11_forms, Cond.static yX11_forms, Cond.code yX11_forms cX11_forms 1 (some .int), Cond.methodLink RL 119 yX12_parts, Cond.instanceMethod yX12_parts, Cond.selects RX12 yX12_parts yX12_parts, Cond.code yX12_parts cX12_parts 4 (some .int), Cond.methodLink RX12 417 yX12_laysForms, Cond.instanceMethod yX12_laysForms, Cond.selects RX12 yX12_laysForms yX12_laysForms]
def wsL_law_r52 : List Cond := [Cond.code yX12_laysForms cX12_laysForms 4 none, Cond.methodLink RX12 414 yX12_pilesForm, Cond.instanceMethod yX12_pilesForm, Cond.selects RX12 yX12_pilesForm yX12_pilesForm, Cond.code yX12_pilesForm cX12_pilesForm 8 none, Cond.methodLink RL 120 yX11_total, Cond.instanceMethod yX11_total, Cond.selects RX11 yX11_total yX11_total, Cond.code yX11_total cX11_total 8 (some .int), Cond.methodLink RX11 220 yX5_nearOf, Cond.instanceMethod yX5_nearOf, Cond.selects RX5 yX5_nearOf yX5_nearOf, Cond.code yX5_nearOf cX5_nearOf 8 (some .int), Cond.methodLink RX5 62 yX2_top, Cond.methodLink RL 123 yX12_total, Cond.instanceMethod yX12_total, Cond.selects RX12 yX12_total yX12_total, Cond.code yX12_total cX12_total 5 (some .int), Cond.methodLink RX12 427 yX12_near, Cond.instanceMethod yX12_near, Cond.selects RX12 yX12_near yX12_near, Cond.code yX12_near cX12_near 6 (some .int), Cond.methodLink RL 124 yX11_knot, Cond.instanceMethod yX11_knot]
def wsL_law_r53 : List Cond := [Cond.selects RX11 yX11_knot yX11_knot, Cond.code yX11_knot cX11_knot 3 (some .int), Cond.methodLink RX11 223 yX11_countOn, Cond.instanceMethod yX11_countOn, Cond.selects RX11 yX11_countOn yX11_countOn, Cond.code yX11_countOn cX11_countOn 4 (some .int), Cond.methodLink RX11 267 yX11_value, Cond.methodLink RX11 226 yX11_coupleTimes, Cond.instanceMethod yX11_coupleTimes, Cond.selects RX11 yX11_coupleTimes yX11_coupleTimes, Cond.code yX11_coupleTimes cX11_coupleTimes 8 (some .int), Cond.methodLink RL 127 yX12_knot, Cond.instanceMethod yX12_knot, Cond.selects RX12 yX12_knot yX12_knot, Cond.code yX12_knot cX12_knot 8 (some .int), Cond.methodLink RL 128 yX11_most, Cond.instanceMethod yX11_most, Cond.selects RX11 yX11_most yX11_most, Cond.code yX11_most cX11_most 11 (some .int), Cond.methodLink RL 131 yX12_most, Cond.instanceMethod yX12_most, Cond.selects RX12 yX12_most yX12_most, Cond.code yX12_most cX12_most 8 (some .int), Cond.methodLink RL 132 yX11_move]
def wsL_law_r54 : List Cond := [Cond.instanceMethod yX11_move, Cond.selects RX11 yX11_move yX11_move, Cond.code yX11_move cX11_move 7 (some .boolean), Cond.methodLink RX11 229 yX0_setMove, Cond.instanceMethod yX0_setMove, Cond.selects RX0 yX0_setMove yX0_setMove, Cond.code yX0_setMove cX0_setMove 8 (some .boolean), Cond.methodLink RX0 55 yX0_setLinear, Cond.static yX0_setLinear, Cond.code yX0_setLinear cX0_setLinear 4 none, Cond.methodLink RX0 66 yX2_setTo, Cond.methodLink RX0 70 yX2_put, Cond.methodLink RX0 59 yX0_determinant, Cond.instanceMethod yX0_determinant, Cond.selects RX0 yX0_determinant yX0_determinant, Cond.code yX0_determinant cX0_determinant 1 (some .int), Cond.methodLink RX0 63 yX2_at, Cond.methodLink RX11 233 yX1_keep, Cond.instanceMethod yX1_keep, Cond.selects RX1 yX1_keep yX1_keep, Cond.code yX1_keep cX1_keep 2 none, Cond.methodLink RX1 29 Lib.Math.min.name, Cond.methodLink RX1 25 yX7_copy, Cond.methodLink RX11 236 yX0_moveAll]
def wsL_law_r55 : List Cond := [Cond.instanceMethod yX0_moveAll, Cond.selects RX0 yX0_moveAll yX0_moveAll, Cond.code yX0_moveAll cX0_moveAll 5 none, Cond.fieldLink RX0 82 "CurveMeets$Shelf" "count" "I", Cond.methodLink RX0 74 yX0_setPowers, Cond.instanceMethod yX0_setPowers, Cond.selects RX0 yX0_setPowers yX0_setPowers, Cond.code yX0_setPowers cX0_setPowers 4 none, Cond.methodLink RX0 78 yX2_product, Cond.methodLink RX0 90 yX2_add, Cond.methodLink RX0 94 yX2_copy, Cond.methodLink RL 136 yX12_move, Cond.instanceMethod yX12_move, Cond.selects RX12 yX12_move yX12_move, Cond.code yX12_move cX12_move 8 (some .boolean), Cond.methodLink RX12 430 yX12_canMove, Cond.instanceMethod yX12_canMove, Cond.selects RX12 yX12_canMove yX12_canMove, Cond.code yX12_canMove cX12_canMove 5 (some .boolean), Cond.methodLink RX12 434 yX12_keeps, Cond.instanceMethod yX12_keeps, Cond.selects RX12 yX12_keeps yX12_keeps, Cond.code yX12_keeps cX12_keeps 3 none, Cond.methodLink RX12 437 yX12_moves]
def wsL_law_r56 : List Cond := [Cond.instanceMethod yX12_moves, Cond.selects RX12 yX12_moves yX12_moves, Cond.code yX12_moves cX12_moves 13 none, Cond.methodLink RL 137 yX11_moved, Cond.instanceMethod yX11_moved, Cond.selects RX11 yX11_moved yX11_moved, Cond.code yX11_moved cX11_moved 8 (some .int), Cond.methodLink RX11 239 yX0_whereTo, Cond.instanceMethod yX0_whereTo, Cond.selects RX0 yX0_whereTo yX0_whereTo, Cond.code yX0_whereTo cX0_whereTo 7 (some .int), Cond.fieldLink RX0 98 "CurveMeets$Spot" "x" "I", Cond.fieldLink RX0 101 "CurveMeets$Spot" "z" "I", Cond.fieldLink RX0 104 "CurveMeets$Spot" "y" "I", Cond.methodLink RL 141 yX12_moved, Cond.instanceMethod yX12_moved, Cond.selects RX12 yX12_moved yX12_moved, Cond.code yX12_moved cX12_moved 15 (some .int), Cond.methodLink RL 142 yX11_make, Cond.instanceMethod yX11_make, Cond.selects RX11 yX11_make yX11_make, Cond.code yX11_make cX11_make 5 (some .int), Cond.fieldLink RX11 247 "CurveMeets$Maker" "made" "LCurveMeets$Poly;", Cond.methodLink RX11 243 yX11_build]
def wsL_law_r57 : List Cond := [Cond.instanceMethod yX11_build, Cond.selects RX11 yX11_build yX11_build, Cond.code yX11_build cX11_build 5 (some .boolean), Cond.methodLink RX11 270 yX11_buildProduct, Cond.instanceMethod yX11_buildProduct, Cond.selects RX11 yX11_buildProduct yX11_buildProduct, Cond.code yX11_buildProduct cX11_buildProduct 3 (some .boolean), Cond.methodLink RX11 292 yX2_product, Cond.methodLink RX11 274 yX11_buildMix, Cond.instanceMethod yX11_buildMix, Cond.selects RX11 yX11_buildMix yX11_buildMix, Cond.code yX11_buildMix cX11_buildMix 4 (some .boolean), Cond.methodLink RX11 296 yX2_copy, Cond.methodLink RX11 302 yX2_add, Cond.methodLink RX11 277 yX11_buildCommon, Cond.instanceMethod yX11_buildCommon, Cond.selects RX11 yX11_buildCommon yX11_buildCommon, Cond.code yX11_buildCommon cX11_buildCommon 3 (some .boolean), Cond.methodLink RX11 280 yX0_lineThrough, Cond.instanceMethod yX0_lineThrough, Cond.selects RX0 yX0_lineThrough yX0_lineThrough, Cond.code yX0_lineThrough cX0_lineThrough 7 (some .boolean), Cond.methodLink RX0 110 yX9_go, Cond.methodLink RX0 114 yX0_setLine]
def wsL_law_r58 : List Cond := [Cond.instanceMethod yX0_setLine, Cond.selects RX0 yX0_setLine yX0_setLine, Cond.code yX0_setLine cX0_setLine 4 (some .boolean), Cond.methodLink RX0 118 yX2_top, Cond.methodLink RX0 121 yX2_normalize, Cond.methodLink RX11 284 yX0_lineTangent, Cond.instanceMethod yX0_lineTangent, Cond.selects RX0 yX0_lineTangent yX0_lineTangent, Cond.code yX0_lineTangent cX0_lineTangent 6 (some .boolean), Cond.methodLink RX11 288 yX11_buildDerivative, Cond.instanceMethod yX11_buildDerivative, Cond.selects RX11 yX11_buildDerivative yX11_buildDerivative, Cond.code yX11_buildDerivative cX11_buildDerivative 3 (some .boolean), Cond.methodLink RX11 305 yX0_derive, Cond.instanceMethod yX0_derive, Cond.selects RX0 yX0_derive yX0_derive, Cond.code yX0_derive cX0_derive 7 none, Cond.methodLink RX11 250 yX7_add, Cond.instanceMethod yX7_add, Cond.selects RX7 yX7_add yX7_add, Cond.code yX7_add cX7_add 3 (some .int), Cond.methodLink RX7 43 yX7_setLetter, Cond.methodLink RL 145 yX12_make, Cond.instanceMethod yX12_make]
def wsL_law_r59 : List Cond := [Cond.selects RX12 yX12_make yX12_make, Cond.code yX12_make cX12_make 5 (some .int), Cond.methodLink RX12 453 yX12_makes, Cond.instanceMethod yX12_makes, Cond.selects RX12 yX12_makes yX12_makes, Cond.code yX12_makes cX12_makes 5 (some .boolean), Cond.methodLink RX12 444 yX12_makesLine, Cond.instanceMethod yX12_makesLine, Cond.selects RX12 yX12_makesLine yX12_makesLine, Cond.code yX12_makesLine cX12_makesLine 8 (some .boolean), Cond.methodLink RX12 441 yX12_isLine, Cond.instanceMethod yX12_isLine, Cond.selects RX12 yX12_isLine yX12_isLine, Cond.code yX12_isLine cX12_isLine 6 (some .boolean), Cond.methodLink RX12 447 yX12_makesTangent, Cond.instanceMethod yX12_makesTangent, Cond.selects RX12 yX12_makesTangent yX12_makesTangent, Cond.code yX12_makesTangent cX12_makesTangent 5 (some .boolean), Cond.methodLink RX12 450 yX12_makesDerivative, Cond.instanceMethod yX12_makesDerivative, Cond.selects RX12 yX12_makesDerivative yX12_makesDerivative, Cond.code yX12_makesDerivative cX12_makesDerivative 6 (some .boolean), Cond.methodLink RL 146 yX11_drop, Cond.instanceMethod yX11_drop]
def wsL_law_r60 : List Cond := [Cond.selects RX11 yX11_drop yX11_drop, Cond.code yX11_drop cX11_drop 4 (some .int), Cond.methodLink RX11 254 yX7_remove, Cond.instanceMethod yX7_remove, Cond.selects RX7 yX7_remove yX7_remove, Cond.code yX7_remove cX7_remove 3 none, Cond.methodLink RL 149 yX12_drop, Cond.instanceMethod yX12_drop, Cond.selects RX12 yX12_drop yX12_drop, Cond.code yX12_drop cX12_drop 4 (some .int), Cond.methodLink RL 150 yX11_undo, Cond.instanceMethod yX11_undo, Cond.selects RX11 yX11_undo yX11_undo, Cond.code yX11_undo cX11_undo 1 (some .boolean), Cond.methodLink RX11 257 yX1_back, Cond.instanceMethod yX1_back, Cond.selects RX1 yX1_back yX1_back, Cond.code yX1_back cX1_back 2 (some .boolean), Cond.methodLink RL 154 yX12_undo, Cond.instanceMethod yX12_undo, Cond.selects RX12 yX12_undo yX12_undo, Cond.code yX12_undo cX12_undo 3 (some .boolean), Cond.methodLink RL 155 yX11_status, Cond.instanceMethod yX11_status]
def wsL_law_r61 : List Cond := [Cond.selects RX11 yX11_status yX11_status, Cond.code yX11_status cX11_status 2 (some .int), Cond.methodLink RL 158 yX12_status, Cond.instanceMethod yX12_status, Cond.selects RX12 yX12_status yX12_status, Cond.code yX12_status cX12_status 2 (some .int)]
def wsL_law : List Cond := (wsL_law_r1 ++ (wsL_law_r2 ++ (wsL_law_r3 ++ (wsL_law_r4 ++ (wsL_law_r5 ++ (wsL_law_r6 ++ (wsL_law_r7 ++ (wsL_law_r8 ++ (wsL_law_r9 ++ (wsL_law_r10 ++ (wsL_law_r11 ++ (wsL_law_r12 ++ (wsL_law_r13 ++ (wsL_law_r14 ++ (wsL_law_r15 ++ (wsL_law_r16 ++ (wsL_law_r17 ++ (wsL_law_r18 ++ (wsL_law_r19 ++ (wsL_law_r20 ++ (wsL_law_r21 ++ (wsL_law_r22 ++ (wsL_law_r23 ++ (wsL_law_r24 ++ (wsL_law_r25 ++ (wsL_law_r26 ++ (wsL_law_r27 ++ (wsL_law_r28 ++ (wsL_law_r29 ++ (wsL_law_r30 ++ (wsL_law_r31 ++ (wsL_law_r32 ++ (wsL_law_r33 ++ (wsL_law_r34 ++ (wsL_law_r35 ++ (wsL_law_r36 ++ (wsL_law_r37 ++ (wsL_law_r38 ++ (wsL_law_r39 ++ (wsL_law_r40 ++ (wsL_law_r41 ++ (wsL_law_r42 ++ (wsL_law_r43 ++ (wsL_law_r44 ++ (wsL_law_r45 ++ (wsL_law_r46 ++ (wsL_law_r47 ++ (wsL_law_r48 ++ (wsL_law_r49 ++ (wsL_law_r50 ++ (wsL_law_r51 ++ (wsL_law_r52 ++ (wsL_law_r53 ++ (wsL_law_r54 ++ (wsL_law_r55 ++ (wsL_law_r56 ++ (wsL_law_r57 ++ (wsL_law_r58 ++ (wsL_law_r59 ++ (wsL_law_r60 ++ wsL_law_r61)))))))))))))))))))))))))))))))))))))))))))))))))))))))))))) ++ wsX110 ++ wsX120 ++ wsX80 ++ wsX30 ++ wsX70 ++ wsX10 ++ wsX90 ++ wsX100 ++ wsX60 ++ wsX40 ++ wsX50 ++ wsX00 ++ wsX20 ++ ([] : List Cond)
set_option maxRecDepth 20000 in
theorem wsL_law_in : ∀ w ∈ wsL_law, w ∈ lw_tbl := fun w h => (goodIn_p wsL_law [166, 169, 174, 200, 206, 213, 294, 314, 336, 355, 380, 406, 448, 1233, 529, 533, 537, 541, 1352, 1356, 1360, 545, 1364, 1368, 549, 553, 557, 561, 566, 570, 574, 578, 584, 588, 591, 594, 599, 602, 605, 608, 612, 622, 625, 629, 633, 639, 646, 650, 654, 659, 665, 669, 673, 677, 681, 685, 688, 692, 695, 699, 703, 707, 710, 714, 719, 723, 730, 734, 738, 744, 1372, 1376, 1380, 1384, 1388, 1392, 1396, 1400, 1404, 1408, 1412, 1416, 1420, 1424, 1430, 1436, 1440, 1444, 1448, 1452, 1455, 1459, 1463, 1467, 1470, 1474, 1478, 1482, 1485, 1489, 1494, 1498, 1502, 1506, 1510, 1514, 1518, 749, 1522, 753, 756, 1526, 1530, 760, 764, 768, 1534, 1538, 1541, 772, 778, 1545, 1548, 782, 1552, 787, 791, 794, 799, 1556, 1560, 1564, 1568, 1572, 1576, 1580, 1584, 804, 808, 812, 816, 823, 827, 833, 839, 846, 850, 854, 857, 861, 1588, 866, 870, 1592, 1596, 1600, 1603, 1607, 1611, 874, 1615, 878, 1619, 882, 886, 890, 1623, 1627, 1631, 1635, 894, 1639, 1643, 1647, 898, 1651, 902, 1655, 906, 910, 914, 920, 923, 928, 932, 936, 939, 944, 949, 955, 962, 1659, 1663, 1667, 1671, 1675, 1678, 1681, 1686, 1690, 1694, 1698, 966, 1702, 970, 975, 979, 982, 987, 990, 993, 998, 1002, 1006, 1706, 1710, 1714, 1718, 1721, 1725, 1728, 1732, 1736, 1740, 1012, 1744, 1017, 1021, 1748, 1025, 1029, 1033, 1037, 1043, 1047, 1051, 1055, 1062, 1066, 1752, 1756, 1760, 1764, 1767, 1771, 1775, 1071, 1075, 1079, 1791, 1795, 1799, 1083, 1086, 1779, 1783, 1787, 1090, 1094, 1803, 1807, 1099, 1103, 1108, 1811, 1112, 1815, 1116, 1120, 1124, 1130, 1135, 1141, 1145, 1823, 1827, 1831, 1835, 1152, 1156, 1839, 1161, 1165, 1169, 1174, 1180, 1184, 1189, 1195, 1199, 1203, 1207, 1843, 1847, 1851, 1855, 1859, 1863, 1212, 1216, 1867, 1220, 1224, 1819, 1228, 1871] (by decide +kernel) (by decide +kernel) w h).1
theorem inlX0 : ∀ w ∈ wsX00, w ∈ wsL_law := fun _ h => List.mem_append_left _ (List.mem_append_left _ (List.mem_append_right _ h))
theorem inX0 : ∀ w ∈ wsX00, w ∈ lw_tbl := fun w h => wsL_law_in w (inlX0 w h)
theorem inlX1 : ∀ w ∈ wsX10, w ∈ wsL_law := fun _ h => List.mem_append_left _ (List.mem_append_left _ (List.mem_append_left _ (List.mem_append_left _ (List.mem_append_left _ (List.mem_append_left _ (List.mem_append_left _ (List.mem_append_left _ (List.mem_append_right _ h))))))))
theorem inX1 : ∀ w ∈ wsX10, w ∈ lw_tbl := fun w h => wsL_law_in w (inlX1 w h)
theorem inlX2 : ∀ w ∈ wsX20, w ∈ wsL_law := fun _ h => List.mem_append_left _ (List.mem_append_right _ h)
theorem inX2 : ∀ w ∈ wsX20, w ∈ lw_tbl := fun w h => wsL_law_in w (inlX2 w h)
theorem inlX3 : ∀ w ∈ wsX30, w ∈ wsL_law := fun _ h => List.mem_append_left _ (List.mem_append_left _ (List.mem_append_left _ (List.mem_append_left _ (List.mem_append_left _ (List.mem_append_left _ (List.mem_append_left _ (List.mem_append_left _ (List.mem_append_left _ (List.mem_append_left _ (List.mem_append_right _ h))))))))))
theorem inX3 : ∀ w ∈ wsX30, w ∈ lw_tbl := fun w h => wsL_law_in w (inlX3 w h)
theorem inlX4 : ∀ w ∈ wsX40, w ∈ wsL_law := fun _ h => List.mem_append_left _ (List.mem_append_left _ (List.mem_append_left _ (List.mem_append_left _ (List.mem_append_right _ h))))
theorem inX4 : ∀ w ∈ wsX40, w ∈ lw_tbl := fun w h => wsL_law_in w (inlX4 w h)
theorem inlX5 : ∀ w ∈ wsX50, w ∈ wsL_law := fun _ h => List.mem_append_left _ (List.mem_append_left _ (List.mem_append_left _ (List.mem_append_right _ h)))
theorem inX5 : ∀ w ∈ wsX50, w ∈ lw_tbl := fun w h => wsL_law_in w (inlX5 w h)
theorem inlX6 : ∀ w ∈ wsX60, w ∈ wsL_law := fun _ h => List.mem_append_left _ (List.mem_append_left _ (List.mem_append_left _ (List.mem_append_left _ (List.mem_append_left _ (List.mem_append_right _ h)))))
theorem inX6 : ∀ w ∈ wsX60, w ∈ lw_tbl := fun w h => wsL_law_in w (inlX6 w h)
theorem inlX7 : ∀ w ∈ wsX70, w ∈ wsL_law := fun _ h => List.mem_append_left _ (List.mem_append_left _ (List.mem_append_left _ (List.mem_append_left _ (List.mem_append_left _ (List.mem_append_left _ (List.mem_append_left _ (List.mem_append_left _ (List.mem_append_left _ (List.mem_append_right _ h)))))))))
theorem inX7 : ∀ w ∈ wsX70, w ∈ lw_tbl := fun w h => wsL_law_in w (inlX7 w h)
theorem inlX8 : ∀ w ∈ wsX80, w ∈ wsL_law := fun _ h => List.mem_append_left _ (List.mem_append_left _ (List.mem_append_left _ (List.mem_append_left _ (List.mem_append_left _ (List.mem_append_left _ (List.mem_append_left _ (List.mem_append_left _ (List.mem_append_left _ (List.mem_append_left _ (List.mem_append_left _ (List.mem_append_right _ h)))))))))))
theorem inX8 : ∀ w ∈ wsX80, w ∈ lw_tbl := fun w h => wsL_law_in w (inlX8 w h)
theorem inlX9 : ∀ w ∈ wsX90, w ∈ wsL_law := fun _ h => List.mem_append_left _ (List.mem_append_left _ (List.mem_append_left _ (List.mem_append_left _ (List.mem_append_left _ (List.mem_append_left _ (List.mem_append_left _ (List.mem_append_right _ h)))))))
theorem inX9 : ∀ w ∈ wsX90, w ∈ lw_tbl := fun w h => wsL_law_in w (inlX9 w h)
theorem inlX10 : ∀ w ∈ wsX100, w ∈ wsL_law := fun _ h => List.mem_append_left _ (List.mem_append_left _ (List.mem_append_left _ (List.mem_append_left _ (List.mem_append_left _ (List.mem_append_left _ (List.mem_append_right _ h))))))
theorem inX10 : ∀ w ∈ wsX100, w ∈ lw_tbl := fun w h => wsL_law_in w (inlX10 w h)
theorem inlX11 : ∀ w ∈ wsX110, w ∈ wsL_law := fun _ h => List.mem_append_left _ (List.mem_append_left _ (List.mem_append_left _ (List.mem_append_left _ (List.mem_append_left _ (List.mem_append_left _ (List.mem_append_left _ (List.mem_append_left _ (List.mem_append_left _ (List.mem_append_left _ (List.mem_append_left _ (List.mem_append_left _ (List.mem_append_left _ (List.mem_append_right _ h)))))))))))))
theorem inX11 : ∀ w ∈ wsX110, w ∈ lw_tbl := fun w h => wsL_law_in w (inlX11 w h)
theorem inlX12 : ∀ w ∈ wsX120, w ∈ wsL_law := fun _ h => List.mem_append_left _ (List.mem_append_left _ (List.mem_append_left _ (List.mem_append_left _ (List.mem_append_left _ (List.mem_append_left _ (List.mem_append_left _ (List.mem_append_left _ (List.mem_append_left _ (List.mem_append_left _ (List.mem_append_left _ (List.mem_append_left _ (List.mem_append_right _ h))))))))))))
theorem inX12 : ∀ w ∈ wsX120, w ∈ lw_tbl := fun w h => wsL_law_in w (inlX12 w h)
set_option maxRecDepth 20000 in
theorem ggL_law_X11_init : GoodIn wsL_law wsX11_init := goodIn_r _ [8, 9, 10, 11, 12, 13, 14, 15, 16, 17, 18, 19, 20, 21, 22, 23, 24, 25, 26, 27, 28, 29, 30, 31, 32, 33, 34, 35, 36, 37, 38, 39, 40, 41, 42, 43, 44, 45, 46, 47, 48, 49, 50, 51, 52, 53, 54, 55, 56, 57, 58, 59, 60, 61, 62, 63, 64, 65, 66, 67, 68, 69, 70, 71, 72, 73, 74, 75, 76, 77, 78, 79, 80, 81, 82, 83, 84, 85, 86, 87, 88, 89, 90, 91, 92, 93, 94, 95, 96, 97, 98, 99, 100, 101, 102, 103, 104, 105, 106, 107, 108, 109, 110, 111, 112, 113, 114, 115, 116, 117, 118, 119, 120, 121, 122, 123, 124, 125, 126, 127, 128, 129, 130, 131, 132, 133, 134, 135, 136, 137, 138, 139, 140, 141, 142, 143, 144, 145, 146, 147, 148, 149, 150, 151, 152, 153, 154, 155, 156, 157, 158, 159, 160, 161, 162, 163, 164, 165, 166, 167, 168, 169, 170, 171, 172, 173, 1496, 1497, 1498, 1499, 1500, 1501, 1502, 1503, 1504, 1505, 1506, 1507, 1508, 1509, 1510, 1511, 1512, 1513, 1446, 1447, 1448, 1449, 1450, 1451, 1452, 1453, 1454, 1455, 1456, 1457, 1458, 1514, 1515, 1516, 1517, 1518, 1519, 1520, 1521, 1522, 1523, 1524, 1525, 1526, 1527, 1528, 1529, 1530, 1531, 1532, 1533, 1534, 1535, 1536, 1537, 1538, 1539, 1540, 1541, 1542, 1543, 1544, 1545, 1546, 1547, 1548, 1549, 1550, 1551, 1552, 1553, 1554, 1555, 1556, 1557, 1558, 1559] (by decide +kernel) (by decide +kernel)
set_option maxRecDepth 20000 in
theorem gL_law_X11_init : GoodIn wsL_law (wsX11_init) := ggL_law_X11_init
set_option maxRecDepth 20000 in
theorem ggL_law_X12_init : GoodIn wsL_law wsX12_init := goodIn_r _ [176, 177, 10, 11, 52, 178, 179, 180, 181, 182, 183, 184, 185, 186, 187, 188, 189, 190, 191, 192, 193, 194, 195, 196, 197, 198, 199, 200, 201, 202, 203, 204, 205, 206, 207, 208, 209, 210, 211, 212, 213, 214, 215, 216, 1459, 1460, 1461, 1462, 1463, 1464, 1465, 1466, 1467, 1468, 1469, 1470, 1471, 1472, 1473, 1474, 1475, 1476, 1477, 1478, 1479, 1480, 1481, 1482, 1483, 1484, 1485, 1486, 1487, 1488, 1489, 1490, 1491, 1492, 1493, 1494, 1495] (by decide +kernel) (by decide +kernel)
set_option maxRecDepth 20000 in
theorem gL_law_X12_init : GoodIn wsL_law (wsX12_init) := ggL_law_X12_init
set_option maxRecDepth 20000 in
theorem ggL_law_X11_feed : GoodIn wsL_law wsX11_feed := goodIn_r _ [220, 18, 221, 222, 223, 224, 17, 225, 70, 226, 227, 228, 2, 229, 53, 230, 231, 232, 233, 75, 1446, 1447, 1448, 1449, 1450, 1451, 1452, 1453, 1454, 1455, 1456, 1457, 1458, 1501, 1502, 1503, 1504, 1505, 1506, 1507, 1508, 1509, 1510, 1511, 1512, 1513] (by decide +kernel) (by decide +kernel)
set_option maxRecDepth 20000 in
theorem gL_law_X11_feed : GoodIn wsL_law (wsV RL 13 RX11 yX11_feed wsX11_feed) := goodIn_app (goodIn_of _ (by decide +kernel)) ggL_law_X11_feed
set_option maxRecDepth 20000 in
theorem ggL_law_X12_feed : GoodIn wsL_law wsX12_feed := goodIn_r _ [237, 179, 238, 239, 240, 5, 241, 180, 242, 243, 244, 245, 178, 1459, 1460, 1461, 1462, 1463, 1464, 1465, 1466, 1467, 1468, 1469, 1470, 1471, 1472, 1473, 1474, 1475, 1476, 1477, 1478, 1479, 1480, 1481, 1482, 1483, 1484, 1485, 1486, 1487, 1488, 1489, 1490, 1491, 1492, 1493, 1494, 1495] (by decide +kernel) (by decide +kernel)
set_option maxRecDepth 20000 in
theorem gL_law_X12_feed : GoodIn wsL_law (wsV RL 17 RX12 yX12_feed wsX12_feed) := goodIn_app (goodIn_of _ (by decide +kernel)) ggL_law_X12_feed
set_option maxRecDepth 20000 in
theorem ggL_law_X11_end : GoodIn wsL_law wsX11_end := goodIn_r _ [249, 18, 221, 226, 227, 228, 2, 229, 53, 1446, 1447, 1448, 1449, 1450, 1451, 1452, 1453, 1454, 1455, 1456, 1457, 1458, 1501, 1502, 1503, 1504, 1505, 1506, 1507, 1508, 1509, 1510, 1511, 1512, 1513] (by decide +kernel) (by decide +kernel)
set_option maxRecDepth 20000 in
theorem gL_law_X11_end : GoodIn wsL_law (wsV RL 18 RX11 yX11_end wsX11_end) := goodIn_app (goodIn_of _ (by decide +kernel)) ggL_law_X11_end
set_option maxRecDepth 20000 in
theorem ggL_law_X12_end : GoodIn wsL_law wsX12_end := goodIn_r _ [253, 179, 254, 255, 256, 5, 257, 180, 1459, 1460, 1461, 1462, 1463, 1464, 1465, 1466, 1467, 1468, 1469, 1470, 1471, 1472, 1473, 1474, 1475, 1476, 1477, 1478, 1479, 1480, 1481, 1482, 1483, 1484, 1485, 1486, 1487, 1488, 1489, 1490, 1491, 1492, 1493, 1494, 1495] (by decide +kernel) (by decide +kernel)
set_option maxRecDepth 20000 in
theorem gL_law_X12_end : GoodIn wsL_law (wsV RL 22 RX12 yX12_end wsX12_end) := goodIn_app (goodIn_of _ (by decide +kernel)) ggL_law_X12_end
set_option maxRecDepth 20000 in
theorem ggL_law_X11_curves : GoodIn wsL_law wsX11_curves := goodIn_r _ [261, 18, 221, 262, 54, 263, 55, 22, 264, 26, 265, 266, 267, 268, 17, 269, 71, 72, 86, 74, 270, 271, 70, 272, 273, 274, 275, 276, 277, 278, 279, 75, 280, 281, 282, 283, 284, 285, 286, 287, 288, 289, 290, 291, 292, 293, 294, 295, 296, 297, 298, 299, 300, 301, 302, 303, 304, 305, 306, 307, 308, 309, 310, 311, 312, 313, 314, 315, 316, 317, 318, 319, 320, 321, 322, 323, 324, 325, 326, 327, 328, 329, 330, 331, 332, 333, 334, 335, 336, 337, 338, 339, 340, 341, 342, 343, 344, 345, 346, 347, 348, 349, 350, 351, 352, 353, 354, 355, 356, 357, 358, 359, 360, 361, 362, 363, 364, 365, 366, 367, 368, 369, 370, 371, 372, 77, 373, 374, 375, 376, 377, 378, 379, 21, 380, 92, 95, 381, 382, 383, 384, 385, 386, 387, 388, 80, 83, 79, 389, 390, 391, 392, 78, 393, 394, 395, 82, 396, 99, 397, 398, 399, 400, 401, 2, 402, 403, 404, 405, 406, 407, 408, 409, 410, 411, 412, 413, 84, 414, 415, 416, 417, 85, 418, 419, 420, 421, 422, 423, 424, 425, 426, 427, 428, 429, 430, 431, 432, 433, 434, 435, 436, 437, 438, 439, 440, 441, 442, 443, 444, 445, 446, 447, 448, 449, 226, 227, 228, 229, 53, 450, 451, 452, 453, 91, 94, 454, 455, 456, 457, 458, 25, 459, 105, 1446, 1447, 1448, 1449, 1450, 1451, 1452, 1453, 1454, 1455, 1456, 1457, 1458, 1501, 1502, 1503, 1504, 1505, 1506, 1507, 1508, 1509, 1510, 1511, 1512, 1513, 1514, 1515, 1516, 1517, 1559, 1518, 1519, 1520] (by decide +kernel) (by decide +kernel)
set_option maxRecDepth 20000 in
theorem gL_law_X11_curves : GoodIn wsL_law (wsV RL 23 RX11 yX11_curves wsX11_curves) := goodIn_app (goodIn_of _ (by decide +kernel)) ggL_law_X11_curves
set_option maxRecDepth 20000 in
theorem ggL_law_X12_curves : GoodIn wsL_law wsX12_curves := goodIn_r _ [463, 179, 183, 184, 186, 187, 188, 194, 181, 182, 192, 193, 215, 464, 465, 466, 5, 467, 185, 468, 469, 470, 471, 472, 473, 474, 475, 476, 477, 478, 479, 480, 481, 482, 483, 178, 484, 485, 486, 487, 488, 489, 490, 491, 492, 493, 494, 495, 496, 497, 498, 499, 500, 501, 502, 503, 504, 505, 506, 507, 508, 509, 510, 511, 512, 513, 514, 515, 516, 517, 518, 519, 520, 521, 522, 523, 524, 525, 526, 527, 528, 529, 530, 531, 532, 533, 534, 535, 536, 537, 538, 539, 198, 540, 541, 542, 543, 196, 544, 545, 546, 547, 548, 549, 550, 189, 551, 552, 553, 554, 555, 556, 557, 558, 559, 560, 561, 562, 563, 564, 565, 566, 567, 568, 569, 570, 571, 572, 573, 197, 574, 575, 576, 577, 578, 579, 580, 581, 582, 583, 584, 585, 191, 586, 587, 588, 589, 590, 591, 592, 593, 594, 595, 596, 597, 598, 599, 600, 601, 602, 603, 604, 605, 606, 607, 608, 609, 238, 239, 240, 241, 180, 1459, 1460, 1461, 1462, 1463, 1464, 1465, 1466, 1467, 1468, 1469, 1470, 1471, 1472, 1473, 1474, 1475, 1476, 1477, 1478, 1479, 1480, 1481, 1482, 1483, 1484, 1485, 1486, 1487, 1488, 1489, 1490, 1491, 1492, 1493, 1494, 1495] (by decide +kernel) (by decide +kernel)
set_option maxRecDepth 20000 in
theorem gL_law_X12_curves : GoodIn wsL_law (wsV RL 27 RX12 yX12_curves wsX12_curves) := goodIn_app (goodIn_of _ (by decide +kernel)) ggL_law_X12_curves
set_option maxRecDepth 20000 in
theorem ggL_law_X11_fault : GoodIn wsL_law wsX11_fault := goodIn_r _ [613, 54, 55, 1446, 1447, 1448, 1449, 1450, 1451, 1452, 1453, 1454, 1455, 1456, 1457, 1458] (by decide +kernel) (by decide +kernel)
set_option maxRecDepth 20000 in
theorem gL_law_X11_fault : GoodIn wsL_law (wsV RL 28 RX11 yX11_fault wsX11_fault) := goodIn_app (goodIn_of _ (by decide +kernel)) ggL_law_X11_fault
set_option maxRecDepth 20000 in
theorem ggL_law_X12_fault : GoodIn wsL_law wsX12_fault := goodIn_r _ [617, 181, 182, 1459, 1460, 1461, 1462, 1463, 1464, 1465, 1466, 1467, 1468, 1469, 1470, 1471, 1472, 1473, 1474, 1475, 1476, 1477, 1478, 1479, 1480, 1481, 1482, 1483, 1484, 1485, 1486, 1487, 1488, 1489, 1490, 1491, 1492, 1493, 1494, 1495] (by decide +kernel) (by decide +kernel)
set_option maxRecDepth 20000 in
theorem gL_law_X12_fault : GoodIn wsL_law (wsV RL 32 RX12 yX12_fault wsX12_fault) := goodIn_app (goodIn_of _ (by decide +kernel)) ggL_law_X12_fault
set_option maxRecDepth 20000 in
theorem ggL_law_X11_has : GoodIn wsL_law wsX11_has := goodIn_r _ [621, 22, 622, 265, 26, 623, 624, 625, 29, 626, 1446, 1447, 1448, 1449, 1450, 1451, 1452, 1453, 1454, 1455, 1456, 1457, 1458, 1514, 1515, 1516, 1517, 1518, 1519, 1520] (by decide +kernel) (by decide +kernel)
set_option maxRecDepth 20000 in
theorem gL_law_X11_has : GoodIn wsL_law (wsV RL 33 RX11 yX11_has wsX11_has) := goodIn_app (goodIn_of _ (by decide +kernel)) ggL_law_X11_has
set_option maxRecDepth 20000 in
theorem ggL_law_X12_has : GoodIn wsL_law wsX12_has := goodIn_r _ [630, 188, 192, 215, 631, 632, 633, 5, 634, 1459, 1460, 1461, 1462, 1463, 1464, 1465, 1466, 1467, 1468, 1469, 1470, 1471, 1472, 1473, 1474, 1475, 1476, 1477, 1478, 1479, 1480, 1481, 1482, 1483, 1484, 1485, 1486, 1487, 1488, 1489, 1490, 1491, 1492, 1493, 1494, 1495] (by decide +kernel) (by decide +kernel)
set_option maxRecDepth 20000 in
theorem gL_law_X12_has : GoodIn wsL_law (wsV RL 36 RX12 yX12_has wsX12_has) := goodIn_app (goodIn_of _ (by decide +kernel)) ggL_law_X12_has
set_option maxRecDepth 20000 in
theorem ggL_law_X11_letter : GoodIn wsL_law wsX11_letter := goodIn_r _ [638, 22, 639, 640, 641, 21, 642, 95, 643, 644, 645, 646, 92, 94, 1446, 1447, 1448, 1449, 1450, 1451, 1452, 1453, 1454, 1455, 1456, 1457, 1458, 1514, 1515, 1516, 1517] (by decide +kernel) (by decide +kernel)
set_option maxRecDepth 20000 in
theorem gL_law_X11_letter : GoodIn wsL_law (wsV RL 37 RX11 yX11_letter wsX11_letter) := goodIn_app (goodIn_of _ (by decide +kernel)) ggL_law_X11_letter
set_option maxRecDepth 20000 in
theorem ggL_law_X12_letter : GoodIn wsL_law wsX12_letter := goodIn_r _ [650, 193, 651, 652, 653, 5, 654, 192, 655, 656, 657, 1459, 1460, 1461, 1462, 1463, 1464, 1465, 1466, 1467, 1468, 1469, 1470, 1471, 1472, 1473, 1474, 1475, 1476, 1477, 1478, 1479, 1480, 1481, 1482, 1483, 1484, 1485, 1486, 1487, 1488, 1489, 1490, 1491, 1492, 1493, 1494, 1495] (by decide +kernel) (by decide +kernel)
set_option maxRecDepth 20000 in
theorem gL_law_X12_letter : GoodIn wsL_law (wsV RL 41 RX12 yX12_letter wsX12_letter) := goodIn_app (goodIn_of _ (by decide +kernel)) ggL_law_X12_letter
set_option maxRecDepth 20000 in
theorem ggL_law_X11_term : GoodIn wsL_law wsX11_term := goodIn_r _ [661, 22, 662, 644, 645, 21, 646, 92, 94, 663, 408, 82, 409, 664, 665, 666, 667, 99, 407, 1446, 1447, 1448, 1449, 1450, 1451, 1452, 1453, 1454, 1455, 1456, 1457, 1458, 1514, 1515, 1516, 1517, 1559] (by decide +kernel) (by decide +kernel)
set_option maxRecDepth 20000 in
theorem gL_law_X11_term : GoodIn wsL_law (wsV RL 42 RX11 yX11_term wsX11_term) := goodIn_app (goodIn_of _ (by decide +kernel)) ggL_law_X11_term
set_option maxRecDepth 20000 in
theorem ggL_law_X12_term : GoodIn wsL_law wsX12_term := goodIn_r _ [671, 651, 652, 653, 5, 654, 192, 655, 656, 657, 672, 673, 674, 586, 587, 588, 589, 189, 1459, 1460, 1461, 1462, 1463, 1464, 1465, 1466, 1467, 1468, 1469, 1470, 1471, 1472, 1473, 1474, 1475, 1476, 1477, 1478, 1479, 1480, 1481, 1482, 1483, 1484, 1485, 1486, 1487, 1488, 1489, 1490, 1491, 1492, 1493, 1494, 1495] (by decide +kernel) (by decide +kernel)
set_option maxRecDepth 20000 in
theorem gL_law_X12_term : GoodIn wsL_law (wsV RL 46 RX12 yX12_term wsX12_term) := goodIn_app (goodIn_of _ (by decide +kernel)) ggL_law_X12_term
set_option maxRecDepth 20000 in
theorem ggL_law_X11_degree : GoodIn wsL_law wsX11_degree := goodIn_r _ [678, 22, 662, 644, 645, 21, 646, 92, 94, 679, 419, 420, 82, 421, 99, 422, 423, 358, 424, 1446, 1447, 1448, 1449, 1450, 1451, 1452, 1453, 1454, 1455, 1456, 1457, 1458, 1514, 1515, 1516, 1517, 1559] (by decide +kernel) (by decide +kernel)
set_option maxRecDepth 20000 in
theorem gL_law_X11_degree : GoodIn wsL_law (wsV RL 47 RX11 yX11_degree wsX11_degree) := goodIn_app (goodIn_of _ (by decide +kernel)) ggL_law_X11_degree
set_option maxRecDepth 20000 in
theorem ggL_law_X12_degree : GoodIn wsL_law wsX12_degree := goodIn_r _ [683, 651, 652, 653, 5, 654, 192, 655, 656, 657, 606, 607, 608, 609, 586, 587, 588, 589, 189, 1459, 1460, 1461, 1462, 1463, 1464, 1465, 1466, 1467, 1468, 1469, 1470, 1471, 1472, 1473, 1474, 1475, 1476, 1477, 1478, 1479, 1480, 1481, 1482, 1483, 1484, 1485, 1486, 1487, 1488, 1489, 1490, 1491, 1492, 1493, 1494, 1495] (by decide +kernel) (by decide +kernel)
set_option maxRecDepth 20000 in
theorem gL_law_X12_degree : GoodIn wsL_law (wsV RL 50 RX12 yX12_degree wsX12_degree) := goodIn_app (goodIn_of _ (by decide +kernel)) ggL_law_X12_degree
set_option maxRecDepth 20000 in
theorem ggL_law_X11_value : GoodIn wsL_law wsX11_value := goodIn_r _ [687, 22, 30, 622, 662, 644, 645, 21, 646, 92, 94, 688, 689, 690, 29, 691, 113, 114, 115, 692, 693, 694, 695, 625, 626, 696, 697, 698, 699, 700, 419, 420, 82, 421, 99, 422, 423, 358, 424, 1446, 1447, 1448, 1449, 1450, 1451, 1452, 1453, 1454, 1455, 1456, 1457, 1458, 1514, 1515, 1516, 1517, 1521, 1522, 1523, 1559] (by decide +kernel) (by decide +kernel)
set_option maxRecDepth 20000 in
theorem gL_law_X11_value : GoodIn wsL_law (wsV RL 51 RX11 yX11_value wsX11_value) := goodIn_app (goodIn_of _ (by decide +kernel)) ggL_law_X11_value
set_option maxRecDepth 20000 in
theorem ggL_law_X12_value : GoodIn wsL_law wsX12_value := goodIn_r _ [704, 651, 652, 653, 5, 654, 192, 655, 656, 657, 705, 706, 707, 708, 631, 632, 633, 634, 188, 709, 710, 711, 712, 606, 607, 608, 609, 586, 587, 588, 589, 189, 713, 714, 715, 716, 717, 718, 719, 720, 721, 722, 723, 724, 725, 726, 727, 728, 566, 567, 568, 569, 729, 730, 731, 732, 1459, 1460, 1461, 1462, 1463, 1464, 1465, 1466, 1467, 1468, 1469, 1470, 1471, 1472, 1473, 1474, 1475, 1476, 1477, 1478, 1479, 1480, 1481, 1482, 1483, 1484, 1485, 1486, 1487, 1488, 1489, 1490, 1491, 1492, 1493, 1494, 1495] (by decide +kernel) (by decide +kernel)
set_option maxRecDepth 20000 in
theorem gL_law_X12_value : GoodIn wsL_law (wsV RL 54 RX12 yX12_value wsX12_value) := goodIn_app (goodIn_of _ (by decide +kernel)) ggL_law_X12_value
set_option maxRecDepth 20000 in
theorem ggL_law_X11_point : GoodIn wsL_law wsX11_point := goodIn_r _ [736, 737, 738, 739, 2, 740, 22, 622, 662, 644, 645, 21, 646, 92, 94, 624, 625, 29, 626, 741, 742, 743, 744, 30, 34, 688, 689, 690, 691, 113, 114, 115, 692, 693, 694, 695, 696, 697, 698, 699, 700, 419, 420, 82, 421, 99, 422, 423, 358, 424, 745, 746, 747, 33, 748, 122, 120, 749, 750, 394, 395, 396, 751, 752, 665, 666, 667, 407, 408, 409, 753, 754, 755, 756, 757, 758, 759, 760, 761, 762, 763, 764, 765, 766, 767, 401, 402, 768, 769, 770, 771, 772, 773, 404, 405, 406, 774, 775, 776, 777, 778, 779, 780, 781, 782, 783, 784, 785, 786, 787, 788, 789, 790, 791, 792, 793, 1446, 1447, 1448, 1449, 1450, 1451, 1452, 1453, 1454, 1455, 1456, 1457, 1458, 1514, 1515, 1516, 1517, 1521, 1522, 1523, 1559, 1524, 1525, 1526] (by decide +kernel) (by decide +kernel)
set_option maxRecDepth 20000 in
theorem gL_law_X11_point : GoodIn wsL_law (wsV RL 55 RX11 yX11_point wsX11_point) := goodIn_app (goodIn_of _ (by decide +kernel)) ggL_law_X11_point
set_option maxRecDepth 20000 in
theorem ggL_law_X12_point : GoodIn wsL_law wsX12_point := goodIn_r _ [797, 651, 652, 653, 5, 654, 192, 655, 656, 657, 631, 632, 633, 634, 188, 709, 710, 711, 712, 606, 607, 608, 609, 586, 587, 588, 589, 189, 713, 714, 715, 716, 717, 718, 719, 720, 721, 722, 723, 724, 725, 726, 727, 728, 566, 567, 568, 569, 729, 730, 731, 732, 1459, 1460, 1461, 1462, 1463, 1464, 1465, 1466, 1467, 1468, 1469, 1470, 1471, 1472, 1473, 1474, 1475, 1476, 1477, 1478, 1479, 1480, 1481, 1482, 1483, 1484, 1485, 1486, 1487, 1488, 1489, 1490, 1491, 1492, 1493, 1494, 1495] (by decide +kernel) (by decide +kernel)
set_option maxRecDepth 20000 in
theorem gL_law_X12_point : GoodIn wsL_law (wsV RL 58 RX12 yX12_point wsX12_point) := goodIn_app (goodIn_of _ (by decide +kernel)) ggL_law_X12_point
set_option maxRecDepth 20000 in
theorem ggL_law_X11_order : GoodIn wsL_law wsX11_order := goodIn_r _ [801, 34, 802, 803, 804, 2, 805, 22, 30, 622, 662, 644, 645, 21, 646, 92, 94, 688, 689, 690, 29, 691, 113, 114, 115, 692, 693, 694, 695, 625, 626, 745, 746, 747, 33, 748, 122, 120, 749, 750, 394, 395, 82, 396, 99, 751, 419, 420, 421, 422, 423, 358, 424, 752, 665, 666, 667, 407, 408, 409, 753, 754, 755, 756, 757, 758, 759, 760, 761, 762, 763, 764, 765, 766, 767, 401, 402, 768, 769, 770, 771, 772, 773, 404, 405, 406, 774, 775, 776, 777, 778, 779, 780, 781, 782, 783, 784, 785, 786, 787, 788, 1446, 1447, 1448, 1449, 1450, 1451, 1452, 1453, 1454, 1455, 1456, 1457, 1458, 1514, 1515, 1516, 1517, 1521, 1522, 1523, 1524, 1525, 1526, 1559] (by decide +kernel) (by decide +kernel)
set_option maxRecDepth 20000 in
theorem gL_law_X11_order : GoodIn wsL_law (wsV RL 59 RX11 yX11_order wsX11_order) := goodIn_app (goodIn_of _ (by decide +kernel)) ggL_law_X11_order
set_option maxRecDepth 20000 in
theorem ggL_law_X12_order : GoodIn wsL_law wsX12_order := goodIn_r _ [809, 651, 652, 653, 5, 654, 192, 655, 656, 657, 705, 706, 707, 708, 631, 632, 633, 634, 188, 810, 811, 812, 813, 814, 815, 816, 817, 606, 607, 608, 609, 586, 587, 588, 589, 189, 547, 548, 549, 550, 717, 718, 719, 720, 818, 819, 820, 729, 730, 731, 732, 725, 726, 727, 728, 566, 567, 568, 569, 721, 722, 723, 724, 821, 822, 823, 824, 562, 563, 564, 565, 825, 826, 827, 828, 1459, 1460, 1461, 1462, 1463, 1464, 1465, 1466, 1467, 1468, 1469, 1470, 1471, 1472, 1473, 1474, 1475, 1476, 1477, 1478, 1479, 1480, 1481, 1482, 1483, 1484, 1485, 1486, 1487, 1488, 1489, 1490, 1491, 1492, 1493, 1494, 1495] (by decide +kernel) (by decide +kernel)
set_option maxRecDepth 20000 in
theorem gL_law_X12_order : GoodIn wsL_law (wsV RL 62 RX12 yX12_order wsX12_order) := goodIn_app (goodIn_of _ (by decide +kernel)) ggL_law_X12_order
set_option maxRecDepth 20000 in
theorem ggL_law_X11_local : GoodIn wsL_law wsX11_local := goodIn_r _ [832, 34, 833, 802, 803, 804, 2, 805, 22, 30, 622, 662, 644, 645, 21, 646, 92, 94, 688, 689, 690, 29, 691, 113, 114, 115, 692, 693, 694, 695, 625, 626, 745, 746, 747, 33, 748, 122, 120, 749, 750, 394, 395, 82, 396, 99, 751, 419, 420, 421, 422, 423, 358, 424, 752, 665, 666, 667, 407, 408, 409, 753, 754, 755, 756, 757, 758, 759, 760, 761, 762, 763, 764, 765, 766, 767, 401, 402, 768, 769, 770, 771, 772, 773, 404, 405, 406, 774, 775, 776, 777, 663, 664, 1446, 1447, 1448, 1449, 1450, 1451, 1452, 1453, 1454, 1455, 1456, 1457, 1458, 1524, 1525, 1526, 1514, 1515, 1516, 1517, 1521, 1522, 1523, 1559] (by decide +kernel) (by decide +kernel)
set_option maxRecDepth 20000 in
theorem gL_law_X11_local : GoodIn wsL_law (wsV RL 63 RX11 yX11_local wsX11_local) := goodIn_app (goodIn_of _ (by decide +kernel)) ggL_law_X11_local
set_option maxRecDepth 20000 in
theorem ggL_law_X12_local : GoodIn wsL_law wsX12_local := goodIn_r _ [837, 651, 652, 653, 5, 654, 192, 655, 656, 657, 705, 706, 707, 708, 631, 632, 633, 634, 188, 672, 673, 674, 814, 815, 816, 817, 606, 607, 608, 609, 586, 587, 588, 589, 189, 547, 548, 549, 550, 717, 718, 719, 720, 818, 819, 820, 729, 730, 731, 732, 725, 726, 727, 728, 566, 567, 568, 569, 721, 722, 723, 724, 821, 822, 823, 824, 562, 563, 564, 565, 1459, 1460, 1461, 1462, 1463, 1464, 1465, 1466, 1467, 1468, 1469, 1470, 1471, 1472, 1473, 1474, 1475, 1476, 1477, 1478, 1479, 1480, 1481, 1482, 1483, 1484, 1485, 1486, 1487, 1488, 1489, 1490, 1491, 1492, 1493, 1494, 1495] (by decide +kernel) (by decide +kernel)
set_option maxRecDepth 20000 in
theorem gL_law_X12_local : GoodIn wsL_law (wsV RL 67 RX12 yX12_local wsX12_local) := goodIn_app (goodIn_of _ (by decide +kernel)) ggL_law_X12_local
set_option maxRecDepth 20000 in
theorem ggL_law_X11_singular : GoodIn wsL_law wsX11_singular := goodIn_r _ [841, 737, 738, 739, 2, 740, 22, 622, 662, 644, 645, 21, 646, 92, 94, 624, 625, 29, 626, 741, 742, 743, 744, 30, 34, 688, 689, 690, 691, 113, 114, 115, 692, 693, 694, 695, 696, 697, 698, 699, 700, 419, 420, 82, 421, 99, 422, 423, 358, 424, 745, 746, 747, 33, 748, 122, 120, 749, 750, 394, 395, 396, 751, 752, 665, 666, 667, 407, 408, 409, 753, 754, 755, 756, 757, 758, 759, 760, 761, 762, 763, 764, 765, 766, 767, 401, 402, 768, 769, 770, 771, 772, 773, 404, 405, 406, 774, 775, 776, 777, 778, 779, 780, 781, 782, 783, 784, 785, 786, 787, 788, 789, 790, 791, 792, 793, 1446, 1447, 1448, 1449, 1450, 1451, 1452, 1453, 1454, 1455, 1456, 1457, 1458, 1514, 1515, 1516, 1517, 1521, 1522, 1523, 1559, 1524, 1525, 1526] (by decide +kernel) (by decide +kernel)
set_option maxRecDepth 20000 in
theorem gL_law_X11_singular : GoodIn wsL_law (wsV RL 68 RX11 yX11_singular wsX11_singular) := goodIn_app (goodIn_of _ (by decide +kernel)) ggL_law_X11_singular
set_option maxRecDepth 20000 in
theorem ggL_law_X12_singular : GoodIn wsL_law wsX12_singular := goodIn_r _ [845, 651, 652, 653, 5, 654, 192, 655, 656, 657, 631, 632, 633, 634, 188, 810, 811, 812, 813, 814, 815, 816, 817, 606, 607, 608, 609, 586, 587, 588, 589, 189, 547, 548, 549, 550, 717, 718, 719, 720, 818, 819, 820, 729, 730, 731, 732, 725, 726, 727, 728, 566, 567, 568, 569, 721, 722, 723, 724, 821, 822, 823, 824, 562, 563, 564, 565, 825, 826, 827, 828, 1459, 1460, 1461, 1462, 1463, 1464, 1465, 1466, 1467, 1468, 1469, 1470, 1471, 1472, 1473, 1474, 1475, 1476, 1477, 1478, 1479, 1480, 1481, 1482, 1483, 1484, 1485, 1486, 1487, 1488, 1489, 1490, 1491, 1492, 1493, 1494, 1495] (by decide +kernel) (by decide +kernel)
set_option maxRecDepth 20000 in
theorem gL_law_X12_singular : GoodIn wsL_law (wsV RL 71 RX12 yX12_singular wsX12_singular) := goodIn_app (goodIn_of _ (by decide +kernel)) ggL_law_X12_singular
set_option maxRecDepth 20000 in
theorem ggL_law_X11_tangent : GoodIn wsL_law wsX11_tangent := goodIn_r _ [849, 34, 22, 622, 802, 803, 804, 2, 805, 30, 662, 644, 645, 21, 646, 92, 94, 688, 689, 690, 29, 691, 113, 114, 115, 692, 693, 694, 695, 625, 626, 745, 746, 747, 33, 748, 122, 120, 749, 750, 394, 395, 82, 396, 99, 751, 419, 420, 421, 422, 423, 358, 424, 752, 665, 666, 667, 407, 408, 409, 753, 754, 755, 756, 757, 758, 759, 760, 761, 762, 763, 764, 765, 766, 767, 401, 402, 768, 769, 770, 771, 772, 773, 404, 405, 406, 774, 775, 776, 777, 778, 779, 780, 781, 782, 783, 784, 785, 786, 787, 788, 850, 851, 852, 853, 121, 793, 854, 855, 856, 857, 1446, 1447, 1448, 1449, 1450, 1451, 1452, 1453, 1454, 1455, 1456, 1457, 1458, 1514, 1515, 1516, 1517, 1521, 1522, 1523, 1524, 1525, 1526, 1559] (by decide +kernel) (by decide +kernel)
set_option maxRecDepth 20000 in
theorem gL_law_X11_tangent : GoodIn wsL_law (wsV RL 72 RX11 yX11_tangent wsX11_tangent) := goodIn_app (goodIn_of _ (by decide +kernel)) ggL_law_X11_tangent
set_option maxRecDepth 20000 in
theorem ggL_law_X12_tangent : GoodIn wsL_law wsX12_tangent := goodIn_r _ [861, 188, 651, 652, 653, 5, 654, 192, 655, 656, 657, 705, 706, 707, 708, 631, 632, 633, 634, 709, 710, 711, 712, 606, 607, 608, 609, 586, 587, 588, 589, 189, 713, 714, 715, 716, 717, 718, 719, 720, 721, 722, 723, 724, 725, 726, 727, 728, 566, 567, 568, 569, 729, 730, 731, 732, 810, 811, 812, 813, 814, 815, 816, 817, 547, 548, 549, 550, 818, 819, 820, 821, 822, 823, 824, 562, 563, 564, 565, 825, 826, 827, 828, 862, 863, 864, 865, 199, 866, 867, 868, 869, 870, 871, 872, 873, 1459, 1460, 1461, 1462, 1463, 1464, 1465, 1466, 1467, 1468, 1469, 1470, 1471, 1472, 1473, 1474, 1475, 1476, 1477, 1478, 1479, 1480, 1481, 1482, 1483, 1484, 1485, 1486, 1487, 1488, 1489, 1490, 1491, 1492, 1493, 1494, 1495] (by decide +kernel) (by decide +kernel)
set_option maxRecDepth 20000 in
theorem gL_law_X12_tangent : GoodIn wsL_law (wsV RL 75 RX12 yX12_tangent wsX12_tangent) := goodIn_app (goodIn_of _ (by decide +kernel)) ggL_law_X12_tangent
set_option maxRecDepth 20000 in
theorem ggL_law_X11_bend : GoodIn wsL_law wsX11_bend := goodIn_r _ [877, 34, 802, 803, 804, 2, 805, 22, 30, 622, 662, 644, 645, 21, 646, 92, 94, 688, 689, 690, 29, 691, 113, 114, 115, 692, 693, 694, 695, 625, 626, 745, 746, 747, 33, 748, 122, 120, 749, 750, 394, 395, 82, 396, 99, 751, 419, 420, 421, 422, 423, 358, 424, 752, 665, 666, 667, 407, 408, 409, 753, 754, 755, 756, 757, 758, 759, 760, 761, 762, 763, 764, 765, 766, 767, 401, 402, 768, 769, 770, 771, 772, 773, 404, 405, 406, 774, 775, 776, 777, 789, 790, 791, 792, 793, 779, 780, 781, 782, 783, 784, 785, 786, 787, 788, 1446, 1447, 1448, 1449, 1450, 1451, 1452, 1453, 1454, 1455, 1456, 1457, 1458, 1514, 1515, 1516, 1517, 1521, 1522, 1523, 1524, 1525, 1526, 1559] (by decide +kernel) (by decide +kernel)
set_option maxRecDepth 20000 in
theorem gL_law_X11_bend : GoodIn wsL_law (wsV RL 76 RX11 yX11_bend wsX11_bend) := goodIn_app (goodIn_of _ (by decide +kernel)) ggL_law_X11_bend
set_option maxRecDepth 20000 in
theorem ggL_law_X12_bend : GoodIn wsL_law wsX12_bend := goodIn_r _ [881, 651, 652, 653, 5, 654, 192, 655, 656, 657, 705, 706, 707, 708, 631, 632, 633, 634, 188, 810, 811, 812, 813, 814, 815, 816, 817, 606, 607, 608, 609, 586, 587, 588, 589, 189, 547, 548, 549, 550, 717, 718, 719, 720, 818, 819, 820, 729, 730, 731, 732, 725, 726, 727, 728, 566, 567, 568, 569, 721, 722, 723, 724, 821, 822, 823, 824, 562, 563, 564, 565, 825, 826, 827, 828, 882, 883, 884, 885, 886, 887, 888, 889, 1459, 1460, 1461, 1462, 1463, 1464, 1465, 1466, 1467, 1468, 1469, 1470, 1471, 1472, 1473, 1474, 1475, 1476, 1477, 1478, 1479, 1480, 1481, 1482, 1483, 1484, 1485, 1486, 1487, 1488, 1489, 1490, 1491, 1492, 1493, 1494, 1495] (by decide +kernel) (by decide +kernel)
set_option maxRecDepth 20000 in
theorem gL_law_X12_bend : GoodIn wsL_law (wsV RL 79 RX12 yX12_bend wsX12_bend) := goodIn_app (goodIn_of _ (by decide +kernel)) ggL_law_X12_bend
set_option maxRecDepth 20000 in
theorem ggL_law_X11_flex : GoodIn wsL_law wsX11_flex := goodIn_r _ [893, 737, 738, 739, 2, 740, 22, 622, 662, 644, 645, 21, 646, 92, 94, 624, 625, 29, 626, 741, 742, 743, 744, 30, 34, 688, 689, 690, 691, 113, 114, 115, 692, 693, 694, 695, 696, 697, 698, 699, 700, 419, 420, 82, 421, 99, 422, 423, 358, 424, 745, 746, 747, 33, 748, 122, 120, 749, 750, 394, 395, 396, 751, 752, 665, 666, 667, 407, 408, 409, 753, 754, 755, 756, 757, 758, 759, 760, 761, 762, 763, 764, 765, 766, 767, 401, 402, 768, 769, 770, 771, 772, 773, 404, 405, 406, 774, 775, 776, 777, 778, 779, 780, 781, 782, 783, 784, 785, 786, 787, 788, 789, 790, 791, 792, 793, 1446, 1447, 1448, 1449, 1450, 1451, 1452, 1453, 1454, 1455, 1456, 1457, 1458, 1514, 1515, 1516, 1517, 1521, 1522, 1523, 1559, 1524, 1525, 1526] (by decide +kernel) (by decide +kernel)
set_option maxRecDepth 20000 in
theorem gL_law_X11_flex : GoodIn wsL_law (wsV RL 80 RX11 yX11_flex wsX11_flex) := goodIn_app (goodIn_of _ (by decide +kernel)) ggL_law_X11_flex
set_option maxRecDepth 20000 in
theorem ggL_law_X12_flex : GoodIn wsL_law wsX12_flex := goodIn_r _ [897, 651, 652, 653, 5, 654, 192, 655, 656, 657, 631, 632, 633, 634, 188, 810, 811, 812, 813, 814, 815, 816, 817, 606, 607, 608, 609, 586, 587, 588, 589, 189, 547, 548, 549, 550, 717, 718, 719, 720, 818, 819, 820, 729, 730, 731, 732, 725, 726, 727, 728, 566, 567, 568, 569, 721, 722, 723, 724, 821, 822, 823, 824, 562, 563, 564, 565, 825, 826, 827, 828, 882, 883, 884, 885, 886, 887, 888, 889, 1459, 1460, 1461, 1462, 1463, 1464, 1465, 1466, 1467, 1468, 1469, 1470, 1471, 1472, 1473, 1474, 1475, 1476, 1477, 1478, 1479, 1480, 1481, 1482, 1483, 1484, 1485, 1486, 1487, 1488, 1489, 1490, 1491, 1492, 1493, 1494, 1495] (by decide +kernel) (by decide +kernel)
set_option maxRecDepth 20000 in
theorem gL_law_X12_flex : GoodIn wsL_law (wsV RL 83 RX12 yX12_flex wsX12_flex) := goodIn_app (goodIn_of _ (by decide +kernel)) ggL_law_X12_flex
set_option maxRecDepth 20000 in
theorem ggL_law_X11_genus : GoodIn wsL_law wsX11_genus := goodIn_r _ [901, 22, 622, 34, 662, 644, 645, 21, 646, 92, 94, 679, 419, 420, 82, 421, 99, 422, 423, 358, 424, 624, 625, 29, 626, 741, 742, 743, 2, 744, 30, 688, 689, 690, 691, 113, 114, 115, 692, 693, 694, 695, 696, 697, 698, 699, 700, 745, 746, 747, 33, 748, 122, 120, 749, 750, 394, 395, 396, 751, 752, 665, 666, 667, 407, 408, 409, 753, 754, 755, 756, 757, 758, 759, 760, 761, 762, 763, 764, 765, 766, 767, 401, 402, 768, 769, 770, 771, 772, 773, 404, 405, 406, 774, 775, 776, 777, 778, 779, 780, 781, 782, 783, 784, 785, 786, 787, 788, 789, 790, 791, 792, 793, 1446, 1447, 1448, 1449, 1450, 1451, 1452, 1453, 1454, 1455, 1456, 1457, 1458, 1514, 1515, 1516, 1517, 1559, 1521, 1522, 1523, 1524, 1525, 1526] (by decide +kernel) (by decide +kernel)
set_option maxRecDepth 20000 in
theorem gL_law_X11_genus : GoodIn wsL_law (wsV RL 84 RX11 yX11_genus wsX11_genus) := goodIn_app (goodIn_of _ (by decide +kernel)) ggL_law_X11_genus
set_option maxRecDepth 20000 in
theorem ggL_law_X12_genus : GoodIn wsL_law wsX12_genus := goodIn_r _ [905, 651, 652, 653, 5, 654, 192, 655, 656, 657, 606, 607, 608, 609, 586, 587, 588, 589, 189, 631, 632, 633, 634, 188, 810, 811, 812, 813, 814, 815, 816, 817, 547, 548, 549, 550, 717, 718, 719, 720, 818, 819, 820, 729, 730, 731, 732, 725, 726, 727, 728, 566, 567, 568, 569, 721, 722, 723, 724, 821, 822, 823, 824, 562, 563, 564, 565, 825, 826, 827, 828, 1459, 1460, 1461, 1462, 1463, 1464, 1465, 1466, 1467, 1468, 1469, 1470, 1471, 1472, 1473, 1474, 1475, 1476, 1477, 1478, 1479, 1480, 1481, 1482, 1483, 1484, 1485, 1486, 1487, 1488, 1489, 1490, 1491, 1492, 1493, 1494, 1495] (by decide +kernel) (by decide +kernel)
set_option maxRecDepth 20000 in
theorem gL_law_X12_genus : GoodIn wsL_law (wsV RL 87 RX12 yX12_genus wsX12_genus) := goodIn_app (goodIn_of _ (by decide +kernel)) ggL_law_X12_genus
set_option maxRecDepth 20000 in
theorem ggL_law_X11_common : GoodIn wsL_law wsX11_common := goodIn_r _ [909, 22, 39, 622, 662, 644, 645, 21, 646, 92, 94, 910, 911, 912, 38, 913, 132, 131, 130, 128, 129, 914, 915, 916, 14, 917, 918, 787, 358, 788, 63, 64, 65, 62, 919, 419, 420, 82, 421, 99, 422, 423, 424, 920, 921, 922, 923, 924, 925, 926, 927, 665, 666, 667, 407, 408, 409, 928, 929, 930, 931, 932, 933, 934, 935, 60, 936, 937, 938, 939, 940, 2, 941, 401, 402, 942, 943, 944, 945, 946, 394, 395, 396, 947, 948, 949, 950, 951, 404, 405, 406, 952, 435, 436, 437, 438, 439, 440, 441, 953, 954, 955, 956, 429, 957, 958, 783, 784, 785, 786, 772, 773, 430, 431, 432, 433, 959, 960, 961, 962, 679, 1446, 1447, 1448, 1449, 1450, 1451, 1452, 1453, 1454, 1455, 1456, 1457, 1458, 1514, 1515, 1516, 1517, 1527, 1528, 1529, 1530, 1531, 1496, 1497, 1498, 1499, 1500, 1559] (by decide +kernel) (by decide +kernel)
set_option maxRecDepth 20000 in
theorem gL_law_X11_common : GoodIn wsL_law (wsV RL 88 RX11 yX11_common wsX11_common) := goodIn_app (goodIn_of _ (by decide +kernel)) ggL_law_X11_common
set_option maxRecDepth 20000 in
theorem ggL_law_X12_common : GoodIn wsL_law wsX12_common := goodIn_r _ [966, 967, 968, 969, 5, 970, 651, 652, 653, 654, 192, 655, 656, 657, 971, 972, 973, 974, 975, 207, 606, 607, 608, 609, 586, 587, 588, 589, 189, 976, 977, 978, 979, 208, 980, 981, 982, 983, 984, 985, 986, 566, 567, 568, 569, 188, 987, 988, 989, 990, 991, 992, 993, 209, 994, 995, 996, 997, 886, 887, 888, 889, 725, 726, 727, 728, 547, 548, 549, 550, 562, 563, 564, 565, 998, 999, 1000, 1001, 1002, 1003, 1004, 1005, 1459, 1460, 1461, 1462, 1463, 1464, 1465, 1466, 1467, 1468, 1469, 1470, 1471, 1472, 1473, 1474, 1475, 1476, 1477, 1478, 1479, 1480, 1481, 1482, 1483, 1484, 1485, 1486, 1487, 1488, 1489, 1490, 1491, 1492, 1493, 1494, 1495] (by decide +kernel) (by decide +kernel)
set_option maxRecDepth 20000 in
theorem gL_law_X12_common : GoodIn wsL_law (wsV RL 91 RX12 yX12_common wsX12_common) := goodIn_app (goodIn_of _ (by decide +kernel)) ggL_law_X12_common
set_option maxRecDepth 20000 in
theorem ggL_law_X11_commonTerm : GoodIn wsL_law wsX11_commonTerm := goodIn_r _ [1009, 22, 39, 622, 662, 644, 645, 21, 646, 92, 94, 663, 408, 82, 409, 910, 911, 912, 38, 913, 132, 131, 130, 128, 129, 914, 915, 916, 14, 917, 918, 787, 358, 788, 63, 64, 65, 62, 919, 419, 420, 421, 99, 422, 423, 424, 920, 921, 922, 923, 924, 925, 926, 927, 665, 666, 667, 407, 928, 929, 930, 931, 932, 933, 934, 935, 60, 936, 937, 938, 939, 940, 2, 941, 401, 402, 942, 943, 944, 945, 946, 394, 395, 396, 947, 948, 949, 950, 951, 404, 405, 406, 952, 435, 436, 437, 438, 439, 440, 441, 953, 954, 955, 956, 429, 957, 958, 783, 784, 785, 786, 772, 773, 430, 431, 432, 433, 959, 960, 961, 962, 664, 1446, 1447, 1448, 1449, 1450, 1451, 1452, 1453, 1454, 1455, 1456, 1457, 1458, 1514, 1515, 1516, 1517, 1527, 1528, 1529, 1530, 1531, 1496, 1497, 1498, 1499, 1500, 1559] (by decide +kernel) (by decide +kernel)
set_option maxRecDepth 20000 in
theorem gL_law_X11_commonTerm : GoodIn wsL_law (wsV RL 92 RX11 yX11_commonTerm wsX11_commonTerm) := goodIn_app (goodIn_of _ (by decide +kernel)) ggL_law_X11_commonTerm
set_option maxRecDepth 20000 in
theorem ggL_law_X12_commonTerm : GoodIn wsL_law wsX12_commonTerm := goodIn_r _ [1013, 967, 968, 969, 5, 970, 651, 652, 653, 654, 192, 655, 656, 657, 672, 673, 674, 971, 972, 973, 974, 975, 207, 606, 607, 608, 609, 586, 587, 588, 589, 189, 976, 977, 978, 979, 208, 980, 981, 982, 983, 984, 985, 986, 566, 567, 568, 569, 188, 987, 988, 989, 990, 991, 992, 993, 209, 994, 995, 996, 997, 886, 887, 888, 889, 725, 726, 727, 728, 547, 548, 549, 550, 562, 563, 564, 565, 998, 999, 1000, 1001, 1002, 1003, 1004, 1005, 1459, 1460, 1461, 1462, 1463, 1464, 1465, 1466, 1467, 1468, 1469, 1470, 1471, 1472, 1473, 1474, 1475, 1476, 1477, 1478, 1479, 1480, 1481, 1482, 1483, 1484, 1485, 1486, 1487, 1488, 1489, 1490, 1491, 1492, 1493, 1494, 1495] (by decide +kernel) (by decide +kernel)
set_option maxRecDepth 20000 in
theorem gL_law_X12_commonTerm : GoodIn wsL_law (wsV RL 95 RX12 yX12_commonTerm wsX12_commonTerm) := goodIn_app (goodIn_of _ (by decide +kernel)) ggL_law_X12_commonTerm
set_option maxRecDepth 20000 in
theorem ggL_law_X11_times : GoodIn wsL_law wsX11_times := goodIn_r _ [1017, 22, 622, 39, 662, 644, 645, 21, 646, 92, 94, 1018, 693, 29, 694, 695, 625, 626, 910, 911, 912, 38, 913, 132, 131, 130, 128, 129, 914, 915, 916, 14, 917, 918, 787, 358, 788, 63, 64, 65, 62, 919, 419, 420, 82, 421, 99, 422, 423, 424, 920, 921, 922, 923, 924, 925, 926, 927, 665, 666, 667, 407, 408, 409, 928, 929, 930, 931, 932, 933, 934, 935, 60, 936, 937, 938, 939, 940, 2, 941, 401, 402, 942, 943, 944, 945, 946, 394, 395, 396, 947, 948, 949, 950, 951, 404, 405, 406, 952, 435, 436, 437, 438, 439, 440, 441, 953, 954, 955, 956, 429, 957, 958, 783, 784, 785, 786, 772, 773, 430, 431, 432, 433, 959, 960, 961, 962, 1019, 1020, 1021, 1022, 30, 1023, 34, 35, 43, 833, 688, 689, 690, 691, 113, 114, 115, 692, 696, 697, 698, 699, 700, 745, 746, 747, 33, 748, 122, 120, 749, 750, 751, 752, 753, 754, 755, 756, 757, 758, 759, 760, 761, 762, 763, 764, 765, 766, 767, 768, 769, 770, 771, 774, 775, 776, 777, 1024, 1025, 1026, 42, 1027, 141, 139, 140, 136, 138, 137, 1028, 1029, 1030, 1031, 1032, 1033, 1034, 1035, 1036, 1037, 1038, 1039, 1040, 1041, 1042, 1043, 1044, 1045, 1046, 1047, 1048, 1049, 1050, 1051, 1052, 1053, 1054, 1446, 1447, 1448, 1449, 1450, 1451, 1452, 1453, 1454, 1455, 1456, 1457, 1458, 1514, 1515, 1516, 1517, 1527, 1528, 1529, 1530, 1531, 1496, 1497, 1498, 1499, 1500, 1559, 1524, 1525, 1526, 1521, 1522, 1523, 1532, 1533, 1534, 1535, 1536, 1537] (by decide +kernel) (by decide +kernel)
set_option maxRecDepth 20000 in
theorem gL_law_X11_times : GoodIn wsL_law (wsV RL 96 RX11 yX11_times wsX11_times) := goodIn_app (goodIn_of _ (by decide +kernel)) ggL_law_X11_times
set_option maxRecDepth 20000 in
theorem ggL_law_X12_times : GoodIn wsL_law wsX12_times := goodIn_r _ [1058, 1059, 1060, 1061, 5, 1062, 967, 968, 969, 970, 651, 652, 653, 654, 192, 655, 656, 657, 705, 706, 707, 708, 631, 632, 633, 634, 188, 1063, 1064, 1065, 1066, 212, 213, 210, 211, 971, 972, 973, 974, 975, 207, 606, 607, 608, 609, 586, 587, 588, 589, 189, 976, 977, 978, 979, 208, 980, 981, 982, 983, 984, 985, 986, 566, 567, 568, 569, 987, 988, 989, 990, 991, 992, 993, 209, 994, 995, 996, 997, 886, 887, 888, 889, 725, 726, 727, 728, 547, 548, 549, 550, 562, 563, 564, 565, 998, 999, 1000, 1001, 1002, 1003, 1004, 1005, 713, 714, 715, 716, 717, 718, 719, 720, 721, 722, 723, 724, 729, 730, 731, 732, 1067, 1068, 1069, 1070, 814, 815, 816, 817, 818, 819, 820, 821, 822, 823, 824, 1071, 1072, 1073, 1074, 1075, 1076, 1077, 214, 1078, 1079, 1080, 1081, 1082, 1083, 1084, 1085, 1086, 1087, 1088, 1089, 1090, 1091, 1092, 1459, 1460, 1461, 1462, 1463, 1464, 1465, 1466, 1467, 1468, 1469, 1470, 1471, 1472, 1473, 1474, 1475, 1476, 1477, 1478, 1479, 1480, 1481, 1482, 1483, 1484, 1485, 1486, 1487, 1488, 1489, 1490, 1491, 1492, 1493, 1494, 1495] (by decide +kernel) (by decide +kernel)
set_option maxRecDepth 20000 in
theorem gL_law_X12_times : GoodIn wsL_law (wsV RL 99 RX12 yX12_times wsX12_times) := goodIn_app (goodIn_of _ (by decide +kernel)) ggL_law_X12_times
set_option maxRecDepth 20000 in
theorem ggL_law_X11_rules : GoodIn wsL_law wsX11_rules := goodIn_r _ [1096, 43, 1097, 1098, 1015, 1016, 2, 1017, 22, 622, 39, 662, 644, 645, 21, 646, 92, 94, 1018, 693, 29, 694, 695, 625, 626, 910, 911, 912, 38, 913, 132, 131, 130, 128, 129, 914, 915, 916, 14, 917, 918, 787, 358, 788, 63, 64, 65, 62, 919, 419, 420, 82, 421, 99, 422, 423, 424, 920, 921, 922, 923, 924, 925, 926, 927, 665, 666, 667, 407, 408, 409, 928, 929, 930, 931, 932, 933, 934, 935, 60, 936, 937, 938, 939, 940, 941, 401, 402, 942, 943, 944, 945, 946, 394, 395, 396, 947, 948, 949, 950, 951, 404, 405, 406, 952, 435, 436, 437, 438, 439, 440, 441, 953, 954, 955, 956, 429, 957, 958, 783, 784, 785, 786, 772, 773, 430, 431, 432, 433, 959, 960, 961, 962, 1019, 1020, 1021, 1022, 30, 1023, 34, 35, 833, 688, 689, 690, 691, 113, 114, 115, 692, 696, 697, 698, 699, 700, 745, 746, 747, 33, 748, 122, 120, 749, 750, 751, 752, 753, 754, 755, 756, 757, 758, 759, 760, 761, 762, 763, 764, 765, 766, 767, 768, 769, 770, 771, 774, 775, 776, 777, 1024, 1025, 1026, 42, 1027, 141, 139, 140, 136, 138, 137, 1028, 1029, 1030, 1031, 1032, 1033, 1034, 1035, 1036, 1037, 1038, 1039, 1040, 1041, 1042, 1043, 1044, 1045, 1046, 1047, 1048, 1049, 1050, 1051, 1052, 1053, 1054, 1446, 1447, 1448, 1449, 1450, 1451, 1452, 1453, 1454, 1455, 1456, 1457, 1458, 1532, 1533, 1534, 1535, 1536, 1537, 1514, 1515, 1516, 1517, 1527, 1528, 1529, 1530, 1531, 1496, 1497, 1498, 1499, 1500, 1559, 1524, 1525, 1526, 1521, 1522, 1523] (by decide +kernel) (by decide +kernel)
set_option maxRecDepth 20000 in
theorem gL_law_X11_rules : GoodIn wsL_law (wsV RL 100 RX11 yX11_rules wsX11_rules) := goodIn_app (goodIn_of _ (by decide +kernel)) ggL_law_X11_rules
set_option maxRecDepth 20000 in
theorem ggL_law_X12_rules : GoodIn wsL_law wsX12_rules := goodIn_r _ [1102, 212, 1059, 1060, 1061, 5, 1062, 967, 968, 969, 970, 651, 652, 653, 654, 192, 655, 656, 657, 705, 706, 707, 708, 631, 632, 633, 634, 188, 1063, 1064, 1065, 1066, 213, 210, 211, 971, 972, 973, 974, 975, 207, 606, 607, 608, 609, 586, 587, 588, 589, 189, 976, 977, 978, 979, 208, 980, 981, 982, 983, 984, 985, 986, 566, 567, 568, 569, 987, 988, 989, 990, 991, 992, 993, 209, 994, 995, 996, 997, 886, 887, 888, 889, 725, 726, 727, 728, 547, 548, 549, 550, 562, 563, 564, 565, 998, 999, 1000, 1001, 1002, 1003, 1004, 1005, 713, 714, 715, 716, 717, 718, 719, 720, 721, 722, 723, 724, 729, 730, 731, 732, 1067, 1068, 1069, 1070, 814, 815, 816, 817, 818, 819, 820, 821, 822, 823, 824, 1071, 1072, 1073, 1074, 1075, 1076, 1077, 214, 1078, 1079, 1080, 1081, 1082, 1083, 1084, 1085, 1086, 1087, 1088, 1089, 1090, 1091, 1092, 1459, 1460, 1461, 1462, 1463, 1464, 1465, 1466, 1467, 1468, 1469, 1470, 1471, 1472, 1473, 1474, 1475, 1476, 1477, 1478, 1479, 1480, 1481, 1482, 1483, 1484, 1485, 1486, 1487, 1488, 1489, 1490, 1491, 1492, 1493, 1494, 1495] (by decide +kernel) (by decide +kernel)
set_option maxRecDepth 20000 in
theorem gL_law_X12_rules : GoodIn wsL_law (wsV RL 103 RX12 yX12_rules wsX12_rules) := goodIn_app (goodIn_of _ (by decide +kernel)) ggL_law_X12_rules
set_option maxRecDepth 20000 in
theorem ggL_law_X11_rule : GoodIn wsL_law wsX11_rule := goodIn_r _ [1106, 43, 1098, 1015, 1016, 2, 1017, 22, 622, 39, 662, 644, 645, 21, 646, 92, 94, 1018, 693, 29, 694, 695, 625, 626, 910, 911, 912, 38, 913, 132, 131, 130, 128, 129, 914, 915, 916, 14, 917, 918, 787, 358, 788, 63, 64, 65, 62, 919, 419, 420, 82, 421, 99, 422, 423, 424, 920, 921, 922, 923, 924, 925, 926, 927, 665, 666, 667, 407, 408, 409, 928, 929, 930, 931, 932, 933, 934, 935, 60, 936, 937, 938, 939, 940, 941, 401, 402, 942, 943, 944, 945, 946, 394, 395, 396, 947, 948, 949, 950, 951, 404, 405, 406, 952, 435, 436, 437, 438, 439, 440, 441, 953, 954, 955, 956, 429, 957, 958, 783, 784, 785, 786, 772, 773, 430, 431, 432, 433, 959, 960, 961, 962, 1019, 1020, 1021, 1022, 30, 1023, 34, 35, 833, 688, 689, 690, 691, 113, 114, 115, 692, 696, 697, 698, 699, 700, 745, 746, 747, 33, 748, 122, 120, 749, 750, 751, 752, 753, 754, 755, 756, 757, 758, 759, 760, 761, 762, 763, 764, 765, 766, 767, 768, 769, 770, 771, 774, 775, 776, 777, 1024, 1025, 1026, 42, 1027, 141, 139, 140, 136, 138, 137, 1028, 1029, 1030, 1031, 1032, 1033, 1034, 1035, 1036, 1037, 1038, 1039, 1040, 1041, 1042, 1043, 1044, 1045, 1046, 1047, 1048, 1049, 1050, 1051, 1052, 1053, 1054, 1107, 1108, 1109, 1110, 1446, 1447, 1448, 1449, 1450, 1451, 1452, 1453, 1454, 1455, 1456, 1457, 1458, 1514, 1515, 1516, 1517, 1527, 1528, 1529, 1530, 1531, 1496, 1497, 1498, 1499, 1500, 1559, 1524, 1525, 1526, 1521, 1522, 1523, 1532, 1533, 1534, 1535, 1536, 1537] (by decide +kernel) (by decide +kernel)
set_option maxRecDepth 20000 in
theorem gL_law_X11_rule : GoodIn wsL_law (wsV RL 104 RX11 yX11_rule wsX11_rule) := goodIn_app (goodIn_of _ (by decide +kernel)) ggL_law_X11_rule
set_option maxRecDepth 20000 in
theorem ggL_law_X12_rule : GoodIn wsL_law wsX12_rule := goodIn_r _ [1114, 213, 214, 1059, 1060, 1061, 5, 1062, 967, 968, 969, 970, 651, 652, 653, 654, 192, 655, 656, 657, 705, 706, 707, 708, 631, 632, 633, 634, 188, 1063, 1064, 1065, 1066, 212, 210, 211, 971, 972, 973, 974, 975, 207, 606, 607, 608, 609, 586, 587, 588, 589, 189, 976, 977, 978, 979, 208, 980, 981, 982, 983, 984, 985, 986, 566, 567, 568, 569, 987, 988, 989, 990, 991, 992, 993, 209, 994, 995, 996, 997, 886, 887, 888, 889, 725, 726, 727, 728, 547, 548, 549, 550, 562, 563, 564, 565, 998, 999, 1000, 1001, 1002, 1003, 1004, 1005, 713, 714, 715, 716, 717, 718, 719, 720, 721, 722, 723, 724, 729, 730, 731, 732, 1067, 1068, 1069, 1070, 814, 815, 816, 817, 818, 819, 820, 821, 822, 823, 824, 1071, 1072, 1073, 1074, 1075, 1076, 1077, 1078, 1079, 1080, 1081, 1082, 1083, 1084, 1085, 1086, 1087, 1088, 1089, 1090, 1091, 1092, 1459, 1460, 1461, 1462, 1463, 1464, 1465, 1466, 1467, 1468, 1469, 1470, 1471, 1472, 1473, 1474, 1475, 1476, 1477, 1478, 1479, 1480, 1481, 1482, 1483, 1484, 1485, 1486, 1487, 1488, 1489, 1490, 1491, 1492, 1493, 1494, 1495] (by decide +kernel) (by decide +kernel)
set_option maxRecDepth 20000 in
theorem gL_law_X12_rule : GoodIn wsL_law (wsV RL 107 RX12 yX12_rule wsX12_rule) := goodIn_app (goodIn_of _ (by decide +kernel)) ggL_law_X12_rule
set_option maxRecDepth 20000 in
theorem ggL_law_X11_size : GoodIn wsL_law wsX11_size := goodIn_r _ [1118, 22, 30, 622, 34, 35, 47, 833, 662, 644, 645, 21, 646, 92, 94, 688, 689, 690, 29, 691, 113, 114, 115, 692, 693, 694, 695, 625, 626, 745, 746, 747, 33, 748, 122, 120, 749, 750, 394, 395, 82, 396, 99, 751, 419, 420, 421, 422, 423, 358, 424, 752, 665, 666, 667, 407, 408, 409, 753, 754, 755, 756, 757, 758, 759, 760, 761, 762, 763, 764, 765, 2, 766, 767, 401, 402, 768, 769, 770, 771, 772, 773, 404, 405, 406, 774, 775, 776, 777, 1119, 1120, 1121, 46, 1122, 156, 1123, 1124, 1125, 1126, 150, 152, 153, 151, 154, 155, 147, 157, 1127, 1128, 1129, 1130, 1131, 783, 784, 785, 786, 787, 788, 1132, 915, 916, 14, 917, 918, 63, 64, 65, 62, 1133, 1134, 1135, 1136, 1137, 1138, 1139, 1140, 146, 1141, 1142, 1143, 1144, 1145, 1146, 1147, 1148, 1149, 940, 941, 1150, 1151, 1152, 1153, 148, 1154, 1155, 1156, 1157, 1158, 933, 934, 935, 60, 936, 937, 938, 939, 1446, 1447, 1448, 1449, 1450, 1451, 1452, 1453, 1454, 1455, 1456, 1457, 1458, 1514, 1515, 1516, 1517, 1524, 1525, 1526, 1521, 1522, 1523, 1559, 1538, 1539, 1540, 1541, 1542, 1543, 1544, 1545, 1546, 1547, 1548, 1496, 1497, 1498, 1499, 1500] (by decide +kernel) (by decide +kernel)
set_option maxRecDepth 20000 in
theorem gL_law_X11_size : GoodIn wsL_law (wsV RL 108 RX11 yX11_size wsX11_size) := goodIn_app (goodIn_of _ (by decide +kernel)) ggL_law_X11_size
set_option maxRecDepth 20000 in
theorem ggL_law_X12_size : GoodIn wsL_law wsX12_size := goodIn_r _ [1162, 210, 211, 203, 1059, 1060, 1061, 5, 1062, 967, 968, 969, 970, 651, 652, 653, 654, 192, 655, 656, 657, 705, 706, 707, 708, 631, 632, 633, 634, 188, 1067, 1068, 1069, 1070, 814, 815, 816, 817, 606, 607, 608, 609, 586, 587, 588, 589, 189, 547, 548, 549, 550, 717, 718, 719, 720, 818, 819, 820, 729, 730, 731, 732, 725, 726, 727, 728, 566, 567, 568, 569, 721, 722, 723, 724, 821, 822, 823, 824, 562, 563, 564, 565, 1163, 1164, 1165, 1166, 204, 202, 1167, 1168, 1169, 1170, 205, 206, 1171, 1172, 1173, 1174, 1175, 1176, 1177, 1178, 1179, 1180, 1181, 201, 1182, 1183, 1184, 1185, 886, 887, 888, 889, 1459, 1460, 1461, 1462, 1463, 1464, 1465, 1466, 1467, 1468, 1469, 1470, 1471, 1472, 1473, 1474, 1475, 1476, 1477, 1478, 1479, 1480, 1481, 1482, 1483, 1484, 1485, 1486, 1487, 1488, 1489, 1490, 1491, 1492, 1493, 1494, 1495] (by decide +kernel) (by decide +kernel)
set_option maxRecDepth 20000 in
theorem gL_law_X12_size : GoodIn wsL_law (wsV RL 111 RX12 yX12_size wsX12_size) := goodIn_app (goodIn_of _ (by decide +kernel)) ggL_law_X12_size
set_option maxRecDepth 20000 in
theorem ggL_law_X11_meet : GoodIn wsL_law wsX11_meet := goodIn_r _ [1189, 22, 39, 622, 662, 644, 645, 21, 646, 92, 94, 910, 911, 912, 38, 913, 132, 131, 130, 128, 129, 914, 915, 916, 14, 917, 918, 787, 358, 788, 63, 64, 65, 62, 919, 419, 420, 82, 421, 99, 422, 423, 424, 920, 921, 922, 923, 924, 925, 926, 927, 665, 666, 667, 407, 408, 409, 928, 929, 930, 931, 932, 933, 934, 935, 60, 936, 937, 938, 939, 940, 2, 941, 401, 402, 942, 943, 944, 945, 946, 394, 395, 396, 947, 948, 949, 950, 951, 404, 405, 406, 952, 435, 436, 437, 438, 439, 440, 441, 953, 954, 955, 956, 429, 957, 958, 783, 784, 785, 786, 772, 773, 430, 431, 432, 433, 959, 960, 961, 962, 624, 625, 29, 626, 1190, 1191, 1192, 1193, 1194, 1195, 1196, 1197, 30, 688, 689, 690, 691, 113, 114, 115, 692, 693, 694, 695, 696, 697, 698, 699, 700, 1019, 1020, 1021, 1022, 1023, 34, 35, 43, 833, 745, 746, 747, 33, 748, 122, 120, 749, 750, 751, 752, 753, 754, 755, 756, 757, 758, 759, 760, 761, 762, 763, 764, 765, 766, 767, 768, 769, 770, 771, 774, 775, 776, 777, 1024, 1025, 1026, 42, 1027, 141, 139, 140, 136, 138, 137, 1028, 1029, 1030, 1031, 1032, 1033, 1034, 1035, 1036, 1037, 1038, 1039, 1040, 1041, 1042, 1043, 1044, 1045, 1046, 1047, 1048, 1049, 1050, 1051, 1052, 1053, 1054, 1446, 1447, 1448, 1449, 1450, 1451, 1452, 1453, 1454, 1455, 1456, 1457, 1458, 1514, 1515, 1516, 1517, 1527, 1528, 1529, 1530, 1531, 1496, 1497, 1498, 1499, 1500, 1559, 1521, 1522, 1523, 1524, 1525, 1526, 1532, 1533, 1534, 1535, 1536, 1537] (by decide +kernel) (by decide +kernel)
set_option maxRecDepth 20000 in
theorem gL_law_X11_meet : GoodIn wsL_law (wsV RL 112 RX11 yX11_meet wsX11_meet) := goodIn_app (goodIn_of _ (by decide +kernel)) ggL_law_X11_meet
set_option maxRecDepth 20000 in
theorem ggL_law_X12_meet : GoodIn wsL_law wsX12_meet := goodIn_r _ [1201, 967, 968, 969, 5, 970, 651, 652, 653, 654, 192, 655, 656, 657, 631, 632, 633, 634, 188, 1202, 1203, 1204, 1205, 1206, 1207, 1208, 1209, 709, 710, 711, 712, 606, 607, 608, 609, 586, 587, 588, 589, 189, 713, 714, 715, 716, 717, 718, 719, 720, 721, 722, 723, 724, 725, 726, 727, 728, 566, 567, 568, 569, 729, 730, 731, 732, 1063, 1064, 1065, 1066, 212, 213, 210, 211, 971, 972, 973, 974, 975, 207, 976, 977, 978, 979, 208, 980, 981, 982, 983, 984, 985, 986, 987, 988, 989, 990, 991, 992, 993, 209, 994, 995, 996, 997, 886, 887, 888, 889, 547, 548, 549, 550, 562, 563, 564, 565, 998, 999, 1000, 1001, 1002, 1003, 1004, 1005, 1067, 1068, 1069, 1070, 814, 815, 816, 817, 818, 819, 820, 821, 822, 823, 824, 1071, 1072, 1073, 1074, 1075, 1076, 1077, 214, 1078, 1079, 1080, 1081, 1082, 1083, 1084, 1085, 1086, 1087, 1088, 1089, 1090, 1091, 1092, 1459, 1460, 1461, 1462, 1463, 1464, 1465, 1466, 1467, 1468, 1469, 1470, 1471, 1472, 1473, 1474, 1475, 1476, 1477, 1478, 1479, 1480, 1481, 1482, 1483, 1484, 1485, 1486, 1487, 1488, 1489, 1490, 1491, 1492, 1493, 1494, 1495] (by decide +kernel) (by decide +kernel)
set_option maxRecDepth 20000 in
theorem gL_law_X12_meet : GoodIn wsL_law (wsV RL 115 RX12 yX12_meet wsX12_meet) := goodIn_app (goodIn_of _ (by decide +kernel)) ggL_law_X12_meet
set_option maxRecDepth 20000 in
theorem ggL_law_X11_parts : GoodIn wsL_law wsX11_parts := goodIn_r _ [1213, 22, 39, 622, 662, 644, 645, 21, 646, 92, 94, 679, 419, 420, 82, 421, 99, 422, 423, 358, 424, 910, 911, 912, 38, 913, 132, 131, 130, 128, 129, 914, 915, 916, 14, 917, 918, 787, 788, 63, 64, 65, 62, 919, 920, 921, 922, 923, 924, 925, 926, 927, 665, 666, 667, 407, 408, 409, 928, 929, 930, 931, 932, 933, 934, 935, 60, 936, 937, 938, 939, 940, 2, 941, 401, 402, 942, 943, 944, 945, 946, 394, 395, 396, 947, 948, 949, 950, 951, 404, 405, 406, 952, 435, 436, 437, 438, 439, 440, 441, 953, 954, 955, 956, 429, 957, 958, 783, 784, 785, 786, 772, 773, 430, 431, 432, 433, 959, 960, 961, 962, 1214, 1215, 1216, 1446, 1447, 1448, 1449, 1450, 1451, 1452, 1453, 1454, 1455, 1456, 1457, 1458, 1514, 1515, 1516, 1517, 1559, 1527, 1528, 1529, 1530, 1531, 1496, 1497, 1498, 1499, 1500] (by decide +kernel) (by decide +kernel)
set_option maxRecDepth 20000 in
theorem gL_law_X11_parts : GoodIn wsL_law (wsV RL 116 RX11 yX11_parts wsX11_parts) := goodIn_app (goodIn_of _ (by decide +kernel)) ggL_law_X11_parts
set_option maxRecDepth 20000 in
theorem ggL_law_X12_parts : GoodIn wsL_law wsX12_parts := goodIn_r _ [1220, 203, 967, 968, 969, 5, 970, 651, 652, 653, 654, 192, 655, 656, 657, 1221, 1222, 1223, 1224, 987, 988, 989, 1163, 1164, 1165, 1166, 204, 202, 1225, 1226, 1227, 1228, 205, 206, 606, 607, 608, 609, 586, 587, 588, 589, 189, 1171, 1172, 1173, 1174, 1175, 1176, 1177, 1178, 1179, 1180, 1181, 201, 188, 1182, 1183, 1184, 1185, 886, 887, 888, 889, 725, 726, 727, 728, 566, 567, 568, 569, 1459, 1460, 1461, 1462, 1463, 1464, 1465, 1466, 1467, 1468, 1469, 1470, 1471, 1472, 1473, 1474, 1475, 1476, 1477, 1478, 1479, 1480, 1481, 1482, 1483, 1484, 1485, 1486, 1487, 1488, 1489, 1490, 1491, 1492, 1493, 1494, 1495] (by decide +kernel) (by decide +kernel)
set_option maxRecDepth 20000 in
theorem gL_law_X12_parts : GoodIn wsL_law (wsV RL 119 RX12 yX12_parts wsX12_parts) := goodIn_app (goodIn_of _ (by decide +kernel)) ggL_law_X12_parts
set_option maxRecDepth 20000 in
theorem ggL_law_X11_total : GoodIn wsL_law wsX11_total := goodIn_r _ [1232, 22, 39, 622, 47, 662, 644, 645, 21, 646, 92, 94, 910, 911, 912, 38, 913, 132, 131, 130, 128, 129, 914, 915, 916, 14, 917, 918, 787, 358, 788, 63, 64, 65, 62, 919, 419, 420, 82, 421, 99, 422, 423, 424, 920, 921, 922, 923, 924, 925, 926, 927, 665, 666, 667, 407, 408, 409, 928, 929, 930, 931, 932, 933, 934, 935, 60, 936, 937, 938, 939, 940, 2, 941, 401, 402, 942, 943, 944, 945, 946, 394, 395, 396, 947, 948, 949, 950, 951, 404, 405, 406, 952, 435, 436, 437, 438, 439, 440, 441, 953, 954, 955, 956, 429, 957, 958, 783, 784, 785, 786, 772, 773, 430, 431, 432, 433, 959, 960, 961, 962, 679, 1233, 1234, 1235, 46, 1236, 147, 148, 157, 1123, 1124, 1125, 1126, 150, 152, 153, 151, 156, 154, 155, 1127, 1128, 1129, 1130, 1131, 1132, 1237, 1133, 1134, 1135, 1136, 1137, 1138, 1139, 1140, 146, 1141, 1142, 1143, 1144, 1145, 1146, 1147, 1148, 1149, 1150, 1151, 1152, 1153, 1154, 1155, 1156, 1157, 1158, 1190, 1191, 1192, 1193, 1194, 1195, 1196, 1197, 30, 688, 689, 690, 29, 691, 113, 114, 115, 692, 693, 694, 695, 625, 626, 696, 697, 698, 699, 700, 1019, 1020, 1021, 1022, 1023, 34, 35, 43, 833, 745, 746, 747, 33, 748, 122, 120, 749, 750, 751, 752, 753, 754, 755, 756, 757, 758, 759, 760, 761, 762, 763, 764, 765, 766, 767, 768, 769, 770, 771, 774, 775, 776, 777, 1024, 1025, 1026, 42, 1027, 141, 139, 140, 136, 138, 137, 1028, 1029, 1030, 1031, 1032, 1033, 1034, 1035, 1036, 1037, 1038, 1039, 1040, 1041, 1042, 1043, 1044, 1045, 1046, 1047, 1048, 1049, 1050, 1051, 1052, 1053, 1054, 624, 1446, 1447, 1448, 1449, 1450, 1451, 1452, 1453, 1454, 1455, 1456, 1457, 1458, 1514, 1515, 1516, 1517, 1527, 1528, 1529, 1530, 1531, 1496, 1497, 1498, 1499, 1500, 1559, 1538, 1539, 1540, 1541, 1542, 1543, 1544, 1545, 1546, 1547, 1548, 1521, 1522, 1523, 1524, 1525, 1526, 1532, 1533, 1534, 1535, 1536, 1537] (by decide +kernel) (by decide +kernel)
set_option maxRecDepth 20000 in
theorem gL_law_X11_total : GoodIn wsL_law (wsV RL 120 RX11 yX11_total wsX11_total) := goodIn_app (goodIn_of _ (by decide +kernel)) ggL_law_X11_total
set_option maxRecDepth 20000 in
theorem ggL_law_X12_total : GoodIn wsL_law wsX12_total := goodIn_r _ [1241, 188, 967, 968, 969, 5, 970, 651, 652, 653, 654, 192, 655, 656, 657, 971, 972, 973, 974, 975, 207, 606, 607, 608, 609, 586, 587, 588, 589, 189, 976, 977, 978, 979, 208, 980, 981, 982, 983, 984, 985, 986, 566, 567, 568, 569, 987, 988, 989, 990, 991, 992, 993, 209, 994, 995, 996, 997, 886, 887, 888, 889, 725, 726, 727, 728, 547, 548, 549, 550, 562, 563, 564, 565, 998, 999, 1000, 1001, 1002, 1003, 1004, 1005, 1242, 1243, 1244, 1245, 203, 205, 206, 1221, 1222, 1223, 1224, 1163, 1164, 1165, 1166, 204, 202, 1225, 1226, 1227, 1228, 1171, 1172, 1173, 1174, 1175, 1176, 1177, 1178, 1179, 1180, 1181, 201, 1182, 1183, 1184, 1185, 1202, 1203, 1204, 1205, 1206, 1207, 1208, 1209, 709, 710, 711, 712, 713, 714, 715, 716, 717, 718, 719, 720, 721, 722, 723, 724, 631, 632, 633, 634, 729, 730, 731, 732, 1063, 1064, 1065, 1066, 212, 213, 210, 211, 1067, 1068, 1069, 1070, 814, 815, 816, 817, 818, 819, 820, 821, 822, 823, 824, 1071, 1072, 1073, 1074, 1075, 1076, 1077, 214, 1078, 1079, 1080, 1081, 1082, 1083, 1084, 1085, 1086, 1087, 1088, 1089, 1090, 1091, 1092, 1459, 1460, 1461, 1462, 1463, 1464, 1465, 1466, 1467, 1468, 1469, 1470, 1471, 1472, 1473, 1474, 1475, 1476, 1477, 1478, 1479, 1480, 1481, 1482, 1483, 1484, 1485, 1486, 1487, 1488, 1489, 1490, 1491, 1492, 1493, 1494, 1495] (by decide +kernel) (by decide +kernel)
set_option maxRecDepth 20000 in
theorem gL_law_X12_total : GoodIn wsL_law (wsV RL 123 RX12 yX12_total wsX12_total) := goodIn_app (goodIn_of _ (by decide +kernel)) ggL_law_X12_total
set_option maxRecDepth 20000 in
theorem ggL_law_X11_knot : GoodIn wsL_law wsX11_knot := goodIn_r _ [1249, 22, 622, 1018, 693, 29, 694, 695, 625, 626, 1250, 1251, 1252, 2, 1253, 265, 1254, 685, 686, 687, 30, 662, 644, 645, 21, 646, 92, 94, 688, 689, 690, 691, 113, 114, 115, 692, 696, 697, 698, 699, 700, 419, 420, 82, 421, 99, 422, 423, 358, 424, 1255, 1256, 1257, 1258, 39, 1194, 1195, 1196, 1197, 910, 911, 912, 38, 913, 132, 131, 130, 128, 129, 914, 915, 916, 14, 917, 918, 787, 788, 63, 64, 65, 62, 919, 920, 921, 922, 923, 924, 925, 926, 927, 665, 666, 667, 407, 408, 409, 928, 929, 930, 931, 932, 933, 934, 935, 60, 936, 937, 938, 939, 940, 941, 401, 402, 942, 943, 944, 945, 946, 394, 395, 396, 947, 948, 949, 950, 951, 404, 405, 406, 952, 435, 436, 437, 438, 439, 440, 441, 953, 954, 955, 956, 429, 957, 958, 783, 784, 785, 786, 772, 773, 430, 431, 432, 433, 959, 960, 961, 962, 1019, 1020, 1021, 1022, 1023, 34, 35, 43, 833, 745, 746, 747, 33, 748, 122, 120, 749, 750, 751, 752, 753, 754, 755, 756, 757, 758, 759, 760, 761, 762, 763, 764, 765, 766, 767, 768, 769, 770, 771, 774, 775, 776, 777, 1024, 1025, 1026, 42, 1027, 141, 139, 140, 136, 138, 137, 1028, 1029, 1030, 1031, 1032, 1033, 1034, 1035, 1036, 1037, 1038, 1039, 1040, 1041, 1042, 1043, 1044, 1045, 1046, 1047, 1048, 1049, 1050, 1051, 1052, 1053, 1054, 1446, 1447, 1448, 1449, 1450, 1451, 1452, 1453, 1454, 1455, 1456, 1457, 1458, 1514, 1515, 1516, 1517, 1521, 1522, 1523, 1559, 1527, 1528, 1529, 1530, 1531, 1496, 1497, 1498, 1499, 1500, 1524, 1525, 1526, 1532, 1533, 1534, 1535, 1536, 1537] (by decide +kernel) (by decide +kernel)
set_option maxRecDepth 20000 in
theorem gL_law_X11_knot : GoodIn wsL_law (wsV RL 124 RX11 yX11_knot wsX11_knot) := goodIn_app (goodIn_of _ (by decide +kernel)) ggL_law_X11_knot
set_option maxRecDepth 20000 in
theorem ggL_law_X12_knot : GoodIn wsL_law wsX12_knot := goodIn_r _ [1262, 192, 705, 706, 707, 5, 708, 631, 632, 633, 634, 188, 655, 656, 657, 709, 710, 711, 712, 606, 607, 608, 609, 586, 587, 588, 589, 189, 713, 714, 715, 716, 717, 718, 719, 720, 721, 722, 723, 724, 725, 726, 727, 728, 566, 567, 568, 569, 729, 730, 731, 732, 1063, 1064, 1065, 1066, 212, 213, 210, 211, 971, 972, 973, 974, 975, 207, 976, 977, 978, 979, 208, 980, 981, 982, 983, 984, 985, 986, 987, 988, 989, 990, 991, 992, 993, 209, 994, 995, 996, 997, 886, 887, 888, 889, 547, 548, 549, 550, 562, 563, 564, 565, 998, 999, 1000, 1001, 1002, 1003, 1004, 1005, 1067, 1068, 1069, 1070, 814, 815, 816, 817, 818, 819, 820, 821, 822, 823, 824, 1071, 1072, 1073, 1074, 1075, 1076, 1077, 214, 1078, 1079, 1080, 1081, 1082, 1083, 1084, 1085, 1086, 1087, 1088, 1089, 1090, 1091, 1092, 1459, 1460, 1461, 1462, 1463, 1464, 1465, 1466, 1467, 1468, 1469, 1470, 1471, 1472, 1473, 1474, 1475, 1476, 1477, 1478, 1479, 1480, 1481, 1482, 1483, 1484, 1485, 1486, 1487, 1488, 1489, 1490, 1491, 1492, 1493, 1494, 1495] (by decide +kernel) (by decide +kernel)
set_option maxRecDepth 20000 in
theorem gL_law_X12_knot : GoodIn wsL_law (wsV RL 127 RX12 yX12_knot wsX12_knot) := goodIn_app (goodIn_of _ (by decide +kernel)) ggL_law_X12_knot
set_option maxRecDepth 20000 in
theorem ggL_law_X11_most : GoodIn wsL_law wsX11_most := goodIn_r _ [1266, 22, 39, 622, 662, 644, 645, 21, 646, 92, 94, 910, 911, 912, 38, 913, 132, 131, 130, 128, 129, 914, 915, 916, 14, 917, 918, 787, 358, 788, 63, 64, 65, 62, 919, 419, 420, 82, 421, 99, 422, 423, 424, 920, 921, 922, 923, 924, 925, 926, 927, 665, 666, 667, 407, 408, 409, 928, 929, 930, 931, 932, 933, 934, 935, 60, 936, 937, 938, 939, 940, 2, 941, 401, 402, 942, 943, 944, 945, 946, 394, 395, 396, 947, 948, 949, 950, 951, 404, 405, 406, 952, 435, 436, 437, 438, 439, 440, 441, 953, 954, 955, 956, 429, 957, 958, 783, 784, 785, 786, 772, 773, 430, 431, 432, 433, 959, 960, 961, 962, 624, 625, 29, 626, 1194, 1195, 1196, 1197, 30, 688, 689, 690, 691, 113, 114, 115, 692, 693, 694, 695, 696, 697, 698, 699, 700, 1019, 1020, 1021, 1022, 1023, 34, 35, 43, 833, 745, 746, 747, 33, 748, 122, 120, 749, 750, 751, 752, 753, 754, 755, 756, 757, 758, 759, 760, 761, 762, 763, 764, 765, 766, 767, 768, 769, 770, 771, 774, 775, 776, 777, 1024, 1025, 1026, 42, 1027, 141, 139, 140, 136, 138, 137, 1028, 1029, 1030, 1031, 1032, 1033, 1034, 1035, 1036, 1037, 1038, 1039, 1040, 1041, 1042, 1043, 1044, 1045, 1046, 1047, 1048, 1049, 1050, 1051, 1052, 1053, 1054, 1446, 1447, 1448, 1449, 1450, 1451, 1452, 1453, 1454, 1455, 1456, 1457, 1458, 1514, 1515, 1516, 1517, 1527, 1528, 1529, 1530, 1531, 1496, 1497, 1498, 1499, 1500, 1559, 1521, 1522, 1523, 1524, 1525, 1526, 1532, 1533, 1534, 1535, 1536, 1537] (by decide +kernel) (by decide +kernel)
set_option maxRecDepth 20000 in
theorem gL_law_X11_most : GoodIn wsL_law (wsV RL 128 RX11 yX11_most wsX11_most) := goodIn_app (goodIn_of _ (by decide +kernel)) ggL_law_X11_most
set_option maxRecDepth 20000 in
theorem ggL_law_X12_most : GoodIn wsL_law wsX12_most := goodIn_r _ [1270, 967, 968, 969, 5, 970, 651, 652, 653, 654, 192, 655, 656, 657, 631, 632, 633, 634, 188, 1206, 1207, 1208, 1209, 709, 710, 711, 712, 606, 607, 608, 609, 586, 587, 588, 589, 189, 713, 714, 715, 716, 717, 718, 719, 720, 721, 722, 723, 724, 725, 726, 727, 728, 566, 567, 568, 569, 729, 730, 731, 732, 1063, 1064, 1065, 1066, 212, 213, 210, 211, 971, 972, 973, 974, 975, 207, 976, 977, 978, 979, 208, 980, 981, 982, 983, 984, 985, 986, 987, 988, 989, 990, 991, 992, 993, 209, 994, 995, 996, 997, 886, 887, 888, 889, 547, 548, 549, 550, 562, 563, 564, 565, 998, 999, 1000, 1001, 1002, 1003, 1004, 1005, 1067, 1068, 1069, 1070, 814, 815, 816, 817, 818, 819, 820, 821, 822, 823, 824, 1071, 1072, 1073, 1074, 1075, 1076, 1077, 214, 1078, 1079, 1080, 1081, 1082, 1083, 1084, 1085, 1086, 1087, 1088, 1089, 1090, 1091, 1092, 1459, 1460, 1461, 1462, 1463, 1464, 1465, 1466, 1467, 1468, 1469, 1470, 1471, 1472, 1473, 1474, 1475, 1476, 1477, 1478, 1479, 1480, 1481, 1482, 1483, 1484, 1485, 1486, 1487, 1488, 1489, 1490, 1491, 1492, 1493, 1494, 1495] (by decide +kernel) (by decide +kernel)
set_option maxRecDepth 20000 in
theorem gL_law_X12_most : GoodIn wsL_law (wsV RL 131 RX12 yX12_most wsX12_most) := goodIn_app (goodIn_of _ (by decide +kernel)) ggL_law_X12_most
set_option maxRecDepth 20000 in
theorem ggL_law_X11_move : GoodIn wsL_law wsX11_move := goodIn_r _ [1274, 51, 22, 622, 26, 1275, 1276, 1277, 50, 1278, 173, 168, 169, 401, 2, 402, 1279, 1280, 1281, 1282, 394, 395, 82, 396, 99, 1283, 404, 405, 406, 407, 408, 409, 1284, 1285, 1286, 1287, 1288, 665, 666, 667, 226, 227, 228, 229, 53, 1289, 1290, 1291, 25, 1292, 108, 106, 105, 1293, 787, 358, 788, 1294, 451, 452, 21, 453, 91, 92, 94, 95, 454, 439, 440, 441, 455, 435, 436, 437, 438, 1295, 1296, 1297, 1298, 164, 165, 166, 167, 1299, 1300, 1301, 1302, 1303, 1304, 426, 427, 428, 429, 430, 431, 432, 433, 1305, 447, 448, 449, 1306, 1446, 1447, 1448, 1449, 1450, 1451, 1452, 1453, 1454, 1455, 1456, 1457, 1458, 1514, 1515, 1516, 1517, 1549, 1550, 1551, 1552, 1553, 1554, 1555, 1556, 1557, 1558, 1559, 1518, 1519, 1520] (by decide +kernel) (by decide +kernel)
set_option maxRecDepth 20000 in
theorem gL_law_X11_move : GoodIn wsL_law (wsV RL 132 RX11 yX11_move wsX11_move) := goodIn_app (goodIn_of _ (by decide +kernel)) ggL_law_X11_move
set_option maxRecDepth 20000 in
theorem ggL_law_X12_move : GoodIn wsL_law wsX12_move := goodIn_r _ [1310, 192, 1311, 1312, 1313, 5, 1314, 566, 567, 568, 569, 188, 254, 255, 256, 257, 180, 1315, 1316, 1317, 1318, 215, 216, 193, 189, 1319, 1320, 1321, 1322, 547, 548, 549, 550, 562, 563, 564, 565, 586, 587, 588, 589, 582, 583, 584, 585, 191, 598, 599, 600, 601, 602, 603, 604, 605, 1459, 1460, 1461, 1462, 1463, 1464, 1465, 1466, 1467, 1468, 1469, 1470, 1471, 1472, 1473, 1474, 1475, 1476, 1477, 1478, 1479, 1480, 1481, 1482, 1483, 1484, 1485, 1486, 1487, 1488, 1489, 1490, 1491, 1492, 1493, 1494, 1495] (by decide +kernel) (by decide +kernel)
set_option maxRecDepth 20000 in
theorem gL_law_X12_move : GoodIn wsL_law (wsV RL 136 RX12 yX12_move wsX12_move) := goodIn_app (goodIn_of _ (by decide +kernel)) ggL_law_X12_move
set_option maxRecDepth 20000 in
theorem ggL_law_X11_moved : GoodIn wsL_law wsX11_moved := goodIn_r _ [1326, 30, 22, 622, 51, 688, 689, 690, 29, 691, 113, 114, 115, 692, 693, 694, 695, 625, 626, 1275, 1276, 1277, 50, 1278, 173, 168, 169, 401, 2, 402, 1279, 1280, 1281, 1282, 394, 395, 82, 396, 99, 1283, 404, 405, 406, 407, 408, 409, 1284, 1285, 1286, 1287, 1288, 665, 666, 667, 1327, 1328, 1329, 1330, 1331, 1332, 1333, 940, 941, 1446, 1447, 1448, 1449, 1450, 1451, 1452, 1453, 1454, 1455, 1456, 1457, 1458, 1514, 1515, 1516, 1517, 1521, 1522, 1523, 1549, 1550, 1551, 1552, 1553, 1554, 1555, 1556, 1557, 1558, 1559] (by decide +kernel) (by decide +kernel)
set_option maxRecDepth 20000 in
theorem gL_law_X11_moved : GoodIn wsL_law (wsV RL 137 RX11 yX11_moved wsX11_moved) := goodIn_app (goodIn_of _ (by decide +kernel)) ggL_law_X11_moved
set_option maxRecDepth 20000 in
theorem ggL_law_X12_moved : GoodIn wsL_law wsX12_moved := goodIn_r _ [1337, 188, 705, 706, 707, 5, 708, 631, 632, 633, 634, 655, 656, 657, 1311, 1312, 1313, 1314, 566, 567, 568, 569, 886, 887, 888, 889, 725, 726, 727, 728, 721, 722, 723, 724, 717, 718, 719, 720, 729, 730, 731, 732, 1459, 1460, 1461, 1462, 1463, 1464, 1465, 1466, 1467, 1468, 1469, 1470, 1471, 1472, 1473, 1474, 1475, 1476, 1477, 1478, 1479, 1480, 1481, 1482, 1483, 1484, 1485, 1486, 1487, 1488, 1489, 1490, 1491, 1492, 1493, 1494, 1495] (by decide +kernel) (by decide +kernel)
set_option maxRecDepth 20000 in
theorem gL_law_X12_moved : GoodIn wsL_law (wsV RL 141 RX12 yX12_moved wsX12_moved) := goodIn_app (goodIn_of _ (by decide +kernel)) ggL_law_X12_moved
set_option maxRecDepth 20000 in
theorem ggL_law_X11_make : GoodIn wsL_law wsX11_make := goodIn_r _ [1341, 22, 265, 51, 1342, 26, 1343, 1344, 1345, 2, 1346, 622, 34, 833, 30, 662, 644, 645, 21, 646, 92, 94, 1347, 1348, 1349, 1350, 679, 419, 420, 82, 421, 99, 422, 423, 358, 424, 1351, 426, 427, 428, 429, 394, 395, 396, 430, 431, 432, 433, 1352, 1353, 1354, 1355, 1356, 435, 436, 437, 438, 439, 440, 441, 767, 401, 402, 1357, 447, 448, 449, 1358, 1359, 1360, 1361, 39, 910, 911, 912, 38, 913, 132, 131, 130, 128, 129, 914, 915, 916, 14, 917, 918, 787, 788, 63, 64, 65, 62, 919, 920, 921, 922, 923, 924, 925, 926, 927, 665, 666, 667, 407, 408, 409, 928, 929, 930, 931, 932, 933, 934, 935, 60, 936, 937, 938, 939, 940, 941, 942, 943, 944, 945, 946, 947, 948, 949, 950, 951, 404, 405, 406, 952, 953, 954, 955, 956, 957, 958, 783, 784, 785, 786, 772, 773, 959, 960, 961, 962, 1362, 1363, 1364, 50, 1365, 173, 171, 172, 1333, 1332, 1331, 1366, 689, 690, 29, 691, 113, 114, 115, 692, 693, 694, 695, 625, 626, 1367, 1368, 1369, 1370, 163, 1279, 1280, 1281, 1282, 1283, 1371, 1372, 802, 803, 804, 805, 688, 745, 746, 747, 33, 748, 122, 120, 749, 750, 751, 752, 753, 754, 755, 756, 757, 758, 759, 760, 761, 762, 763, 764, 765, 766, 768, 769, 770, 771, 774, 775, 776, 777, 778, 779, 780, 781, 782, 1373, 1374, 1375, 1376, 1288, 1377, 1378, 1379, 1380, 1381, 1382, 1383, 1384, 226, 227, 228, 229, 53, 1289, 1290, 1291, 25, 1292, 108, 106, 105, 1293, 1294, 451, 452, 453, 91, 95, 454, 455, 1385, 1386, 1387, 1388, 1389, 378, 379, 380, 1446, 1447, 1448, 1449, 1450, 1451, 1452, 1453, 1454, 1455, 1456, 1457, 1458, 1514, 1515, 1516, 1517, 1549, 1550, 1551, 1552, 1553, 1554, 1555, 1556, 1557, 1558, 1524, 1525, 1526, 1559, 1527, 1528, 1529, 1530, 1531, 1496, 1497, 1498, 1499, 1500, 1521, 1522, 1523, 1518, 1519, 1520] (by decide +kernel) (by decide +kernel)
set_option maxRecDepth 20000 in
theorem gL_law_X11_make : GoodIn wsL_law (wsV RL 142 RX11 yX11_make wsX11_make) := goodIn_app (goodIn_of _ (by decide +kernel)) ggL_law_X11_make
set_option maxRecDepth 20000 in
theorem ggL_law_X12_make : GoodIn wsL_law wsX12_make := goodIn_r _ [1393, 192, 193, 1394, 1395, 1396, 5, 1397, 967, 968, 969, 970, 651, 652, 653, 654, 655, 656, 657, 582, 583, 584, 585, 191, 188, 586, 587, 588, 589, 189, 547, 548, 549, 550, 562, 563, 564, 565, 566, 567, 568, 569, 602, 603, 604, 605, 598, 599, 600, 601, 606, 607, 608, 609, 971, 972, 973, 974, 975, 207, 976, 977, 978, 979, 208, 980, 981, 982, 983, 984, 985, 986, 987, 988, 989, 990, 991, 992, 993, 209, 994, 995, 996, 997, 886, 887, 888, 889, 725, 726, 727, 728, 998, 999, 1000, 1001, 1002, 1003, 1004, 1005, 1398, 1399, 1400, 1401, 705, 706, 707, 708, 631, 632, 633, 634, 717, 718, 719, 720, 729, 730, 731, 732, 721, 722, 723, 724, 1402, 1403, 1404, 1405, 1406, 1407, 1408, 1409, 810, 811, 812, 813, 814, 815, 816, 817, 818, 819, 820, 821, 822, 823, 824, 825, 826, 827, 828, 1410, 1411, 1412, 1413, 238, 239, 240, 241, 180, 1315, 1316, 1317, 1318, 215, 216, 1459, 1460, 1461, 1462, 1463, 1464, 1465, 1466, 1467, 1468, 1469, 1470, 1471, 1472, 1473, 1474, 1475, 1476, 1477, 1478, 1479, 1480, 1481, 1482, 1483, 1484, 1485, 1486, 1487, 1488, 1489, 1490, 1491, 1492, 1493, 1494, 1495] (by decide +kernel) (by decide +kernel)
set_option maxRecDepth 20000 in
theorem gL_law_X12_make : GoodIn wsL_law (wsV RL 145 RX12 yX12_make wsX12_make) := goodIn_app (goodIn_of _ (by decide +kernel)) ggL_law_X12_make
set_option maxRecDepth 20000 in
theorem ggL_law_X11_drop : GoodIn wsL_law wsX11_drop := goodIn_r _ [1417, 22, 26, 662, 644, 645, 21, 646, 92, 94, 226, 227, 228, 2, 229, 53, 679, 419, 420, 82, 421, 99, 422, 423, 358, 424, 1289, 1290, 1291, 25, 1292, 108, 106, 105, 1293, 787, 788, 1294, 451, 452, 453, 91, 95, 454, 439, 440, 441, 455, 435, 436, 437, 438, 1418, 1419, 1420, 1421, 643, 1446, 1447, 1448, 1449, 1450, 1451, 1452, 1453, 1454, 1455, 1456, 1457, 1458, 1514, 1515, 1516, 1517, 1559, 1518, 1519, 1520] (by decide +kernel) (by decide +kernel)
set_option maxRecDepth 20000 in
theorem gL_law_X11_drop : GoodIn wsL_law (wsV RL 146 RX11 yX11_drop wsX11_drop) := goodIn_app (goodIn_of _ (by decide +kernel)) ggL_law_X11_drop
set_option maxRecDepth 20000 in
theorem ggL_law_X12_drop : GoodIn wsL_law wsX12_drop := goodIn_r _ [1425, 192, 193, 651, 652, 653, 5, 654, 655, 656, 657, 238, 239, 240, 241, 180, 1315, 1316, 1317, 1318, 215, 216, 189, 606, 607, 608, 609, 586, 587, 588, 589, 602, 603, 604, 605, 1459, 1460, 1461, 1462, 1463, 1464, 1465, 1466, 1467, 1468, 1469, 1470, 1471, 1472, 1473, 1474, 1475, 1476, 1477, 1478, 1479, 1480, 1481, 1482, 1483, 1484, 1485, 1486, 1487, 1488, 1489, 1490, 1491, 1492, 1493, 1494, 1495] (by decide +kernel) (by decide +kernel)
set_option maxRecDepth 20000 in
theorem gL_law_X12_drop : GoodIn wsL_law (wsV RL 149 RX12 yX12_drop wsX12_drop) := goodIn_app (goodIn_of _ (by decide +kernel)) ggL_law_X12_drop
set_option maxRecDepth 20000 in
theorem ggL_law_X11_undo : GoodIn wsL_law wsX11_undo := goodIn_r _ [1429, 26, 22, 1430, 1431, 1432, 25, 1433, 105, 106, 108, 1294, 451, 452, 21, 453, 91, 92, 94, 95, 454, 439, 440, 441, 455, 435, 436, 82, 437, 99, 438, 226, 227, 228, 2, 229, 53, 1446, 1447, 1448, 1449, 1450, 1451, 1452, 1453, 1454, 1455, 1456, 1457, 1458, 1518, 1519, 1520, 1514, 1515, 1516, 1517, 1559] (by decide +kernel) (by decide +kernel)
set_option maxRecDepth 20000 in
theorem gL_law_X11_undo : GoodIn wsL_law (wsV RL 150 RX11 yX11_undo wsX11_undo) := goodIn_app (goodIn_of _ (by decide +kernel)) ggL_law_X11_undo
set_option maxRecDepth 20000 in
theorem ggL_law_X12_undo : GoodIn wsL_law wsX12_undo := goodIn_r _ [1437, 215, 216, 192, 193, 189, 254, 255, 256, 5, 257, 180, 1459, 1460, 1461, 1462, 1463, 1464, 1465, 1466, 1467, 1468, 1469, 1470, 1471, 1472, 1473, 1474, 1475, 1476, 1477, 1478, 1479, 1480, 1481, 1482, 1483, 1484, 1485, 1486, 1487, 1488, 1489, 1490, 1491, 1492, 1493, 1494, 1495] (by decide +kernel) (by decide +kernel)
set_option maxRecDepth 20000 in
theorem gL_law_X12_undo : GoodIn wsL_law (wsV RL 154 RX12 yX12_undo wsX12_undo) := goodIn_app (goodIn_of _ (by decide +kernel)) ggL_law_X12_undo
set_option maxRecDepth 20000 in
theorem ggL_law_X11_status : GoodIn wsL_law wsX11_status := goodIn_r _ [1441, 53, 1446, 1447, 1448, 1449, 1450, 1451, 1452, 1453, 1454, 1455, 1456, 1457, 1458] (by decide +kernel) (by decide +kernel)
set_option maxRecDepth 20000 in
theorem gL_law_X11_status : GoodIn wsL_law (wsV RL 155 RX11 yX11_status wsX11_status) := goodIn_app (goodIn_of _ (by decide +kernel)) ggL_law_X11_status
set_option maxRecDepth 20000 in
theorem ggL_law_X12_status : GoodIn wsL_law wsX12_status := goodIn_r _ [1445, 180, 655, 656, 5, 657, 1459, 1460, 1461, 1462, 1463, 1464, 1465, 1466, 1467, 1468, 1469, 1470, 1471, 1472, 1473, 1474, 1475, 1476, 1477, 1478, 1479, 1480, 1481, 1482, 1483, 1484, 1485, 1486, 1487, 1488, 1489, 1490, 1491, 1492, 1493, 1494, 1495] (by decide +kernel) (by decide +kernel)
set_option maxRecDepth 20000 in
theorem gL_law_X12_status : GoodIn wsL_law (wsV RL 158 RX12 yX12_status wsX12_status) := goodIn_app (goodIn_of _ (by decide +kernel)) ggL_law_X12_status
theorem dL_law_0 : decode cL_law 0 = .ok (.new 7, 3) := by decide +kernel
theorem dL_law_3 : decode cL_law 3 = .ok (.dup, 1) := by decide +kernel
theorem dL_law_4 : decode cL_law 4 = .ok (.invokespecial 9, 3) := by decide +kernel
theorem dL_law_7 : decode cL_law 7 = .ok (.astore_n 1, 1) := by decide +kernel
theorem dL_law_8 : decode cL_law 8 = .ok (.new 10, 3) := by decide +kernel
theorem dL_law_11 : decode cL_law 11 = .ok (.dup, 1) := by decide +kernel
theorem dL_law_12 : decode cL_law 12 = .ok (.invokespecial 12, 3) := by decide +kernel
theorem dL_law_15 : decode cL_law 15 = .ok (.astore_n 2, 1) := by decide +kernel
theorem dL_law_16 : decode cL_law 16 = .ok (.iconst 0, 1) := by decide +kernel
theorem dL_law_17 : decode cL_law 17 = .ok (.istore_n 3, 1) := by decide +kernel
theorem dL_law_18 : decode cL_law 18 = .ok (.iload_n 3, 1) := by decide +kernel
theorem dL_law_19 : decode cL_law 19 = .ok (.aload_n 0, 1) := by decide +kernel
theorem dL_law_20 : decode cL_law 20 = .ok (.arraylength, 1) := by decide +kernel
theorem dL_law_21 : decode cL_law 21 = .ok (.bipush 8, 2) := by decide +kernel
theorem dL_law_23 : decode cL_law 23 = .ok (.isub, 1) := by decide +kernel
theorem dL_law_24 : decode cL_law 24 = .ok (.if_icmp .gt 1504, 3) := by decide +kernel
theorem dL_law_27 : decode cL_law 27 = .ok (.aload_n 0, 1) := by decide +kernel
theorem dL_law_28 : decode cL_law 28 = .ok (.iload_n 3, 1) := by decide +kernel
theorem dL_law_29 : decode cL_law 29 = .ok (.iaload, 1) := by decide +kernel
theorem dL_law_30 : decode cL_law 30 = .ok (.bipush 63, 2) := by decide +kernel
theorem dL_law_32 : decode cL_law 32 = .ok (.iand, 1) := by decide +kernel
theorem dL_law_33 : decode cL_law 33 = .ok (.tableswitch 1489 0 33 #[151, 214, 237, 250, 273, 296, 329, 372, 395, 428, 461, 494, 547, 580, 633, 666, 699, 722, 755, 808, 851, 904, 957, 1000, 1053, 1096, 1139, 1172, 1215, 1290, 1377, 1430, 1453, 1466], 151) := by decide +kernel
theorem dL_law_184 : decode cL_law 184 = .ok (.aload_n 1, 1) := by decide +kernel
theorem dL_law_185 : decode cL_law 185 = .ok (.aload_n 0, 1) := by decide +kernel
theorem dL_law_186 : decode cL_law 186 = .ok (.iload_n 3, 1) := by decide +kernel
theorem dL_law_187 : decode cL_law 187 = .ok (.iconst 1, 1) := by decide +kernel
theorem dL_law_188 : decode cL_law 188 = .ok (.iadd, 1) := by decide +kernel
theorem dL_law_189 : decode cL_law 189 = .ok (.iaload, 1) := by decide +kernel
theorem dL_law_190 : decode cL_law 190 = .ok (.aload_n 0, 1) := by decide +kernel
theorem dL_law_191 : decode cL_law 191 = .ok (.iload_n 3, 1) := by decide +kernel
theorem dL_law_192 : decode cL_law 192 = .ok (.iconst 2, 1) := by decide +kernel
theorem dL_law_193 : decode cL_law 193 = .ok (.iadd, 1) := by decide +kernel
theorem dL_law_194 : decode cL_law 194 = .ok (.iaload, 1) := by decide +kernel
theorem dL_law_195 : decode cL_law 195 = .ok (.aload_n 0, 1) := by decide +kernel
theorem dL_law_196 : decode cL_law 196 = .ok (.iload_n 3, 1) := by decide +kernel
theorem dL_law_197 : decode cL_law 197 = .ok (.iconst 3, 1) := by decide +kernel
theorem dL_law_198 : decode cL_law 198 = .ok (.iadd, 1) := by decide +kernel
theorem dL_law_199 : decode cL_law 199 = .ok (.iaload, 1) := by decide +kernel
theorem dL_law_200 : decode cL_law 200 = .ok (.aload_n 0, 1) := by decide +kernel
theorem dL_law_201 : decode cL_law 201 = .ok (.iload_n 3, 1) := by decide +kernel
theorem dL_law_202 : decode cL_law 202 = .ok (.iconst 4, 1) := by decide +kernel
theorem dL_law_203 : decode cL_law 203 = .ok (.iadd, 1) := by decide +kernel
theorem dL_law_204 : decode cL_law 204 = .ok (.iaload, 1) := by decide +kernel
theorem dL_law_205 : decode cL_law 205 = .ok (.aload_n 0, 1) := by decide +kernel
theorem dL_law_206 : decode cL_law 206 = .ok (.iload_n 3, 1) := by decide +kernel
theorem dL_law_207 : decode cL_law 207 = .ok (.iconst 5, 1) := by decide +kernel
theorem dL_law_208 : decode cL_law 208 = .ok (.iadd, 1) := by decide +kernel
theorem dL_law_209 : decode cL_law 209 = .ok (.iaload, 1) := by decide +kernel
theorem dL_law_210 : decode cL_law 210 = .ok (.invokevirtual 13, 3) := by decide +kernel
theorem dL_law_213 : decode cL_law 213 = .ok (.aload_n 2, 1) := by decide +kernel
theorem dL_law_214 : decode cL_law 214 = .ok (.aload_n 0, 1) := by decide +kernel
theorem dL_law_215 : decode cL_law 215 = .ok (.iload_n 3, 1) := by decide +kernel
theorem dL_law_216 : decode cL_law 216 = .ok (.iconst 1, 1) := by decide +kernel
theorem dL_law_217 : decode cL_law 217 = .ok (.iadd, 1) := by decide +kernel
theorem dL_law_218 : decode cL_law 218 = .ok (.iaload, 1) := by decide +kernel
theorem dL_law_219 : decode cL_law 219 = .ok (.aload_n 0, 1) := by decide +kernel
theorem dL_law_220 : decode cL_law 220 = .ok (.iload_n 3, 1) := by decide +kernel
theorem dL_law_221 : decode cL_law 221 = .ok (.iconst 2, 1) := by decide +kernel
theorem dL_law_222 : decode cL_law 222 = .ok (.iadd, 1) := by decide +kernel
theorem dL_law_223 : decode cL_law 223 = .ok (.iaload, 1) := by decide +kernel
theorem dL_law_224 : decode cL_law 224 = .ok (.aload_n 0, 1) := by decide +kernel
theorem dL_law_225 : decode cL_law 225 = .ok (.iload_n 3, 1) := by decide +kernel
theorem dL_law_226 : decode cL_law 226 = .ok (.iconst 3, 1) := by decide +kernel
theorem dL_law_227 : decode cL_law 227 = .ok (.iadd, 1) := by decide +kernel
theorem dL_law_228 : decode cL_law 228 = .ok (.iaload, 1) := by decide +kernel
theorem dL_law_229 : decode cL_law 229 = .ok (.aload_n 0, 1) := by decide +kernel
theorem dL_law_230 : decode cL_law 230 = .ok (.iload_n 3, 1) := by decide +kernel
theorem dL_law_231 : decode cL_law 231 = .ok (.iconst 4, 1) := by decide +kernel
theorem dL_law_232 : decode cL_law 232 = .ok (.iadd, 1) := by decide +kernel
theorem dL_law_233 : decode cL_law 233 = .ok (.iaload, 1) := by decide +kernel
theorem dL_law_234 : decode cL_law 234 = .ok (.aload_n 0, 1) := by decide +kernel
theorem dL_law_235 : decode cL_law 235 = .ok (.iload_n 3, 1) := by decide +kernel
theorem dL_law_236 : decode cL_law 236 = .ok (.iconst 5, 1) := by decide +kernel
theorem dL_law_237 : decode cL_law 237 = .ok (.iadd, 1) := by decide +kernel
theorem dL_law_238 : decode cL_law 238 = .ok (.iaload, 1) := by decide +kernel
theorem dL_law_239 : decode cL_law 239 = .ok (.invokevirtual 17, 3) := by decide +kernel
theorem dL_law_242 : decode cL_law 242 = .ok (.if_icmp .eq 1280, 3) := by decide +kernel
theorem dL_law_245 : decode cL_law 245 = .ok (.iconst 0, 1) := by decide +kernel
theorem dL_law_246 : decode cL_law 246 = .ok (.ireturn, 1) := by decide +kernel
theorem dL_law_247 : decode cL_law 247 = .ok (.aload_n 1, 1) := by decide +kernel
theorem dL_law_248 : decode cL_law 248 = .ok (.aload_n 0, 1) := by decide +kernel
theorem dL_law_249 : decode cL_law 249 = .ok (.iload_n 3, 1) := by decide +kernel
theorem dL_law_250 : decode cL_law 250 = .ok (.iconst 1, 1) := by decide +kernel
theorem dL_law_251 : decode cL_law 251 = .ok (.iadd, 1) := by decide +kernel
theorem dL_law_252 : decode cL_law 252 = .ok (.iaload, 1) := by decide +kernel
theorem dL_law_253 : decode cL_law 253 = .ok (.invokevirtual 18, 3) := by decide +kernel
theorem dL_law_256 : decode cL_law 256 = .ok (.aload_n 2, 1) := by decide +kernel
theorem dL_law_257 : decode cL_law 257 = .ok (.aload_n 0, 1) := by decide +kernel
theorem dL_law_258 : decode cL_law 258 = .ok (.iload_n 3, 1) := by decide +kernel
theorem dL_law_259 : decode cL_law 259 = .ok (.iconst 1, 1) := by decide +kernel
theorem dL_law_260 : decode cL_law 260 = .ok (.iadd, 1) := by decide +kernel
theorem dL_law_261 : decode cL_law 261 = .ok (.iaload, 1) := by decide +kernel
theorem dL_law_262 : decode cL_law 262 = .ok (.invokevirtual 22, 3) := by decide +kernel
theorem dL_law_265 : decode cL_law 265 = .ok (.if_icmp .eq 1257, 3) := by decide +kernel
theorem dL_law_268 : decode cL_law 268 = .ok (.iconst 0, 1) := by decide +kernel
theorem dL_law_269 : decode cL_law 269 = .ok (.ireturn, 1) := by decide +kernel
theorem dL_law_270 : decode cL_law 270 = .ok (.aload_n 1, 1) := by decide +kernel
theorem dL_law_271 : decode cL_law 271 = .ok (.invokevirtual 23, 3) := by decide +kernel
theorem dL_law_274 : decode cL_law 274 = .ok (.aload_n 2, 1) := by decide +kernel
theorem dL_law_275 : decode cL_law 275 = .ok (.invokevirtual 27, 3) := by decide +kernel
theorem dL_law_278 : decode cL_law 278 = .ok (.if_icmp .eq 1244, 3) := by decide +kernel
theorem dL_law_281 : decode cL_law 281 = .ok (.iconst 0, 1) := by decide +kernel
theorem dL_law_282 : decode cL_law 282 = .ok (.ireturn, 1) := by decide +kernel
theorem dL_law_283 : decode cL_law 283 = .ok (.aload_n 1, 1) := by decide +kernel
theorem dL_law_284 : decode cL_law 284 = .ok (.aload_n 0, 1) := by decide +kernel
theorem dL_law_285 : decode cL_law 285 = .ok (.iload_n 3, 1) := by decide +kernel
theorem dL_law_286 : decode cL_law 286 = .ok (.iconst 1, 1) := by decide +kernel
theorem dL_law_287 : decode cL_law 287 = .ok (.iadd, 1) := by decide +kernel
theorem dL_law_288 : decode cL_law 288 = .ok (.iaload, 1) := by decide +kernel
theorem dL_law_289 : decode cL_law 289 = .ok (.invokevirtual 28, 3) := by decide +kernel
theorem dL_law_292 : decode cL_law 292 = .ok (.aload_n 2, 1) := by decide +kernel
theorem dL_law_293 : decode cL_law 293 = .ok (.aload_n 0, 1) := by decide +kernel
theorem dL_law_294 : decode cL_law 294 = .ok (.iload_n 3, 1) := by decide +kernel
theorem dL_law_295 : decode cL_law 295 = .ok (.iconst 1, 1) := by decide +kernel
theorem dL_law_296 : decode cL_law 296 = .ok (.iadd, 1) := by decide +kernel
theorem dL_law_297 : decode cL_law 297 = .ok (.iaload, 1) := by decide +kernel
theorem dL_law_298 : decode cL_law 298 = .ok (.invokevirtual 32, 3) := by decide +kernel
theorem dL_law_301 : decode cL_law 301 = .ok (.if_icmp .eq 1221, 3) := by decide +kernel
theorem dL_law_304 : decode cL_law 304 = .ok (.iconst 0, 1) := by decide +kernel
theorem dL_law_305 : decode cL_law 305 = .ok (.ireturn, 1) := by decide +kernel
theorem dL_law_306 : decode cL_law 306 = .ok (.aload_n 1, 1) := by decide +kernel
theorem dL_law_307 : decode cL_law 307 = .ok (.aload_n 0, 1) := by decide +kernel
theorem dL_law_308 : decode cL_law 308 = .ok (.iload_n 3, 1) := by decide +kernel
theorem dL_law_309 : decode cL_law 309 = .ok (.iconst 1, 1) := by decide +kernel
theorem dL_law_310 : decode cL_law 310 = .ok (.iadd, 1) := by decide +kernel
theorem dL_law_311 : decode cL_law 311 = .ok (.iaload, 1) := by decide +kernel
theorem dL_law_312 : decode cL_law 312 = .ok (.invokevirtual 33, 3) := by decide +kernel
theorem dL_law_315 : decode cL_law 315 = .ok (.aload_n 2, 1) := by decide +kernel
theorem dL_law_316 : decode cL_law 316 = .ok (.aload_n 0, 1) := by decide +kernel
theorem dL_law_317 : decode cL_law 317 = .ok (.iload_n 3, 1) := by decide +kernel
theorem dL_law_318 : decode cL_law 318 = .ok (.iconst 1, 1) := by decide +kernel
theorem dL_law_319 : decode cL_law 319 = .ok (.iadd, 1) := by decide +kernel
theorem dL_law_320 : decode cL_law 320 = .ok (.iaload, 1) := by decide +kernel
theorem dL_law_321 : decode cL_law 321 = .ok (.invokevirtual 36, 3) := by decide +kernel
theorem dL_law_324 : decode cL_law 324 = .ok (.if_icmp .eq 1198, 3) := by decide +kernel
theorem dL_law_327 : decode cL_law 327 = .ok (.iconst 0, 1) := by decide +kernel
theorem dL_law_328 : decode cL_law 328 = .ok (.ireturn, 1) := by decide +kernel
theorem dL_law_329 : decode cL_law 329 = .ok (.aload_n 1, 1) := by decide +kernel
theorem dL_law_330 : decode cL_law 330 = .ok (.aload_n 0, 1) := by decide +kernel
theorem dL_law_331 : decode cL_law 331 = .ok (.iload_n 3, 1) := by decide +kernel
theorem dL_law_332 : decode cL_law 332 = .ok (.iconst 1, 1) := by decide +kernel
theorem dL_law_333 : decode cL_law 333 = .ok (.iadd, 1) := by decide +kernel
theorem dL_law_334 : decode cL_law 334 = .ok (.iaload, 1) := by decide +kernel
theorem dL_law_335 : decode cL_law 335 = .ok (.aload_n 0, 1) := by decide +kernel
theorem dL_law_336 : decode cL_law 336 = .ok (.iload_n 3, 1) := by decide +kernel
theorem dL_law_337 : decode cL_law 337 = .ok (.iconst 2, 1) := by decide +kernel
theorem dL_law_338 : decode cL_law 338 = .ok (.iadd, 1) := by decide +kernel
theorem dL_law_339 : decode cL_law 339 = .ok (.iaload, 1) := by decide +kernel
theorem dL_law_340 : decode cL_law 340 = .ok (.invokevirtual 37, 3) := by decide +kernel
theorem dL_law_343 : decode cL_law 343 = .ok (.aload_n 2, 1) := by decide +kernel
theorem dL_law_344 : decode cL_law 344 = .ok (.aload_n 0, 1) := by decide +kernel
theorem dL_law_345 : decode cL_law 345 = .ok (.iload_n 3, 1) := by decide +kernel
theorem dL_law_346 : decode cL_law 346 = .ok (.iconst 1, 1) := by decide +kernel
theorem dL_law_347 : decode cL_law 347 = .ok (.iadd, 1) := by decide +kernel
theorem dL_law_348 : decode cL_law 348 = .ok (.iaload, 1) := by decide +kernel
theorem dL_law_349 : decode cL_law 349 = .ok (.aload_n 0, 1) := by decide +kernel
theorem dL_law_350 : decode cL_law 350 = .ok (.iload_n 3, 1) := by decide +kernel
theorem dL_law_351 : decode cL_law 351 = .ok (.iconst 2, 1) := by decide +kernel
theorem dL_law_352 : decode cL_law 352 = .ok (.iadd, 1) := by decide +kernel
theorem dL_law_353 : decode cL_law 353 = .ok (.iaload, 1) := by decide +kernel
theorem dL_law_354 : decode cL_law 354 = .ok (.invokevirtual 41, 3) := by decide +kernel
theorem dL_law_357 : decode cL_law 357 = .ok (.if_icmp .eq 1165, 3) := by decide +kernel
theorem dL_law_360 : decode cL_law 360 = .ok (.iconst 0, 1) := by decide +kernel
theorem dL_law_361 : decode cL_law 361 = .ok (.ireturn, 1) := by decide +kernel
theorem dL_law_362 : decode cL_law 362 = .ok (.aload_n 1, 1) := by decide +kernel
theorem dL_law_363 : decode cL_law 363 = .ok (.aload_n 0, 1) := by decide +kernel
theorem dL_law_364 : decode cL_law 364 = .ok (.iload_n 3, 1) := by decide +kernel
theorem dL_law_365 : decode cL_law 365 = .ok (.iconst 1, 1) := by decide +kernel
theorem dL_law_366 : decode cL_law 366 = .ok (.iadd, 1) := by decide +kernel
theorem dL_law_367 : decode cL_law 367 = .ok (.iaload, 1) := by decide +kernel
theorem dL_law_368 : decode cL_law 368 = .ok (.aload_n 0, 1) := by decide +kernel
theorem dL_law_369 : decode cL_law 369 = .ok (.iload_n 3, 1) := by decide +kernel
theorem dL_law_370 : decode cL_law 370 = .ok (.iconst 2, 1) := by decide +kernel
theorem dL_law_371 : decode cL_law 371 = .ok (.iadd, 1) := by decide +kernel
theorem dL_law_372 : decode cL_law 372 = .ok (.iaload, 1) := by decide +kernel
theorem dL_law_373 : decode cL_law 373 = .ok (.aload_n 0, 1) := by decide +kernel
theorem dL_law_374 : decode cL_law 374 = .ok (.iload_n 3, 1) := by decide +kernel
theorem dL_law_375 : decode cL_law 375 = .ok (.iconst 3, 1) := by decide +kernel
theorem dL_law_376 : decode cL_law 376 = .ok (.iadd, 1) := by decide +kernel
theorem dL_law_377 : decode cL_law 377 = .ok (.iaload, 1) := by decide +kernel
theorem dL_law_378 : decode cL_law 378 = .ok (.invokevirtual 42, 3) := by decide +kernel
theorem dL_law_381 : decode cL_law 381 = .ok (.aload_n 2, 1) := by decide +kernel
theorem dL_law_382 : decode cL_law 382 = .ok (.aload_n 0, 1) := by decide +kernel
theorem dL_law_383 : decode cL_law 383 = .ok (.iload_n 3, 1) := by decide +kernel
theorem dL_law_384 : decode cL_law 384 = .ok (.iconst 1, 1) := by decide +kernel
theorem dL_law_385 : decode cL_law 385 = .ok (.iadd, 1) := by decide +kernel
theorem dL_law_386 : decode cL_law 386 = .ok (.iaload, 1) := by decide +kernel
theorem dL_law_387 : decode cL_law 387 = .ok (.aload_n 0, 1) := by decide +kernel
theorem dL_law_388 : decode cL_law 388 = .ok (.iload_n 3, 1) := by decide +kernel
theorem dL_law_389 : decode cL_law 389 = .ok (.iconst 2, 1) := by decide +kernel
theorem dL_law_390 : decode cL_law 390 = .ok (.iadd, 1) := by decide +kernel
theorem dL_law_391 : decode cL_law 391 = .ok (.iaload, 1) := by decide +kernel
theorem dL_law_392 : decode cL_law 392 = .ok (.aload_n 0, 1) := by decide +kernel
theorem dL_law_393 : decode cL_law 393 = .ok (.iload_n 3, 1) := by decide +kernel
theorem dL_law_394 : decode cL_law 394 = .ok (.iconst 3, 1) := by decide +kernel
theorem dL_law_395 : decode cL_law 395 = .ok (.iadd, 1) := by decide +kernel
theorem dL_law_396 : decode cL_law 396 = .ok (.iaload, 1) := by decide +kernel
theorem dL_law_397 : decode cL_law 397 = .ok (.invokevirtual 46, 3) := by decide +kernel
theorem dL_law_400 : decode cL_law 400 = .ok (.if_icmp .eq 1122, 3) := by decide +kernel
theorem dL_law_403 : decode cL_law 403 = .ok (.iconst 0, 1) := by decide +kernel
theorem dL_law_404 : decode cL_law 404 = .ok (.ireturn, 1) := by decide +kernel
theorem dL_law_405 : decode cL_law 405 = .ok (.aload_n 1, 1) := by decide +kernel
theorem dL_law_406 : decode cL_law 406 = .ok (.aload_n 0, 1) := by decide +kernel
theorem dL_law_407 : decode cL_law 407 = .ok (.iload_n 3, 1) := by decide +kernel
theorem dL_law_408 : decode cL_law 408 = .ok (.iconst 1, 1) := by decide +kernel
theorem dL_law_409 : decode cL_law 409 = .ok (.iadd, 1) := by decide +kernel
theorem dL_law_410 : decode cL_law 410 = .ok (.iaload, 1) := by decide +kernel
theorem dL_law_411 : decode cL_law 411 = .ok (.invokevirtual 47, 3) := by decide +kernel
theorem dL_law_414 : decode cL_law 414 = .ok (.aload_n 2, 1) := by decide +kernel
theorem dL_law_415 : decode cL_law 415 = .ok (.aload_n 0, 1) := by decide +kernel
theorem dL_law_416 : decode cL_law 416 = .ok (.iload_n 3, 1) := by decide +kernel
theorem dL_law_417 : decode cL_law 417 = .ok (.iconst 1, 1) := by decide +kernel
theorem dL_law_418 : decode cL_law 418 = .ok (.iadd, 1) := by decide +kernel
theorem dL_law_419 : decode cL_law 419 = .ok (.iaload, 1) := by decide +kernel
theorem dL_law_420 : decode cL_law 420 = .ok (.invokevirtual 50, 3) := by decide +kernel
theorem dL_law_423 : decode cL_law 423 = .ok (.if_icmp .eq 1099, 3) := by decide +kernel
theorem dL_law_426 : decode cL_law 426 = .ok (.iconst 0, 1) := by decide +kernel
theorem dL_law_427 : decode cL_law 427 = .ok (.ireturn, 1) := by decide +kernel
theorem dL_law_428 : decode cL_law 428 = .ok (.aload_n 1, 1) := by decide +kernel
theorem dL_law_429 : decode cL_law 429 = .ok (.aload_n 0, 1) := by decide +kernel
theorem dL_law_430 : decode cL_law 430 = .ok (.iload_n 3, 1) := by decide +kernel
theorem dL_law_431 : decode cL_law 431 = .ok (.iconst 1, 1) := by decide +kernel
theorem dL_law_432 : decode cL_law 432 = .ok (.iadd, 1) := by decide +kernel
theorem dL_law_433 : decode cL_law 433 = .ok (.iaload, 1) := by decide +kernel
theorem dL_law_434 : decode cL_law 434 = .ok (.aload_n 0, 1) := by decide +kernel
theorem dL_law_435 : decode cL_law 435 = .ok (.iload_n 3, 1) := by decide +kernel
theorem dL_law_436 : decode cL_law 436 = .ok (.iconst 2, 1) := by decide +kernel
theorem dL_law_437 : decode cL_law 437 = .ok (.iadd, 1) := by decide +kernel
theorem dL_law_438 : decode cL_law 438 = .ok (.iaload, 1) := by decide +kernel
theorem dL_law_439 : decode cL_law 439 = .ok (.invokevirtual 51, 3) := by decide +kernel
theorem dL_law_442 : decode cL_law 442 = .ok (.aload_n 2, 1) := by decide +kernel
theorem dL_law_443 : decode cL_law 443 = .ok (.aload_n 0, 1) := by decide +kernel
theorem dL_law_444 : decode cL_law 444 = .ok (.iload_n 3, 1) := by decide +kernel
theorem dL_law_445 : decode cL_law 445 = .ok (.iconst 1, 1) := by decide +kernel
theorem dL_law_446 : decode cL_law 446 = .ok (.iadd, 1) := by decide +kernel
theorem dL_law_447 : decode cL_law 447 = .ok (.iaload, 1) := by decide +kernel
theorem dL_law_448 : decode cL_law 448 = .ok (.aload_n 0, 1) := by decide +kernel
theorem dL_law_449 : decode cL_law 449 = .ok (.iload_n 3, 1) := by decide +kernel
theorem dL_law_450 : decode cL_law 450 = .ok (.iconst 2, 1) := by decide +kernel
theorem dL_law_451 : decode cL_law 451 = .ok (.iadd, 1) := by decide +kernel
theorem dL_law_452 : decode cL_law 452 = .ok (.iaload, 1) := by decide +kernel
theorem dL_law_453 : decode cL_law 453 = .ok (.invokevirtual 54, 3) := by decide +kernel
theorem dL_law_456 : decode cL_law 456 = .ok (.if_icmp .eq 1066, 3) := by decide +kernel
theorem dL_law_459 : decode cL_law 459 = .ok (.iconst 0, 1) := by decide +kernel
theorem dL_law_460 : decode cL_law 460 = .ok (.ireturn, 1) := by decide +kernel
theorem dL_law_461 : decode cL_law 461 = .ok (.aload_n 1, 1) := by decide +kernel
theorem dL_law_462 : decode cL_law 462 = .ok (.aload_n 0, 1) := by decide +kernel
theorem dL_law_463 : decode cL_law 463 = .ok (.iload_n 3, 1) := by decide +kernel
theorem dL_law_464 : decode cL_law 464 = .ok (.iconst 1, 1) := by decide +kernel
theorem dL_law_465 : decode cL_law 465 = .ok (.iadd, 1) := by decide +kernel
theorem dL_law_466 : decode cL_law 466 = .ok (.iaload, 1) := by decide +kernel
theorem dL_law_467 : decode cL_law 467 = .ok (.aload_n 0, 1) := by decide +kernel
theorem dL_law_468 : decode cL_law 468 = .ok (.iload_n 3, 1) := by decide +kernel
theorem dL_law_469 : decode cL_law 469 = .ok (.iconst 2, 1) := by decide +kernel
theorem dL_law_470 : decode cL_law 470 = .ok (.iadd, 1) := by decide +kernel
theorem dL_law_471 : decode cL_law 471 = .ok (.iaload, 1) := by decide +kernel
theorem dL_law_472 : decode cL_law 472 = .ok (.invokevirtual 55, 3) := by decide +kernel
theorem dL_law_475 : decode cL_law 475 = .ok (.aload_n 2, 1) := by decide +kernel
theorem dL_law_476 : decode cL_law 476 = .ok (.aload_n 0, 1) := by decide +kernel
theorem dL_law_477 : decode cL_law 477 = .ok (.iload_n 3, 1) := by decide +kernel
theorem dL_law_478 : decode cL_law 478 = .ok (.iconst 1, 1) := by decide +kernel
theorem dL_law_479 : decode cL_law 479 = .ok (.iadd, 1) := by decide +kernel
theorem dL_law_480 : decode cL_law 480 = .ok (.iaload, 1) := by decide +kernel
theorem dL_law_481 : decode cL_law 481 = .ok (.aload_n 0, 1) := by decide +kernel
theorem dL_law_482 : decode cL_law 482 = .ok (.iload_n 3, 1) := by decide +kernel
theorem dL_law_483 : decode cL_law 483 = .ok (.iconst 2, 1) := by decide +kernel
theorem dL_law_484 : decode cL_law 484 = .ok (.iadd, 1) := by decide +kernel
theorem dL_law_485 : decode cL_law 485 = .ok (.iaload, 1) := by decide +kernel
theorem dL_law_486 : decode cL_law 486 = .ok (.invokevirtual 58, 3) := by decide +kernel
theorem dL_law_489 : decode cL_law 489 = .ok (.if_icmp .eq 1033, 3) := by decide +kernel
theorem dL_law_492 : decode cL_law 492 = .ok (.iconst 0, 1) := by decide +kernel
theorem dL_law_493 : decode cL_law 493 = .ok (.ireturn, 1) := by decide +kernel
theorem dL_law_494 : decode cL_law 494 = .ok (.aload_n 1, 1) := by decide +kernel
theorem dL_law_495 : decode cL_law 495 = .ok (.aload_n 0, 1) := by decide +kernel
theorem dL_law_496 : decode cL_law 496 = .ok (.iload_n 3, 1) := by decide +kernel
theorem dL_law_497 : decode cL_law 497 = .ok (.iconst 1, 1) := by decide +kernel
theorem dL_law_498 : decode cL_law 498 = .ok (.iadd, 1) := by decide +kernel
theorem dL_law_499 : decode cL_law 499 = .ok (.iaload, 1) := by decide +kernel
theorem dL_law_500 : decode cL_law 500 = .ok (.aload_n 0, 1) := by decide +kernel
theorem dL_law_501 : decode cL_law 501 = .ok (.iload_n 3, 1) := by decide +kernel
theorem dL_law_502 : decode cL_law 502 = .ok (.iconst 2, 1) := by decide +kernel
theorem dL_law_503 : decode cL_law 503 = .ok (.iadd, 1) := by decide +kernel
theorem dL_law_504 : decode cL_law 504 = .ok (.iaload, 1) := by decide +kernel
theorem dL_law_505 : decode cL_law 505 = .ok (.invokevirtual 59, 3) := by decide +kernel
theorem dL_law_508 : decode cL_law 508 = .ok (.aload_n 2, 1) := by decide +kernel
theorem dL_law_509 : decode cL_law 509 = .ok (.aload_n 0, 1) := by decide +kernel
theorem dL_law_510 : decode cL_law 510 = .ok (.iload_n 3, 1) := by decide +kernel
theorem dL_law_511 : decode cL_law 511 = .ok (.iconst 1, 1) := by decide +kernel
theorem dL_law_512 : decode cL_law 512 = .ok (.iadd, 1) := by decide +kernel
theorem dL_law_513 : decode cL_law 513 = .ok (.iaload, 1) := by decide +kernel
theorem dL_law_514 : decode cL_law 514 = .ok (.aload_n 0, 1) := by decide +kernel
theorem dL_law_515 : decode cL_law 515 = .ok (.iload_n 3, 1) := by decide +kernel
theorem dL_law_516 : decode cL_law 516 = .ok (.iconst 2, 1) := by decide +kernel
theorem dL_law_517 : decode cL_law 517 = .ok (.iadd, 1) := by decide +kernel
theorem dL_law_518 : decode cL_law 518 = .ok (.iaload, 1) := by decide +kernel
theorem dL_law_519 : decode cL_law 519 = .ok (.invokevirtual 62, 3) := by decide +kernel
theorem dL_law_522 : decode cL_law 522 = .ok (.if_icmp .eq 1000, 3) := by decide +kernel
theorem dL_law_525 : decode cL_law 525 = .ok (.iconst 0, 1) := by decide +kernel
theorem dL_law_526 : decode cL_law 526 = .ok (.ireturn, 1) := by decide +kernel
theorem dL_law_527 : decode cL_law 527 = .ok (.aload_n 1, 1) := by decide +kernel
theorem dL_law_528 : decode cL_law 528 = .ok (.aload_n 0, 1) := by decide +kernel
theorem dL_law_529 : decode cL_law 529 = .ok (.iload_n 3, 1) := by decide +kernel
theorem dL_law_530 : decode cL_law 530 = .ok (.iconst 1, 1) := by decide +kernel
theorem dL_law_531 : decode cL_law 531 = .ok (.iadd, 1) := by decide +kernel
theorem dL_law_532 : decode cL_law 532 = .ok (.iaload, 1) := by decide +kernel
theorem dL_law_533 : decode cL_law 533 = .ok (.aload_n 0, 1) := by decide +kernel
theorem dL_law_534 : decode cL_law 534 = .ok (.iload_n 3, 1) := by decide +kernel
theorem dL_law_535 : decode cL_law 535 = .ok (.iconst 2, 1) := by decide +kernel
theorem dL_law_536 : decode cL_law 536 = .ok (.iadd, 1) := by decide +kernel
theorem dL_law_537 : decode cL_law 537 = .ok (.iaload, 1) := by decide +kernel
theorem dL_law_538 : decode cL_law 538 = .ok (.aload_n 0, 1) := by decide +kernel
theorem dL_law_539 : decode cL_law 539 = .ok (.iload_n 3, 1) := by decide +kernel
theorem dL_law_540 : decode cL_law 540 = .ok (.iconst 3, 1) := by decide +kernel
theorem dL_law_541 : decode cL_law 541 = .ok (.iadd, 1) := by decide +kernel
theorem dL_law_542 : decode cL_law 542 = .ok (.iaload, 1) := by decide +kernel
theorem dL_law_543 : decode cL_law 543 = .ok (.aload_n 0, 1) := by decide +kernel
theorem dL_law_544 : decode cL_law 544 = .ok (.iload_n 3, 1) := by decide +kernel
theorem dL_law_545 : decode cL_law 545 = .ok (.iconst 4, 1) := by decide +kernel
theorem dL_law_546 : decode cL_law 546 = .ok (.iadd, 1) := by decide +kernel
theorem dL_law_547 : decode cL_law 547 = .ok (.iaload, 1) := by decide +kernel
theorem dL_law_548 : decode cL_law 548 = .ok (.invokevirtual 63, 3) := by decide +kernel
theorem dL_law_551 : decode cL_law 551 = .ok (.aload_n 2, 1) := by decide +kernel
theorem dL_law_552 : decode cL_law 552 = .ok (.aload_n 0, 1) := by decide +kernel
theorem dL_law_553 : decode cL_law 553 = .ok (.iload_n 3, 1) := by decide +kernel
theorem dL_law_554 : decode cL_law 554 = .ok (.iconst 1, 1) := by decide +kernel
theorem dL_law_555 : decode cL_law 555 = .ok (.iadd, 1) := by decide +kernel
theorem dL_law_556 : decode cL_law 556 = .ok (.iaload, 1) := by decide +kernel
theorem dL_law_557 : decode cL_law 557 = .ok (.aload_n 0, 1) := by decide +kernel
theorem dL_law_558 : decode cL_law 558 = .ok (.iload_n 3, 1) := by decide +kernel
theorem dL_law_559 : decode cL_law 559 = .ok (.iconst 2, 1) := by decide +kernel
theorem dL_law_560 : decode cL_law 560 = .ok (.iadd, 1) := by decide +kernel
theorem dL_law_561 : decode cL_law 561 = .ok (.iaload, 1) := by decide +kernel
theorem dL_law_562 : decode cL_law 562 = .ok (.aload_n 0, 1) := by decide +kernel
theorem dL_law_563 : decode cL_law 563 = .ok (.iload_n 3, 1) := by decide +kernel
theorem dL_law_564 : decode cL_law 564 = .ok (.iconst 3, 1) := by decide +kernel
theorem dL_law_565 : decode cL_law 565 = .ok (.iadd, 1) := by decide +kernel
theorem dL_law_566 : decode cL_law 566 = .ok (.iaload, 1) := by decide +kernel
theorem dL_law_567 : decode cL_law 567 = .ok (.aload_n 0, 1) := by decide +kernel
theorem dL_law_568 : decode cL_law 568 = .ok (.iload_n 3, 1) := by decide +kernel
theorem dL_law_569 : decode cL_law 569 = .ok (.iconst 4, 1) := by decide +kernel
theorem dL_law_570 : decode cL_law 570 = .ok (.iadd, 1) := by decide +kernel
theorem dL_law_571 : decode cL_law 571 = .ok (.iaload, 1) := by decide +kernel
theorem dL_law_572 : decode cL_law 572 = .ok (.invokevirtual 67, 3) := by decide +kernel
theorem dL_law_575 : decode cL_law 575 = .ok (.if_icmp .eq 947, 3) := by decide +kernel
theorem dL_law_578 : decode cL_law 578 = .ok (.iconst 0, 1) := by decide +kernel
theorem dL_law_579 : decode cL_law 579 = .ok (.ireturn, 1) := by decide +kernel
theorem dL_law_580 : decode cL_law 580 = .ok (.aload_n 1, 1) := by decide +kernel
theorem dL_law_581 : decode cL_law 581 = .ok (.aload_n 0, 1) := by decide +kernel
theorem dL_law_582 : decode cL_law 582 = .ok (.iload_n 3, 1) := by decide +kernel
theorem dL_law_583 : decode cL_law 583 = .ok (.iconst 1, 1) := by decide +kernel
theorem dL_law_584 : decode cL_law 584 = .ok (.iadd, 1) := by decide +kernel
theorem dL_law_585 : decode cL_law 585 = .ok (.iaload, 1) := by decide +kernel
theorem dL_law_586 : decode cL_law 586 = .ok (.aload_n 0, 1) := by decide +kernel
theorem dL_law_587 : decode cL_law 587 = .ok (.iload_n 3, 1) := by decide +kernel
theorem dL_law_588 : decode cL_law 588 = .ok (.iconst 2, 1) := by decide +kernel
theorem dL_law_589 : decode cL_law 589 = .ok (.iadd, 1) := by decide +kernel
theorem dL_law_590 : decode cL_law 590 = .ok (.iaload, 1) := by decide +kernel
theorem dL_law_591 : decode cL_law 591 = .ok (.invokevirtual 68, 3) := by decide +kernel
theorem dL_law_594 : decode cL_law 594 = .ok (.aload_n 2, 1) := by decide +kernel
theorem dL_law_595 : decode cL_law 595 = .ok (.aload_n 0, 1) := by decide +kernel
theorem dL_law_596 : decode cL_law 596 = .ok (.iload_n 3, 1) := by decide +kernel
theorem dL_law_597 : decode cL_law 597 = .ok (.iconst 1, 1) := by decide +kernel
theorem dL_law_598 : decode cL_law 598 = .ok (.iadd, 1) := by decide +kernel
theorem dL_law_599 : decode cL_law 599 = .ok (.iaload, 1) := by decide +kernel
theorem dL_law_600 : decode cL_law 600 = .ok (.aload_n 0, 1) := by decide +kernel
theorem dL_law_601 : decode cL_law 601 = .ok (.iload_n 3, 1) := by decide +kernel
theorem dL_law_602 : decode cL_law 602 = .ok (.iconst 2, 1) := by decide +kernel
theorem dL_law_603 : decode cL_law 603 = .ok (.iadd, 1) := by decide +kernel
theorem dL_law_604 : decode cL_law 604 = .ok (.iaload, 1) := by decide +kernel
theorem dL_law_605 : decode cL_law 605 = .ok (.invokevirtual 71, 3) := by decide +kernel
theorem dL_law_608 : decode cL_law 608 = .ok (.if_icmp .eq 914, 3) := by decide +kernel
theorem dL_law_611 : decode cL_law 611 = .ok (.iconst 0, 1) := by decide +kernel
theorem dL_law_612 : decode cL_law 612 = .ok (.ireturn, 1) := by decide +kernel
theorem dL_law_613 : decode cL_law 613 = .ok (.aload_n 1, 1) := by decide +kernel
theorem dL_law_614 : decode cL_law 614 = .ok (.aload_n 0, 1) := by decide +kernel
theorem dL_law_615 : decode cL_law 615 = .ok (.iload_n 3, 1) := by decide +kernel
theorem dL_law_616 : decode cL_law 616 = .ok (.iconst 1, 1) := by decide +kernel
theorem dL_law_617 : decode cL_law 617 = .ok (.iadd, 1) := by decide +kernel
theorem dL_law_618 : decode cL_law 618 = .ok (.iaload, 1) := by decide +kernel
theorem dL_law_619 : decode cL_law 619 = .ok (.aload_n 0, 1) := by decide +kernel
theorem dL_law_620 : decode cL_law 620 = .ok (.iload_n 3, 1) := by decide +kernel
theorem dL_law_621 : decode cL_law 621 = .ok (.iconst 2, 1) := by decide +kernel
theorem dL_law_622 : decode cL_law 622 = .ok (.iadd, 1) := by decide +kernel
theorem dL_law_623 : decode cL_law 623 = .ok (.iaload, 1) := by decide +kernel
theorem dL_law_624 : decode cL_law 624 = .ok (.aload_n 0, 1) := by decide +kernel
theorem dL_law_625 : decode cL_law 625 = .ok (.iload_n 3, 1) := by decide +kernel
theorem dL_law_626 : decode cL_law 626 = .ok (.iconst 3, 1) := by decide +kernel
theorem dL_law_627 : decode cL_law 627 = .ok (.iadd, 1) := by decide +kernel
theorem dL_law_628 : decode cL_law 628 = .ok (.iaload, 1) := by decide +kernel
theorem dL_law_629 : decode cL_law 629 = .ok (.aload_n 0, 1) := by decide +kernel
theorem dL_law_630 : decode cL_law 630 = .ok (.iload_n 3, 1) := by decide +kernel
theorem dL_law_631 : decode cL_law 631 = .ok (.iconst 4, 1) := by decide +kernel
theorem dL_law_632 : decode cL_law 632 = .ok (.iadd, 1) := by decide +kernel
theorem dL_law_633 : decode cL_law 633 = .ok (.iaload, 1) := by decide +kernel
theorem dL_law_634 : decode cL_law 634 = .ok (.invokevirtual 72, 3) := by decide +kernel
theorem dL_law_637 : decode cL_law 637 = .ok (.aload_n 2, 1) := by decide +kernel
theorem dL_law_638 : decode cL_law 638 = .ok (.aload_n 0, 1) := by decide +kernel
theorem dL_law_639 : decode cL_law 639 = .ok (.iload_n 3, 1) := by decide +kernel
theorem dL_law_640 : decode cL_law 640 = .ok (.iconst 1, 1) := by decide +kernel
theorem dL_law_641 : decode cL_law 641 = .ok (.iadd, 1) := by decide +kernel
theorem dL_law_642 : decode cL_law 642 = .ok (.iaload, 1) := by decide +kernel
theorem dL_law_643 : decode cL_law 643 = .ok (.aload_n 0, 1) := by decide +kernel
theorem dL_law_644 : decode cL_law 644 = .ok (.iload_n 3, 1) := by decide +kernel
theorem dL_law_645 : decode cL_law 645 = .ok (.iconst 2, 1) := by decide +kernel
theorem dL_law_646 : decode cL_law 646 = .ok (.iadd, 1) := by decide +kernel
theorem dL_law_647 : decode cL_law 647 = .ok (.iaload, 1) := by decide +kernel
theorem dL_law_648 : decode cL_law 648 = .ok (.aload_n 0, 1) := by decide +kernel
theorem dL_law_649 : decode cL_law 649 = .ok (.iload_n 3, 1) := by decide +kernel
theorem dL_law_650 : decode cL_law 650 = .ok (.iconst 3, 1) := by decide +kernel
theorem dL_law_651 : decode cL_law 651 = .ok (.iadd, 1) := by decide +kernel
theorem dL_law_652 : decode cL_law 652 = .ok (.iaload, 1) := by decide +kernel
theorem dL_law_653 : decode cL_law 653 = .ok (.aload_n 0, 1) := by decide +kernel
theorem dL_law_654 : decode cL_law 654 = .ok (.iload_n 3, 1) := by decide +kernel
theorem dL_law_655 : decode cL_law 655 = .ok (.iconst 4, 1) := by decide +kernel
theorem dL_law_656 : decode cL_law 656 = .ok (.iadd, 1) := by decide +kernel
theorem dL_law_657 : decode cL_law 657 = .ok (.iaload, 1) := by decide +kernel
theorem dL_law_658 : decode cL_law 658 = .ok (.invokevirtual 75, 3) := by decide +kernel
theorem dL_law_661 : decode cL_law 661 = .ok (.if_icmp .eq 861, 3) := by decide +kernel
theorem dL_law_664 : decode cL_law 664 = .ok (.iconst 0, 1) := by decide +kernel
theorem dL_law_665 : decode cL_law 665 = .ok (.ireturn, 1) := by decide +kernel
theorem dL_law_666 : decode cL_law 666 = .ok (.aload_n 1, 1) := by decide +kernel
theorem dL_law_667 : decode cL_law 667 = .ok (.aload_n 0, 1) := by decide +kernel
theorem dL_law_668 : decode cL_law 668 = .ok (.iload_n 3, 1) := by decide +kernel
theorem dL_law_669 : decode cL_law 669 = .ok (.iconst 1, 1) := by decide +kernel
theorem dL_law_670 : decode cL_law 670 = .ok (.iadd, 1) := by decide +kernel
theorem dL_law_671 : decode cL_law 671 = .ok (.iaload, 1) := by decide +kernel
theorem dL_law_672 : decode cL_law 672 = .ok (.aload_n 0, 1) := by decide +kernel
theorem dL_law_673 : decode cL_law 673 = .ok (.iload_n 3, 1) := by decide +kernel
theorem dL_law_674 : decode cL_law 674 = .ok (.iconst 2, 1) := by decide +kernel
theorem dL_law_675 : decode cL_law 675 = .ok (.iadd, 1) := by decide +kernel
theorem dL_law_676 : decode cL_law 676 = .ok (.iaload, 1) := by decide +kernel
theorem dL_law_677 : decode cL_law 677 = .ok (.invokevirtual 76, 3) := by decide +kernel
theorem dL_law_680 : decode cL_law 680 = .ok (.aload_n 2, 1) := by decide +kernel
theorem dL_law_681 : decode cL_law 681 = .ok (.aload_n 0, 1) := by decide +kernel
theorem dL_law_682 : decode cL_law 682 = .ok (.iload_n 3, 1) := by decide +kernel
theorem dL_law_683 : decode cL_law 683 = .ok (.iconst 1, 1) := by decide +kernel
theorem dL_law_684 : decode cL_law 684 = .ok (.iadd, 1) := by decide +kernel
theorem dL_law_685 : decode cL_law 685 = .ok (.iaload, 1) := by decide +kernel
theorem dL_law_686 : decode cL_law 686 = .ok (.aload_n 0, 1) := by decide +kernel
theorem dL_law_687 : decode cL_law 687 = .ok (.iload_n 3, 1) := by decide +kernel
theorem dL_law_688 : decode cL_law 688 = .ok (.iconst 2, 1) := by decide +kernel
theorem dL_law_689 : decode cL_law 689 = .ok (.iadd, 1) := by decide +kernel
theorem dL_law_690 : decode cL_law 690 = .ok (.iaload, 1) := by decide +kernel
theorem dL_law_691 : decode cL_law 691 = .ok (.invokevirtual 79, 3) := by decide +kernel
theorem dL_law_694 : decode cL_law 694 = .ok (.if_icmp .eq 828, 3) := by decide +kernel
theorem dL_law_697 : decode cL_law 697 = .ok (.iconst 0, 1) := by decide +kernel
theorem dL_law_698 : decode cL_law 698 = .ok (.ireturn, 1) := by decide +kernel
theorem dL_law_699 : decode cL_law 699 = .ok (.aload_n 1, 1) := by decide +kernel
theorem dL_law_700 : decode cL_law 700 = .ok (.aload_n 0, 1) := by decide +kernel
theorem dL_law_701 : decode cL_law 701 = .ok (.iload_n 3, 1) := by decide +kernel
theorem dL_law_702 : decode cL_law 702 = .ok (.iconst 1, 1) := by decide +kernel
theorem dL_law_703 : decode cL_law 703 = .ok (.iadd, 1) := by decide +kernel
theorem dL_law_704 : decode cL_law 704 = .ok (.iaload, 1) := by decide +kernel
theorem dL_law_705 : decode cL_law 705 = .ok (.aload_n 0, 1) := by decide +kernel
theorem dL_law_706 : decode cL_law 706 = .ok (.iload_n 3, 1) := by decide +kernel
theorem dL_law_707 : decode cL_law 707 = .ok (.iconst 2, 1) := by decide +kernel
theorem dL_law_708 : decode cL_law 708 = .ok (.iadd, 1) := by decide +kernel
theorem dL_law_709 : decode cL_law 709 = .ok (.iaload, 1) := by decide +kernel
theorem dL_law_710 : decode cL_law 710 = .ok (.invokevirtual 80, 3) := by decide +kernel
theorem dL_law_713 : decode cL_law 713 = .ok (.aload_n 2, 1) := by decide +kernel
theorem dL_law_714 : decode cL_law 714 = .ok (.aload_n 0, 1) := by decide +kernel
theorem dL_law_715 : decode cL_law 715 = .ok (.iload_n 3, 1) := by decide +kernel
theorem dL_law_716 : decode cL_law 716 = .ok (.iconst 1, 1) := by decide +kernel
theorem dL_law_717 : decode cL_law 717 = .ok (.iadd, 1) := by decide +kernel
theorem dL_law_718 : decode cL_law 718 = .ok (.iaload, 1) := by decide +kernel
theorem dL_law_719 : decode cL_law 719 = .ok (.aload_n 0, 1) := by decide +kernel
theorem dL_law_720 : decode cL_law 720 = .ok (.iload_n 3, 1) := by decide +kernel
theorem dL_law_721 : decode cL_law 721 = .ok (.iconst 2, 1) := by decide +kernel
theorem dL_law_722 : decode cL_law 722 = .ok (.iadd, 1) := by decide +kernel
theorem dL_law_723 : decode cL_law 723 = .ok (.iaload, 1) := by decide +kernel
theorem dL_law_724 : decode cL_law 724 = .ok (.invokevirtual 83, 3) := by decide +kernel
theorem dL_law_727 : decode cL_law 727 = .ok (.if_icmp .eq 795, 3) := by decide +kernel
theorem dL_law_730 : decode cL_law 730 = .ok (.iconst 0, 1) := by decide +kernel
theorem dL_law_731 : decode cL_law 731 = .ok (.ireturn, 1) := by decide +kernel
theorem dL_law_732 : decode cL_law 732 = .ok (.aload_n 1, 1) := by decide +kernel
theorem dL_law_733 : decode cL_law 733 = .ok (.aload_n 0, 1) := by decide +kernel
theorem dL_law_734 : decode cL_law 734 = .ok (.iload_n 3, 1) := by decide +kernel
theorem dL_law_735 : decode cL_law 735 = .ok (.iconst 1, 1) := by decide +kernel
theorem dL_law_736 : decode cL_law 736 = .ok (.iadd, 1) := by decide +kernel
theorem dL_law_737 : decode cL_law 737 = .ok (.iaload, 1) := by decide +kernel
theorem dL_law_738 : decode cL_law 738 = .ok (.invokevirtual 84, 3) := by decide +kernel
theorem dL_law_741 : decode cL_law 741 = .ok (.aload_n 2, 1) := by decide +kernel
theorem dL_law_742 : decode cL_law 742 = .ok (.aload_n 0, 1) := by decide +kernel
theorem dL_law_743 : decode cL_law 743 = .ok (.iload_n 3, 1) := by decide +kernel
theorem dL_law_744 : decode cL_law 744 = .ok (.iconst 1, 1) := by decide +kernel
theorem dL_law_745 : decode cL_law 745 = .ok (.iadd, 1) := by decide +kernel
theorem dL_law_746 : decode cL_law 746 = .ok (.iaload, 1) := by decide +kernel
theorem dL_law_747 : decode cL_law 747 = .ok (.invokevirtual 87, 3) := by decide +kernel
theorem dL_law_750 : decode cL_law 750 = .ok (.if_icmp .eq 772, 3) := by decide +kernel
theorem dL_law_753 : decode cL_law 753 = .ok (.iconst 0, 1) := by decide +kernel
theorem dL_law_754 : decode cL_law 754 = .ok (.ireturn, 1) := by decide +kernel
theorem dL_law_755 : decode cL_law 755 = .ok (.aload_n 1, 1) := by decide +kernel
theorem dL_law_756 : decode cL_law 756 = .ok (.aload_n 0, 1) := by decide +kernel
theorem dL_law_757 : decode cL_law 757 = .ok (.iload_n 3, 1) := by decide +kernel
theorem dL_law_758 : decode cL_law 758 = .ok (.iconst 1, 1) := by decide +kernel
theorem dL_law_759 : decode cL_law 759 = .ok (.iadd, 1) := by decide +kernel
theorem dL_law_760 : decode cL_law 760 = .ok (.iaload, 1) := by decide +kernel
theorem dL_law_761 : decode cL_law 761 = .ok (.aload_n 0, 1) := by decide +kernel
theorem dL_law_762 : decode cL_law 762 = .ok (.iload_n 3, 1) := by decide +kernel
theorem dL_law_763 : decode cL_law 763 = .ok (.iconst 2, 1) := by decide +kernel
theorem dL_law_764 : decode cL_law 764 = .ok (.iadd, 1) := by decide +kernel
theorem dL_law_765 : decode cL_law 765 = .ok (.iaload, 1) := by decide +kernel
theorem dL_law_766 : decode cL_law 766 = .ok (.invokevirtual 88, 3) := by decide +kernel
theorem dL_law_769 : decode cL_law 769 = .ok (.aload_n 2, 1) := by decide +kernel
theorem dL_law_770 : decode cL_law 770 = .ok (.aload_n 0, 1) := by decide +kernel
theorem dL_law_771 : decode cL_law 771 = .ok (.iload_n 3, 1) := by decide +kernel
theorem dL_law_772 : decode cL_law 772 = .ok (.iconst 1, 1) := by decide +kernel
theorem dL_law_773 : decode cL_law 773 = .ok (.iadd, 1) := by decide +kernel
theorem dL_law_774 : decode cL_law 774 = .ok (.iaload, 1) := by decide +kernel
theorem dL_law_775 : decode cL_law 775 = .ok (.aload_n 0, 1) := by decide +kernel
theorem dL_law_776 : decode cL_law 776 = .ok (.iload_n 3, 1) := by decide +kernel
theorem dL_law_777 : decode cL_law 777 = .ok (.iconst 2, 1) := by decide +kernel
theorem dL_law_778 : decode cL_law 778 = .ok (.iadd, 1) := by decide +kernel
theorem dL_law_779 : decode cL_law 779 = .ok (.iaload, 1) := by decide +kernel
theorem dL_law_780 : decode cL_law 780 = .ok (.invokevirtual 91, 3) := by decide +kernel
theorem dL_law_783 : decode cL_law 783 = .ok (.if_icmp .eq 739, 3) := by decide +kernel
theorem dL_law_786 : decode cL_law 786 = .ok (.iconst 0, 1) := by decide +kernel
theorem dL_law_787 : decode cL_law 787 = .ok (.ireturn, 1) := by decide +kernel
theorem dL_law_788 : decode cL_law 788 = .ok (.aload_n 1, 1) := by decide +kernel
theorem dL_law_789 : decode cL_law 789 = .ok (.aload_n 0, 1) := by decide +kernel
theorem dL_law_790 : decode cL_law 790 = .ok (.iload_n 3, 1) := by decide +kernel
theorem dL_law_791 : decode cL_law 791 = .ok (.iconst 1, 1) := by decide +kernel
theorem dL_law_792 : decode cL_law 792 = .ok (.iadd, 1) := by decide +kernel
theorem dL_law_793 : decode cL_law 793 = .ok (.iaload, 1) := by decide +kernel
theorem dL_law_794 : decode cL_law 794 = .ok (.aload_n 0, 1) := by decide +kernel
theorem dL_law_795 : decode cL_law 795 = .ok (.iload_n 3, 1) := by decide +kernel
theorem dL_law_796 : decode cL_law 796 = .ok (.iconst 2, 1) := by decide +kernel
theorem dL_law_797 : decode cL_law 797 = .ok (.iadd, 1) := by decide +kernel
theorem dL_law_798 : decode cL_law 798 = .ok (.iaload, 1) := by decide +kernel
theorem dL_law_799 : decode cL_law 799 = .ok (.aload_n 0, 1) := by decide +kernel
theorem dL_law_800 : decode cL_law 800 = .ok (.iload_n 3, 1) := by decide +kernel
theorem dL_law_801 : decode cL_law 801 = .ok (.iconst 3, 1) := by decide +kernel
theorem dL_law_802 : decode cL_law 802 = .ok (.iadd, 1) := by decide +kernel
theorem dL_law_803 : decode cL_law 803 = .ok (.iaload, 1) := by decide +kernel
theorem dL_law_804 : decode cL_law 804 = .ok (.aload_n 0, 1) := by decide +kernel
theorem dL_law_805 : decode cL_law 805 = .ok (.iload_n 3, 1) := by decide +kernel
theorem dL_law_806 : decode cL_law 806 = .ok (.iconst 4, 1) := by decide +kernel
theorem dL_law_807 : decode cL_law 807 = .ok (.iadd, 1) := by decide +kernel
theorem dL_law_808 : decode cL_law 808 = .ok (.iaload, 1) := by decide +kernel
theorem dL_law_809 : decode cL_law 809 = .ok (.invokevirtual 92, 3) := by decide +kernel
theorem dL_law_812 : decode cL_law 812 = .ok (.aload_n 2, 1) := by decide +kernel
theorem dL_law_813 : decode cL_law 813 = .ok (.aload_n 0, 1) := by decide +kernel
theorem dL_law_814 : decode cL_law 814 = .ok (.iload_n 3, 1) := by decide +kernel
theorem dL_law_815 : decode cL_law 815 = .ok (.iconst 1, 1) := by decide +kernel
theorem dL_law_816 : decode cL_law 816 = .ok (.iadd, 1) := by decide +kernel
theorem dL_law_817 : decode cL_law 817 = .ok (.iaload, 1) := by decide +kernel
theorem dL_law_818 : decode cL_law 818 = .ok (.aload_n 0, 1) := by decide +kernel
theorem dL_law_819 : decode cL_law 819 = .ok (.iload_n 3, 1) := by decide +kernel
theorem dL_law_820 : decode cL_law 820 = .ok (.iconst 2, 1) := by decide +kernel
theorem dL_law_821 : decode cL_law 821 = .ok (.iadd, 1) := by decide +kernel
theorem dL_law_822 : decode cL_law 822 = .ok (.iaload, 1) := by decide +kernel
theorem dL_law_823 : decode cL_law 823 = .ok (.aload_n 0, 1) := by decide +kernel
theorem dL_law_824 : decode cL_law 824 = .ok (.iload_n 3, 1) := by decide +kernel
theorem dL_law_825 : decode cL_law 825 = .ok (.iconst 3, 1) := by decide +kernel
theorem dL_law_826 : decode cL_law 826 = .ok (.iadd, 1) := by decide +kernel
theorem dL_law_827 : decode cL_law 827 = .ok (.iaload, 1) := by decide +kernel
theorem dL_law_828 : decode cL_law 828 = .ok (.aload_n 0, 1) := by decide +kernel
theorem dL_law_829 : decode cL_law 829 = .ok (.iload_n 3, 1) := by decide +kernel
theorem dL_law_830 : decode cL_law 830 = .ok (.iconst 4, 1) := by decide +kernel
theorem dL_law_831 : decode cL_law 831 = .ok (.iadd, 1) := by decide +kernel
theorem dL_law_832 : decode cL_law 832 = .ok (.iaload, 1) := by decide +kernel
theorem dL_law_833 : decode cL_law 833 = .ok (.invokevirtual 95, 3) := by decide +kernel
theorem dL_law_836 : decode cL_law 836 = .ok (.if_icmp .eq 686, 3) := by decide +kernel
theorem dL_law_839 : decode cL_law 839 = .ok (.iconst 0, 1) := by decide +kernel
theorem dL_law_840 : decode cL_law 840 = .ok (.ireturn, 1) := by decide +kernel
theorem dL_law_841 : decode cL_law 841 = .ok (.aload_n 1, 1) := by decide +kernel
theorem dL_law_842 : decode cL_law 842 = .ok (.aload_n 0, 1) := by decide +kernel
theorem dL_law_843 : decode cL_law 843 = .ok (.iload_n 3, 1) := by decide +kernel
theorem dL_law_844 : decode cL_law 844 = .ok (.iconst 1, 1) := by decide +kernel
theorem dL_law_845 : decode cL_law 845 = .ok (.iadd, 1) := by decide +kernel
theorem dL_law_846 : decode cL_law 846 = .ok (.iaload, 1) := by decide +kernel
theorem dL_law_847 : decode cL_law 847 = .ok (.aload_n 0, 1) := by decide +kernel
theorem dL_law_848 : decode cL_law 848 = .ok (.iload_n 3, 1) := by decide +kernel
theorem dL_law_849 : decode cL_law 849 = .ok (.iconst 2, 1) := by decide +kernel
theorem dL_law_850 : decode cL_law 850 = .ok (.iadd, 1) := by decide +kernel
theorem dL_law_851 : decode cL_law 851 = .ok (.iaload, 1) := by decide +kernel
theorem dL_law_852 : decode cL_law 852 = .ok (.aload_n 0, 1) := by decide +kernel
theorem dL_law_853 : decode cL_law 853 = .ok (.iload_n 3, 1) := by decide +kernel
theorem dL_law_854 : decode cL_law 854 = .ok (.iconst 3, 1) := by decide +kernel
theorem dL_law_855 : decode cL_law 855 = .ok (.iadd, 1) := by decide +kernel
theorem dL_law_856 : decode cL_law 856 = .ok (.iaload, 1) := by decide +kernel
theorem dL_law_857 : decode cL_law 857 = .ok (.invokevirtual 96, 3) := by decide +kernel
theorem dL_law_860 : decode cL_law 860 = .ok (.aload_n 2, 1) := by decide +kernel
theorem dL_law_861 : decode cL_law 861 = .ok (.aload_n 0, 1) := by decide +kernel
theorem dL_law_862 : decode cL_law 862 = .ok (.iload_n 3, 1) := by decide +kernel
theorem dL_law_863 : decode cL_law 863 = .ok (.iconst 1, 1) := by decide +kernel
theorem dL_law_864 : decode cL_law 864 = .ok (.iadd, 1) := by decide +kernel
theorem dL_law_865 : decode cL_law 865 = .ok (.iaload, 1) := by decide +kernel
theorem dL_law_866 : decode cL_law 866 = .ok (.aload_n 0, 1) := by decide +kernel
theorem dL_law_867 : decode cL_law 867 = .ok (.iload_n 3, 1) := by decide +kernel
theorem dL_law_868 : decode cL_law 868 = .ok (.iconst 2, 1) := by decide +kernel
theorem dL_law_869 : decode cL_law 869 = .ok (.iadd, 1) := by decide +kernel
theorem dL_law_870 : decode cL_law 870 = .ok (.iaload, 1) := by decide +kernel
theorem dL_law_871 : decode cL_law 871 = .ok (.aload_n 0, 1) := by decide +kernel
theorem dL_law_872 : decode cL_law 872 = .ok (.iload_n 3, 1) := by decide +kernel
theorem dL_law_873 : decode cL_law 873 = .ok (.iconst 3, 1) := by decide +kernel
theorem dL_law_874 : decode cL_law 874 = .ok (.iadd, 1) := by decide +kernel
theorem dL_law_875 : decode cL_law 875 = .ok (.iaload, 1) := by decide +kernel
theorem dL_law_876 : decode cL_law 876 = .ok (.invokevirtual 99, 3) := by decide +kernel
theorem dL_law_879 : decode cL_law 879 = .ok (.if_icmp .eq 643, 3) := by decide +kernel
theorem dL_law_882 : decode cL_law 882 = .ok (.iconst 0, 1) := by decide +kernel
theorem dL_law_883 : decode cL_law 883 = .ok (.ireturn, 1) := by decide +kernel
theorem dL_law_884 : decode cL_law 884 = .ok (.aload_n 1, 1) := by decide +kernel
theorem dL_law_885 : decode cL_law 885 = .ok (.aload_n 0, 1) := by decide +kernel
theorem dL_law_886 : decode cL_law 886 = .ok (.iload_n 3, 1) := by decide +kernel
theorem dL_law_887 : decode cL_law 887 = .ok (.iconst 1, 1) := by decide +kernel
theorem dL_law_888 : decode cL_law 888 = .ok (.iadd, 1) := by decide +kernel
theorem dL_law_889 : decode cL_law 889 = .ok (.iaload, 1) := by decide +kernel
theorem dL_law_890 : decode cL_law 890 = .ok (.aload_n 0, 1) := by decide +kernel
theorem dL_law_891 : decode cL_law 891 = .ok (.iload_n 3, 1) := by decide +kernel
theorem dL_law_892 : decode cL_law 892 = .ok (.iconst 2, 1) := by decide +kernel
theorem dL_law_893 : decode cL_law 893 = .ok (.iadd, 1) := by decide +kernel
theorem dL_law_894 : decode cL_law 894 = .ok (.iaload, 1) := by decide +kernel
theorem dL_law_895 : decode cL_law 895 = .ok (.aload_n 0, 1) := by decide +kernel
theorem dL_law_896 : decode cL_law 896 = .ok (.iload_n 3, 1) := by decide +kernel
theorem dL_law_897 : decode cL_law 897 = .ok (.iconst 3, 1) := by decide +kernel
theorem dL_law_898 : decode cL_law 898 = .ok (.iadd, 1) := by decide +kernel
theorem dL_law_899 : decode cL_law 899 = .ok (.iaload, 1) := by decide +kernel
theorem dL_law_900 : decode cL_law 900 = .ok (.aload_n 0, 1) := by decide +kernel
theorem dL_law_901 : decode cL_law 901 = .ok (.iload_n 3, 1) := by decide +kernel
theorem dL_law_902 : decode cL_law 902 = .ok (.iconst 4, 1) := by decide +kernel
theorem dL_law_903 : decode cL_law 903 = .ok (.iadd, 1) := by decide +kernel
theorem dL_law_904 : decode cL_law 904 = .ok (.iaload, 1) := by decide +kernel
theorem dL_law_905 : decode cL_law 905 = .ok (.invokevirtual 100, 3) := by decide +kernel
theorem dL_law_908 : decode cL_law 908 = .ok (.aload_n 2, 1) := by decide +kernel
theorem dL_law_909 : decode cL_law 909 = .ok (.aload_n 0, 1) := by decide +kernel
theorem dL_law_910 : decode cL_law 910 = .ok (.iload_n 3, 1) := by decide +kernel
theorem dL_law_911 : decode cL_law 911 = .ok (.iconst 1, 1) := by decide +kernel
theorem dL_law_912 : decode cL_law 912 = .ok (.iadd, 1) := by decide +kernel
theorem dL_law_913 : decode cL_law 913 = .ok (.iaload, 1) := by decide +kernel
theorem dL_law_914 : decode cL_law 914 = .ok (.aload_n 0, 1) := by decide +kernel
theorem dL_law_915 : decode cL_law 915 = .ok (.iload_n 3, 1) := by decide +kernel
theorem dL_law_916 : decode cL_law 916 = .ok (.iconst 2, 1) := by decide +kernel
theorem dL_law_917 : decode cL_law 917 = .ok (.iadd, 1) := by decide +kernel
theorem dL_law_918 : decode cL_law 918 = .ok (.iaload, 1) := by decide +kernel
theorem dL_law_919 : decode cL_law 919 = .ok (.aload_n 0, 1) := by decide +kernel
theorem dL_law_920 : decode cL_law 920 = .ok (.iload_n 3, 1) := by decide +kernel
theorem dL_law_921 : decode cL_law 921 = .ok (.iconst 3, 1) := by decide +kernel
theorem dL_law_922 : decode cL_law 922 = .ok (.iadd, 1) := by decide +kernel
theorem dL_law_923 : decode cL_law 923 = .ok (.iaload, 1) := by decide +kernel
theorem dL_law_924 : decode cL_law 924 = .ok (.aload_n 0, 1) := by decide +kernel
theorem dL_law_925 : decode cL_law 925 = .ok (.iload_n 3, 1) := by decide +kernel
theorem dL_law_926 : decode cL_law 926 = .ok (.iconst 4, 1) := by decide +kernel
theorem dL_law_927 : decode cL_law 927 = .ok (.iadd, 1) := by decide +kernel
theorem dL_law_928 : decode cL_law 928 = .ok (.iaload, 1) := by decide +kernel
theorem dL_law_929 : decode cL_law 929 = .ok (.invokevirtual 103, 3) := by decide +kernel
theorem dL_law_932 : decode cL_law 932 = .ok (.if_icmp .eq 590, 3) := by decide +kernel
theorem dL_law_935 : decode cL_law 935 = .ok (.iconst 0, 1) := by decide +kernel
theorem dL_law_936 : decode cL_law 936 = .ok (.ireturn, 1) := by decide +kernel
theorem dL_law_937 : decode cL_law 937 = .ok (.aload_n 1, 1) := by decide +kernel
theorem dL_law_938 : decode cL_law 938 = .ok (.aload_n 0, 1) := by decide +kernel
theorem dL_law_939 : decode cL_law 939 = .ok (.iload_n 3, 1) := by decide +kernel
theorem dL_law_940 : decode cL_law 940 = .ok (.iconst 1, 1) := by decide +kernel
theorem dL_law_941 : decode cL_law 941 = .ok (.iadd, 1) := by decide +kernel
theorem dL_law_942 : decode cL_law 942 = .ok (.iaload, 1) := by decide +kernel
theorem dL_law_943 : decode cL_law 943 = .ok (.aload_n 0, 1) := by decide +kernel
theorem dL_law_944 : decode cL_law 944 = .ok (.iload_n 3, 1) := by decide +kernel
theorem dL_law_945 : decode cL_law 945 = .ok (.iconst 2, 1) := by decide +kernel
theorem dL_law_946 : decode cL_law 946 = .ok (.iadd, 1) := by decide +kernel
theorem dL_law_947 : decode cL_law 947 = .ok (.iaload, 1) := by decide +kernel
theorem dL_law_948 : decode cL_law 948 = .ok (.aload_n 0, 1) := by decide +kernel
theorem dL_law_949 : decode cL_law 949 = .ok (.iload_n 3, 1) := by decide +kernel
theorem dL_law_950 : decode cL_law 950 = .ok (.iconst 3, 1) := by decide +kernel
theorem dL_law_951 : decode cL_law 951 = .ok (.iadd, 1) := by decide +kernel
theorem dL_law_952 : decode cL_law 952 = .ok (.iaload, 1) := by decide +kernel
theorem dL_law_953 : decode cL_law 953 = .ok (.aload_n 0, 1) := by decide +kernel
theorem dL_law_954 : decode cL_law 954 = .ok (.iload_n 3, 1) := by decide +kernel
theorem dL_law_955 : decode cL_law 955 = .ok (.iconst 4, 1) := by decide +kernel
theorem dL_law_956 : decode cL_law 956 = .ok (.iadd, 1) := by decide +kernel
theorem dL_law_957 : decode cL_law 957 = .ok (.iaload, 1) := by decide +kernel
theorem dL_law_958 : decode cL_law 958 = .ok (.invokevirtual 104, 3) := by decide +kernel
theorem dL_law_961 : decode cL_law 961 = .ok (.aload_n 2, 1) := by decide +kernel
theorem dL_law_962 : decode cL_law 962 = .ok (.aload_n 0, 1) := by decide +kernel
theorem dL_law_963 : decode cL_law 963 = .ok (.iload_n 3, 1) := by decide +kernel
theorem dL_law_964 : decode cL_law 964 = .ok (.iconst 1, 1) := by decide +kernel
theorem dL_law_965 : decode cL_law 965 = .ok (.iadd, 1) := by decide +kernel
theorem dL_law_966 : decode cL_law 966 = .ok (.iaload, 1) := by decide +kernel
theorem dL_law_967 : decode cL_law 967 = .ok (.aload_n 0, 1) := by decide +kernel
theorem dL_law_968 : decode cL_law 968 = .ok (.iload_n 3, 1) := by decide +kernel
theorem dL_law_969 : decode cL_law 969 = .ok (.iconst 2, 1) := by decide +kernel
theorem dL_law_970 : decode cL_law 970 = .ok (.iadd, 1) := by decide +kernel
theorem dL_law_971 : decode cL_law 971 = .ok (.iaload, 1) := by decide +kernel
theorem dL_law_972 : decode cL_law 972 = .ok (.aload_n 0, 1) := by decide +kernel
theorem dL_law_973 : decode cL_law 973 = .ok (.iload_n 3, 1) := by decide +kernel
theorem dL_law_974 : decode cL_law 974 = .ok (.iconst 3, 1) := by decide +kernel
theorem dL_law_975 : decode cL_law 975 = .ok (.iadd, 1) := by decide +kernel
theorem dL_law_976 : decode cL_law 976 = .ok (.iaload, 1) := by decide +kernel
theorem dL_law_977 : decode cL_law 977 = .ok (.aload_n 0, 1) := by decide +kernel
theorem dL_law_978 : decode cL_law 978 = .ok (.iload_n 3, 1) := by decide +kernel
theorem dL_law_979 : decode cL_law 979 = .ok (.iconst 4, 1) := by decide +kernel
theorem dL_law_980 : decode cL_law 980 = .ok (.iadd, 1) := by decide +kernel
theorem dL_law_981 : decode cL_law 981 = .ok (.iaload, 1) := by decide +kernel
theorem dL_law_982 : decode cL_law 982 = .ok (.invokevirtual 107, 3) := by decide +kernel
theorem dL_law_985 : decode cL_law 985 = .ok (.if_icmp .eq 537, 3) := by decide +kernel
theorem dL_law_988 : decode cL_law 988 = .ok (.iconst 0, 1) := by decide +kernel
theorem dL_law_989 : decode cL_law 989 = .ok (.ireturn, 1) := by decide +kernel
theorem dL_law_990 : decode cL_law 990 = .ok (.aload_n 1, 1) := by decide +kernel
theorem dL_law_991 : decode cL_law 991 = .ok (.aload_n 0, 1) := by decide +kernel
theorem dL_law_992 : decode cL_law 992 = .ok (.iload_n 3, 1) := by decide +kernel
theorem dL_law_993 : decode cL_law 993 = .ok (.iconst 1, 1) := by decide +kernel
theorem dL_law_994 : decode cL_law 994 = .ok (.iadd, 1) := by decide +kernel
theorem dL_law_995 : decode cL_law 995 = .ok (.iaload, 1) := by decide +kernel
theorem dL_law_996 : decode cL_law 996 = .ok (.aload_n 0, 1) := by decide +kernel
theorem dL_law_997 : decode cL_law 997 = .ok (.iload_n 3, 1) := by decide +kernel
theorem dL_law_998 : decode cL_law 998 = .ok (.iconst 2, 1) := by decide +kernel
theorem dL_law_999 : decode cL_law 999 = .ok (.iadd, 1) := by decide +kernel
theorem dL_law_1000 : decode cL_law 1000 = .ok (.iaload, 1) := by decide +kernel
theorem dL_law_1001 : decode cL_law 1001 = .ok (.aload_n 0, 1) := by decide +kernel
theorem dL_law_1002 : decode cL_law 1002 = .ok (.iload_n 3, 1) := by decide +kernel
theorem dL_law_1003 : decode cL_law 1003 = .ok (.iconst 3, 1) := by decide +kernel
theorem dL_law_1004 : decode cL_law 1004 = .ok (.iadd, 1) := by decide +kernel
theorem dL_law_1005 : decode cL_law 1005 = .ok (.iaload, 1) := by decide +kernel
theorem dL_law_1006 : decode cL_law 1006 = .ok (.invokevirtual 108, 3) := by decide +kernel
theorem dL_law_1009 : decode cL_law 1009 = .ok (.aload_n 2, 1) := by decide +kernel
theorem dL_law_1010 : decode cL_law 1010 = .ok (.aload_n 0, 1) := by decide +kernel
theorem dL_law_1011 : decode cL_law 1011 = .ok (.iload_n 3, 1) := by decide +kernel
theorem dL_law_1012 : decode cL_law 1012 = .ok (.iconst 1, 1) := by decide +kernel
theorem dL_law_1013 : decode cL_law 1013 = .ok (.iadd, 1) := by decide +kernel
theorem dL_law_1014 : decode cL_law 1014 = .ok (.iaload, 1) := by decide +kernel
theorem dL_law_1015 : decode cL_law 1015 = .ok (.aload_n 0, 1) := by decide +kernel
theorem dL_law_1016 : decode cL_law 1016 = .ok (.iload_n 3, 1) := by decide +kernel
theorem dL_law_1017 : decode cL_law 1017 = .ok (.iconst 2, 1) := by decide +kernel
theorem dL_law_1018 : decode cL_law 1018 = .ok (.iadd, 1) := by decide +kernel
theorem dL_law_1019 : decode cL_law 1019 = .ok (.iaload, 1) := by decide +kernel
theorem dL_law_1020 : decode cL_law 1020 = .ok (.aload_n 0, 1) := by decide +kernel
theorem dL_law_1021 : decode cL_law 1021 = .ok (.iload_n 3, 1) := by decide +kernel
theorem dL_law_1022 : decode cL_law 1022 = .ok (.iconst 3, 1) := by decide +kernel
theorem dL_law_1023 : decode cL_law 1023 = .ok (.iadd, 1) := by decide +kernel
theorem dL_law_1024 : decode cL_law 1024 = .ok (.iaload, 1) := by decide +kernel
theorem dL_law_1025 : decode cL_law 1025 = .ok (.invokevirtual 111, 3) := by decide +kernel
theorem dL_law_1028 : decode cL_law 1028 = .ok (.if_icmp .eq 494, 3) := by decide +kernel
theorem dL_law_1031 : decode cL_law 1031 = .ok (.iconst 0, 1) := by decide +kernel
theorem dL_law_1032 : decode cL_law 1032 = .ok (.ireturn, 1) := by decide +kernel
theorem dL_law_1033 : decode cL_law 1033 = .ok (.aload_n 1, 1) := by decide +kernel
theorem dL_law_1034 : decode cL_law 1034 = .ok (.aload_n 0, 1) := by decide +kernel
theorem dL_law_1035 : decode cL_law 1035 = .ok (.iload_n 3, 1) := by decide +kernel
theorem dL_law_1036 : decode cL_law 1036 = .ok (.iconst 1, 1) := by decide +kernel
theorem dL_law_1037 : decode cL_law 1037 = .ok (.iadd, 1) := by decide +kernel
theorem dL_law_1038 : decode cL_law 1038 = .ok (.iaload, 1) := by decide +kernel
theorem dL_law_1039 : decode cL_law 1039 = .ok (.aload_n 0, 1) := by decide +kernel
theorem dL_law_1040 : decode cL_law 1040 = .ok (.iload_n 3, 1) := by decide +kernel
theorem dL_law_1041 : decode cL_law 1041 = .ok (.iconst 2, 1) := by decide +kernel
theorem dL_law_1042 : decode cL_law 1042 = .ok (.iadd, 1) := by decide +kernel
theorem dL_law_1043 : decode cL_law 1043 = .ok (.iaload, 1) := by decide +kernel
theorem dL_law_1044 : decode cL_law 1044 = .ok (.aload_n 0, 1) := by decide +kernel
theorem dL_law_1045 : decode cL_law 1045 = .ok (.iload_n 3, 1) := by decide +kernel
theorem dL_law_1046 : decode cL_law 1046 = .ok (.iconst 3, 1) := by decide +kernel
theorem dL_law_1047 : decode cL_law 1047 = .ok (.iadd, 1) := by decide +kernel
theorem dL_law_1048 : decode cL_law 1048 = .ok (.iaload, 1) := by decide +kernel
theorem dL_law_1049 : decode cL_law 1049 = .ok (.aload_n 0, 1) := by decide +kernel
theorem dL_law_1050 : decode cL_law 1050 = .ok (.iload_n 3, 1) := by decide +kernel
theorem dL_law_1051 : decode cL_law 1051 = .ok (.iconst 4, 1) := by decide +kernel
theorem dL_law_1052 : decode cL_law 1052 = .ok (.iadd, 1) := by decide +kernel
theorem dL_law_1053 : decode cL_law 1053 = .ok (.iaload, 1) := by decide +kernel
theorem dL_law_1054 : decode cL_law 1054 = .ok (.invokevirtual 112, 3) := by decide +kernel
theorem dL_law_1057 : decode cL_law 1057 = .ok (.aload_n 2, 1) := by decide +kernel
theorem dL_law_1058 : decode cL_law 1058 = .ok (.aload_n 0, 1) := by decide +kernel
theorem dL_law_1059 : decode cL_law 1059 = .ok (.iload_n 3, 1) := by decide +kernel
theorem dL_law_1060 : decode cL_law 1060 = .ok (.iconst 1, 1) := by decide +kernel
theorem dL_law_1061 : decode cL_law 1061 = .ok (.iadd, 1) := by decide +kernel
theorem dL_law_1062 : decode cL_law 1062 = .ok (.iaload, 1) := by decide +kernel
theorem dL_law_1063 : decode cL_law 1063 = .ok (.aload_n 0, 1) := by decide +kernel
theorem dL_law_1064 : decode cL_law 1064 = .ok (.iload_n 3, 1) := by decide +kernel
theorem dL_law_1065 : decode cL_law 1065 = .ok (.iconst 2, 1) := by decide +kernel
theorem dL_law_1066 : decode cL_law 1066 = .ok (.iadd, 1) := by decide +kernel
theorem dL_law_1067 : decode cL_law 1067 = .ok (.iaload, 1) := by decide +kernel
theorem dL_law_1068 : decode cL_law 1068 = .ok (.aload_n 0, 1) := by decide +kernel
theorem dL_law_1069 : decode cL_law 1069 = .ok (.iload_n 3, 1) := by decide +kernel
theorem dL_law_1070 : decode cL_law 1070 = .ok (.iconst 3, 1) := by decide +kernel
theorem dL_law_1071 : decode cL_law 1071 = .ok (.iadd, 1) := by decide +kernel
theorem dL_law_1072 : decode cL_law 1072 = .ok (.iaload, 1) := by decide +kernel
theorem dL_law_1073 : decode cL_law 1073 = .ok (.aload_n 0, 1) := by decide +kernel
theorem dL_law_1074 : decode cL_law 1074 = .ok (.iload_n 3, 1) := by decide +kernel
theorem dL_law_1075 : decode cL_law 1075 = .ok (.iconst 4, 1) := by decide +kernel
theorem dL_law_1076 : decode cL_law 1076 = .ok (.iadd, 1) := by decide +kernel
theorem dL_law_1077 : decode cL_law 1077 = .ok (.iaload, 1) := by decide +kernel
theorem dL_law_1078 : decode cL_law 1078 = .ok (.invokevirtual 115, 3) := by decide +kernel
theorem dL_law_1081 : decode cL_law 1081 = .ok (.if_icmp .eq 441, 3) := by decide +kernel
theorem dL_law_1084 : decode cL_law 1084 = .ok (.iconst 0, 1) := by decide +kernel
theorem dL_law_1085 : decode cL_law 1085 = .ok (.ireturn, 1) := by decide +kernel
theorem dL_law_1086 : decode cL_law 1086 = .ok (.aload_n 1, 1) := by decide +kernel
theorem dL_law_1087 : decode cL_law 1087 = .ok (.aload_n 0, 1) := by decide +kernel
theorem dL_law_1088 : decode cL_law 1088 = .ok (.iload_n 3, 1) := by decide +kernel
theorem dL_law_1089 : decode cL_law 1089 = .ok (.iconst 1, 1) := by decide +kernel
theorem dL_law_1090 : decode cL_law 1090 = .ok (.iadd, 1) := by decide +kernel
theorem dL_law_1091 : decode cL_law 1091 = .ok (.iaload, 1) := by decide +kernel
theorem dL_law_1092 : decode cL_law 1092 = .ok (.aload_n 0, 1) := by decide +kernel
theorem dL_law_1093 : decode cL_law 1093 = .ok (.iload_n 3, 1) := by decide +kernel
theorem dL_law_1094 : decode cL_law 1094 = .ok (.iconst 2, 1) := by decide +kernel
theorem dL_law_1095 : decode cL_law 1095 = .ok (.iadd, 1) := by decide +kernel
theorem dL_law_1096 : decode cL_law 1096 = .ok (.iaload, 1) := by decide +kernel
theorem dL_law_1097 : decode cL_law 1097 = .ok (.aload_n 0, 1) := by decide +kernel
theorem dL_law_1098 : decode cL_law 1098 = .ok (.iload_n 3, 1) := by decide +kernel
theorem dL_law_1099 : decode cL_law 1099 = .ok (.iconst 3, 1) := by decide +kernel
theorem dL_law_1100 : decode cL_law 1100 = .ok (.iadd, 1) := by decide +kernel
theorem dL_law_1101 : decode cL_law 1101 = .ok (.iaload, 1) := by decide +kernel
theorem dL_law_1102 : decode cL_law 1102 = .ok (.invokevirtual 116, 3) := by decide +kernel
theorem dL_law_1105 : decode cL_law 1105 = .ok (.aload_n 2, 1) := by decide +kernel
theorem dL_law_1106 : decode cL_law 1106 = .ok (.aload_n 0, 1) := by decide +kernel
theorem dL_law_1107 : decode cL_law 1107 = .ok (.iload_n 3, 1) := by decide +kernel
theorem dL_law_1108 : decode cL_law 1108 = .ok (.iconst 1, 1) := by decide +kernel
theorem dL_law_1109 : decode cL_law 1109 = .ok (.iadd, 1) := by decide +kernel
theorem dL_law_1110 : decode cL_law 1110 = .ok (.iaload, 1) := by decide +kernel
theorem dL_law_1111 : decode cL_law 1111 = .ok (.aload_n 0, 1) := by decide +kernel
theorem dL_law_1112 : decode cL_law 1112 = .ok (.iload_n 3, 1) := by decide +kernel
theorem dL_law_1113 : decode cL_law 1113 = .ok (.iconst 2, 1) := by decide +kernel
theorem dL_law_1114 : decode cL_law 1114 = .ok (.iadd, 1) := by decide +kernel
theorem dL_law_1115 : decode cL_law 1115 = .ok (.iaload, 1) := by decide +kernel
theorem dL_law_1116 : decode cL_law 1116 = .ok (.aload_n 0, 1) := by decide +kernel
theorem dL_law_1117 : decode cL_law 1117 = .ok (.iload_n 3, 1) := by decide +kernel
theorem dL_law_1118 : decode cL_law 1118 = .ok (.iconst 3, 1) := by decide +kernel
theorem dL_law_1119 : decode cL_law 1119 = .ok (.iadd, 1) := by decide +kernel
theorem dL_law_1120 : decode cL_law 1120 = .ok (.iaload, 1) := by decide +kernel
theorem dL_law_1121 : decode cL_law 1121 = .ok (.invokevirtual 119, 3) := by decide +kernel
theorem dL_law_1124 : decode cL_law 1124 = .ok (.if_icmp .eq 398, 3) := by decide +kernel
theorem dL_law_1127 : decode cL_law 1127 = .ok (.iconst 0, 1) := by decide +kernel
theorem dL_law_1128 : decode cL_law 1128 = .ok (.ireturn, 1) := by decide +kernel
theorem dL_law_1129 : decode cL_law 1129 = .ok (.aload_n 1, 1) := by decide +kernel
theorem dL_law_1130 : decode cL_law 1130 = .ok (.aload_n 0, 1) := by decide +kernel
theorem dL_law_1131 : decode cL_law 1131 = .ok (.iload_n 3, 1) := by decide +kernel
theorem dL_law_1132 : decode cL_law 1132 = .ok (.iconst 1, 1) := by decide +kernel
theorem dL_law_1133 : decode cL_law 1133 = .ok (.iadd, 1) := by decide +kernel
theorem dL_law_1134 : decode cL_law 1134 = .ok (.iaload, 1) := by decide +kernel
theorem dL_law_1135 : decode cL_law 1135 = .ok (.aload_n 0, 1) := by decide +kernel
theorem dL_law_1136 : decode cL_law 1136 = .ok (.iload_n 3, 1) := by decide +kernel
theorem dL_law_1137 : decode cL_law 1137 = .ok (.iconst 2, 1) := by decide +kernel
theorem dL_law_1138 : decode cL_law 1138 = .ok (.iadd, 1) := by decide +kernel
theorem dL_law_1139 : decode cL_law 1139 = .ok (.iaload, 1) := by decide +kernel
theorem dL_law_1140 : decode cL_law 1140 = .ok (.aload_n 0, 1) := by decide +kernel
theorem dL_law_1141 : decode cL_law 1141 = .ok (.iload_n 3, 1) := by decide +kernel
theorem dL_law_1142 : decode cL_law 1142 = .ok (.iconst 3, 1) := by decide +kernel
theorem dL_law_1143 : decode cL_law 1143 = .ok (.iadd, 1) := by decide +kernel
theorem dL_law_1144 : decode cL_law 1144 = .ok (.iaload, 1) := by decide +kernel
theorem dL_law_1145 : decode cL_law 1145 = .ok (.invokevirtual 120, 3) := by decide +kernel
theorem dL_law_1148 : decode cL_law 1148 = .ok (.aload_n 2, 1) := by decide +kernel
theorem dL_law_1149 : decode cL_law 1149 = .ok (.aload_n 0, 1) := by decide +kernel
theorem dL_law_1150 : decode cL_law 1150 = .ok (.iload_n 3, 1) := by decide +kernel
theorem dL_law_1151 : decode cL_law 1151 = .ok (.iconst 1, 1) := by decide +kernel
theorem dL_law_1152 : decode cL_law 1152 = .ok (.iadd, 1) := by decide +kernel
theorem dL_law_1153 : decode cL_law 1153 = .ok (.iaload, 1) := by decide +kernel
theorem dL_law_1154 : decode cL_law 1154 = .ok (.aload_n 0, 1) := by decide +kernel
theorem dL_law_1155 : decode cL_law 1155 = .ok (.iload_n 3, 1) := by decide +kernel
theorem dL_law_1156 : decode cL_law 1156 = .ok (.iconst 2, 1) := by decide +kernel
theorem dL_law_1157 : decode cL_law 1157 = .ok (.iadd, 1) := by decide +kernel
theorem dL_law_1158 : decode cL_law 1158 = .ok (.iaload, 1) := by decide +kernel
theorem dL_law_1159 : decode cL_law 1159 = .ok (.aload_n 0, 1) := by decide +kernel
theorem dL_law_1160 : decode cL_law 1160 = .ok (.iload_n 3, 1) := by decide +kernel
theorem dL_law_1161 : decode cL_law 1161 = .ok (.iconst 3, 1) := by decide +kernel
theorem dL_law_1162 : decode cL_law 1162 = .ok (.iadd, 1) := by decide +kernel
theorem dL_law_1163 : decode cL_law 1163 = .ok (.iaload, 1) := by decide +kernel
theorem dL_law_1164 : decode cL_law 1164 = .ok (.invokevirtual 123, 3) := by decide +kernel
theorem dL_law_1167 : decode cL_law 1167 = .ok (.if_icmp .eq 355, 3) := by decide +kernel
theorem dL_law_1170 : decode cL_law 1170 = .ok (.iconst 0, 1) := by decide +kernel
theorem dL_law_1171 : decode cL_law 1171 = .ok (.ireturn, 1) := by decide +kernel
theorem dL_law_1172 : decode cL_law 1172 = .ok (.aload_n 1, 1) := by decide +kernel
theorem dL_law_1173 : decode cL_law 1173 = .ok (.aload_n 0, 1) := by decide +kernel
theorem dL_law_1174 : decode cL_law 1174 = .ok (.iload_n 3, 1) := by decide +kernel
theorem dL_law_1175 : decode cL_law 1175 = .ok (.iconst 1, 1) := by decide +kernel
theorem dL_law_1176 : decode cL_law 1176 = .ok (.iadd, 1) := by decide +kernel
theorem dL_law_1177 : decode cL_law 1177 = .ok (.iaload, 1) := by decide +kernel
theorem dL_law_1178 : decode cL_law 1178 = .ok (.aload_n 0, 1) := by decide +kernel
theorem dL_law_1179 : decode cL_law 1179 = .ok (.iload_n 3, 1) := by decide +kernel
theorem dL_law_1180 : decode cL_law 1180 = .ok (.iconst 2, 1) := by decide +kernel
theorem dL_law_1181 : decode cL_law 1181 = .ok (.iadd, 1) := by decide +kernel
theorem dL_law_1182 : decode cL_law 1182 = .ok (.iaload, 1) := by decide +kernel
theorem dL_law_1183 : decode cL_law 1183 = .ok (.invokevirtual 124, 3) := by decide +kernel
theorem dL_law_1186 : decode cL_law 1186 = .ok (.aload_n 2, 1) := by decide +kernel
theorem dL_law_1187 : decode cL_law 1187 = .ok (.aload_n 0, 1) := by decide +kernel
theorem dL_law_1188 : decode cL_law 1188 = .ok (.iload_n 3, 1) := by decide +kernel
theorem dL_law_1189 : decode cL_law 1189 = .ok (.iconst 1, 1) := by decide +kernel
theorem dL_law_1190 : decode cL_law 1190 = .ok (.iadd, 1) := by decide +kernel
theorem dL_law_1191 : decode cL_law 1191 = .ok (.iaload, 1) := by decide +kernel
theorem dL_law_1192 : decode cL_law 1192 = .ok (.aload_n 0, 1) := by decide +kernel
theorem dL_law_1193 : decode cL_law 1193 = .ok (.iload_n 3, 1) := by decide +kernel
theorem dL_law_1194 : decode cL_law 1194 = .ok (.iconst 2, 1) := by decide +kernel
theorem dL_law_1195 : decode cL_law 1195 = .ok (.iadd, 1) := by decide +kernel
theorem dL_law_1196 : decode cL_law 1196 = .ok (.iaload, 1) := by decide +kernel
theorem dL_law_1197 : decode cL_law 1197 = .ok (.invokevirtual 127, 3) := by decide +kernel
theorem dL_law_1200 : decode cL_law 1200 = .ok (.if_icmp .eq 322, 3) := by decide +kernel
theorem dL_law_1203 : decode cL_law 1203 = .ok (.iconst 0, 1) := by decide +kernel
theorem dL_law_1204 : decode cL_law 1204 = .ok (.ireturn, 1) := by decide +kernel
theorem dL_law_1205 : decode cL_law 1205 = .ok (.aload_n 1, 1) := by decide +kernel
theorem dL_law_1206 : decode cL_law 1206 = .ok (.aload_n 0, 1) := by decide +kernel
theorem dL_law_1207 : decode cL_law 1207 = .ok (.iload_n 3, 1) := by decide +kernel
theorem dL_law_1208 : decode cL_law 1208 = .ok (.iconst 1, 1) := by decide +kernel
theorem dL_law_1209 : decode cL_law 1209 = .ok (.iadd, 1) := by decide +kernel
theorem dL_law_1210 : decode cL_law 1210 = .ok (.iaload, 1) := by decide +kernel
theorem dL_law_1211 : decode cL_law 1211 = .ok (.aload_n 0, 1) := by decide +kernel
theorem dL_law_1212 : decode cL_law 1212 = .ok (.iload_n 3, 1) := by decide +kernel
theorem dL_law_1213 : decode cL_law 1213 = .ok (.iconst 2, 1) := by decide +kernel
theorem dL_law_1214 : decode cL_law 1214 = .ok (.iadd, 1) := by decide +kernel
theorem dL_law_1215 : decode cL_law 1215 = .ok (.iaload, 1) := by decide +kernel
theorem dL_law_1216 : decode cL_law 1216 = .ok (.aload_n 0, 1) := by decide +kernel
theorem dL_law_1217 : decode cL_law 1217 = .ok (.iload_n 3, 1) := by decide +kernel
theorem dL_law_1218 : decode cL_law 1218 = .ok (.iconst 3, 1) := by decide +kernel
theorem dL_law_1219 : decode cL_law 1219 = .ok (.iadd, 1) := by decide +kernel
theorem dL_law_1220 : decode cL_law 1220 = .ok (.iaload, 1) := by decide +kernel
theorem dL_law_1221 : decode cL_law 1221 = .ok (.invokevirtual 128, 3) := by decide +kernel
theorem dL_law_1224 : decode cL_law 1224 = .ok (.aload_n 2, 1) := by decide +kernel
theorem dL_law_1225 : decode cL_law 1225 = .ok (.aload_n 0, 1) := by decide +kernel
theorem dL_law_1226 : decode cL_law 1226 = .ok (.iload_n 3, 1) := by decide +kernel
theorem dL_law_1227 : decode cL_law 1227 = .ok (.iconst 1, 1) := by decide +kernel
theorem dL_law_1228 : decode cL_law 1228 = .ok (.iadd, 1) := by decide +kernel
theorem dL_law_1229 : decode cL_law 1229 = .ok (.iaload, 1) := by decide +kernel
theorem dL_law_1230 : decode cL_law 1230 = .ok (.aload_n 0, 1) := by decide +kernel
theorem dL_law_1231 : decode cL_law 1231 = .ok (.iload_n 3, 1) := by decide +kernel
theorem dL_law_1232 : decode cL_law 1232 = .ok (.iconst 2, 1) := by decide +kernel
theorem dL_law_1233 : decode cL_law 1233 = .ok (.iadd, 1) := by decide +kernel
theorem dL_law_1234 : decode cL_law 1234 = .ok (.iaload, 1) := by decide +kernel
theorem dL_law_1235 : decode cL_law 1235 = .ok (.aload_n 0, 1) := by decide +kernel
theorem dL_law_1236 : decode cL_law 1236 = .ok (.iload_n 3, 1) := by decide +kernel
theorem dL_law_1237 : decode cL_law 1237 = .ok (.iconst 3, 1) := by decide +kernel
theorem dL_law_1238 : decode cL_law 1238 = .ok (.iadd, 1) := by decide +kernel
theorem dL_law_1239 : decode cL_law 1239 = .ok (.iaload, 1) := by decide +kernel
theorem dL_law_1240 : decode cL_law 1240 = .ok (.invokevirtual 131, 3) := by decide +kernel
theorem dL_law_1243 : decode cL_law 1243 = .ok (.if_icmp .eq 279, 3) := by decide +kernel
theorem dL_law_1246 : decode cL_law 1246 = .ok (.iconst 0, 1) := by decide +kernel
theorem dL_law_1247 : decode cL_law 1247 = .ok (.ireturn, 1) := by decide +kernel
theorem dL_law_1248 : decode cL_law 1248 = .ok (.aload_n 1, 1) := by decide +kernel
theorem dL_law_1249 : decode cL_law 1249 = .ok (.aload_n 0, 1) := by decide +kernel
theorem dL_law_1250 : decode cL_law 1250 = .ok (.iload_n 3, 1) := by decide +kernel
theorem dL_law_1251 : decode cL_law 1251 = .ok (.iconst 1, 1) := by decide +kernel
theorem dL_law_1252 : decode cL_law 1252 = .ok (.iadd, 1) := by decide +kernel
theorem dL_law_1253 : decode cL_law 1253 = .ok (.iaload, 1) := by decide +kernel
theorem dL_law_1254 : decode cL_law 1254 = .ok (.aload_n 0, 1) := by decide +kernel
theorem dL_law_1255 : decode cL_law 1255 = .ok (.iload_n 3, 1) := by decide +kernel
theorem dL_law_1256 : decode cL_law 1256 = .ok (.iconst 2, 1) := by decide +kernel
theorem dL_law_1257 : decode cL_law 1257 = .ok (.iadd, 1) := by decide +kernel
theorem dL_law_1258 : decode cL_law 1258 = .ok (.iaload, 1) := by decide +kernel
theorem dL_law_1259 : decode cL_law 1259 = .ok (.aload_n 0, 1) := by decide +kernel
theorem dL_law_1260 : decode cL_law 1260 = .ok (.iload_n 3, 1) := by decide +kernel
theorem dL_law_1261 : decode cL_law 1261 = .ok (.iconst 3, 1) := by decide +kernel
theorem dL_law_1262 : decode cL_law 1262 = .ok (.iadd, 1) := by decide +kernel
theorem dL_law_1263 : decode cL_law 1263 = .ok (.iaload, 1) := by decide +kernel
theorem dL_law_1264 : decode cL_law 1264 = .ok (.aload_n 0, 1) := by decide +kernel
theorem dL_law_1265 : decode cL_law 1265 = .ok (.iload_n 3, 1) := by decide +kernel
theorem dL_law_1266 : decode cL_law 1266 = .ok (.iconst 4, 1) := by decide +kernel
theorem dL_law_1267 : decode cL_law 1267 = .ok (.iadd, 1) := by decide +kernel
theorem dL_law_1268 : decode cL_law 1268 = .ok (.iaload, 1) := by decide +kernel
theorem dL_law_1269 : decode cL_law 1269 = .ok (.aload_n 0, 1) := by decide +kernel
theorem dL_law_1270 : decode cL_law 1270 = .ok (.iload_n 3, 1) := by decide +kernel
theorem dL_law_1271 : decode cL_law 1271 = .ok (.iconst 5, 1) := by decide +kernel
theorem dL_law_1272 : decode cL_law 1272 = .ok (.iadd, 1) := by decide +kernel
theorem dL_law_1273 : decode cL_law 1273 = .ok (.iaload, 1) := by decide +kernel
theorem dL_law_1274 : decode cL_law 1274 = .ok (.aload_n 0, 1) := by decide +kernel
theorem dL_law_1275 : decode cL_law 1275 = .ok (.iload_n 3, 1) := by decide +kernel
theorem dL_law_1276 : decode cL_law 1276 = .ok (.bipush 6, 2) := by decide +kernel
theorem dL_law_1278 : decode cL_law 1278 = .ok (.iadd, 1) := by decide +kernel
theorem dL_law_1279 : decode cL_law 1279 = .ok (.iaload, 1) := by decide +kernel
theorem dL_law_1280 : decode cL_law 1280 = .ok (.invokevirtual 132, 3) := by decide +kernel
theorem dL_law_1283 : decode cL_law 1283 = .ok (.aload_n 2, 1) := by decide +kernel
theorem dL_law_1284 : decode cL_law 1284 = .ok (.aload_n 0, 1) := by decide +kernel
theorem dL_law_1285 : decode cL_law 1285 = .ok (.iload_n 3, 1) := by decide +kernel
theorem dL_law_1286 : decode cL_law 1286 = .ok (.iconst 1, 1) := by decide +kernel
theorem dL_law_1287 : decode cL_law 1287 = .ok (.iadd, 1) := by decide +kernel
theorem dL_law_1288 : decode cL_law 1288 = .ok (.iaload, 1) := by decide +kernel
theorem dL_law_1289 : decode cL_law 1289 = .ok (.aload_n 0, 1) := by decide +kernel
theorem dL_law_1290 : decode cL_law 1290 = .ok (.iload_n 3, 1) := by decide +kernel
theorem dL_law_1291 : decode cL_law 1291 = .ok (.iconst 2, 1) := by decide +kernel
theorem dL_law_1292 : decode cL_law 1292 = .ok (.iadd, 1) := by decide +kernel
theorem dL_law_1293 : decode cL_law 1293 = .ok (.iaload, 1) := by decide +kernel
theorem dL_law_1294 : decode cL_law 1294 = .ok (.aload_n 0, 1) := by decide +kernel
theorem dL_law_1295 : decode cL_law 1295 = .ok (.iload_n 3, 1) := by decide +kernel
theorem dL_law_1296 : decode cL_law 1296 = .ok (.iconst 3, 1) := by decide +kernel
theorem dL_law_1297 : decode cL_law 1297 = .ok (.iadd, 1) := by decide +kernel
theorem dL_law_1298 : decode cL_law 1298 = .ok (.iaload, 1) := by decide +kernel
theorem dL_law_1299 : decode cL_law 1299 = .ok (.aload_n 0, 1) := by decide +kernel
theorem dL_law_1300 : decode cL_law 1300 = .ok (.iload_n 3, 1) := by decide +kernel
theorem dL_law_1301 : decode cL_law 1301 = .ok (.iconst 4, 1) := by decide +kernel
theorem dL_law_1302 : decode cL_law 1302 = .ok (.iadd, 1) := by decide +kernel
theorem dL_law_1303 : decode cL_law 1303 = .ok (.iaload, 1) := by decide +kernel
theorem dL_law_1304 : decode cL_law 1304 = .ok (.aload_n 0, 1) := by decide +kernel
theorem dL_law_1305 : decode cL_law 1305 = .ok (.iload_n 3, 1) := by decide +kernel
theorem dL_law_1306 : decode cL_law 1306 = .ok (.iconst 5, 1) := by decide +kernel
theorem dL_law_1307 : decode cL_law 1307 = .ok (.iadd, 1) := by decide +kernel
theorem dL_law_1308 : decode cL_law 1308 = .ok (.iaload, 1) := by decide +kernel
theorem dL_law_1309 : decode cL_law 1309 = .ok (.aload_n 0, 1) := by decide +kernel
theorem dL_law_1310 : decode cL_law 1310 = .ok (.iload_n 3, 1) := by decide +kernel
theorem dL_law_1311 : decode cL_law 1311 = .ok (.bipush 6, 2) := by decide +kernel
theorem dL_law_1313 : decode cL_law 1313 = .ok (.iadd, 1) := by decide +kernel
theorem dL_law_1314 : decode cL_law 1314 = .ok (.iaload, 1) := by decide +kernel
theorem dL_law_1315 : decode cL_law 1315 = .ok (.invokevirtual 136, 3) := by decide +kernel
theorem dL_law_1318 : decode cL_law 1318 = .ok (.if_icmp .eq 204, 3) := by decide +kernel
theorem dL_law_1321 : decode cL_law 1321 = .ok (.iconst 0, 1) := by decide +kernel
theorem dL_law_1322 : decode cL_law 1322 = .ok (.ireturn, 1) := by decide +kernel
theorem dL_law_1323 : decode cL_law 1323 = .ok (.aload_n 1, 1) := by decide +kernel
theorem dL_law_1324 : decode cL_law 1324 = .ok (.aload_n 0, 1) := by decide +kernel
theorem dL_law_1325 : decode cL_law 1325 = .ok (.iload_n 3, 1) := by decide +kernel
theorem dL_law_1326 : decode cL_law 1326 = .ok (.iconst 1, 1) := by decide +kernel
theorem dL_law_1327 : decode cL_law 1327 = .ok (.iadd, 1) := by decide +kernel
theorem dL_law_1328 : decode cL_law 1328 = .ok (.iaload, 1) := by decide +kernel
theorem dL_law_1329 : decode cL_law 1329 = .ok (.aload_n 0, 1) := by decide +kernel
theorem dL_law_1330 : decode cL_law 1330 = .ok (.iload_n 3, 1) := by decide +kernel
theorem dL_law_1331 : decode cL_law 1331 = .ok (.iconst 2, 1) := by decide +kernel
theorem dL_law_1332 : decode cL_law 1332 = .ok (.iadd, 1) := by decide +kernel
theorem dL_law_1333 : decode cL_law 1333 = .ok (.iaload, 1) := by decide +kernel
theorem dL_law_1334 : decode cL_law 1334 = .ok (.aload_n 0, 1) := by decide +kernel
theorem dL_law_1335 : decode cL_law 1335 = .ok (.iload_n 3, 1) := by decide +kernel
theorem dL_law_1336 : decode cL_law 1336 = .ok (.iconst 3, 1) := by decide +kernel
theorem dL_law_1337 : decode cL_law 1337 = .ok (.iadd, 1) := by decide +kernel
theorem dL_law_1338 : decode cL_law 1338 = .ok (.iaload, 1) := by decide +kernel
theorem dL_law_1339 : decode cL_law 1339 = .ok (.aload_n 0, 1) := by decide +kernel
theorem dL_law_1340 : decode cL_law 1340 = .ok (.iload_n 3, 1) := by decide +kernel
theorem dL_law_1341 : decode cL_law 1341 = .ok (.iconst 4, 1) := by decide +kernel
theorem dL_law_1342 : decode cL_law 1342 = .ok (.iadd, 1) := by decide +kernel
theorem dL_law_1343 : decode cL_law 1343 = .ok (.iaload, 1) := by decide +kernel
theorem dL_law_1344 : decode cL_law 1344 = .ok (.aload_n 0, 1) := by decide +kernel
theorem dL_law_1345 : decode cL_law 1345 = .ok (.iload_n 3, 1) := by decide +kernel
theorem dL_law_1346 : decode cL_law 1346 = .ok (.iconst 5, 1) := by decide +kernel
theorem dL_law_1347 : decode cL_law 1347 = .ok (.iadd, 1) := by decide +kernel
theorem dL_law_1348 : decode cL_law 1348 = .ok (.iaload, 1) := by decide +kernel
theorem dL_law_1349 : decode cL_law 1349 = .ok (.aload_n 0, 1) := by decide +kernel
theorem dL_law_1350 : decode cL_law 1350 = .ok (.iload_n 3, 1) := by decide +kernel
theorem dL_law_1351 : decode cL_law 1351 = .ok (.bipush 6, 2) := by decide +kernel
theorem dL_law_1353 : decode cL_law 1353 = .ok (.iadd, 1) := by decide +kernel
theorem dL_law_1354 : decode cL_law 1354 = .ok (.iaload, 1) := by decide +kernel
theorem dL_law_1355 : decode cL_law 1355 = .ok (.aload_n 0, 1) := by decide +kernel
theorem dL_law_1356 : decode cL_law 1356 = .ok (.iload_n 3, 1) := by decide +kernel
theorem dL_law_1357 : decode cL_law 1357 = .ok (.bipush 7, 2) := by decide +kernel
theorem dL_law_1359 : decode cL_law 1359 = .ok (.iadd, 1) := by decide +kernel
theorem dL_law_1360 : decode cL_law 1360 = .ok (.iaload, 1) := by decide +kernel
theorem dL_law_1361 : decode cL_law 1361 = .ok (.invokevirtual 137, 3) := by decide +kernel
theorem dL_law_1364 : decode cL_law 1364 = .ok (.aload_n 2, 1) := by decide +kernel
theorem dL_law_1365 : decode cL_law 1365 = .ok (.aload_n 0, 1) := by decide +kernel
theorem dL_law_1366 : decode cL_law 1366 = .ok (.iload_n 3, 1) := by decide +kernel
theorem dL_law_1367 : decode cL_law 1367 = .ok (.iconst 1, 1) := by decide +kernel
theorem dL_law_1368 : decode cL_law 1368 = .ok (.iadd, 1) := by decide +kernel
theorem dL_law_1369 : decode cL_law 1369 = .ok (.iaload, 1) := by decide +kernel
theorem dL_law_1370 : decode cL_law 1370 = .ok (.aload_n 0, 1) := by decide +kernel
theorem dL_law_1371 : decode cL_law 1371 = .ok (.iload_n 3, 1) := by decide +kernel
theorem dL_law_1372 : decode cL_law 1372 = .ok (.iconst 2, 1) := by decide +kernel
theorem dL_law_1373 : decode cL_law 1373 = .ok (.iadd, 1) := by decide +kernel
theorem dL_law_1374 : decode cL_law 1374 = .ok (.iaload, 1) := by decide +kernel
theorem dL_law_1375 : decode cL_law 1375 = .ok (.aload_n 0, 1) := by decide +kernel
theorem dL_law_1376 : decode cL_law 1376 = .ok (.iload_n 3, 1) := by decide +kernel
theorem dL_law_1377 : decode cL_law 1377 = .ok (.iconst 3, 1) := by decide +kernel
theorem dL_law_1378 : decode cL_law 1378 = .ok (.iadd, 1) := by decide +kernel
theorem dL_law_1379 : decode cL_law 1379 = .ok (.iaload, 1) := by decide +kernel
theorem dL_law_1380 : decode cL_law 1380 = .ok (.aload_n 0, 1) := by decide +kernel
theorem dL_law_1381 : decode cL_law 1381 = .ok (.iload_n 3, 1) := by decide +kernel
theorem dL_law_1382 : decode cL_law 1382 = .ok (.iconst 4, 1) := by decide +kernel
theorem dL_law_1383 : decode cL_law 1383 = .ok (.iadd, 1) := by decide +kernel
theorem dL_law_1384 : decode cL_law 1384 = .ok (.iaload, 1) := by decide +kernel
theorem dL_law_1385 : decode cL_law 1385 = .ok (.aload_n 0, 1) := by decide +kernel
theorem dL_law_1386 : decode cL_law 1386 = .ok (.iload_n 3, 1) := by decide +kernel
theorem dL_law_1387 : decode cL_law 1387 = .ok (.iconst 5, 1) := by decide +kernel
theorem dL_law_1388 : decode cL_law 1388 = .ok (.iadd, 1) := by decide +kernel
theorem dL_law_1389 : decode cL_law 1389 = .ok (.iaload, 1) := by decide +kernel
theorem dL_law_1390 : decode cL_law 1390 = .ok (.aload_n 0, 1) := by decide +kernel
theorem dL_law_1391 : decode cL_law 1391 = .ok (.iload_n 3, 1) := by decide +kernel
theorem dL_law_1392 : decode cL_law 1392 = .ok (.bipush 6, 2) := by decide +kernel
theorem dL_law_1394 : decode cL_law 1394 = .ok (.iadd, 1) := by decide +kernel
theorem dL_law_1395 : decode cL_law 1395 = .ok (.iaload, 1) := by decide +kernel
theorem dL_law_1396 : decode cL_law 1396 = .ok (.aload_n 0, 1) := by decide +kernel
theorem dL_law_1397 : decode cL_law 1397 = .ok (.iload_n 3, 1) := by decide +kernel
theorem dL_law_1398 : decode cL_law 1398 = .ok (.bipush 7, 2) := by decide +kernel
theorem dL_law_1400 : decode cL_law 1400 = .ok (.iadd, 1) := by decide +kernel
theorem dL_law_1401 : decode cL_law 1401 = .ok (.iaload, 1) := by decide +kernel
theorem dL_law_1402 : decode cL_law 1402 = .ok (.invokevirtual 141, 3) := by decide +kernel
theorem dL_law_1405 : decode cL_law 1405 = .ok (.if_icmp .eq 117, 3) := by decide +kernel
theorem dL_law_1408 : decode cL_law 1408 = .ok (.iconst 0, 1) := by decide +kernel
theorem dL_law_1409 : decode cL_law 1409 = .ok (.ireturn, 1) := by decide +kernel
theorem dL_law_1410 : decode cL_law 1410 = .ok (.aload_n 1, 1) := by decide +kernel
theorem dL_law_1411 : decode cL_law 1411 = .ok (.aload_n 0, 1) := by decide +kernel
theorem dL_law_1412 : decode cL_law 1412 = .ok (.iload_n 3, 1) := by decide +kernel
theorem dL_law_1413 : decode cL_law 1413 = .ok (.iconst 1, 1) := by decide +kernel
theorem dL_law_1414 : decode cL_law 1414 = .ok (.iadd, 1) := by decide +kernel
theorem dL_law_1415 : decode cL_law 1415 = .ok (.iaload, 1) := by decide +kernel
theorem dL_law_1416 : decode cL_law 1416 = .ok (.aload_n 0, 1) := by decide +kernel
theorem dL_law_1417 : decode cL_law 1417 = .ok (.iload_n 3, 1) := by decide +kernel
theorem dL_law_1418 : decode cL_law 1418 = .ok (.iconst 2, 1) := by decide +kernel
theorem dL_law_1419 : decode cL_law 1419 = .ok (.iadd, 1) := by decide +kernel
theorem dL_law_1420 : decode cL_law 1420 = .ok (.iaload, 1) := by decide +kernel
theorem dL_law_1421 : decode cL_law 1421 = .ok (.aload_n 0, 1) := by decide +kernel
theorem dL_law_1422 : decode cL_law 1422 = .ok (.iload_n 3, 1) := by decide +kernel
theorem dL_law_1423 : decode cL_law 1423 = .ok (.iconst 3, 1) := by decide +kernel
theorem dL_law_1424 : decode cL_law 1424 = .ok (.iadd, 1) := by decide +kernel
theorem dL_law_1425 : decode cL_law 1425 = .ok (.iaload, 1) := by decide +kernel
theorem dL_law_1426 : decode cL_law 1426 = .ok (.aload_n 0, 1) := by decide +kernel
theorem dL_law_1427 : decode cL_law 1427 = .ok (.iload_n 3, 1) := by decide +kernel
theorem dL_law_1428 : decode cL_law 1428 = .ok (.iconst 4, 1) := by decide +kernel
theorem dL_law_1429 : decode cL_law 1429 = .ok (.iadd, 1) := by decide +kernel
theorem dL_law_1430 : decode cL_law 1430 = .ok (.iaload, 1) := by decide +kernel
theorem dL_law_1431 : decode cL_law 1431 = .ok (.invokevirtual 142, 3) := by decide +kernel
theorem dL_law_1434 : decode cL_law 1434 = .ok (.aload_n 2, 1) := by decide +kernel
theorem dL_law_1435 : decode cL_law 1435 = .ok (.aload_n 0, 1) := by decide +kernel
theorem dL_law_1436 : decode cL_law 1436 = .ok (.iload_n 3, 1) := by decide +kernel
theorem dL_law_1437 : decode cL_law 1437 = .ok (.iconst 1, 1) := by decide +kernel
theorem dL_law_1438 : decode cL_law 1438 = .ok (.iadd, 1) := by decide +kernel
theorem dL_law_1439 : decode cL_law 1439 = .ok (.iaload, 1) := by decide +kernel
theorem dL_law_1440 : decode cL_law 1440 = .ok (.aload_n 0, 1) := by decide +kernel
theorem dL_law_1441 : decode cL_law 1441 = .ok (.iload_n 3, 1) := by decide +kernel
theorem dL_law_1442 : decode cL_law 1442 = .ok (.iconst 2, 1) := by decide +kernel
theorem dL_law_1443 : decode cL_law 1443 = .ok (.iadd, 1) := by decide +kernel
theorem dL_law_1444 : decode cL_law 1444 = .ok (.iaload, 1) := by decide +kernel
theorem dL_law_1445 : decode cL_law 1445 = .ok (.aload_n 0, 1) := by decide +kernel
theorem dL_law_1446 : decode cL_law 1446 = .ok (.iload_n 3, 1) := by decide +kernel
theorem dL_law_1447 : decode cL_law 1447 = .ok (.iconst 3, 1) := by decide +kernel
theorem dL_law_1448 : decode cL_law 1448 = .ok (.iadd, 1) := by decide +kernel
theorem dL_law_1449 : decode cL_law 1449 = .ok (.iaload, 1) := by decide +kernel
theorem dL_law_1450 : decode cL_law 1450 = .ok (.aload_n 0, 1) := by decide +kernel
theorem dL_law_1451 : decode cL_law 1451 = .ok (.iload_n 3, 1) := by decide +kernel
theorem dL_law_1452 : decode cL_law 1452 = .ok (.iconst 4, 1) := by decide +kernel
theorem dL_law_1453 : decode cL_law 1453 = .ok (.iadd, 1) := by decide +kernel
theorem dL_law_1454 : decode cL_law 1454 = .ok (.iaload, 1) := by decide +kernel
theorem dL_law_1455 : decode cL_law 1455 = .ok (.invokevirtual 145, 3) := by decide +kernel
theorem dL_law_1458 : decode cL_law 1458 = .ok (.if_icmp .eq 64, 3) := by decide +kernel
theorem dL_law_1461 : decode cL_law 1461 = .ok (.iconst 0, 1) := by decide +kernel
theorem dL_law_1462 : decode cL_law 1462 = .ok (.ireturn, 1) := by decide +kernel
theorem dL_law_1463 : decode cL_law 1463 = .ok (.aload_n 1, 1) := by decide +kernel
theorem dL_law_1464 : decode cL_law 1464 = .ok (.aload_n 0, 1) := by decide +kernel
theorem dL_law_1465 : decode cL_law 1465 = .ok (.iload_n 3, 1) := by decide +kernel
theorem dL_law_1466 : decode cL_law 1466 = .ok (.iconst 1, 1) := by decide +kernel
theorem dL_law_1467 : decode cL_law 1467 = .ok (.iadd, 1) := by decide +kernel
theorem dL_law_1468 : decode cL_law 1468 = .ok (.iaload, 1) := by decide +kernel
theorem dL_law_1469 : decode cL_law 1469 = .ok (.invokevirtual 146, 3) := by decide +kernel
theorem dL_law_1472 : decode cL_law 1472 = .ok (.aload_n 2, 1) := by decide +kernel
theorem dL_law_1473 : decode cL_law 1473 = .ok (.aload_n 0, 1) := by decide +kernel
theorem dL_law_1474 : decode cL_law 1474 = .ok (.iload_n 3, 1) := by decide +kernel
theorem dL_law_1475 : decode cL_law 1475 = .ok (.iconst 1, 1) := by decide +kernel
theorem dL_law_1476 : decode cL_law 1476 = .ok (.iadd, 1) := by decide +kernel
theorem dL_law_1477 : decode cL_law 1477 = .ok (.iaload, 1) := by decide +kernel
theorem dL_law_1478 : decode cL_law 1478 = .ok (.invokevirtual 149, 3) := by decide +kernel
theorem dL_law_1481 : decode cL_law 1481 = .ok (.if_icmp .eq 41, 3) := by decide +kernel
theorem dL_law_1484 : decode cL_law 1484 = .ok (.iconst 0, 1) := by decide +kernel
theorem dL_law_1485 : decode cL_law 1485 = .ok (.ireturn, 1) := by decide +kernel
theorem dL_law_1486 : decode cL_law 1486 = .ok (.aload_n 1, 1) := by decide +kernel
theorem dL_law_1487 : decode cL_law 1487 = .ok (.invokevirtual 150, 3) := by decide +kernel
theorem dL_law_1490 : decode cL_law 1490 = .ok (.aload_n 2, 1) := by decide +kernel
theorem dL_law_1491 : decode cL_law 1491 = .ok (.invokevirtual 154, 3) := by decide +kernel
theorem dL_law_1494 : decode cL_law 1494 = .ok (.if_icmp .eq 28, 3) := by decide +kernel
theorem dL_law_1497 : decode cL_law 1497 = .ok (.iconst 0, 1) := by decide +kernel
theorem dL_law_1498 : decode cL_law 1498 = .ok (.ireturn, 1) := by decide +kernel
theorem dL_law_1499 : decode cL_law 1499 = .ok (.aload_n 1, 1) := by decide +kernel
theorem dL_law_1500 : decode cL_law 1500 = .ok (.aload_n 0, 1) := by decide +kernel
theorem dL_law_1501 : decode cL_law 1501 = .ok (.iload_n 3, 1) := by decide +kernel
theorem dL_law_1502 : decode cL_law 1502 = .ok (.iconst 1, 1) := by decide +kernel
theorem dL_law_1503 : decode cL_law 1503 = .ok (.iadd, 1) := by decide +kernel
theorem dL_law_1504 : decode cL_law 1504 = .ok (.iaload, 1) := by decide +kernel
theorem dL_law_1505 : decode cL_law 1505 = .ok (.invokevirtual 155, 3) := by decide +kernel
theorem dL_law_1508 : decode cL_law 1508 = .ok (.aload_n 2, 1) := by decide +kernel
theorem dL_law_1509 : decode cL_law 1509 = .ok (.aload_n 0, 1) := by decide +kernel
theorem dL_law_1510 : decode cL_law 1510 = .ok (.iload_n 3, 1) := by decide +kernel
theorem dL_law_1511 : decode cL_law 1511 = .ok (.iconst 1, 1) := by decide +kernel
theorem dL_law_1512 : decode cL_law 1512 = .ok (.iadd, 1) := by decide +kernel
theorem dL_law_1513 : decode cL_law 1513 = .ok (.iaload, 1) := by decide +kernel
theorem dL_law_1514 : decode cL_law 1514 = .ok (.invokevirtual 158, 3) := by decide +kernel
theorem dL_law_1517 : decode cL_law 1517 = .ok (.if_icmp .eq 5, 3) := by decide +kernel
theorem dL_law_1520 : decode cL_law 1520 = .ok (.iconst 0, 1) := by decide +kernel
theorem dL_law_1521 : decode cL_law 1521 = .ok (.ireturn, 1) := by decide +kernel
theorem dL_law_1522 : decode cL_law 1522 = .ok (.iinc 3 8, 3) := by decide +kernel
theorem dL_law_1525 : decode cL_law 1525 = .ok (.goto (-1507), 3) := by decide +kernel
theorem dL_law_1528 : decode cL_law 1528 = .ok (.iconst 1, 1) := by decide +kernel
theorem dL_law_1529 : decode cL_law 1529 = .ok (.ireturn, 1) := by decide +kernel
