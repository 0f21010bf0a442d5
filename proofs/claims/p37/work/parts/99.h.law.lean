section ZLh
def RL : String := "CurveMeetsLaw"
abbrev cL_pick : ByteArray := method_2_code
def yL_pick : MethodName := ⟨RL, "pick", "([III)I"⟩
abbrev cL_word : ByteArray := method_3_code
def yL_word : MethodName := ⟨RL, "word", "(Ljava/lang/String;I)I"⟩
abbrev cL_feed : ByteArray := method_4_code
def yL_feed : MethodName := ⟨RL, "feed", "(LCurveMeets;Ljava/lang/String;)Z"⟩
abbrev cL_drawn : ByteArray := method_5_code
def yL_drawn : MethodName := ⟨RL, "drawn", "([IIII)[[I"⟩
abbrev cL_text : ByteArray := method_6_code
def yL_text : MethodName := ⟨RL, "text", "([[I)Ljava/lang/String;"⟩
abbrev cL_balances : ByteArray := method_11_code
def yL_balances : MethodName := ⟨RL, "balances", "(LCurveMeets;III)Z"⟩
def wsL_pick : List Cond := .code yL_pick cL_pick 3 (some .int) :: ([.constant RL 7 (2147483647)])
def wsL_word_r1 : List Cond := [Cond.methodLink RL 8 yJ0_length_8abf5, Cond.instanceMethod yJ0_length_8abf5, Cond.selects RJ0 yJ0_length_8abf5 yJ0_length_8abf5, Cond.initialized RJ0, Cond.code yJ0_length_8abf5 cJ0_length_8abf5 1 (some .int), Cond.fieldLink RJ0 9 "java/lang/String" "value" "[B", Cond.methodLink RJ0 335 yJ0_coder_7d493, Cond.instanceMethod yJ0_coder_7d493, Cond.selects RJ0 yJ0_coder_7d493 yJ0_coder_7d493, Cond.code yJ0_coder_7d493 cJ0_coder_7d493 1 (some .byte), Cond.fieldLink RJ0 38 "java/lang/String" "COMPACT_STRINGS" "Z", Cond.fieldLink RJ0 15 "java/lang/String" "coder" "B", Cond.methodLink RL 14 yJ0_charAt_5068e, Cond.instanceMethod yJ0_charAt_5068e, Cond.selects RJ0 yJ0_charAt_5068e yJ0_charAt_5068e, Cond.code yJ0_charAt_5068e cJ0_charAt_5068e 2 (some .char), Cond.methodLink RJ0 492 yJ0_isLatin1_aae02, Cond.instanceMethod yJ0_isLatin1_aae02, Cond.selects RJ0 yJ0_isLatin1_aae02 yJ0_isLatin1_aae02, Cond.code yJ0_isLatin1_aae02 cJ0_isLatin1_aae02 1 (some .boolean), Cond.methodLink RJ0 495 yJ1_charAt_3b067, Cond.static yJ1_charAt_3b067, Cond.initialized RJ1, Cond.code yJ1_charAt_3b067 cJ1_charAt_3b067 2 (some .char)]
def wsL_word_r2 : List Cond := [Cond.methodLink RJ1 9 yJ0_checkIndex_df160, Cond.static yJ0_checkIndex_df160, Cond.code yJ0_checkIndex_df160 cJ0_checkIndex_df160 2 none, Cond.fieldLink RJ0 1053 "jdk/internal/util/Preconditions" "SIOOBE_FORMATTER" "Ljava/util/function/BiFunction;", Cond.methodLink RJ0 1059 yJ3_checkIndex_8e157, Cond.static yJ3_checkIndex_8e157, Cond.initialized RJ3, Cond.code yJ3_checkIndex_8e157 cJ3_checkIndex_8e157 3 (some .int), Cond.methodLink RJ0 498 yJ2_charAt_3b067, Cond.static yJ2_charAt_3b067, Cond.initialized RJ2, Cond.code yJ2_charAt_3b067 cJ2_charAt_3b067 2 (some .char), Cond.methodLink RJ2 67 yJ2_checkIndex_2214a, Cond.static yJ2_checkIndex_2214a, Cond.code yJ2_checkIndex_2214a cJ2_checkIndex_2214a 2 none, Cond.methodLink RJ2 48 yJ2_length_9d52b, Cond.static yJ2_length_9d52b, Cond.code yJ2_length_9d52b cJ2_length_9d52b 1 (some .int), Cond.methodLink RJ2 414 yJ0_checkIndex_df160, Cond.methodLink RJ2 71 yJ2_getChar_3b067, Cond.static yJ2_getChar_3b067, Cond.code yJ2_getChar_3b067 cJ2_getChar_3b067 2 (some .char), Cond.fieldLink RJ2 44 "java/lang/StringUTF16" "$assertionsDisabled" "Z", Cond.fieldLink RJ2 59 "java/lang/StringUTF16" "HI_BYTE_SHIFT" "I"]
def wsL_word_r3 : List Cond := [Cond.fieldLink RJ2 63 "java/lang/StringUTF16" "LO_BYTE_SHIFT" "I"]
def wsL_word : List Cond := .code yL_word cL_word 4 (some .int) :: ((wsL_word_r1 ++ (wsL_word_r2 ++ wsL_word_r3)) ++ wsJ00)
def wsL_feed_r1 : List Cond := [Cond.methodLink RL 8 yJ0_length_8abf5, Cond.instanceMethod yJ0_length_8abf5, Cond.selects RJ0 yJ0_length_8abf5 yJ0_length_8abf5, Cond.initialized RJ0, Cond.code yJ0_length_8abf5 cJ0_length_8abf5 1 (some .int), Cond.fieldLink RJ0 9 "java/lang/String" "value" "[B", Cond.methodLink RJ0 335 yJ0_coder_7d493, Cond.instanceMethod yJ0_coder_7d493, Cond.selects RJ0 yJ0_coder_7d493 yJ0_coder_7d493, Cond.code yJ0_coder_7d493 cJ0_coder_7d493 1 (some .byte), Cond.fieldLink RJ0 38 "java/lang/String" "COMPACT_STRINGS" "Z", Cond.fieldLink RJ0 15 "java/lang/String" "coder" "B", Cond.methodLink RL 18 yL_word, Cond.static yL_word, Cond.initialized RL, Cond.code yL_word cL_word 4 (some .int), Cond.methodLink RL 14 yJ0_charAt_5068e, Cond.instanceMethod yJ0_charAt_5068e, Cond.selects RJ0 yJ0_charAt_5068e yJ0_charAt_5068e, Cond.code yJ0_charAt_5068e cJ0_charAt_5068e 2 (some .char), Cond.methodLink RJ0 492 yJ0_isLatin1_aae02, Cond.instanceMethod yJ0_isLatin1_aae02, Cond.selects RJ0 yJ0_isLatin1_aae02 yJ0_isLatin1_aae02, Cond.code yJ0_isLatin1_aae02 cJ0_isLatin1_aae02 1 (some .boolean)]
def wsL_feed_r2 : List Cond := [Cond.methodLink RJ0 495 yJ1_charAt_3b067, Cond.static yJ1_charAt_3b067, Cond.initialized RJ1, Cond.code yJ1_charAt_3b067 cJ1_charAt_3b067 2 (some .char), Cond.methodLink RJ1 9 yJ0_checkIndex_df160, Cond.static yJ0_checkIndex_df160, Cond.code yJ0_checkIndex_df160 cJ0_checkIndex_df160 2 none, Cond.fieldLink RJ0 1053 "jdk/internal/util/Preconditions" "SIOOBE_FORMATTER" "Ljava/util/function/BiFunction;", Cond.methodLink RJ0 1059 yJ3_checkIndex_8e157, Cond.static yJ3_checkIndex_8e157, Cond.initialized RJ3, Cond.code yJ3_checkIndex_8e157 cJ3_checkIndex_8e157 3 (some .int), Cond.methodLink RJ0 498 yJ2_charAt_3b067, Cond.static yJ2_charAt_3b067, Cond.initialized RJ2, Cond.code yJ2_charAt_3b067 cJ2_charAt_3b067 2 (some .char), Cond.methodLink RJ2 67 yJ2_checkIndex_2214a, Cond.static yJ2_checkIndex_2214a, Cond.code yJ2_checkIndex_2214a cJ2_checkIndex_2214a 2 none, Cond.methodLink RJ2 48 yJ2_length_9d52b, Cond.static yJ2_length_9d52b, Cond.code yJ2_length_9d52b cJ2_length_9d52b 1 (some .int), Cond.methodLink RJ2 414 yJ0_checkIndex_df160, Cond.methodLink RJ2 71 yJ2_getChar_3b067]
def wsL_feed_r3 : List Cond := [Cond.static yJ2_getChar_3b067, Cond.code yJ2_getChar_3b067 cJ2_getChar_3b067 2 (some .char), Cond.fieldLink RJ2 44 "java/lang/StringUTF16" "$assertionsDisabled" "Z", Cond.fieldLink RJ2 59 "java/lang/StringUTF16" "HI_BYTE_SHIFT" "I", Cond.fieldLink RJ2 63 "java/lang/StringUTF16" "LO_BYTE_SHIFT" "I", Cond.methodLink RL 24 yX11_feed, Cond.instanceMethod yX11_feed, Cond.selects RX11 yX11_feed yX11_feed, Cond.initialized RX11, Cond.code yX11_feed cX11_feed 6 (some .int), Cond.fieldLink RX11 13 "CurveMeets" "reader" "LCurveMeets$Reader;", Cond.fieldLink RX11 102 "CurveMeets$Reader" "length" "I", Cond.methodLink RX11 91 yX3_hasRoomForFive, Cond.instanceMethod yX3_hasRoomForFive, Cond.selects RX3 yX3_hasRoomForFive yX3_hasRoomForFive, Cond.initialized RX3, Cond.code yX3_hasRoomForFive cX3_hasRoomForFive 1 (some .boolean), Cond.fieldLink RX3 9 "CurveMeets$Reader" "length" "I", Cond.methodLink RX11 95 yX11_refuse, Cond.instanceMethod yX11_refuse, Cond.selects RX11 yX11_refuse yX11_refuse, Cond.code yX11_refuse cX11_refuse 2 none, Cond.fieldLink RX11 80 "CurveMeets" "refused" "[I", Cond.methodLink RX11 99 yX3_append]
def wsL_feed_r4 : List Cond := [Cond.instanceMethod yX3_append, Cond.selects RX3 yX3_append yX3_append, Cond.code yX3_append cX3_append 3 none, Cond.fieldLink RX3 28 "CurveMeets$Reader" "tape" "[I", Cond.methodLink RL 30 yX11_end, Cond.instanceMethod yX11_end, Cond.selects RX11 yX11_end yX11_end, Cond.code yX11_end cX11_end 2 (some .boolean)]
def wsL_feed : List Cond := .code yL_feed cL_feed 3 (some .boolean) :: ((wsL_feed_r1 ++ (wsL_feed_r2 ++ (wsL_feed_r3 ++ wsL_feed_r4))) ++ wsJ00 ++ wsX110 ++ wsX30)
def wsL_drawn : List Cond := .code yL_drawn cL_drawn 8 (some (.array (.array .int))) :: ([.classLink RL 34 "[[I", .arrayClass .int, .methodLink RL 36 yL_pick, .static yL_pick, .initialized RL, .code yL_pick cL_pick 3 (some .int), .constant RL 7 (2147483647)])
def wsL_text_r1 : List Cond := [Cond.classLink RL 40 RJ4, Cond.instantiable RJ4 4, Cond.initialized RJ4, Cond.methodLink RL 44 yJ4_init_a7421, Cond.instanceMethod yJ4_init_a7421, Cond.code yJ4_init_a7421 cJ4_init_a7421 2 none, Cond.methodLink RJ4 7 yJ5_init_a7421, Cond.instanceMethod yJ5_init_a7421, Cond.initialized RJ5, Cond.code yJ5_init_a7421 cJ5_init_a7421 5 none, Cond.methodLink RJ5 3 objectInit, Cond.instanceMethod objectInit, Cond.code objectInit ⟨#[0xb1]⟩ 1 none, Cond.constant RJ5 38 (2147483631), Cond.constant RJ5 39 (2147483647), Cond.fieldLink RJ5 22 "java/lang/AbstractStringBuilder" "coder" "B", Cond.arrayClass .byte, Cond.fieldLink RJ5 15 "java/lang/AbstractStringBuilder" "value" "[B", Cond.methodLink RJ5 32 yJ0_length_8abf5, Cond.instanceMethod yJ0_length_8abf5, Cond.selects RJ0 yJ0_length_8abf5 yJ0_length_8abf5, Cond.initialized RJ0, Cond.code yJ0_length_8abf5 cJ0_length_8abf5 1 (some .int), Cond.fieldLink RJ0 9 "java/lang/String" "value" "[B"]
def wsL_text_r2 : List Cond := [Cond.methodLink RJ0 335 yJ0_coder_7d493, Cond.instanceMethod yJ0_coder_7d493, Cond.selects RJ0 yJ0_coder_7d493 yJ0_coder_7d493, Cond.code yJ0_coder_7d493 cJ0_coder_7d493 1 (some .byte), Cond.fieldLink RJ0 38 "java/lang/String" "COMPACT_STRINGS" "Z", Cond.fieldLink RJ0 15 "java/lang/String" "coder" "B", Cond.methodLink RJ5 40 yJ0_coder_7d493, Cond.methodLink RJ5 26 yJ2_newBytesFor_77867, Cond.static yJ2_newBytesFor_77867, Cond.initialized RJ2, Cond.code yJ2_newBytesFor_77867 cJ2_newBytesFor_77867 1 (some (.array .byte)), Cond.methodLink RJ2 11 yJ2_newBytesLength_0f7a4, Cond.static yJ2_newBytesLength_0f7a4, Cond.code yJ2_newBytesLength_0f7a4 cJ2_newBytesLength_0f7a4 1 (some .int), Cond.constant RJ2 20 (1073741823), Cond.methodLink RJ5 43 ⟨"java/lang/AbstractStringBuilder", "append", "(Ljava/lang/String;)Ljava/lang/AbstractStringBuilder;"⟩, Cond.sameMethod "java/lang/AbstractStringBuilder" "java/lang/AbstractStringBuilder" "append" "(Ljava/lang/String;)Ljava/lang/AbstractStringBuilder;", Cond.instanceMethod ⟨"java/lang/AbstractStringBuilder", "append", "(Ljava/lang/String;)Ljava/lang/AbstractStringBuilder;"⟩, Cond.selects RJ4 ⟨"java/lang/AbstractStringBuilder", "append", "(Ljava/lang/String;)Ljava/lang/AbstractStringBuilder;"⟩ yJ4_append_cf1ce, Cond.instanceMethod yJ4_append_cf1ce, Cond.code yJ4_append_cf1ce cJ4_append_cf1ce 2 (some (.object "java/lang/AbstractStringBuilder")), Cond.methodLink RJ4 23 yJ4_append_15ec4, Cond.instanceMethod yJ4_append_15ec4, Cond.selects RJ4 yJ4_append_15ec4 yJ4_append_15ec4]
def wsL_text_r3 : List Cond := [Cond.code yJ4_append_15ec4 cJ4_append_15ec4 2 (some (.object "java/lang/StringBuilder")), Cond.methodLink RJ4 29 yJ5_append_cf1ce, Cond.superclass RJ4 RJ5, Cond.instanceMethod yJ5_append_cf1ce, Cond.code yJ5_append_cf1ce cJ5_append_cf1ce 3 (some (.object "java/lang/AbstractStringBuilder")), Cond.fieldLink RJ5 79 "java/lang/AbstractStringBuilder" "count" "I", Cond.methodLink RJ5 204 ⟨"java/lang/AbstractStringBuilder", "appendNull", "()Ljava/lang/AbstractStringBuilder;"⟩, Cond.sameMethod "java/lang/AbstractStringBuilder" "java/lang/AbstractStringBuilder" "appendNull" "()Ljava/lang/AbstractStringBuilder;", Cond.selects RJ4 ⟨"java/lang/AbstractStringBuilder", "appendNull", "()Ljava/lang/AbstractStringBuilder;"⟩ yJ5_appendNull_278bc, Cond.instanceMethod yJ5_appendNull_278bc, Cond.code yJ5_appendNull_278bc cJ5_appendNull_278bc 3 (some (.object "java/lang/AbstractStringBuilder")), Cond.methodLink RJ5 100 ⟨"java/lang/AbstractStringBuilder", "ensureCapacityInternal", "(I)V"⟩, Cond.sameMethod "java/lang/AbstractStringBuilder" "java/lang/AbstractStringBuilder" "ensureCapacityInternal" "(I)V", Cond.selects RJ4 ⟨"java/lang/AbstractStringBuilder", "ensureCapacityInternal", "(I)V"⟩ yJ5_ensureCapacityInternal_d00df, Cond.instanceMethod yJ5_ensureCapacityInternal_d00df, Cond.code yJ5_ensureCapacityInternal_d00df cJ5_ensureCapacityInternal_d00df 3 none, Cond.methodLink RJ5 104 ⟨"java/lang/AbstractStringBuilder", "newCapacity", "(I)I"⟩, Cond.sameMethod "java/lang/AbstractStringBuilder" "java/lang/AbstractStringBuilder" "newCapacity" "(I)I", Cond.selects RJ4 ⟨"java/lang/AbstractStringBuilder", "newCapacity", "(I)I"⟩ yJ5_newCapacity_0f7a4, Cond.instanceMethod yJ5_newCapacity_0f7a4, Cond.code yJ5_newCapacity_0f7a4 cJ5_newCapacity_0f7a4 6 (some .int), Cond.methodLink RJ5 114 yJ8_newLength_cabcc, Cond.static yJ8_newLength_cabcc, Cond.initialized RJ8]
def wsL_text_r4 : List Cond := [Cond.code yJ8_newLength_cabcc cJ8_newLength_cabcc 4 (some .int), Cond.methodLink RJ8 194 Lib.Math.max.name, Cond.static Lib.Math.max.name, Cond.initialized "java/lang/Math", Cond.code Lib.Math.max.name Lib.Math.max.code 2 (some .int), Cond.constant RJ8 200 (2147483639), Cond.methodLink RJ8 201 yJ8_hugeLength_7cf53, Cond.static yJ8_hugeLength_7cf53, Cond.code yJ8_hugeLength_7cf53 cJ8_hugeLength_7cf53 3 (some .int), Cond.methodLink RJ5 108 yJ7_copyOf_9075b, Cond.static yJ7_copyOf_9075b, Cond.initialized RJ7, Cond.code yJ7_copyOf_9075b cJ7_copyOf_9075b 3 (some (.array .byte)), Cond.methodLink RJ7 310 ⟨"[B", "clone", "()Ljava/lang/Object;"⟩, Cond.sameMethod "[B" "java/lang/Object" "clone" "()Ljava/lang/Object;", Cond.native ⟨"java/lang/Object", "clone", "()Ljava/lang/Object;"⟩, Cond.instanceMethod ⟨"java/lang/Object", "clone", "()Ljava/lang/Object;"⟩, Cond.selects "[B" ⟨"[B", "clone", "()Ljava/lang/Object;"⟩ ⟨"java/lang/Object", "clone", "()Ljava/lang/Object;"⟩, Cond.classLink RJ7 311 "[B", Cond.methodLink RJ7 304 Lib.Math.min.name, Cond.static Lib.Math.min.name, Cond.code Lib.Math.min.name Lib.Math.min.code 2 (some .int), Cond.methodLink RJ7 150 arraycopyName, Cond.native arraycopyName]
def wsL_text_r5 : List Cond := [Cond.static arraycopyName, Cond.initialized "java/lang/System", Cond.methodLink RJ5 83 ⟨"java/lang/AbstractStringBuilder", "isLatin1", "()Z"⟩, Cond.sameMethod "java/lang/AbstractStringBuilder" "java/lang/AbstractStringBuilder" "isLatin1" "()Z", Cond.selects RJ4 ⟨"java/lang/AbstractStringBuilder", "isLatin1", "()Z"⟩ yJ5_isLatin1_aae02, Cond.instanceMethod yJ5_isLatin1_aae02, Cond.code yJ5_isLatin1_aae02 cJ5_isLatin1_aae02 1 (some .boolean), Cond.fieldLink RJ5 18 "java/lang/String" "COMPACT_STRINGS" "Z", Cond.methodLink RJ5 226 yJ2_putCharsAt_cd4e5, Cond.static yJ2_putCharsAt_cd4e5, Cond.code yJ2_putCharsAt_cd4e5 cJ2_putCharsAt_cd4e5 7 (some .int), Cond.fieldLink RJ2 44 "java/lang/StringUTF16" "$assertionsDisabled" "Z", Cond.methodLink RJ2 96 yJ2_checkBoundsBeginEnd_d044e, Cond.static yJ2_checkBoundsBeginEnd_d044e, Cond.code yJ2_checkBoundsBeginEnd_d044e cJ2_checkBoundsBeginEnd_d044e 3 none, Cond.methodLink RJ2 48 yJ2_length_9d52b, Cond.static yJ2_length_9d52b, Cond.code yJ2_length_9d52b cJ2_length_9d52b 1 (some .int), Cond.methodLink RJ2 241 yJ0_checkBoundsBeginEnd_23922, Cond.static yJ0_checkBoundsBeginEnd_23922, Cond.code yJ0_checkBoundsBeginEnd_23922 cJ0_checkBoundsBeginEnd_23922 3 none, Cond.fieldLink RJ0 1053 "jdk/internal/util/Preconditions" "SIOOBE_FORMATTER" "Ljava/util/function/BiFunction;", Cond.methodLink RJ0 1062 yJ3_checkFromToIndex_8c36e, Cond.static yJ3_checkFromToIndex_8c36e]
def wsL_text_r6 : List Cond := [Cond.initialized RJ3, Cond.code yJ3_checkFromToIndex_8c36e cJ3_checkFromToIndex_8c36e 4 (some .int), Cond.methodLink RJ2 111 yJ2_putChar_b72d1, Cond.static yJ2_putChar_b72d1, Cond.code yJ2_putChar_b72d1 cJ2_putChar_b72d1 3 none, Cond.fieldLink RJ2 59 "java/lang/StringUTF16" "HI_BYTE_SHIFT" "I", Cond.fieldLink RJ2 63 "java/lang/StringUTF16" "LO_BYTE_SHIFT" "I", Cond.methodLink RJ5 208 ⟨"java/lang/AbstractStringBuilder", "putStringAt", "(ILjava/lang/String;)V"⟩, Cond.sameMethod "java/lang/AbstractStringBuilder" "java/lang/AbstractStringBuilder" "putStringAt" "(ILjava/lang/String;)V", Cond.selects RJ4 ⟨"java/lang/AbstractStringBuilder", "putStringAt", "(ILjava/lang/String;)V"⟩ yJ5_putStringAt_47b60, Cond.instanceMethod yJ5_putStringAt_47b60, Cond.code yJ5_putStringAt_47b60 cJ5_putStringAt_47b60 3 none, Cond.methodLink RJ5 397 ⟨"java/lang/AbstractStringBuilder", "inflateIfNeededFor", "(Ljava/lang/String;)V"⟩, Cond.sameMethod "java/lang/AbstractStringBuilder" "java/lang/AbstractStringBuilder" "inflateIfNeededFor" "(Ljava/lang/String;)V", Cond.selects RJ4 ⟨"java/lang/AbstractStringBuilder", "inflateIfNeededFor", "(Ljava/lang/String;)V"⟩ yJ5_inflateIfNeededFor_a7421, Cond.instanceMethod yJ5_inflateIfNeededFor_a7421, Cond.code yJ5_inflateIfNeededFor_a7421 cJ5_inflateIfNeededFor_a7421 2 none, Cond.methodLink RJ5 195 ⟨"java/lang/AbstractStringBuilder", "inflate", "()V"⟩, Cond.sameMethod "java/lang/AbstractStringBuilder" "java/lang/AbstractStringBuilder" "inflate" "()V", Cond.selects RJ4 ⟨"java/lang/AbstractStringBuilder", "inflate", "()V"⟩ yJ5_inflate_da8c8, Cond.instanceMethod yJ5_inflate_da8c8, Cond.code yJ5_inflate_da8c8 cJ5_inflate_da8c8 2 none, Cond.methodLink RJ5 125 yJ1_inflate_0e8fd, Cond.static yJ1_inflate_0e8fd]
def wsL_text_r7 : List Cond := [Cond.initialized RJ1, Cond.code yJ1_inflate_0e8fd cJ1_inflate_0e8fd 5 none, Cond.methodLink RJ1 240 yJ2_inflate_0e8fd, Cond.static yJ2_inflate_0e8fd, Cond.code yJ2_inflate_0e8fd cJ2_inflate_0e8fd 6 none, Cond.methodLink RJ2 173 yJ2_checkBoundsOffCount_d044e, Cond.static yJ2_checkBoundsOffCount_d044e, Cond.code yJ2_checkBoundsOffCount_d044e cJ2_checkBoundsOffCount_d044e 3 none, Cond.methodLink RJ2 419 yJ0_checkBoundsOffCount_cabcc, Cond.static yJ0_checkBoundsOffCount_cabcc, Cond.code yJ0_checkBoundsOffCount_cabcc cJ0_checkBoundsOffCount_cabcc 3 (some .int), Cond.methodLink RJ0 1065 yJ3_checkFromIndexSize_8c36e, Cond.static yJ3_checkFromIndexSize_8c36e, Cond.code yJ3_checkFromIndexSize_8c36e cJ3_checkFromIndexSize_8c36e 4 (some .int), Cond.methodLink RJ5 399 yJ0_getBytes_840e7, Cond.instanceMethod yJ0_getBytes_840e7, Cond.selects RJ0 yJ0_getBytes_840e7 yJ0_getBytes_840e7, Cond.code yJ0_getBytes_840e7 cJ0_getBytes_840e7 4 none, Cond.methodLink RJ0 212 arraycopyName, Cond.methodLink RJ0 106 yJ1_inflate_0e8fd, Cond.methodLink RL 49 yJ4_append_15ec4, Cond.methodLink RL 53 yJ4_append_bf812, Cond.instanceMethod yJ4_append_bf812, Cond.selects RJ4 yJ4_append_bf812 yJ4_append_bf812]
def wsL_text_r8 : List Cond := [Cond.code yJ4_append_bf812 cJ4_append_bf812 2 (some (.object "java/lang/StringBuilder")), Cond.methodLink RJ4 53 yJ5_append_c97b9, Cond.sameMethod "java/lang/AbstractStringBuilder" "java/lang/AbstractStringBuilder" "append" "(I)Ljava/lang/AbstractStringBuilder;", Cond.instanceMethod yJ5_append_c97b9, Cond.code yJ5_append_c97b9 cJ5_append_c97b9 4 (some (.object "java/lang/AbstractStringBuilder")), Cond.methodLink RJ5 245 yJ6_stringSize_0f7a4, Cond.static yJ6_stringSize_0f7a4, Cond.initialized RJ6, Cond.code yJ6_stringSize_0f7a4 cJ6_stringSize_0f7a4 4 (some .int), Cond.methodLink RJ5 248 yJ6_getChars_ba4f3, Cond.static yJ6_getChars_ba4f3, Cond.code yJ6_getChars_ba4f3 cJ6_getChars_ba4f3 7 (some .int), Cond.fieldLink RJ6 83 "java/lang/Integer" "DigitOnes" "[B", Cond.fieldLink RJ6 87 "java/lang/Integer" "DigitTens" "[B", Cond.methodLink RJ5 251 yJ2_getChars_46870, Cond.static yJ2_getChars_46870, Cond.code yJ2_getChars_46870 cJ2_getChars_46870 5 (some .int), Cond.methodLink RJ2 393 yJ2_getChars_ba4f3, Cond.static yJ2_getChars_ba4f3, Cond.code yJ2_getChars_ba4f3 cJ2_getChars_ba4f3 7 (some .int), Cond.fieldLink RJ2 403 "java/lang/Integer" "DigitOnes" "[B", Cond.fieldLink RJ2 407 "java/lang/Integer" "DigitTens" "[B", Cond.methodLink RL 60 yJ4_toString_0e30d, Cond.instanceMethod yJ4_toString_0e30d]
def wsL_text_r9 : List Cond := [Cond.selects RJ4 yJ4_toString_0e30d yJ4_toString_0e30d, Cond.code yJ4_toString_0e30d cJ4_toString_0e30d 1 (some (.object "java/lang/String")), Cond.classLink RJ4 18 RJ0, Cond.instantiable RJ0 4, Cond.methodLink RJ4 137 yJ0_init_81219, Cond.instanceMethod yJ0_init_81219, Cond.code yJ0_init_81219 cJ0_init_81219 2 none, Cond.methodLink RJ0 489 yJ0_init_db425, Cond.instanceMethod yJ0_init_db425, Cond.code yJ0_init_db425 cJ0_init_db425 5 none, Cond.methodLink RJ0 1 objectInit, Cond.fieldLink RJ0 1048 "java/lang/AbstractStringBuilder" "maybeLatin1" "Z", Cond.methodLink RJ0 552 ⟨"java/lang/AbstractStringBuilder", "getValue", "()[B"⟩, Cond.sameMethod "java/lang/AbstractStringBuilder" "java/lang/AbstractStringBuilder" "getValue" "()[B", Cond.selects RJ4 ⟨"java/lang/AbstractStringBuilder", "getValue", "()[B"⟩ yJ5_getValue_6d5f1, Cond.instanceMethod yJ5_getValue_6d5f1, Cond.code yJ5_getValue_6d5f1 cJ5_getValue_6d5f1 1 (some (.array .byte)), Cond.methodLink RJ0 549 ⟨"java/lang/AbstractStringBuilder", "length", "()I"⟩, Cond.sameMethod "java/lang/AbstractStringBuilder" "java/lang/AbstractStringBuilder" "length" "()I", Cond.instanceMethod ⟨"java/lang/AbstractStringBuilder", "length", "()I"⟩, Cond.selects RJ4 ⟨"java/lang/AbstractStringBuilder", "length", "()I"⟩ yJ4_length_8abf5, Cond.instanceMethod yJ4_length_8abf5, Cond.code yJ4_length_8abf5 cJ4_length_8abf5 1 (some .int), Cond.methodLink RJ4 343 yJ5_length_8abf5]
def wsL_text_r10 : List Cond := [Cond.instanceMethod yJ5_length_8abf5, Cond.code yJ5_length_8abf5 cJ5_length_8abf5 1 (some .int), Cond.methodLink RJ0 1047 ⟨"java/lang/AbstractStringBuilder", "isLatin1", "()Z"⟩, Cond.methodLink RJ0 54 yJ7_copyOfRange_39247, Cond.static yJ7_copyOfRange_39247, Cond.code yJ7_copyOfRange_39247 cJ7_copyOfRange_39247 3 (some (.array .byte)), Cond.methodLink RJ7 339 yJ7_copyOfRangeByte_39247, Cond.static yJ7_copyOfRangeByte_39247, Cond.code yJ7_copyOfRangeByte_39247 cJ7_copyOfRangeByte_39247 5 (some (.array .byte)), Cond.methodLink RJ7 343 yJ7_checkLength_df160, Cond.static yJ7_checkLength_df160, Cond.code yJ7_checkLength_df160 cJ7_checkLength_df160 2 none, Cond.methodLink RJ0 1051 yJ2_compress_39247, Cond.static yJ2_compress_39247, Cond.code yJ2_compress_39247 cJ2_compress_39247 6 (some (.array .byte)), Cond.methodLink RJ2 123 yJ2_compress_5af95, Cond.static yJ2_compress_5af95, Cond.code yJ2_compress_5af95 cJ2_compress_5af95 7 (some .int), Cond.methodLink RJ2 71 yJ2_getChar_3b067, Cond.static yJ2_getChar_3b067, Cond.code yJ2_getChar_3b067 cJ2_getChar_3b067 2 (some .char), Cond.methodLink RJ2 126 yJ7_copyOfRange_39247, Cond.methodLink RJ0 47 yJ2_coderFromArrayLen_85cad, Cond.static yJ2_coderFromArrayLen_85cad]
def wsL_text_r11 : List Cond := [Cond.code yJ2_coderFromArrayLen_85cad cJ2_coderFromArrayLen_85cad 2 (some .byte)]
def wsL_text : List Cond := .code yL_text cL_text 4 (some (.object "java/lang/String")) :: ((wsL_text_r1 ++ (wsL_text_r2 ++ (wsL_text_r3 ++ (wsL_text_r4 ++ (wsL_text_r5 ++ (wsL_text_r6 ++ (wsL_text_r7 ++ (wsL_text_r8 ++ (wsL_text_r9 ++ (wsL_text_r10 ++ wsL_text_r11)))))))))) ++ wsJ40 ++ wsJ00)
def wsL_balances_r1 : List Cond := [Cond.methodLink RL 87 Lib.Math.min.name, Cond.static Lib.Math.min.name, Cond.initialized "java/lang/Math", Cond.code Lib.Math.min.name Lib.Math.min.code 2 (some .int), Cond.methodLink RL 64 Lib.Math.max.name, Cond.static Lib.Math.max.name, Cond.code Lib.Math.max.name Lib.Math.max.code 2 (some .int), Cond.methodLink RL 78 yX11_degree, Cond.instanceMethod yX11_degree, Cond.selects RX11 yX11_degree yX11_degree, Cond.initialized RX11, Cond.code yX11_degree cX11_degree 3 (some .int), Cond.fieldLink RX11 22 "CurveMeets" "shelf" "LCurveMeets$Shelf;", Cond.methodLink RX11 135 yX7_find, Cond.instanceMethod yX7_find, Cond.selects RX7 yX7_find yX7_find, Cond.initialized RX7, Cond.code yX7_find cX7_find 2 (some (.object "CurveMeets$Poly")), Cond.fieldLink RX7 15 "CurveMeets$Shelf" "count" "I", Cond.fieldLink RX7 20 "CurveMeets$Shelf" "polys" "[LCurveMeets$Poly;", Cond.methodLink RX11 148 yX2_top, Cond.instanceMethod yX2_top, Cond.selects RX2 yX2_top yX2_top, Cond.initialized RX2]
def wsL_balances_r2 : List Cond := [Cond.code yX2_top cX2_top 4 (some .int), Cond.fieldLink RX2 11 "CurveMeets$Poly" "cells" "[I", Cond.methodLink RX2 30 Lib.Math.max.name, Cond.methodLink RL 81 yX11_common, Cond.instanceMethod yX11_common, Cond.selects RX11 yX11_common yX11_common, Cond.code yX11_common cX11_common 5 (some .int), Cond.fieldLink RX11 55 "CurveMeets" "sharing" "LCurveMeets$Sharing;", Cond.fieldLink RX11 123 "CurveMeets$Shelf" "p" "I", Cond.methodLink RX11 183 yX6_find, Cond.instanceMethod yX6_find, Cond.selects RX6 yX6_find yX6_find, Cond.initialized RX6, Cond.code yX6_find cX6_find 7 (some (.object "CurveMeets$Poly")), Cond.fieldLink RX6 30 "CurveMeets$Sharing" "space" "LCurveMeets$Space;", Cond.fieldLink RX6 26 "CurveMeets$Sharing" "line" "[I", Cond.fieldLink RX6 21 "CurveMeets$Sharing" "rest" "LCurveMeets$Poly;", Cond.fieldLink RX6 12 "CurveMeets$Sharing" "part" "LCurveMeets$Poly;", Cond.fieldLink RX6 18 "CurveMeets$Sharing" "cofactor" "LCurveMeets$Poly;", Cond.methodLink RX6 34 yX8_begin, Cond.instanceMethod yX8_begin, Cond.selects RX8 yX8_begin yX8_begin, Cond.initialized RX8, Cond.code yX8_begin cX8_begin 5 none]
def wsL_balances_r3 : List Cond := [Cond.methodLink RX8 30 Lib.Math.min.name, Cond.fieldLink RX8 20 "CurveMeets$Space" "width" "I", Cond.fieldLink RX8 24 "CurveMeets$Space" "limit" "I", Cond.fieldLink RX8 27 "CurveMeets$Space" "p" "I", Cond.fieldLink RX8 16 "CurveMeets$Space" "known" "[Z", Cond.methodLink RX6 38 yX2_top, Cond.methodLink RX6 42 yX6_setLine, Cond.instanceMethod yX6_setLine, Cond.selects RX6 yX6_setLine yX6_setLine, Cond.code yX6_setLine cX6_setLine 6 none, Cond.methodLink RX6 69 yX6_column, Cond.static yX6_column, Cond.code yX6_column cX6_column 3 (some .int), Cond.methodLink RX6 83 yX2_at, Cond.instanceMethod yX2_at, Cond.selects RX2 yX2_at yX2_at, Cond.code yX2_at cX2_at 3 (some .int), Cond.methodLink RX2 15 yX2_fits, Cond.static yX2_fits, Cond.code yX2_fits cX2_fits 2 (some .boolean), Cond.methodLink RX6 73 yX6_setColumn, Cond.instanceMethod yX6_setColumn, Cond.selects RX6 yX6_setColumn yX6_setColumn, Cond.code yX6_setColumn cX6_setColumn 3 none]
def wsL_balances_r4 : List Cond := [Cond.methodLink RX6 46 yX8_add, Cond.instanceMethod yX8_add, Cond.selects RX8 yX8_add yX8_add, Cond.code yX8_add cX8_add 7 (some .boolean), Cond.fieldLink RX8 13 "CurveMeets$Space" "rows" "[[I", Cond.methodLink RX8 36 yX8_keep, Cond.instanceMethod yX8_keep, Cond.selects RX8 yX8_keep yX8_keep, Cond.code yX8_keep cX8_keep 5 none, Cond.static yX11_inverse, Cond.code yX11_inverse cX11_inverse 3 (some .int), Cond.static yX11_mod, Cond.code yX11_mod cX11_mod 3 (some .int), Cond.methodLink RX6 50 yX6_findCofactor, Cond.instanceMethod yX6_findCofactor, Cond.selects RX6 yX6_findCofactor yX6_findCofactor, Cond.code yX6_findCofactor cX6_findCofactor 5 none, Cond.methodLink RX6 66 yX2_setTo, Cond.instanceMethod yX2_setTo, Cond.selects RX2 yX2_setTo yX2_setTo, Cond.code yX2_setTo cX2_setTo 3 none, Cond.methodLink RX6 77 yX6_takeCofactor, Cond.instanceMethod yX6_takeCofactor, Cond.selects RX6 yX6_takeCofactor yX6_takeCofactor]
def wsL_balances_r5 : List Cond := [Cond.code yX6_takeCofactor cX6_takeCofactor 3 none, Cond.methodLink RX6 80 yX2_put, Cond.instanceMethod yX2_put, Cond.selects RX2 yX2_put yX2_put, Cond.code yX2_put cX2_put 4 none, Cond.methodLink RX6 54 yX2_copy, Cond.instanceMethod yX2_copy, Cond.selects RX2 yX2_copy yX2_copy, Cond.code yX2_copy cX2_copy 2 none, Cond.methodLink RX2 38 arraycopyName, Cond.native arraycopyName, Cond.static arraycopyName, Cond.initialized "java/lang/System", Cond.methodLink RX6 58 yX2_quotient, Cond.instanceMethod yX2_quotient, Cond.selects RX2 yX2_quotient yX2_quotient, Cond.code yX2_quotient cX2_quotient 11 none, Cond.methodLink RX2 48 yX2_setTo, Cond.methodLink RX2 52 yX2_top, Cond.methodLink RX2 56 yX2_leadAt, Cond.instanceMethod yX2_leadAt, Cond.selects RX2 yX2_leadAt yX2_leadAt, Cond.code yX2_leadAt cX2_leadAt 3 (some .int), Cond.methodLink RX2 35 Lib.Math.min.name]
def wsL_balances_r6 : List Cond := [Cond.methodLink RX2 19 yX2_at, Cond.methodLink RX2 26 yX2_put, Cond.methodLink RX2 44 yX2_addShifted, Cond.instanceMethod yX2_addShifted, Cond.selects RX2 yX2_addShifted yX2_addShifted, Cond.code yX2_addShifted cX2_addShifted 11 none, Cond.methodLink RX6 62 yX2_normalize, Cond.instanceMethod yX2_normalize, Cond.selects RX2 yX2_normalize yX2_normalize, Cond.code yX2_normalize cX2_normalize 6 none, Cond.methodLink RL 84 yX11_total, Cond.instanceMethod yX11_total, Cond.selects RX11 yX11_total yX11_total, Cond.code yX11_total cX11_total 8 (some .int), Cond.fieldLink RX11 69 "CurveMeets" "ring" "LCurveMeets$Ring;", Cond.methodLink RX11 220 yX5_nearOf, Cond.instanceMethod yX5_nearOf, Cond.selects RX5 yX5_nearOf yX5_nearOf, Cond.initialized RX5, Cond.code yX5_nearOf cX5_nearOf 8 (some .int), Cond.fieldLink RX5 15 "CurveMeets$Ring" "columns" "[I", Cond.fieldLink RX5 20 "CurveMeets$Ring" "line" "[I", Cond.fieldLink RX5 50 "CurveMeets$Ring" "space" "LCurveMeets$Space;", Cond.methodLink RX5 54 yX5_begin]
def wsL_balances_r7 : List Cond := [Cond.instanceMethod yX5_begin, Cond.selects RX5 yX5_begin yX5_begin, Cond.code yX5_begin cX5_begin 8 none, Cond.fieldLink RX5 26 "CurveMeets$Ring" "divisor" "LCurveMeets$Poly;", Cond.fieldLink RX5 34 "CurveMeets$Ring" "top" "I", Cond.fieldLink RX5 37 "CurveMeets$Ring" "isLocal" "Z", Cond.fieldLink RX5 30 "CurveMeets$Ring" "p" "I", Cond.fieldLink RX5 47 "CurveMeets$Ring" "width" "I", Cond.fieldLink RX5 41 "CurveMeets$Ring" "leadX" "I", Cond.fieldLink RX5 44 "CurveMeets$Ring" "leadY" "I", Cond.methodLink RX5 72 yX5_findLead, Cond.instanceMethod yX5_findLead, Cond.selects RX5 yX5_findLead yX5_findLead, Cond.code yX5_findLead cX5_findLead 4 none, Cond.methodLink RX5 78 yX2_leadAt, Cond.methodLink RX5 75 yX8_begin, Cond.methodLink RX5 62 yX2_top, Cond.methodLink RX5 58 yX5_addMultiples, Cond.instanceMethod yX5_addMultiples, Cond.selects RX5 yX5_addMultiples yX5_addMultiples, Cond.code yX5_addMultiples cX5_addMultiples 6 (some .int), Cond.methodLink RX5 82 yX5_setRow, Cond.instanceMethod yX5_setRow, Cond.selects RX5 yX5_setRow yX5_setRow]
def wsL_balances_r8 : List Cond := [Cond.code yX5_setRow cX5_setRow 5 none, Cond.fieldLink RX5 11 "CurveMeets$Ring" "row" "[I", Cond.methodLink RX5 93 yX5_addToRow, Cond.instanceMethod yX5_addToRow, Cond.selects RX5 yX5_addToRow yX5_addToRow, Cond.code yX5_addToRow cX5_addToRow 9 none, Cond.methodLink RX5 86 yX5_reduceRow, Cond.instanceMethod yX5_reduceRow, Cond.selects RX5 yX5_reduceRow yX5_reduceRow, Cond.code yX5_reduceRow cX5_reduceRow 7 none, Cond.methodLink RX5 100 yX2_at, Cond.methodLink RX5 89 yX5_addRow, Cond.instanceMethod yX5_addRow, Cond.selects RX5 yX5_addRow yX5_addRow, Cond.code yX5_addRow cX5_addRow 4 (some .boolean), Cond.methodLink RX5 65 yX5_clearLine, Cond.instanceMethod yX5_clearLine, Cond.selects RX5 yX5_clearLine yX5_clearLine, Cond.code yX5_clearLine cX5_clearLine 2 none, Cond.methodLink RX5 68 yX8_add, Cond.methodLink RX11 209 yX11_timesBetween, Cond.instanceMethod yX11_timesBetween, Cond.selects RX11 yX11_timesBetween yX11_timesBetween, Cond.code yX11_timesBetween cX11_timesBetween 8 (some .int)]
def wsL_balances_r9 : List Cond := [Cond.methodLink RX11 213 yX11_areBothOn, Cond.instanceMethod yX11_areBothOn, Cond.selects RX11 yX11_areBothOn yX11_areBothOn, Cond.code yX11_areBothOn cX11_areBothOn 4 (some .boolean), Cond.fieldLink RX11 36 "CurveMeets" "spot" "LCurveMeets$Spot;", Cond.methodLink RX11 152 yX9_go, Cond.instanceMethod yX9_go, Cond.selects RX9 yX9_go yX9_go, Cond.initialized RX9, Cond.code yX9_go cX9_go 4 (some .boolean), Cond.fieldLink RX9 9 "CurveMeets$Spot" "x" "I", Cond.fieldLink RX9 15 "CurveMeets$Spot" "y" "I", Cond.fieldLink RX9 18 "CurveMeets$Spot" "z" "I", Cond.methodLink RX9 25 yX9_isPoint, Cond.static yX9_isPoint, Cond.code yX9_isPoint cX9_isPoint 2 (some .boolean), Cond.methodLink RX9 21 yX9_howMany, Cond.static yX9_howMany, Cond.code yX9_howMany cX9_howMany 1 (some .int), Cond.methodLink RX11 155 yX9_valueOf, Cond.instanceMethod yX9_valueOf, Cond.selects RX9 yX9_valueOf yX9_valueOf, Cond.code yX9_valueOf cX9_valueOf 8 (some .int), Cond.methodLink RX9 29 yX2_top]
def wsL_balances_r10 : List Cond := [Cond.methodLink RX11 189 yX11_timesAt, Cond.instanceMethod yX11_timesAt, Cond.selects RX11 yX11_timesAt yX11_timesAt, Cond.code yX11_timesAt cX11_timesAt 4 (some .int), Cond.fieldLink RX11 261 "CurveMeets$Sharing" "part" "LCurveMeets$Poly;", Cond.fieldLink RX11 43 "CurveMeets" "view" "LCurveMeets$View;", Cond.fieldLink RX11 47 "CurveMeets" "otherView" "LCurveMeets$View;", Cond.fieldLink RX11 62 "CurveMeets" "reduction" "LCurveMeets$Reduction;", Cond.fieldLink RX11 169 "CurveMeets$View" "poly" "LCurveMeets$Poly;", Cond.methodLink RX11 202 yX10_look, Cond.instanceMethod yX10_look, Cond.selects RX10 yX10_look yX10_look, Cond.initialized RX10, Cond.code yX10_look cX10_look 8 none, Cond.fieldLink RX10 22 "CurveMeets$View" "p" "I", Cond.fieldLink RX10 12 "CurveMeets$View" "poly" "LCurveMeets$Poly;", Cond.fieldLink RX10 38 "CurveMeets$Spot" "z" "I", Cond.methodLink RX10 26 yX2_setTo, Cond.methodLink RX10 30 yX2_top, Cond.methodLink RX10 34 yX2_at, Cond.methodLink RX10 43 yX10_addNear, Cond.instanceMethod yX10_addNear, Cond.selects RX10 yX10_addNear yX10_addNear, Cond.code yX10_addNear cX10_addNear 8 none]
def wsL_balances_r11 : List Cond := [Cond.fieldLink RX10 51 "CurveMeets$Spot" "x" "I", Cond.fieldLink RX10 61 "CurveMeets$Spot" "y" "I", Cond.methodLink RX10 54 yX10_shifted, Cond.instanceMethod yX10_shifted, Cond.selects RX10 yX10_shifted yX10_shifted, Cond.code yX10_shifted cX10_shifted 4 (some .int), Cond.fieldLink RX10 72 "CurveMeets$View" "CHOICES" "[I", Cond.methodLink RX10 68 yX2_fits, Cond.static yX11_power, Cond.code yX11_power cX11_power 5 (some .int), Cond.methodLink RX11 299 yX11_mod, Cond.methodLink RX10 64 yX2_increase, Cond.instanceMethod yX2_increase, Cond.selects RX2 yX2_increase yX2_increase, Cond.code yX2_increase cX2_increase 5 none, Cond.methodLink RX10 47 yX10_addFar, Cond.instanceMethod yX10_addFar, Cond.selects RX10 yX10_addFar yX10_addFar, Cond.code yX10_addFar cX10_addFar 7 none, Cond.methodLink RX11 264 yX4_run, Cond.instanceMethod yX4_run, Cond.selects RX4 yX4_run yX4_run, Cond.initialized RX4, Cond.code yX4_run cX4_run 6 (some .int)]
def wsL_balances_r12 : List Cond := [Cond.fieldLink RX4 28 "CurveMeets$Reduction" "p" "I", Cond.fieldLink RX4 22 "CurveMeets$Reduction" "f" "[I", Cond.fieldLink RX4 25 "CurveMeets$Reduction" "g" "[I", Cond.fieldLink RX4 11 "CurveMeets$Reduction" "often" "[I", Cond.fieldLink RX4 18 "CurveMeets$Reduction" "steps" "I", Cond.fieldLink RX4 15 "CurveMeets$Reduction" "kinds" "[I", Cond.methodLink RX4 43 Lib.Math.max.name, Cond.methodLink RX4 31 yX4_load, Cond.static yX4_load, Cond.code yX4_load cX4_load 4 none, Cond.methodLink RX4 58 yX2_at, Cond.methodLink RX4 35 yX4_whichFits, Cond.instanceMethod yX4_whichFits, Cond.selects RX4 yX4_whichFits yX4_whichFits, Cond.code yX4_whichFits cX4_whichFits 3 (some .int), Cond.methodLink RX4 63 yX4_greatestPure, Cond.static yX4_greatestPure, Cond.code yX4_greatestPure cX4_greatestPure 2 (some .int), Cond.methodLink RX4 39 yX4_leastPure, Cond.static yX4_leastPure, Cond.code yX4_leastPure cX4_leastPure 2 (some .int), Cond.methodLink RX4 49 yX4_split, Cond.instanceMethod yX4_split, Cond.selects RX4 yX4_split yX4_split]
def wsL_balances_r13 : List Cond := [Cond.code yX4_split cX4_split 3 none, Cond.methodLink RX4 52 yX4_swap, Cond.instanceMethod yX4_swap, Cond.selects RX4 yX4_swap yX4_swap, Cond.code yX4_swap cX4_swap 2 none, Cond.methodLink RX4 55 yX4_cut, Cond.instanceMethod yX4_cut, Cond.selects RX4 yX4_cut yX4_cut, Cond.code yX4_cut cX4_cut 9 none, Cond.methodLink RX11 126 yX9_howMany, Cond.methodLink RL 90 yX11_times, Cond.instanceMethod yX11_times, Cond.selects RX11 yX11_times yX11_times, Cond.code yX11_times cX11_times 6 (some .int), Cond.methodLink RX11 186 yX9_isPoint, Cond.methodLink RL 93 yX11_value, Cond.instanceMethod yX11_value, Cond.selects RX11 yX11_value yX11_value, Cond.code yX11_value cX11_value 4 (some .int), Cond.methodLink RL 96 yX11_order, Cond.instanceMethod yX11_order, Cond.selects RX11 yX11_order yX11_order, Cond.code yX11_order cX11_order 3 (some .int), Cond.methodLink RX11 163 yX11_lookAt]
def wsL_balances_r14 : List Cond := [Cond.instanceMethod yX11_lookAt, Cond.selects RX11 yX11_lookAt yX11_lookAt, Cond.code yX11_lookAt cX11_lookAt 4 (some .boolean), Cond.methodLink RX11 166 yX10_least, Cond.instanceMethod yX10_least, Cond.selects RX10 yX10_least yX10_least, Cond.code yX10_least cX10_least 2 (some .int), Cond.methodLink RX10 78 yX2_leadAt, Cond.methodLink RL 99 yX11_size, Cond.instanceMethod yX11_size, Cond.selects RX11 yX11_size yX11_size, Cond.code yX11_size cX11_size 6 (some .int), Cond.methodLink RX11 206 yX5_sizeOf, Cond.instanceMethod yX5_sizeOf, Cond.selects RX5 yX5_sizeOf yX5_sizeOf, Cond.code yX5_sizeOf cX5_sizeOf 4 (some .int), Cond.methodLink RL 102 yX11_rules, Cond.instanceMethod yX11_rules, Cond.selects RX11 yX11_rules yX11_rules, Cond.code yX11_rules cX11_rules 5 (some .int), Cond.fieldLink RX11 196 "CurveMeets$Reduction" "often" "[I", Cond.methodLink RX11 193 yX11_times, Cond.methodLink RL 106 yX11_rule, Cond.instanceMethod yX11_rule]
def wsL_balances_r15 : List Cond := [Cond.selects RX11 yX11_rule yX11_rule, Cond.code yX11_rule cX11_rule 5 (some .int), Cond.methodLink RX11 199 yX4_kindOf, Cond.instanceMethod yX4_kindOf, Cond.selects RX4 yX4_kindOf yX4_kindOf, Cond.code yX4_kindOf cX4_kindOf 2 (some .int), Cond.methodLink RL 109 yX11_meet, Cond.instanceMethod yX11_meet, Cond.selects RX11 yX11_meet yX11_meet, Cond.code yX11_meet cX11_meet 10 (some .int), Cond.methodLink RL 112 yX11_most, Cond.instanceMethod yX11_most, Cond.selects RX11 yX11_most yX11_most, Cond.code yX11_most cX11_most 11 (some .int), Cond.methodLink RL 115 yX11_parts, Cond.instanceMethod yX11_parts, Cond.selects RX11 yX11_parts yX11_parts, Cond.code yX11_parts cX11_parts 9 (some .int), Cond.methodLink RX11 217 yX11_forms, Cond.static yX11_forms, Cond.code yX11_forms cX11_forms 1 (some .int)]
def wsL_balances : List Cond := .code yL_balances cL_balances 15 (some .boolean) :: ((wsL_balances_r1 ++ (wsL_balances_r2 ++ (wsL_balances_r3 ++ (wsL_balances_r4 ++ (wsL_balances_r5 ++ (wsL_balances_r6 ++ (wsL_balances_r7 ++ (wsL_balances_r8 ++ (wsL_balances_r9 ++ (wsL_balances_r10 ++ (wsL_balances_r11 ++ (wsL_balances_r12 ++ (wsL_balances_r13 ++ (wsL_balances_r14 ++ wsL_balances_r15)))))))))))))) ++ wsX110 ++ wsX70 ++ wsX20 ++ wsX60 ++ wsX80 ++ wsX50 ++ wsX90 ++ wsX100 ++ wsX40)
theorem dL_pick_0 : decode cL_pick 0 = .ok (.iload_n 1, 1) := by decide +kernel
theorem dL_pick_1 : decode cL_pick 1 = .ok (.aload_n 0, 1) := by decide +kernel
theorem dL_pick_2 : decode cL_pick 2 = .ok (.arraylength, 1) := by decide +kernel
theorem dL_pick_3 : decode cL_pick 3 = .ok (.if_icmp .ge 14, 3) := by decide +kernel
theorem dL_pick_6 : decode cL_pick 6 = .ok (.aload_n 0, 1) := by decide +kernel
theorem dL_pick_7 : decode cL_pick 7 = .ok (.iload_n 1, 1) := by decide +kernel
theorem dL_pick_8 : decode cL_pick 8 = .ok (.iaload, 1) := by decide +kernel
theorem dL_pick_9 : decode cL_pick 9 = .ok (.ldc 7, 2) := by decide +kernel
theorem dL_pick_11 : decode cL_pick 11 = .ok (.iand, 1) := by decide +kernel
theorem dL_pick_12 : decode cL_pick 12 = .ok (.iload_n 2, 1) := by decide +kernel
theorem dL_pick_13 : decode cL_pick 13 = .ok (.irem, 1) := by decide +kernel
theorem dL_pick_14 : decode cL_pick 14 = .ok (.goto 4, 3) := by decide +kernel
theorem dL_pick_17 : decode cL_pick 17 = .ok (.iconst 0, 1) := by decide +kernel
theorem dL_pick_18 : decode cL_pick 18 = .ok (.ireturn, 1) := by decide +kernel
theorem dL_word_0 : decode cL_word 0 = .ok (.iconst 0, 1) := by decide +kernel
theorem dL_word_1 : decode cL_word 1 = .ok (.istore_n 2, 1) := by decide +kernel
theorem dL_word_2 : decode cL_word 2 = .ok (.iload_n 1, 1) := by decide +kernel
theorem dL_word_3 : decode cL_word 3 = .ok (.istore_n 3, 1) := by decide +kernel
theorem dL_word_4 : decode cL_word 4 = .ok (.iload_n 3, 1) := by decide +kernel
theorem dL_word_5 : decode cL_word 5 = .ok (.iload_n 1, 1) := by decide +kernel
theorem dL_word_6 : decode cL_word 6 = .ok (.iconst 4, 1) := by decide +kernel
theorem dL_word_7 : decode cL_word 7 = .ok (.iadd, 1) := by decide +kernel
theorem dL_word_8 : decode cL_word 8 = .ok (.if_icmp .ge 33, 3) := by decide +kernel
theorem dL_word_11 : decode cL_word 11 = .ok (.iload_n 2, 1) := by decide +kernel
theorem dL_word_12 : decode cL_word 12 = .ok (.bipush 8, 2) := by decide +kernel
theorem dL_word_14 : decode cL_word 14 = .ok (.ishl, 1) := by decide +kernel
theorem dL_word_15 : decode cL_word 15 = .ok (.iload_n 3, 1) := by decide +kernel
theorem dL_word_16 : decode cL_word 16 = .ok (.aload_n 0, 1) := by decide +kernel
theorem dL_word_17 : decode cL_word 17 = .ok (.invokevirtual 8, 3) := by decide +kernel
theorem dL_word_20 : decode cL_word 20 = .ok (.if_icmp .ge 11, 3) := by decide +kernel
theorem dL_word_23 : decode cL_word 23 = .ok (.aload_n 0, 1) := by decide +kernel
theorem dL_word_24 : decode cL_word 24 = .ok (.iload_n 3, 1) := by decide +kernel
theorem dL_word_25 : decode cL_word 25 = .ok (.invokevirtual 14, 3) := by decide +kernel
theorem dL_word_28 : decode cL_word 28 = .ok (.goto 5, 3) := by decide +kernel
theorem dL_word_31 : decode cL_word 31 = .ok (.bipush 32, 2) := by decide +kernel
theorem dL_word_33 : decode cL_word 33 = .ok (.ior, 1) := by decide +kernel
theorem dL_word_34 : decode cL_word 34 = .ok (.istore_n 2, 1) := by decide +kernel
theorem dL_word_35 : decode cL_word 35 = .ok (.iinc 3 1, 3) := by decide +kernel
theorem dL_word_38 : decode cL_word 38 = .ok (.goto (-34), 3) := by decide +kernel
theorem dL_word_41 : decode cL_word 41 = .ok (.iload_n 2, 1) := by decide +kernel
theorem dL_word_42 : decode cL_word 42 = .ok (.ireturn, 1) := by decide +kernel
theorem dL_feed_0 : decode cL_feed 0 = .ok (.iconst 0, 1) := by decide +kernel
theorem dL_feed_1 : decode cL_feed 1 = .ok (.istore_n 2, 1) := by decide +kernel
theorem dL_feed_2 : decode cL_feed 2 = .ok (.iload_n 2, 1) := by decide +kernel
theorem dL_feed_3 : decode cL_feed 3 = .ok (.aload_n 1, 1) := by decide +kernel
theorem dL_feed_4 : decode cL_feed 4 = .ok (.invokevirtual 8, 3) := by decide +kernel
theorem dL_feed_7 : decode cL_feed 7 = .ok (.if_icmp .ge 54, 3) := by decide +kernel
theorem dL_feed_10 : decode cL_feed 10 = .ok (.aload_n 0, 1) := by decide +kernel
theorem dL_feed_11 : decode cL_feed 11 = .ok (.aload_n 1, 1) := by decide +kernel
theorem dL_feed_12 : decode cL_feed 12 = .ok (.iload_n 2, 1) := by decide +kernel
theorem dL_feed_13 : decode cL_feed 13 = .ok (.invokestatic 18, 3) := by decide +kernel
theorem dL_feed_16 : decode cL_feed 16 = .ok (.aload_n 1, 1) := by decide +kernel
theorem dL_feed_17 : decode cL_feed 17 = .ok (.iload_n 2, 1) := by decide +kernel
theorem dL_feed_18 : decode cL_feed 18 = .ok (.iconst 4, 1) := by decide +kernel
theorem dL_feed_19 : decode cL_feed 19 = .ok (.iadd, 1) := by decide +kernel
theorem dL_feed_20 : decode cL_feed 20 = .ok (.invokestatic 18, 3) := by decide +kernel
theorem dL_feed_23 : decode cL_feed 23 = .ok (.aload_n 1, 1) := by decide +kernel
theorem dL_feed_24 : decode cL_feed 24 = .ok (.iload_n 2, 1) := by decide +kernel
theorem dL_feed_25 : decode cL_feed 25 = .ok (.bipush 8, 2) := by decide +kernel
theorem dL_feed_27 : decode cL_feed 27 = .ok (.iadd, 1) := by decide +kernel
theorem dL_feed_28 : decode cL_feed 28 = .ok (.invokestatic 18, 3) := by decide +kernel
theorem dL_feed_31 : decode cL_feed 31 = .ok (.aload_n 1, 1) := by decide +kernel
theorem dL_feed_32 : decode cL_feed 32 = .ok (.iload_n 2, 1) := by decide +kernel
theorem dL_feed_33 : decode cL_feed 33 = .ok (.bipush 12, 2) := by decide +kernel
theorem dL_feed_35 : decode cL_feed 35 = .ok (.iadd, 1) := by decide +kernel
theorem dL_feed_36 : decode cL_feed 36 = .ok (.invokestatic 18, 3) := by decide +kernel
theorem dL_feed_39 : decode cL_feed 39 = .ok (.aload_n 1, 1) := by decide +kernel
theorem dL_feed_40 : decode cL_feed 40 = .ok (.iload_n 2, 1) := by decide +kernel
theorem dL_feed_41 : decode cL_feed 41 = .ok (.bipush 16, 2) := by decide +kernel
theorem dL_feed_43 : decode cL_feed 43 = .ok (.iadd, 1) := by decide +kernel
theorem dL_feed_44 : decode cL_feed 44 = .ok (.invokestatic 18, 3) := by decide +kernel
theorem dL_feed_47 : decode cL_feed 47 = .ok (.invokevirtual 24, 3) := by decide +kernel
theorem dL_feed_50 : decode cL_feed 50 = .ok (.ifCond .ge 5, 3) := by decide +kernel
theorem dL_feed_53 : decode cL_feed 53 = .ok (.iconst 0, 1) := by decide +kernel
theorem dL_feed_54 : decode cL_feed 54 = .ok (.ireturn, 1) := by decide +kernel
theorem dL_feed_55 : decode cL_feed 55 = .ok (.iinc 2 20, 3) := by decide +kernel
theorem dL_feed_58 : decode cL_feed 58 = .ok (.goto (-56), 3) := by decide +kernel
theorem dL_feed_61 : decode cL_feed 61 = .ok (.aload_n 0, 1) := by decide +kernel
theorem dL_feed_62 : decode cL_feed 62 = .ok (.aload_n 1, 1) := by decide +kernel
theorem dL_feed_63 : decode cL_feed 63 = .ok (.invokevirtual 8, 3) := by decide +kernel
theorem dL_feed_66 : decode cL_feed 66 = .ok (.invokevirtual 30, 3) := by decide +kernel
theorem dL_feed_69 : decode cL_feed 69 = .ok (.ireturn, 1) := by decide +kernel
theorem dL_drawn_0 : decode cL_drawn 0 = .ok (.iconst 5, 1) := by decide +kernel
theorem dL_drawn_1 : decode cL_drawn 1 = .ok (.iconst 5, 1) := by decide +kernel
theorem dL_drawn_2 : decode cL_drawn 2 = .ok (.multianewarray 34 2, 4) := by decide +kernel
theorem dL_drawn_6 : decode cL_drawn 6 = .ok (.astore 4, 2) := by decide +kernel
theorem dL_drawn_8 : decode cL_drawn 8 = .ok (.iload_n 1, 1) := by decide +kernel
theorem dL_drawn_9 : decode cL_drawn 9 = .ok (.istore 5, 2) := by decide +kernel
theorem dL_drawn_11 : decode cL_drawn 11 = .ok (.iconst 0, 1) := by decide +kernel
theorem dL_drawn_12 : decode cL_drawn 12 = .ok (.istore 6, 2) := by decide +kernel
theorem dL_drawn_14 : decode cL_drawn 14 = .ok (.iload 6, 2) := by decide +kernel
theorem dL_drawn_16 : decode cL_drawn 16 = .ok (.iload_n 2, 1) := by decide +kernel
theorem dL_drawn_17 : decode cL_drawn 17 = .ok (.if_icmp .gt 64, 3) := by decide +kernel
theorem dL_drawn_20 : decode cL_drawn 20 = .ok (.iconst 0, 1) := by decide +kernel
theorem dL_drawn_21 : decode cL_drawn 21 = .ok (.istore 7, 2) := by decide +kernel
theorem dL_drawn_23 : decode cL_drawn 23 = .ok (.iload 6, 2) := by decide +kernel
theorem dL_drawn_25 : decode cL_drawn 25 = .ok (.iload 7, 2) := by decide +kernel
theorem dL_drawn_27 : decode cL_drawn 27 = .ok (.iadd, 1) := by decide +kernel
theorem dL_drawn_28 : decode cL_drawn 28 = .ok (.iload_n 2, 1) := by decide +kernel
theorem dL_drawn_29 : decode cL_drawn 29 = .ok (.if_icmp .gt 46, 3) := by decide +kernel
theorem dL_drawn_32 : decode cL_drawn 32 = .ok (.aload 4, 2) := by decide +kernel
theorem dL_drawn_34 : decode cL_drawn 34 = .ok (.iload 6, 2) := by decide +kernel
theorem dL_drawn_36 : decode cL_drawn 36 = .ok (.aaload, 1) := by decide +kernel
theorem dL_drawn_37 : decode cL_drawn 37 = .ok (.iload 7, 2) := by decide +kernel
theorem dL_drawn_39 : decode cL_drawn 39 = .ok (.aload_n 0, 1) := by decide +kernel
theorem dL_drawn_40 : decode cL_drawn 40 = .ok (.iload 5, 2) := by decide +kernel
theorem dL_drawn_42 : decode cL_drawn 42 = .ok (.iconst 3, 1) := by decide +kernel
theorem dL_drawn_43 : decode cL_drawn 43 = .ok (.invokestatic 36, 3) := by decide +kernel
theorem dL_drawn_46 : decode cL_drawn 46 = .ok (.ifCond .ne 7, 3) := by decide +kernel
theorem dL_drawn_49 : decode cL_drawn 49 = .ok (.iconst 0, 1) := by decide +kernel
theorem dL_drawn_50 : decode cL_drawn 50 = .ok (.goto 15, 3) := by decide +kernel
theorem dL_drawn_53 : decode cL_drawn 53 = .ok (.aload_n 0, 1) := by decide +kernel
theorem dL_drawn_54 : decode cL_drawn 54 = .ok (.iload 5, 2) := by decide +kernel
theorem dL_drawn_56 : decode cL_drawn 56 = .ok (.iload_n 3, 1) := by decide +kernel
theorem dL_drawn_57 : decode cL_drawn 57 = .ok (.bipush 7, 2) := by decide +kernel
theorem dL_drawn_59 : decode cL_drawn 59 = .ok (.imul, 1) := by decide +kernel
theorem dL_drawn_60 : decode cL_drawn 60 = .ok (.invokestatic 36, 3) := by decide +kernel
theorem dL_drawn_63 : decode cL_drawn 63 = .ok (.iload_n 3, 1) := by decide +kernel
theorem dL_drawn_64 : decode cL_drawn 64 = .ok (.irem, 1) := by decide +kernel
theorem dL_drawn_65 : decode cL_drawn 65 = .ok (.iastore, 1) := by decide +kernel
theorem dL_drawn_66 : decode cL_drawn 66 = .ok (.iinc 5 1, 3) := by decide +kernel
theorem dL_drawn_69 : decode cL_drawn 69 = .ok (.iinc 7 1, 3) := by decide +kernel
theorem dL_drawn_72 : decode cL_drawn 72 = .ok (.goto (-49), 3) := by decide +kernel
theorem dL_drawn_75 : decode cL_drawn 75 = .ok (.iinc 6 1, 3) := by decide +kernel
theorem dL_drawn_78 : decode cL_drawn 78 = .ok (.goto (-64), 3) := by decide +kernel
theorem dL_drawn_81 : decode cL_drawn 81 = .ok (.iconst 0, 1) := by decide +kernel
theorem dL_drawn_82 : decode cL_drawn 82 = .ok (.istore 6, 2) := by decide +kernel
theorem dL_drawn_84 : decode cL_drawn 84 = .ok (.iconst 0, 1) := by decide +kernel
theorem dL_drawn_85 : decode cL_drawn 85 = .ok (.istore 7, 2) := by decide +kernel
theorem dL_drawn_87 : decode cL_drawn 87 = .ok (.iload 7, 2) := by decide +kernel
theorem dL_drawn_89 : decode cL_drawn 89 = .ok (.iload_n 2, 1) := by decide +kernel
theorem dL_drawn_90 : decode cL_drawn 90 = .ok (.if_icmp .gt 32, 3) := by decide +kernel
theorem dL_drawn_93 : decode cL_drawn 93 = .ok (.iload 6, 2) := by decide +kernel
theorem dL_drawn_95 : decode cL_drawn 95 = .ok (.aload 4, 2) := by decide +kernel
theorem dL_drawn_97 : decode cL_drawn 97 = .ok (.iload 7, 2) := by decide +kernel
theorem dL_drawn_99 : decode cL_drawn 99 = .ok (.aaload, 1) := by decide +kernel
theorem dL_drawn_100 : decode cL_drawn 100 = .ok (.iload_n 2, 1) := by decide +kernel
theorem dL_drawn_101 : decode cL_drawn 101 = .ok (.iload 7, 2) := by decide +kernel
theorem dL_drawn_103 : decode cL_drawn 103 = .ok (.isub, 1) := by decide +kernel
theorem dL_drawn_104 : decode cL_drawn 104 = .ok (.iaload, 1) := by decide +kernel
theorem dL_drawn_105 : decode cL_drawn 105 = .ok (.ifCond .eq 7, 3) := by decide +kernel
theorem dL_drawn_108 : decode cL_drawn 108 = .ok (.iconst 1, 1) := by decide +kernel
theorem dL_drawn_109 : decode cL_drawn 109 = .ok (.goto 4, 3) := by decide +kernel
theorem dL_drawn_112 : decode cL_drawn 112 = .ok (.iconst 0, 1) := by decide +kernel
theorem dL_drawn_113 : decode cL_drawn 113 = .ok (.ior, 1) := by decide +kernel
theorem dL_drawn_114 : decode cL_drawn 114 = .ok (.istore 6, 2) := by decide +kernel
theorem dL_drawn_116 : decode cL_drawn 116 = .ok (.iinc 7 1, 3) := by decide +kernel
theorem dL_drawn_119 : decode cL_drawn 119 = .ok (.goto (-32), 3) := by decide +kernel
theorem dL_drawn_122 : decode cL_drawn 122 = .ok (.iload 6, 2) := by decide +kernel
theorem dL_drawn_124 : decode cL_drawn 124 = .ok (.ifCond .ne 10, 3) := by decide +kernel
theorem dL_drawn_127 : decode cL_drawn 127 = .ok (.aload 4, 2) := by decide +kernel
theorem dL_drawn_129 : decode cL_drawn 129 = .ok (.iload_n 2, 1) := by decide +kernel
theorem dL_drawn_130 : decode cL_drawn 130 = .ok (.aaload, 1) := by decide +kernel
theorem dL_drawn_131 : decode cL_drawn 131 = .ok (.iconst 0, 1) := by decide +kernel
theorem dL_drawn_132 : decode cL_drawn 132 = .ok (.iconst 1, 1) := by decide +kernel
theorem dL_drawn_133 : decode cL_drawn 133 = .ok (.iastore, 1) := by decide +kernel
theorem dL_drawn_134 : decode cL_drawn 134 = .ok (.aload 4, 2) := by decide +kernel
theorem dL_drawn_136 : decode cL_drawn 136 = .ok (.areturn, 1) := by decide +kernel
theorem dL_text_0 : decode cL_text 0 = .ok (.new 40, 3) := by decide +kernel
theorem dL_text_3 : decode cL_text 3 = .ok (.dup, 1) := by decide +kernel
theorem dL_text_4 : decode cL_text 4 = .ok (.ldc 42, 2) := by decide +kernel
theorem dL_text_6 : decode cL_text 6 = .ok (.invokespecial 44, 3) := by decide +kernel
theorem dL_text_9 : decode cL_text 9 = .ok (.astore_n 1, 1) := by decide +kernel
theorem dL_text_10 : decode cL_text 10 = .ok (.iconst 0, 1) := by decide +kernel
theorem dL_text_11 : decode cL_text 11 = .ok (.istore_n 2, 1) := by decide +kernel
theorem dL_text_12 : decode cL_text 12 = .ok (.iload_n 2, 1) := by decide +kernel
theorem dL_text_13 : decode cL_text 13 = .ok (.iconst 5, 1) := by decide +kernel
theorem dL_text_14 : decode cL_text 14 = .ok (.if_icmp .ge 63, 3) := by decide +kernel
theorem dL_text_17 : decode cL_text 17 = .ok (.iconst 0, 1) := by decide +kernel
theorem dL_text_18 : decode cL_text 18 = .ok (.istore_n 3, 1) := by decide +kernel
theorem dL_text_19 : decode cL_text 19 = .ok (.iload_n 3, 1) := by decide +kernel
theorem dL_text_20 : decode cL_text 20 = .ok (.iconst 5, 1) := by decide +kernel
theorem dL_text_21 : decode cL_text 21 = .ok (.if_icmp .ge 50, 3) := by decide +kernel
theorem dL_text_24 : decode cL_text 24 = .ok (.aload_n 0, 1) := by decide +kernel
theorem dL_text_25 : decode cL_text 25 = .ok (.iload_n 2, 1) := by decide +kernel
theorem dL_text_26 : decode cL_text 26 = .ok (.aaload, 1) := by decide +kernel
theorem dL_text_27 : decode cL_text 27 = .ok (.iload_n 3, 1) := by decide +kernel
theorem dL_text_28 : decode cL_text 28 = .ok (.iaload, 1) := by decide +kernel
theorem dL_text_29 : decode cL_text 29 = .ok (.ifCond .eq 36, 3) := by decide +kernel
theorem dL_text_32 : decode cL_text 32 = .ok (.aload_n 1, 1) := by decide +kernel
theorem dL_text_33 : decode cL_text 33 = .ok (.ldc 47, 2) := by decide +kernel
theorem dL_text_35 : decode cL_text 35 = .ok (.invokevirtual 49, 3) := by decide +kernel
theorem dL_text_38 : decode cL_text 38 = .ok (.aload_n 0, 1) := by decide +kernel
theorem dL_text_39 : decode cL_text 39 = .ok (.iload_n 2, 1) := by decide +kernel
theorem dL_text_40 : decode cL_text 40 = .ok (.aaload, 1) := by decide +kernel
theorem dL_text_41 : decode cL_text 41 = .ok (.iload_n 3, 1) := by decide +kernel
theorem dL_text_42 : decode cL_text 42 = .ok (.iaload, 1) := by decide +kernel
theorem dL_text_43 : decode cL_text 43 = .ok (.invokevirtual 53, 3) := by decide +kernel
theorem dL_text_46 : decode cL_text 46 = .ok (.ldc 56, 2) := by decide +kernel
theorem dL_text_48 : decode cL_text 48 = .ok (.invokevirtual 49, 3) := by decide +kernel
theorem dL_text_51 : decode cL_text 51 = .ok (.iload_n 2, 1) := by decide +kernel
theorem dL_text_52 : decode cL_text 52 = .ok (.invokevirtual 53, 3) := by decide +kernel
theorem dL_text_55 : decode cL_text 55 = .ok (.ldc 58, 2) := by decide +kernel
theorem dL_text_57 : decode cL_text 57 = .ok (.invokevirtual 49, 3) := by decide +kernel
theorem dL_text_60 : decode cL_text 60 = .ok (.iload_n 3, 1) := by decide +kernel
theorem dL_text_61 : decode cL_text 61 = .ok (.invokevirtual 53, 3) := by decide +kernel
theorem dL_text_64 : decode cL_text 64 = .ok (.pop, 1) := by decide +kernel
theorem dL_text_65 : decode cL_text 65 = .ok (.iinc 3 1, 3) := by decide +kernel
theorem dL_text_68 : decode cL_text 68 = .ok (.goto (-49), 3) := by decide +kernel
theorem dL_text_71 : decode cL_text 71 = .ok (.iinc 2 1, 3) := by decide +kernel
theorem dL_text_74 : decode cL_text 74 = .ok (.goto (-62), 3) := by decide +kernel
theorem dL_text_77 : decode cL_text 77 = .ok (.aload_n 1, 1) := by decide +kernel
theorem dL_text_78 : decode cL_text 78 = .ok (.invokevirtual 60, 3) := by decide +kernel
theorem dL_text_81 : decode cL_text 81 = .ok (.areturn, 1) := by decide +kernel
theorem dL_balances_0 : decode cL_balances 0 = .ok (.aload_n 0, 1) := by decide +kernel
theorem dL_balances_1 : decode cL_balances 1 = .ok (.iload_n 2, 1) := by decide +kernel
theorem dL_balances_2 : decode cL_balances 2 = .ok (.invokevirtual 78, 3) := by decide +kernel
theorem dL_balances_5 : decode cL_balances 5 = .ok (.aload_n 0, 1) := by decide +kernel
theorem dL_balances_6 : decode cL_balances 6 = .ok (.iload_n 3, 1) := by decide +kernel
theorem dL_balances_7 : decode cL_balances 7 = .ok (.invokevirtual 78, 3) := by decide +kernel
theorem dL_balances_10 : decode cL_balances 10 = .ok (.imul, 1) := by decide +kernel
theorem dL_balances_11 : decode cL_balances 11 = .ok (.istore 4, 2) := by decide +kernel
theorem dL_balances_13 : decode cL_balances 13 = .ok (.aload_n 0, 1) := by decide +kernel
theorem dL_balances_14 : decode cL_balances 14 = .ok (.iload_n 2, 1) := by decide +kernel
theorem dL_balances_15 : decode cL_balances 15 = .ok (.iload_n 3, 1) := by decide +kernel
theorem dL_balances_16 : decode cL_balances 16 = .ok (.invokevirtual 81, 3) := by decide +kernel
theorem dL_balances_19 : decode cL_balances 19 = .ok (.ifCond .eq 60, 3) := by decide +kernel
theorem dL_balances_22 : decode cL_balances 22 = .ok (.iconst 0, 1) := by decide +kernel
theorem dL_balances_23 : decode cL_balances 23 = .ok (.istore 5, 2) := by decide +kernel
theorem dL_balances_25 : decode cL_balances 25 = .ok (.iload 5, 2) := by decide +kernel
theorem dL_balances_27 : decode cL_balances 27 = .ok (.iconst 5, 1) := by decide +kernel
theorem dL_balances_28 : decode cL_balances 28 = .ok (.if_icmp .ge 23, 3) := by decide +kernel
theorem dL_balances_31 : decode cL_balances 31 = .ok (.aload_n 0, 1) := by decide +kernel
theorem dL_balances_32 : decode cL_balances 32 = .ok (.iload_n 2, 1) := by decide +kernel
theorem dL_balances_33 : decode cL_balances 33 = .ok (.iload_n 3, 1) := by decide +kernel
theorem dL_balances_34 : decode cL_balances 34 = .ok (.iload 5, 2) := by decide +kernel
theorem dL_balances_36 : decode cL_balances 36 = .ok (.invokevirtual 84, 3) := by decide +kernel
theorem dL_balances_39 : decode cL_balances 39 = .ok (.iconst (-1), 1) := by decide +kernel
theorem dL_balances_40 : decode cL_balances 40 = .ok (.if_icmp .eq 5, 3) := by decide +kernel
theorem dL_balances_43 : decode cL_balances 43 = .ok (.iconst 0, 1) := by decide +kernel
theorem dL_balances_44 : decode cL_balances 44 = .ok (.ireturn, 1) := by decide +kernel
theorem dL_balances_45 : decode cL_balances 45 = .ok (.iinc 5 1, 3) := by decide +kernel
theorem dL_balances_48 : decode cL_balances 48 = .ok (.goto (-23), 3) := by decide +kernel
theorem dL_balances_51 : decode cL_balances 51 = .ok (.aload_n 0, 1) := by decide +kernel
theorem dL_balances_52 : decode cL_balances 52 = .ok (.iload_n 2, 1) := by decide +kernel
theorem dL_balances_53 : decode cL_balances 53 = .ok (.iload_n 3, 1) := by decide +kernel
theorem dL_balances_54 : decode cL_balances 54 = .ok (.invokevirtual 81, 3) := by decide +kernel
theorem dL_balances_57 : decode cL_balances 57 = .ok (.aload_n 0, 1) := by decide +kernel
theorem dL_balances_58 : decode cL_balances 58 = .ok (.iload_n 2, 1) := by decide +kernel
theorem dL_balances_59 : decode cL_balances 59 = .ok (.invokevirtual 78, 3) := by decide +kernel
theorem dL_balances_62 : decode cL_balances 62 = .ok (.aload_n 0, 1) := by decide +kernel
theorem dL_balances_63 : decode cL_balances 63 = .ok (.iload_n 3, 1) := by decide +kernel
theorem dL_balances_64 : decode cL_balances 64 = .ok (.invokevirtual 78, 3) := by decide +kernel
theorem dL_balances_67 : decode cL_balances 67 = .ok (.invokestatic 87, 3) := by decide +kernel
theorem dL_balances_70 : decode cL_balances 70 = .ok (.if_icmp .gt 7, 3) := by decide +kernel
theorem dL_balances_73 : decode cL_balances 73 = .ok (.iconst 1, 1) := by decide +kernel
theorem dL_balances_74 : decode cL_balances 74 = .ok (.goto 4, 3) := by decide +kernel
theorem dL_balances_77 : decode cL_balances 77 = .ok (.iconst 0, 1) := by decide +kernel
theorem dL_balances_78 : decode cL_balances 78 = .ok (.ireturn, 1) := by decide +kernel
theorem dL_balances_79 : decode cL_balances 79 = .ok (.iconst 0, 1) := by decide +kernel
theorem dL_balances_80 : decode cL_balances 80 = .ok (.istore 5, 2) := by decide +kernel
theorem dL_balances_82 : decode cL_balances 82 = .ok (.iconst 0, 1) := by decide +kernel
theorem dL_balances_83 : decode cL_balances 83 = .ok (.istore 6, 2) := by decide +kernel
theorem dL_balances_85 : decode cL_balances 85 = .ok (.iconst 0, 1) := by decide +kernel
theorem dL_balances_86 : decode cL_balances 86 = .ok (.istore 7, 2) := by decide +kernel
theorem dL_balances_88 : decode cL_balances 88 = .ok (.iconst 0, 1) := by decide +kernel
theorem dL_balances_89 : decode cL_balances 89 = .ok (.istore 8, 2) := by decide +kernel
theorem dL_balances_91 : decode cL_balances 91 = .ok (.iconst (-1), 1) := by decide +kernel
theorem dL_balances_92 : decode cL_balances 92 = .ok (.istore 9, 2) := by decide +kernel
theorem dL_balances_94 : decode cL_balances 94 = .ok (.iconst 0, 1) := by decide +kernel
theorem dL_balances_95 : decode cL_balances 95 = .ok (.istore 10, 2) := by decide +kernel
theorem dL_balances_97 : decode cL_balances 97 = .ok (.iload 10, 2) := by decide +kernel
theorem dL_balances_99 : decode cL_balances 99 = .ok (.iload_n 1, 1) := by decide +kernel
theorem dL_balances_100 : decode cL_balances 100 = .ok (.iload_n 1, 1) := by decide +kernel
theorem dL_balances_101 : decode cL_balances 101 = .ok (.imul, 1) := by decide +kernel
theorem dL_balances_102 : decode cL_balances 102 = .ok (.iload_n 1, 1) := by decide +kernel
theorem dL_balances_103 : decode cL_balances 103 = .ok (.iadd, 1) := by decide +kernel
theorem dL_balances_104 : decode cL_balances 104 = .ok (.iconst 1, 1) := by decide +kernel
theorem dL_balances_105 : decode cL_balances 105 = .ok (.iadd, 1) := by decide +kernel
theorem dL_balances_106 : decode cL_balances 106 = .ok (.if_icmp .ge 284, 3) := by decide +kernel
theorem dL_balances_109 : decode cL_balances 109 = .ok (.aload_n 0, 1) := by decide +kernel
theorem dL_balances_110 : decode cL_balances 110 = .ok (.iload_n 2, 1) := by decide +kernel
theorem dL_balances_111 : decode cL_balances 111 = .ok (.iload_n 3, 1) := by decide +kernel
theorem dL_balances_112 : decode cL_balances 112 = .ok (.iload 10, 2) := by decide +kernel
theorem dL_balances_114 : decode cL_balances 114 = .ok (.invokevirtual 90, 3) := by decide +kernel
theorem dL_balances_117 : decode cL_balances 117 = .ok (.istore 11, 2) := by decide +kernel
theorem dL_balances_119 : decode cL_balances 119 = .ok (.aload_n 0, 1) := by decide +kernel
theorem dL_balances_120 : decode cL_balances 120 = .ok (.iload_n 2, 1) := by decide +kernel
theorem dL_balances_121 : decode cL_balances 121 = .ok (.iload 10, 2) := by decide +kernel
theorem dL_balances_123 : decode cL_balances 123 = .ok (.invokevirtual 93, 3) := by decide +kernel
theorem dL_balances_126 : decode cL_balances 126 = .ok (.ifCond .ne 17, 3) := by decide +kernel
theorem dL_balances_129 : decode cL_balances 129 = .ok (.aload_n 0, 1) := by decide +kernel
theorem dL_balances_130 : decode cL_balances 130 = .ok (.iload_n 3, 1) := by decide +kernel
theorem dL_balances_131 : decode cL_balances 131 = .ok (.iload 10, 2) := by decide +kernel
theorem dL_balances_133 : decode cL_balances 133 = .ok (.invokevirtual 93, 3) := by decide +kernel
theorem dL_balances_136 : decode cL_balances 136 = .ok (.ifCond .ne 7, 3) := by decide +kernel
theorem dL_balances_139 : decode cL_balances 139 = .ok (.iconst 1, 1) := by decide +kernel
theorem dL_balances_140 : decode cL_balances 140 = .ok (.goto 4, 3) := by decide +kernel
theorem dL_balances_143 : decode cL_balances 143 = .ok (.iconst 0, 1) := by decide +kernel
theorem dL_balances_144 : decode cL_balances 144 = .ok (.istore 12, 2) := by decide +kernel
theorem dL_balances_146 : decode cL_balances 146 = .ok (.iload 11, 2) := by decide +kernel
theorem dL_balances_148 : decode cL_balances 148 = .ok (.ifCond .lt 51, 3) := by decide +kernel
theorem dL_balances_151 : decode cL_balances 151 = .ok (.iload 12, 2) := by decide +kernel
theorem dL_balances_153 : decode cL_balances 153 = .ok (.iload 11, 2) := by decide +kernel
theorem dL_balances_155 : decode cL_balances 155 = .ok (.ifCond .le 7, 3) := by decide +kernel
theorem dL_balances_158 : decode cL_balances 158 = .ok (.iconst 1, 1) := by decide +kernel
theorem dL_balances_159 : decode cL_balances 159 = .ok (.goto 4, 3) := by decide +kernel
theorem dL_balances_162 : decode cL_balances 162 = .ok (.iconst 0, 1) := by decide +kernel
theorem dL_balances_163 : decode cL_balances 163 = .ok (.if_icmp .ne 36, 3) := by decide +kernel
theorem dL_balances_166 : decode cL_balances 166 = .ok (.iload 11, 2) := by decide +kernel
theorem dL_balances_168 : decode cL_balances 168 = .ok (.aload_n 0, 1) := by decide +kernel
theorem dL_balances_169 : decode cL_balances 169 = .ok (.iload_n 2, 1) := by decide +kernel
theorem dL_balances_170 : decode cL_balances 170 = .ok (.iload 10, 2) := by decide +kernel
theorem dL_balances_172 : decode cL_balances 172 = .ok (.invokevirtual 96, 3) := by decide +kernel
theorem dL_balances_175 : decode cL_balances 175 = .ok (.aload_n 0, 1) := by decide +kernel
theorem dL_balances_176 : decode cL_balances 176 = .ok (.iload_n 3, 1) := by decide +kernel
theorem dL_balances_177 : decode cL_balances 177 = .ok (.iload 10, 2) := by decide +kernel
theorem dL_balances_179 : decode cL_balances 179 = .ok (.invokevirtual 96, 3) := by decide +kernel
theorem dL_balances_182 : decode cL_balances 182 = .ok (.imul, 1) := by decide +kernel
theorem dL_balances_183 : decode cL_balances 183 = .ok (.if_icmp .lt 16, 3) := by decide +kernel
theorem dL_balances_186 : decode cL_balances 186 = .ok (.iload 11, 2) := by decide +kernel
theorem dL_balances_188 : decode cL_balances 188 = .ok (.aload_n 0, 1) := by decide +kernel
theorem dL_balances_189 : decode cL_balances 189 = .ok (.iload_n 3, 1) := by decide +kernel
theorem dL_balances_190 : decode cL_balances 190 = .ok (.iload_n 2, 1) := by decide +kernel
theorem dL_balances_191 : decode cL_balances 191 = .ok (.iload 10, 2) := by decide +kernel
theorem dL_balances_193 : decode cL_balances 193 = .ok (.invokevirtual 90, 3) := by decide +kernel
theorem dL_balances_196 : decode cL_balances 196 = .ok (.if_icmp .eq 5, 3) := by decide +kernel
theorem dL_balances_199 : decode cL_balances 199 = .ok (.iconst 0, 1) := by decide +kernel
theorem dL_balances_200 : decode cL_balances 200 = .ok (.ireturn, 1) := by decide +kernel
theorem dL_balances_201 : decode cL_balances 201 = .ok (.iload 12, 2) := by decide +kernel
theorem dL_balances_203 : decode cL_balances 203 = .ok (.ifCond .eq 18, 3) := by decide +kernel
theorem dL_balances_206 : decode cL_balances 206 = .ok (.iload 11, 2) := by decide +kernel
theorem dL_balances_208 : decode cL_balances 208 = .ok (.aload_n 0, 1) := by decide +kernel
theorem dL_balances_209 : decode cL_balances 209 = .ok (.iload_n 2, 1) := by decide +kernel
theorem dL_balances_210 : decode cL_balances 210 = .ok (.iload_n 3, 1) := by decide +kernel
theorem dL_balances_211 : decode cL_balances 211 = .ok (.iload 10, 2) := by decide +kernel
theorem dL_balances_213 : decode cL_balances 213 = .ok (.invokevirtual 99, 3) := by decide +kernel
theorem dL_balances_216 : decode cL_balances 216 = .ok (.if_icmp .eq 5, 3) := by decide +kernel
theorem dL_balances_219 : decode cL_balances 219 = .ok (.iconst 0, 1) := by decide +kernel
theorem dL_balances_220 : decode cL_balances 220 = .ok (.ireturn, 1) := by decide +kernel
theorem dL_balances_221 : decode cL_balances 221 = .ok (.iconst 0, 1) := by decide +kernel
theorem dL_balances_222 : decode cL_balances 222 = .ok (.istore 13, 2) := by decide +kernel
theorem dL_balances_224 : decode cL_balances 224 = .ok (.iconst 0, 1) := by decide +kernel
theorem dL_balances_225 : decode cL_balances 225 = .ok (.istore 14, 2) := by decide +kernel
theorem dL_balances_227 : decode cL_balances 227 = .ok (.iload 14, 2) := by decide +kernel
theorem dL_balances_229 : decode cL_balances 229 = .ok (.iconst 4, 1) := by decide +kernel
theorem dL_balances_230 : decode cL_balances 230 = .ok (.if_icmp .ge 24, 3) := by decide +kernel
theorem dL_balances_233 : decode cL_balances 233 = .ok (.iload 13, 2) := by decide +kernel
theorem dL_balances_235 : decode cL_balances 235 = .ok (.aload_n 0, 1) := by decide +kernel
theorem dL_balances_236 : decode cL_balances 236 = .ok (.iload_n 2, 1) := by decide +kernel
theorem dL_balances_237 : decode cL_balances 237 = .ok (.iload_n 3, 1) := by decide +kernel
theorem dL_balances_238 : decode cL_balances 238 = .ok (.iload 10, 2) := by decide +kernel
theorem dL_balances_240 : decode cL_balances 240 = .ok (.iload 14, 2) := by decide +kernel
theorem dL_balances_242 : decode cL_balances 242 = .ok (.invokevirtual 102, 3) := by decide +kernel
theorem dL_balances_245 : decode cL_balances 245 = .ok (.iadd, 1) := by decide +kernel
theorem dL_balances_246 : decode cL_balances 246 = .ok (.istore 13, 2) := by decide +kernel
theorem dL_balances_248 : decode cL_balances 248 = .ok (.iinc 14 1, 3) := by decide +kernel
theorem dL_balances_251 : decode cL_balances 251 = .ok (.goto (-24), 3) := by decide +kernel
theorem dL_balances_254 : decode cL_balances 254 = .ok (.aload_n 0, 1) := by decide +kernel
theorem dL_balances_255 : decode cL_balances 255 = .ok (.iload_n 2, 1) := by decide +kernel
theorem dL_balances_256 : decode cL_balances 256 = .ok (.iload_n 3, 1) := by decide +kernel
theorem dL_balances_257 : decode cL_balances 257 = .ok (.iload 10, 2) := by decide +kernel
theorem dL_balances_259 : decode cL_balances 259 = .ok (.iconst 0, 1) := by decide +kernel
theorem dL_balances_260 : decode cL_balances 260 = .ok (.invokevirtual 102, 3) := by decide +kernel
theorem dL_balances_263 : decode cL_balances 263 = .ok (.iconst 1, 1) := by decide +kernel
theorem dL_balances_264 : decode cL_balances 264 = .ok (.if_icmp .ne 32, 3) := by decide +kernel
theorem dL_balances_267 : decode cL_balances 267 = .ok (.aload_n 0, 1) := by decide +kernel
theorem dL_balances_268 : decode cL_balances 268 = .ok (.iload_n 2, 1) := by decide +kernel
theorem dL_balances_269 : decode cL_balances 269 = .ok (.iload_n 3, 1) := by decide +kernel
theorem dL_balances_270 : decode cL_balances 270 = .ok (.iload 10, 2) := by decide +kernel
theorem dL_balances_272 : decode cL_balances 272 = .ok (.iload 13, 2) := by decide +kernel
theorem dL_balances_274 : decode cL_balances 274 = .ok (.iconst 1, 1) := by decide +kernel
theorem dL_balances_275 : decode cL_balances 275 = .ok (.isub, 1) := by decide +kernel
theorem dL_balances_276 : decode cL_balances 276 = .ok (.invokevirtual 106, 3) := by decide +kernel
theorem dL_balances_279 : decode cL_balances 279 = .ok (.ifCond .ne 17, 3) := by decide +kernel
theorem dL_balances_282 : decode cL_balances 282 = .ok (.aload_n 0, 1) := by decide +kernel
theorem dL_balances_283 : decode cL_balances 283 = .ok (.iload_n 2, 1) := by decide +kernel
theorem dL_balances_284 : decode cL_balances 284 = .ok (.iload_n 3, 1) := by decide +kernel
theorem dL_balances_285 : decode cL_balances 285 = .ok (.iload 10, 2) := by decide +kernel
theorem dL_balances_287 : decode cL_balances 287 = .ok (.iload 13, 2) := by decide +kernel
theorem dL_balances_289 : decode cL_balances 289 = .ok (.invokevirtual 106, 3) := by decide +kernel
theorem dL_balances_292 : decode cL_balances 292 = .ok (.iconst (-1), 1) := by decide +kernel
theorem dL_balances_293 : decode cL_balances 293 = .ok (.if_icmp .eq 5, 3) := by decide +kernel
theorem dL_balances_296 : decode cL_balances 296 = .ok (.iconst 0, 1) := by decide +kernel
theorem dL_balances_297 : decode cL_balances 297 = .ok (.ireturn, 1) := by decide +kernel
theorem dL_balances_298 : decode cL_balances 298 = .ok (.iload 12, 2) := by decide +kernel
theorem dL_balances_300 : decode cL_balances 300 = .ok (.ifCond .ne 6, 3) := by decide +kernel
theorem dL_balances_303 : decode cL_balances 303 = .ok (.goto 81, 3) := by decide +kernel
theorem dL_balances_306 : decode cL_balances 306 = .ok (.aload_n 0, 1) := by decide +kernel
theorem dL_balances_307 : decode cL_balances 307 = .ok (.iload_n 2, 1) := by decide +kernel
theorem dL_balances_308 : decode cL_balances 308 = .ok (.iload_n 3, 1) := by decide +kernel
theorem dL_balances_309 : decode cL_balances 309 = .ok (.iload 7, 2) := by decide +kernel
theorem dL_balances_311 : decode cL_balances 311 = .ok (.iconst 0, 1) := by decide +kernel
theorem dL_balances_312 : decode cL_balances 312 = .ok (.invokevirtual 109, 3) := by decide +kernel
theorem dL_balances_315 : decode cL_balances 315 = .ok (.iload 10, 2) := by decide +kernel
theorem dL_balances_317 : decode cL_balances 317 = .ok (.if_icmp .ne 17, 3) := by decide +kernel
theorem dL_balances_320 : decode cL_balances 320 = .ok (.aload_n 0, 1) := by decide +kernel
theorem dL_balances_321 : decode cL_balances 321 = .ok (.iload_n 2, 1) := by decide +kernel
theorem dL_balances_322 : decode cL_balances 322 = .ok (.iload_n 3, 1) := by decide +kernel
theorem dL_balances_323 : decode cL_balances 323 = .ok (.iload 7, 2) := by decide +kernel
theorem dL_balances_325 : decode cL_balances 325 = .ok (.iconst 1, 1) := by decide +kernel
theorem dL_balances_326 : decode cL_balances 326 = .ok (.invokevirtual 109, 3) := by decide +kernel
theorem dL_balances_329 : decode cL_balances 329 = .ok (.iload 11, 2) := by decide +kernel
theorem dL_balances_331 : decode cL_balances 331 = .ok (.if_icmp .eq 5, 3) := by decide +kernel
theorem dL_balances_334 : decode cL_balances 334 = .ok (.iconst 0, 1) := by decide +kernel
theorem dL_balances_335 : decode cL_balances 335 = .ok (.ireturn, 1) := by decide +kernel
theorem dL_balances_336 : decode cL_balances 336 = .ok (.iinc 7 1, 3) := by decide +kernel
theorem dL_balances_339 : decode cL_balances 339 = .ok (.iload 11, 2) := by decide +kernel
theorem dL_balances_341 : decode cL_balances 341 = .ok (.iload 8, 2) := by decide +kernel
theorem dL_balances_343 : decode cL_balances 343 = .ok (.if_icmp .le 7, 3) := by decide +kernel
theorem dL_balances_346 : decode cL_balances 346 = .ok (.iload 10, 2) := by decide +kernel
theorem dL_balances_348 : decode cL_balances 348 = .ok (.istore 9, 2) := by decide +kernel
theorem dL_balances_350 : decode cL_balances 350 = .ok (.iload 8, 2) := by decide +kernel
theorem dL_balances_352 : decode cL_balances 352 = .ok (.iload 11, 2) := by decide +kernel
theorem dL_balances_354 : decode cL_balances 354 = .ok (.invokestatic 64, 3) := by decide +kernel
theorem dL_balances_357 : decode cL_balances 357 = .ok (.istore 8, 2) := by decide +kernel
theorem dL_balances_359 : decode cL_balances 359 = .ok (.iload 10, 2) := by decide +kernel
theorem dL_balances_361 : decode cL_balances 361 = .ok (.iload_n 1, 1) := by decide +kernel
theorem dL_balances_362 : decode cL_balances 362 = .ok (.iload_n 1, 1) := by decide +kernel
theorem dL_balances_363 : decode cL_balances 363 = .ok (.imul, 1) := by decide +kernel
theorem dL_balances_364 : decode cL_balances 364 = .ok (.if_icmp .ge 13, 3) := by decide +kernel
theorem dL_balances_367 : decode cL_balances 367 = .ok (.iload 5, 2) := by decide +kernel
theorem dL_balances_369 : decode cL_balances 369 = .ok (.iload 11, 2) := by decide +kernel
theorem dL_balances_371 : decode cL_balances 371 = .ok (.iadd, 1) := by decide +kernel
theorem dL_balances_372 : decode cL_balances 372 = .ok (.istore 5, 2) := by decide +kernel
theorem dL_balances_374 : decode cL_balances 374 = .ok (.goto 10, 3) := by decide +kernel
theorem dL_balances_377 : decode cL_balances 377 = .ok (.iload 6, 2) := by decide +kernel
theorem dL_balances_379 : decode cL_balances 379 = .ok (.iload 11, 2) := by decide +kernel
theorem dL_balances_381 : decode cL_balances 381 = .ok (.iadd, 1) := by decide +kernel
theorem dL_balances_382 : decode cL_balances 382 = .ok (.istore 6, 2) := by decide +kernel
theorem dL_balances_384 : decode cL_balances 384 = .ok (.iinc 10 1, 3) := by decide +kernel
theorem dL_balances_387 : decode cL_balances 387 = .ok (.goto (-290), 3) := by decide +kernel
theorem dL_balances_390 : decode cL_balances 390 = .ok (.aload_n 0, 1) := by decide +kernel
theorem dL_balances_391 : decode cL_balances 391 = .ok (.iload_n 2, 1) := by decide +kernel
theorem dL_balances_392 : decode cL_balances 392 = .ok (.iload_n 3, 1) := by decide +kernel
theorem dL_balances_393 : decode cL_balances 393 = .ok (.iconst (-1), 1) := by decide +kernel
theorem dL_balances_394 : decode cL_balances 394 = .ok (.iconst 0, 1) := by decide +kernel
theorem dL_balances_395 : decode cL_balances 395 = .ok (.invokevirtual 109, 3) := by decide +kernel
theorem dL_balances_398 : decode cL_balances 398 = .ok (.iload 7, 2) := by decide +kernel
theorem dL_balances_400 : decode cL_balances 400 = .ok (.if_icmp .ne 43, 3) := by decide +kernel
theorem dL_balances_403 : decode cL_balances 403 = .ok (.aload_n 0, 1) := by decide +kernel
theorem dL_balances_404 : decode cL_balances 404 = .ok (.iload_n 2, 1) := by decide +kernel
theorem dL_balances_405 : decode cL_balances 405 = .ok (.iload_n 3, 1) := by decide +kernel
theorem dL_balances_406 : decode cL_balances 406 = .ok (.iconst (-1), 1) := by decide +kernel
theorem dL_balances_407 : decode cL_balances 407 = .ok (.iconst 1, 1) := by decide +kernel
theorem dL_balances_408 : decode cL_balances 408 = .ok (.invokevirtual 109, 3) := by decide +kernel
theorem dL_balances_411 : decode cL_balances 411 = .ok (.iload 5, 2) := by decide +kernel
theorem dL_balances_413 : decode cL_balances 413 = .ok (.iload 6, 2) := by decide +kernel
theorem dL_balances_415 : decode cL_balances 415 = .ok (.iadd, 1) := by decide +kernel
theorem dL_balances_416 : decode cL_balances 416 = .ok (.if_icmp .ne 27, 3) := by decide +kernel
theorem dL_balances_419 : decode cL_balances 419 = .ok (.aload_n 0, 1) := by decide +kernel
theorem dL_balances_420 : decode cL_balances 420 = .ok (.iload_n 2, 1) := by decide +kernel
theorem dL_balances_421 : decode cL_balances 421 = .ok (.iload_n 3, 1) := by decide +kernel
theorem dL_balances_422 : decode cL_balances 422 = .ok (.iconst 0, 1) := by decide +kernel
theorem dL_balances_423 : decode cL_balances 423 = .ok (.invokevirtual 112, 3) := by decide +kernel
theorem dL_balances_426 : decode cL_balances 426 = .ok (.iload 8, 2) := by decide +kernel
theorem dL_balances_428 : decode cL_balances 428 = .ok (.if_icmp .ne 15, 3) := by decide +kernel
theorem dL_balances_431 : decode cL_balances 431 = .ok (.aload_n 0, 1) := by decide +kernel
theorem dL_balances_432 : decode cL_balances 432 = .ok (.iload_n 2, 1) := by decide +kernel
theorem dL_balances_433 : decode cL_balances 433 = .ok (.iload_n 3, 1) := by decide +kernel
theorem dL_balances_434 : decode cL_balances 434 = .ok (.iconst 1, 1) := by decide +kernel
theorem dL_balances_435 : decode cL_balances 435 = .ok (.invokevirtual 112, 3) := by decide +kernel
theorem dL_balances_438 : decode cL_balances 438 = .ok (.iload 9, 2) := by decide +kernel
theorem dL_balances_440 : decode cL_balances 440 = .ok (.if_icmp .eq 5, 3) := by decide +kernel
theorem dL_balances_443 : decode cL_balances 443 = .ok (.iconst 0, 1) := by decide +kernel
theorem dL_balances_444 : decode cL_balances 444 = .ok (.ireturn, 1) := by decide +kernel
theorem dL_balances_445 : decode cL_balances 445 = .ok (.aload_n 0, 1) := by decide +kernel
theorem dL_balances_446 : decode cL_balances 446 = .ok (.iload_n 2, 1) := by decide +kernel
theorem dL_balances_447 : decode cL_balances 447 = .ok (.iload_n 3, 1) := by decide +kernel
theorem dL_balances_448 : decode cL_balances 448 = .ok (.iconst 1, 1) := by decide +kernel
theorem dL_balances_449 : decode cL_balances 449 = .ok (.invokevirtual 84, 3) := by decide +kernel
theorem dL_balances_452 : decode cL_balances 452 = .ok (.istore 10, 2) := by decide +kernel
theorem dL_balances_454 : decode cL_balances 454 = .ok (.aload_n 0, 1) := by decide +kernel
theorem dL_balances_455 : decode cL_balances 455 = .ok (.iload_n 2, 1) := by decide +kernel
theorem dL_balances_456 : decode cL_balances 456 = .ok (.iload_n 3, 1) := by decide +kernel
theorem dL_balances_457 : decode cL_balances 457 = .ok (.iconst 0, 1) := by decide +kernel
theorem dL_balances_458 : decode cL_balances 458 = .ok (.invokevirtual 84, 3) := by decide +kernel
theorem dL_balances_461 : decode cL_balances 461 = .ok (.iload 4, 2) := by decide +kernel
theorem dL_balances_463 : decode cL_balances 463 = .ok (.if_icmp .ne 87, 3) := by decide +kernel
theorem dL_balances_466 : decode cL_balances 466 = .ok (.iload 10, 2) := by decide +kernel
theorem dL_balances_468 : decode cL_balances 468 = .ok (.aload_n 0, 1) := by decide +kernel
theorem dL_balances_469 : decode cL_balances 469 = .ok (.iload_n 2, 1) := by decide +kernel
theorem dL_balances_470 : decode cL_balances 470 = .ok (.iload_n 3, 1) := by decide +kernel
theorem dL_balances_471 : decode cL_balances 471 = .ok (.iconst 2, 1) := by decide +kernel
theorem dL_balances_472 : decode cL_balances 472 = .ok (.invokevirtual 84, 3) := by decide +kernel
theorem dL_balances_475 : decode cL_balances 475 = .ok (.iadd, 1) := by decide +kernel
theorem dL_balances_476 : decode cL_balances 476 = .ok (.iload 4, 2) := by decide +kernel
theorem dL_balances_478 : decode cL_balances 478 = .ok (.if_icmp .ne 72, 3) := by decide +kernel
theorem dL_balances_481 : decode cL_balances 481 = .ok (.iload 5, 2) := by decide +kernel
theorem dL_balances_483 : decode cL_balances 483 = .ok (.iload 10, 2) := by decide +kernel
theorem dL_balances_485 : decode cL_balances 485 = .ok (.if_icmp .gt 65, 3) := by decide +kernel
theorem dL_balances_488 : decode cL_balances 488 = .ok (.iload 6, 2) := by decide +kernel
theorem dL_balances_490 : decode cL_balances 490 = .ok (.iload 4, 2) := by decide +kernel
theorem dL_balances_492 : decode cL_balances 492 = .ok (.iload 10, 2) := by decide +kernel
theorem dL_balances_494 : decode cL_balances 494 = .ok (.isub, 1) := by decide +kernel
theorem dL_balances_495 : decode cL_balances 495 = .ok (.if_icmp .gt 55, 3) := by decide +kernel
theorem dL_balances_498 : decode cL_balances 498 = .ok (.aload_n 0, 1) := by decide +kernel
theorem dL_balances_499 : decode cL_balances 499 = .ok (.iload_n 2, 1) := by decide +kernel
theorem dL_balances_500 : decode cL_balances 500 = .ok (.iload_n 3, 1) := by decide +kernel
theorem dL_balances_501 : decode cL_balances 501 = .ok (.iconst 3, 1) := by decide +kernel
theorem dL_balances_502 : decode cL_balances 502 = .ok (.invokevirtual 84, 3) := by decide +kernel
theorem dL_balances_505 : decode cL_balances 505 = .ok (.iload 5, 2) := by decide +kernel
theorem dL_balances_507 : decode cL_balances 507 = .ok (.if_icmp .ne 43, 3) := by decide +kernel
theorem dL_balances_510 : decode cL_balances 510 = .ok (.aload_n 0, 1) := by decide +kernel
theorem dL_balances_511 : decode cL_balances 511 = .ok (.iload_n 2, 1) := by decide +kernel
theorem dL_balances_512 : decode cL_balances 512 = .ok (.iload_n 3, 1) := by decide +kernel
theorem dL_balances_513 : decode cL_balances 513 = .ok (.iconst 4, 1) := by decide +kernel
theorem dL_balances_514 : decode cL_balances 514 = .ok (.invokevirtual 84, 3) := by decide +kernel
theorem dL_balances_517 : decode cL_balances 517 = .ok (.iload 6, 2) := by decide +kernel
theorem dL_balances_519 : decode cL_balances 519 = .ok (.if_icmp .ne 31, 3) := by decide +kernel
theorem dL_balances_522 : decode cL_balances 522 = .ok (.aload_n 0, 1) := by decide +kernel
theorem dL_balances_523 : decode cL_balances 523 = .ok (.iload_n 2, 1) := by decide +kernel
theorem dL_balances_524 : decode cL_balances 524 = .ok (.iload_n 3, 1) := by decide +kernel
theorem dL_balances_525 : decode cL_balances 525 = .ok (.bipush 24, 2) := by decide +kernel
theorem dL_balances_527 : decode cL_balances 527 = .ok (.invokevirtual 115, 3) := by decide +kernel
theorem dL_balances_530 : decode cL_balances 530 = .ok (.iload 4, 2) := by decide +kernel
theorem dL_balances_532 : decode cL_balances 532 = .ok (.if_icmp .ne 18, 3) := by decide +kernel
theorem dL_balances_535 : decode cL_balances 535 = .ok (.aload_n 0, 1) := by decide +kernel
theorem dL_balances_536 : decode cL_balances 536 = .ok (.iload_n 2, 1) := by decide +kernel
theorem dL_balances_537 : decode cL_balances 537 = .ok (.iload_n 3, 1) := by decide +kernel
theorem dL_balances_538 : decode cL_balances 538 = .ok (.iconst 0, 1) := by decide +kernel
theorem dL_balances_539 : decode cL_balances 539 = .ok (.invokevirtual 115, 3) := by decide +kernel
theorem dL_balances_542 : decode cL_balances 542 = .ok (.iconst 1, 1) := by decide +kernel
theorem dL_balances_543 : decode cL_balances 543 = .ok (.if_icmp .ne 7, 3) := by decide +kernel
theorem dL_balances_546 : decode cL_balances 546 = .ok (.iconst 1, 1) := by decide +kernel
theorem dL_balances_547 : decode cL_balances 547 = .ok (.goto 4, 3) := by decide +kernel
theorem dL_balances_550 : decode cL_balances 550 = .ok (.iconst 0, 1) := by decide +kernel
theorem dL_balances_551 : decode cL_balances 551 = .ok (.ireturn, 1) := by decide +kernel
set_option maxRecDepth 20000 in
theorem ggL_word_J0_length_8abf5 : GoodIn wsL_word wsJ0_length_8abf5 := goodIn_r _ [5, 6, 7, 8, 9, 4, 10, 11, 12, 50, 51, 52, 53] rfl (by decide +kernel)
set_option maxRecDepth 20000 in
theorem gL_word_J0_length_8abf5 : GoodIn wsL_word (wsV RL 8 RJ0 yJ0_length_8abf5 wsJ0_length_8abf5) := goodIn_app (goodIn_of _ (by decide +kernel)) ggL_word_J0_length_8abf5
set_option maxRecDepth 20000 in
theorem ggL_word_J0_charAt_5068e : GoodIn wsL_word wsJ0_charAt_5068e := goodIn_r _ [16, 6, 17, 18, 19, 4, 20, 11, 12, 21, 22, 23, 24, 25, 26, 27, 28, 29, 30, 31, 32, 33, 34, 35, 36, 37, 38, 39, 40, 41, 42, 43, 44, 45, 46, 47, 48, 49, 50, 51, 52, 53] rfl (by decide +kernel)
set_option maxRecDepth 20000 in
theorem gL_word_J0_charAt_5068e : GoodIn wsL_word (wsV RL 14 RJ0 yJ0_charAt_5068e wsJ0_charAt_5068e) := goodIn_app (goodIn_of _ (by decide +kernel)) ggL_word_J0_charAt_5068e
set_option maxRecDepth 20000 in
theorem ggL_feed_J0_length_8abf5 : GoodIn wsL_feed wsJ0_length_8abf5 := goodIn_r _ [5, 6, 7, 8, 9, 4, 10, 11, 12, 81, 82, 83, 84] rfl (by decide +kernel)
set_option maxRecDepth 20000 in
theorem gL_feed_J0_length_8abf5 : GoodIn wsL_feed (wsV RL 8 RJ0 yJ0_length_8abf5 wsJ0_length_8abf5) := goodIn_app (goodIn_of _ (by decide +kernel)) ggL_feed_J0_length_8abf5
set_option maxRecDepth 20000 in
theorem ggL_feed_L_word : GoodIn wsL_feed wsL_word := goodIn_r _ [16, 1, 2, 3, 4, 5, 6, 7, 8, 9, 10, 11, 12, 17, 18, 19, 20, 21, 22, 23, 24, 25, 26, 27, 28, 29, 30, 31, 32, 33, 34, 35, 36, 37, 38, 39, 40, 41, 42, 43, 44, 45, 46, 47, 48, 49, 50, 51, 52, 53, 81, 82, 83, 84] rfl (by decide +kernel)
set_option maxRecDepth 20000 in
theorem gL_feed_L_word : GoodIn wsL_feed (va_wsS RL 18 yL_word wsL_word) := goodIn_app (goodIn_of _ (by decide +kernel)) ggL_feed_L_word
set_option maxRecDepth 20000 in
theorem ggL_feed_X11_feed : GoodIn wsL_feed wsX11_feed := goodIn_r _ [58, 59, 60, 61, 62, 63, 64, 65, 66, 67, 68, 69, 57, 70, 71, 72, 73, 74, 75, 76, 85, 86, 87, 88, 89, 90, 91, 92, 93, 94, 95, 96, 97, 98, 99, 100, 101, 102, 103, 104, 105, 106, 107, 108, 109, 110] rfl (by decide +kernel)
set_option maxRecDepth 20000 in
theorem gL_feed_X11_feed : GoodIn wsL_feed (wsV RL 24 RX11 yX11_feed wsX11_feed) := goodIn_app (goodIn_of _ (by decide +kernel)) ggL_feed_X11_feed
set_option maxRecDepth 20000 in
theorem ggL_feed_X11_end : GoodIn wsL_feed wsX11_end := goodIn_r _ [80, 59, 60, 67, 68, 69, 57, 70, 71, 85, 86, 87, 88, 89, 90, 91, 92, 93, 94, 95, 96, 97, 98, 99, 100, 101, 102, 103, 104, 105, 106, 107, 108, 109, 110] rfl (by decide +kernel)
set_option maxRecDepth 20000 in
theorem gL_feed_X11_end : GoodIn wsL_feed (wsV RL 30 RX11 yX11_end wsX11_end) := goodIn_app (goodIn_of _ (by decide +kernel)) ggL_feed_X11_end
set_option maxRecDepth 20000 in
theorem ggL_drawn_L_pick : GoodIn wsL_drawn wsL_pick := goodIn_r _ [6, 7] rfl (by decide +kernel)
set_option maxRecDepth 20000 in
theorem gL_drawn_L_pick : GoodIn wsL_drawn (va_wsS RL 36 yL_pick wsL_pick) := goodIn_app (goodIn_of _ (by decide +kernel)) ggL_drawn_L_pick
set_option maxRecDepth 20000 in
theorem ggL_text_J4_init_a7421 : GoodIn wsL_text wsJ4_init_a7421 := goodIn_r _ [6, 7, 8, 9, 10, 11, 12, 13, 14, 15, 16, 17, 18, 19, 20, 21, 22, 23, 24, 25, 26, 27, 28, 29, 30, 31, 32, 33, 34, 35, 36, 37, 38, 39, 40, 41, 42, 43, 44, 3, 45, 46, 47, 48, 49, 50, 51, 52, 53, 54, 55, 56, 57, 58, 59, 60, 61, 62, 63, 64, 65, 66, 67, 68, 69, 70, 71, 72, 73, 74, 75, 76, 77, 78, 79, 80, 81, 82, 83, 84, 85, 86, 87, 88, 89, 90, 91, 92, 93, 94, 95, 96, 97, 98, 99, 100, 101, 102, 103, 104, 105, 106, 107, 108, 109, 110, 111, 112, 113, 114, 115, 116, 117, 118, 119, 120, 121, 122, 123, 124, 125, 126, 127, 128, 129, 130, 131, 132, 133, 134, 135, 136, 137, 138, 139, 140, 141, 142, 143, 144, 145, 146, 147, 148, 149, 150, 151, 152, 153, 154, 155, 156, 157, 158, 159, 160, 161, 162, 163, 164, 242, 243, 244, 245, 246, 247, 248, 249] rfl (by decide +kernel)
set_option maxRecDepth 20000 in
theorem gL_text_J4_init_a7421 : GoodIn wsL_text (wsJ4_init_a7421) := ggL_text_J4_init_a7421
set_option maxRecDepth 20000 in
theorem ggL_text_J4_append_15ec4 : GoodIn wsL_text wsJ4_append_15ec4 := goodIn_r _ [49, 50, 41, 51, 52, 9, 53, 54, 55, 56, 57, 58, 59, 18, 60, 61, 62, 63, 64, 16, 65, 66, 67, 68, 69, 15, 70, 71, 72, 73, 74, 75, 76, 77, 78, 79, 80, 81, 82, 83, 84, 85, 86, 87, 88, 89, 90, 91, 17, 92, 93, 94, 95, 96, 97, 98, 99, 100, 101, 102, 103, 104, 105, 106, 34, 107, 108, 109, 110, 111, 112, 113, 114, 115, 116, 22, 117, 118, 119, 120, 121, 122, 123, 124, 125, 126, 127, 19, 20, 21, 23, 24, 25, 26, 27, 28, 29, 30, 128, 129, 130, 131, 132, 133, 134, 135, 136, 137, 31, 138, 139, 140, 141, 142, 32, 33, 35, 36, 37, 38, 39, 143, 144, 145, 146, 147, 148, 149, 150, 151, 152, 153, 154, 155, 156, 157, 158, 159, 160, 161, 162, 163, 164, 242, 243, 244, 245, 246, 247, 248, 249] rfl (by decide +kernel)
set_option maxRecDepth 20000 in
theorem gL_text_J4_append_15ec4 : GoodIn wsL_text (wsV RL 49 RJ4 yJ4_append_15ec4 wsJ4_append_15ec4) := goodIn_app (goodIn_of _ (by decide +kernel)) ggL_text_J4_append_15ec4
set_option maxRecDepth 20000 in
theorem ggL_text_J4_append_bf812 : GoodIn wsL_text wsJ4_append_bf812 := goodIn_r _ [169, 170, 171, 51, 172, 9, 173, 54, 18, 174, 175, 176, 177, 60, 61, 62, 63, 64, 16, 65, 66, 67, 68, 69, 15, 70, 71, 72, 73, 74, 75, 76, 77, 78, 79, 80, 81, 82, 83, 84, 85, 86, 87, 88, 89, 90, 91, 17, 92, 93, 94, 95, 96, 97, 98, 99, 100, 101, 102, 103, 104, 178, 179, 180, 181, 182, 183, 184, 34, 185, 108, 109, 110, 111, 112, 113, 114, 115, 116, 22, 117, 118, 119, 120, 121, 122, 186, 187, 188, 189, 190, 123, 124, 125, 126, 127, 242, 243, 244, 245] rfl (by decide +kernel)
set_option maxRecDepth 20000 in
theorem gL_text_J4_append_bf812 : GoodIn wsL_text (wsV RL 53 RJ4 yJ4_append_bf812 wsJ4_append_bf812) := goodIn_app (goodIn_of _ (by decide +kernel)) ggL_text_J4_append_bf812
set_option maxRecDepth 20000 in
theorem ggL_text_J4_toString_0e30d : GoodIn wsL_text wsJ4_toString_0e30d := goodIn_r _ [194, 195, 196, 22, 197, 198, 199, 200, 201, 202, 203, 12, 13, 30, 24, 29, 204, 205, 206, 207, 208, 9, 209, 18, 210, 211, 212, 213, 214, 3, 215, 216, 51, 217, 218, 54, 219, 100, 101, 102, 103, 104, 16, 220, 221, 84, 222, 86, 87, 88, 89, 90, 91, 223, 224, 225, 17, 92, 93, 76, 94, 95, 96, 97, 98, 226, 227, 228, 229, 230, 34, 231, 232, 233, 234, 150, 151, 152, 112, 113, 114, 153, 154, 155, 118, 156, 157, 121, 158, 235, 236, 237, 108, 126, 127, 36, 37, 38, 39, 238, 239, 240, 241, 246, 247, 248, 249, 242, 243, 244, 245] rfl (by decide +kernel)
set_option maxRecDepth 20000 in
theorem gL_text_J4_toString_0e30d : GoodIn wsL_text (wsV RL 60 RJ4 yJ4_toString_0e30d wsJ4_toString_0e30d) := goodIn_app (goodIn_of _ (by decide +kernel)) ggL_text_J4_toString_0e30d
set_option maxRecDepth 20000 in
theorem ggL_balances_X11_degree : GoodIn wsL_balances wsX11_degree := goodIn_r _ [12, 13, 14, 15, 16, 17, 18, 19, 20, 21, 22, 23, 24, 25, 26, 27, 6, 3, 7, 358, 359, 360, 361, 362, 363, 364, 365, 366, 367, 368, 369, 370, 371, 372, 373, 374, 375] rfl (by decide +kernel)
set_option maxRecDepth 20000 in
theorem gL_balances_X11_degree : GoodIn wsL_balances (wsV RL 78 RX11 yX11_degree wsX11_degree) := goodIn_app (goodIn_of _ (by decide +kernel)) ggL_balances_X11_degree
set_option maxRecDepth 20000 in
theorem ggL_balances_X11_common : GoodIn wsL_balances wsX11_common := goodIn_r _ [31, 13, 32, 33, 14, 15, 16, 17, 18, 19, 20, 34, 35, 36, 37, 38, 39, 40, 41, 42, 43, 44, 45, 46, 47, 48, 49, 2, 3, 4, 50, 51, 52, 53, 54, 22, 23, 24, 25, 26, 27, 6, 7, 55, 56, 57, 58, 59, 60, 61, 62, 63, 64, 65, 66, 67, 68, 69, 70, 71, 72, 73, 74, 75, 76, 77, 78, 79, 80, 81, 82, 11, 83, 84, 85, 86, 87, 88, 89, 90, 91, 92, 93, 94, 95, 96, 97, 98, 99, 100, 101, 102, 103, 104, 105, 106, 107, 108, 109, 110, 111, 112, 113, 114, 115, 116, 117, 118, 119, 120, 121, 122, 123, 124, 125, 126, 127, 128, 129, 130, 21, 358, 359, 360, 361, 362, 363, 364, 365, 366, 367, 368, 369, 370, 371, 372, 373, 374, 376, 377, 378, 379, 380, 381, 382, 383, 384, 385, 375] rfl (by decide +kernel)
set_option maxRecDepth 20000 in
theorem gL_balances_X11_common : GoodIn wsL_balances (wsV RL 81 RX11 yX11_common wsX11_common) := goodIn_app (goodIn_of _ (by decide +kernel)) ggL_balances_X11_common
set_option maxRecDepth 20000 in
theorem ggL_balances_X11_total : GoodIn wsL_balances wsX11_total := goodIn_r _ [134, 13, 32, 33, 135, 14, 15, 16, 17, 18, 19, 20, 34, 35, 36, 37, 38, 39, 40, 41, 42, 43, 44, 45, 46, 47, 48, 49, 2, 3, 4, 50, 51, 52, 53, 54, 22, 23, 24, 25, 26, 27, 6, 7, 55, 56, 57, 58, 59, 60, 61, 62, 63, 64, 65, 66, 67, 68, 69, 70, 71, 72, 73, 74, 75, 76, 77, 78, 79, 80, 81, 82, 11, 83, 84, 85, 86, 87, 88, 89, 90, 91, 92, 93, 94, 95, 96, 97, 98, 99, 100, 101, 102, 103, 104, 105, 106, 107, 108, 109, 110, 111, 112, 113, 114, 115, 116, 117, 118, 119, 120, 121, 122, 123, 124, 125, 126, 127, 128, 129, 130, 21, 136, 137, 138, 139, 140, 141, 142, 143, 144, 145, 146, 147, 148, 149, 150, 151, 152, 153, 154, 155, 156, 157, 158, 159, 160, 161, 162, 163, 164, 165, 166, 167, 168, 169, 170, 171, 172, 173, 174, 175, 176, 177, 178, 179, 180, 181, 182, 183, 184, 185, 186, 187, 188, 189, 190, 191, 192, 193, 194, 195, 196, 197, 198, 199, 200, 201, 202, 203, 204, 205, 206, 207, 208, 209, 210, 211, 212, 213, 214, 215, 216, 217, 218, 219, 220, 221, 222, 223, 224, 225, 226, 227, 228, 229, 230, 231, 232, 233, 234, 235, 236, 237, 238, 239, 240, 241, 242, 243, 244, 245, 246, 247, 248, 249, 250, 251, 252, 253, 254, 255, 256, 257, 258, 259, 260, 261, 262, 263, 264, 265, 266, 267, 268, 269, 270, 271, 272, 273, 274, 275, 276, 277, 278, 279, 280, 281, 282, 283, 284, 285, 286, 287, 288, 289, 290, 291, 292, 293, 294, 295, 296, 297, 298, 358, 359, 360, 361, 362, 363, 364, 365, 366, 367, 368, 369, 370, 371, 372, 373, 374, 376, 377, 378, 379, 380, 381, 382, 383, 384, 385, 375, 386, 387, 388, 389, 390, 391, 392, 393, 394, 395, 396, 397, 398, 399, 400, 401, 402, 403, 404, 405, 406, 407, 408] rfl (by decide +kernel)
set_option maxRecDepth 20000 in
theorem gL_balances_X11_total : GoodIn wsL_balances (wsV RL 84 RX11 yX11_total wsX11_total) := goodIn_app (goodIn_of _ (by decide +kernel)) ggL_balances_X11_total
set_option maxRecDepth 20000 in
theorem ggL_balances_X11_times : GoodIn wsL_balances wsX11_times := goodIn_r _ [302, 13, 33, 32, 14, 15, 16, 17, 18, 19, 20, 303, 207, 201, 208, 209, 210, 211, 34, 35, 36, 37, 38, 39, 40, 41, 42, 43, 44, 45, 46, 47, 48, 49, 2, 3, 4, 50, 51, 52, 53, 54, 22, 23, 24, 25, 26, 27, 6, 7, 55, 56, 57, 58, 59, 60, 61, 62, 63, 64, 65, 66, 67, 68, 69, 70, 71, 72, 73, 74, 75, 76, 77, 78, 79, 80, 81, 82, 11, 83, 84, 85, 86, 87, 88, 89, 90, 91, 92, 93, 94, 95, 96, 97, 98, 99, 100, 101, 102, 103, 104, 105, 106, 107, 108, 109, 110, 111, 112, 113, 114, 115, 116, 117, 118, 119, 120, 121, 122, 123, 124, 125, 126, 127, 128, 129, 130, 217, 218, 219, 220, 197, 221, 222, 223, 224, 225, 198, 199, 200, 202, 203, 204, 205, 206, 212, 213, 214, 215, 216, 226, 227, 228, 229, 230, 231, 232, 233, 234, 235, 236, 237, 238, 239, 240, 241, 242, 243, 244, 245, 246, 247, 248, 249, 250, 251, 252, 253, 254, 255, 256, 257, 258, 259, 260, 261, 262, 263, 264, 265, 266, 267, 268, 269, 270, 271, 272, 273, 274, 275, 276, 277, 278, 279, 280, 281, 282, 283, 284, 285, 286, 287, 288, 289, 290, 291, 292, 293, 294, 295, 296, 297, 358, 359, 360, 361, 362, 363, 364, 365, 366, 367, 368, 369, 370, 371, 372, 373, 374, 376, 377, 378, 379, 380, 381, 382, 383, 384, 385, 375, 400, 401, 402, 397, 398, 399, 403, 404, 405, 406, 407, 408] rfl (by decide +kernel)
set_option maxRecDepth 20000 in
theorem gL_balances_X11_times : GoodIn wsL_balances (wsV RL 90 RX11 yX11_times wsX11_times) := goodIn_app (goodIn_of _ (by decide +kernel)) ggL_balances_X11_times
set_option maxRecDepth 20000 in
theorem ggL_balances_X11_value : GoodIn wsL_balances wsX11_value := goodIn_r _ [307, 13, 197, 33, 14, 15, 16, 17, 18, 19, 20, 198, 199, 200, 201, 202, 203, 204, 205, 206, 207, 208, 209, 210, 211, 212, 213, 214, 215, 216, 22, 23, 24, 25, 26, 27, 6, 3, 7, 358, 359, 360, 361, 362, 363, 364, 365, 366, 367, 368, 369, 370, 371, 372, 373, 374, 397, 398, 399, 375] rfl (by decide +kernel)
set_option maxRecDepth 20000 in
theorem gL_balances_X11_value : GoodIn wsL_balances (wsV RL 93 RX11 yX11_value wsX11_value) := goodIn_app (goodIn_of _ (by decide +kernel)) ggL_balances_X11_value
set_option maxRecDepth 20000 in
theorem ggL_balances_X11_order : GoodIn wsL_balances wsX11_order := goodIn_r _ [311, 222, 312, 313, 314, 11, 315, 13, 197, 33, 14, 15, 16, 17, 18, 19, 20, 198, 199, 200, 201, 202, 203, 204, 205, 206, 207, 208, 209, 210, 211, 226, 227, 228, 229, 230, 231, 232, 233, 234, 91, 92, 24, 93, 26, 235, 22, 23, 25, 27, 6, 3, 7, 236, 63, 64, 65, 66, 67, 68, 237, 238, 239, 240, 241, 242, 243, 244, 245, 246, 247, 248, 249, 250, 251, 84, 85, 252, 253, 254, 255, 121, 122, 99, 100, 101, 256, 257, 258, 259, 316, 317, 318, 319, 320, 117, 118, 119, 120, 2, 4, 358, 359, 360, 361, 362, 363, 364, 365, 366, 367, 368, 369, 370, 371, 372, 373, 374, 397, 398, 399, 400, 401, 402, 375] rfl (by decide +kernel)
set_option maxRecDepth 20000 in
theorem gL_balances_X11_order : GoodIn wsL_balances (wsV RL 96 RX11 yX11_order wsX11_order) := goodIn_app (goodIn_of _ (by decide +kernel)) ggL_balances_X11_order
set_option maxRecDepth 20000 in
theorem ggL_balances_X11_size : GoodIn wsL_balances wsX11_size := goodIn_r _ [324, 13, 197, 33, 222, 223, 135, 225, 14, 15, 16, 17, 18, 19, 20, 198, 199, 200, 201, 202, 203, 204, 205, 206, 207, 208, 209, 210, 211, 226, 227, 228, 229, 230, 231, 232, 233, 234, 91, 92, 24, 93, 26, 235, 22, 23, 25, 27, 6, 3, 7, 236, 63, 64, 65, 66, 67, 68, 237, 238, 239, 240, 241, 242, 243, 244, 245, 246, 247, 248, 249, 11, 250, 251, 84, 85, 252, 253, 254, 255, 121, 122, 99, 100, 101, 256, 257, 258, 259, 325, 326, 327, 139, 328, 152, 144, 145, 146, 147, 148, 149, 150, 151, 153, 154, 141, 143, 155, 156, 157, 158, 159, 117, 118, 119, 120, 2, 4, 160, 45, 46, 47, 48, 49, 50, 51, 52, 53, 162, 163, 164, 165, 166, 167, 168, 169, 170, 171, 172, 173, 174, 175, 176, 177, 178, 179, 82, 83, 180, 181, 182, 183, 142, 184, 185, 186, 187, 188, 74, 75, 76, 77, 78, 79, 80, 81, 358, 359, 360, 361, 362, 363, 364, 365, 366, 367, 368, 369, 370, 371, 372, 373, 374, 400, 401, 402, 397, 398, 399, 375, 386, 387, 388, 389, 390, 391, 392, 393, 394, 395, 396, 381, 382, 383, 384, 385] rfl (by decide +kernel)
set_option maxRecDepth 20000 in
theorem gL_balances_X11_size : GoodIn wsL_balances (wsV RL 99 RX11 yX11_size wsX11_size) := goodIn_app (goodIn_of _ (by decide +kernel)) ggL_balances_X11_size
set_option maxRecDepth 20000 in
theorem ggL_balances_X11_rules : GoodIn wsL_balances wsX11_rules := goodIn_r _ [332, 224, 333, 334, 300, 301, 11, 302, 13, 33, 32, 14, 15, 16, 17, 18, 19, 20, 303, 207, 201, 208, 209, 210, 211, 34, 35, 36, 37, 38, 39, 40, 41, 42, 43, 44, 45, 46, 47, 48, 49, 2, 3, 4, 50, 51, 52, 53, 54, 22, 23, 24, 25, 26, 27, 6, 7, 55, 56, 57, 58, 59, 60, 61, 62, 63, 64, 65, 66, 67, 68, 69, 70, 71, 72, 73, 74, 75, 76, 77, 78, 79, 80, 81, 82, 83, 84, 85, 86, 87, 88, 89, 90, 91, 92, 93, 94, 95, 96, 97, 98, 99, 100, 101, 102, 103, 104, 105, 106, 107, 108, 109, 110, 111, 112, 113, 114, 115, 116, 117, 118, 119, 120, 121, 122, 123, 124, 125, 126, 127, 128, 129, 130, 217, 218, 219, 220, 197, 221, 222, 223, 225, 198, 199, 200, 202, 203, 204, 205, 206, 212, 213, 214, 215, 216, 226, 227, 228, 229, 230, 231, 232, 233, 234, 235, 236, 237, 238, 239, 240, 241, 242, 243, 244, 245, 246, 247, 248, 249, 250, 251, 252, 253, 254, 255, 256, 257, 258, 259, 260, 261, 262, 263, 264, 265, 266, 267, 268, 269, 270, 271, 272, 273, 274, 275, 276, 277, 278, 279, 280, 281, 282, 283, 284, 285, 286, 287, 288, 289, 290, 291, 292, 293, 294, 295, 296, 297, 358, 359, 360, 361, 362, 363, 364, 365, 366, 367, 368, 369, 370, 403, 404, 405, 406, 407, 408, 371, 372, 373, 374, 376, 377, 378, 379, 380, 381, 382, 383, 384, 385, 375, 400, 401, 402, 397, 398, 399] rfl (by decide +kernel)
set_option maxRecDepth 20000 in
theorem gL_balances_X11_rules : GoodIn wsL_balances (wsV RL 102 RX11 yX11_rules wsX11_rules) := goodIn_app (goodIn_of _ (by decide +kernel)) ggL_balances_X11_rules
set_option maxRecDepth 20000 in
theorem ggL_balances_X11_rule : GoodIn wsL_balances wsX11_rule := goodIn_r _ [338, 224, 334, 300, 301, 11, 302, 13, 33, 32, 14, 15, 16, 17, 18, 19, 20, 303, 207, 201, 208, 209, 210, 211, 34, 35, 36, 37, 38, 39, 40, 41, 42, 43, 44, 45, 46, 47, 48, 49, 2, 3, 4, 50, 51, 52, 53, 54, 22, 23, 24, 25, 26, 27, 6, 7, 55, 56, 57, 58, 59, 60, 61, 62, 63, 64, 65, 66, 67, 68, 69, 70, 71, 72, 73, 74, 75, 76, 77, 78, 79, 80, 81, 82, 83, 84, 85, 86, 87, 88, 89, 90, 91, 92, 93, 94, 95, 96, 97, 98, 99, 100, 101, 102, 103, 104, 105, 106, 107, 108, 109, 110, 111, 112, 113, 114, 115, 116, 117, 118, 119, 120, 121, 122, 123, 124, 125, 126, 127, 128, 129, 130, 217, 218, 219, 220, 197, 221, 222, 223, 225, 198, 199, 200, 202, 203, 204, 205, 206, 212, 213, 214, 215, 216, 226, 227, 228, 229, 230, 231, 232, 233, 234, 235, 236, 237, 238, 239, 240, 241, 242, 243, 244, 245, 246, 247, 248, 249, 250, 251, 252, 253, 254, 255, 256, 257, 258, 259, 260, 261, 262, 263, 264, 265, 266, 267, 268, 269, 270, 271, 272, 273, 274, 275, 276, 277, 278, 279, 280, 281, 282, 283, 284, 285, 286, 287, 288, 289, 290, 291, 292, 293, 294, 295, 296, 297, 339, 340, 341, 342, 358, 359, 360, 361, 362, 363, 364, 365, 366, 367, 368, 369, 370, 371, 372, 373, 374, 376, 377, 378, 379, 380, 381, 382, 383, 384, 385, 375, 400, 401, 402, 397, 398, 399, 403, 404, 405, 406, 407, 408] rfl (by decide +kernel)
set_option maxRecDepth 20000 in
theorem gL_balances_X11_rule : GoodIn wsL_balances (wsV RL 106 RX11 yX11_rule wsX11_rule) := goodIn_app (goodIn_of _ (by decide +kernel)) ggL_balances_X11_rule
set_option maxRecDepth 20000 in
theorem ggL_balances_X11_meet : GoodIn wsL_balances wsX11_meet := goodIn_r _ [346, 13, 32, 33, 14, 15, 16, 17, 18, 19, 20, 34, 35, 36, 37, 38, 39, 40, 41, 42, 43, 44, 45, 46, 47, 48, 49, 2, 3, 4, 50, 51, 52, 53, 54, 22, 23, 24, 25, 26, 27, 6, 7, 55, 56, 57, 58, 59, 60, 61, 62, 63, 64, 65, 66, 67, 68, 69, 70, 71, 72, 73, 74, 75, 76, 77, 78, 79, 80, 81, 82, 11, 83, 84, 85, 86, 87, 88, 89, 90, 91, 92, 93, 94, 95, 96, 97, 98, 99, 100, 101, 102, 103, 104, 105, 106, 107, 108, 109, 110, 111, 112, 113, 114, 115, 116, 117, 118, 119, 120, 121, 122, 123, 124, 125, 126, 127, 128, 129, 130, 298, 210, 201, 211, 189, 190, 191, 192, 193, 194, 195, 196, 197, 198, 199, 200, 202, 203, 204, 205, 206, 207, 208, 209, 212, 213, 214, 215, 216, 217, 218, 219, 220, 221, 222, 223, 224, 225, 226, 227, 228, 229, 230, 231, 232, 233, 234, 235, 236, 237, 238, 239, 240, 241, 242, 243, 244, 245, 246, 247, 248, 249, 250, 251, 252, 253, 254, 255, 256, 257, 258, 259, 260, 261, 262, 263, 264, 265, 266, 267, 268, 269, 270, 271, 272, 273, 274, 275, 276, 277, 278, 279, 280, 281, 282, 283, 284, 285, 286, 287, 288, 289, 290, 291, 292, 293, 294, 295, 296, 297, 358, 359, 360, 361, 362, 363, 364, 365, 366, 367, 368, 369, 370, 371, 372, 373, 374, 376, 377, 378, 379, 380, 381, 382, 383, 384, 385, 375, 397, 398, 399, 400, 401, 402, 403, 404, 405, 406, 407, 408] rfl (by decide +kernel)
set_option maxRecDepth 20000 in
theorem gL_balances_X11_meet : GoodIn wsL_balances (wsV RL 109 RX11 yX11_meet wsX11_meet) := goodIn_app (goodIn_of _ (by decide +kernel)) ggL_balances_X11_meet
set_option maxRecDepth 20000 in
theorem ggL_balances_X11_most : GoodIn wsL_balances wsX11_most := goodIn_r _ [350, 13, 32, 33, 14, 15, 16, 17, 18, 19, 20, 34, 35, 36, 37, 38, 39, 40, 41, 42, 43, 44, 45, 46, 47, 48, 49, 2, 3, 4, 50, 51, 52, 53, 54, 22, 23, 24, 25, 26, 27, 6, 7, 55, 56, 57, 58, 59, 60, 61, 62, 63, 64, 65, 66, 67, 68, 69, 70, 71, 72, 73, 74, 75, 76, 77, 78, 79, 80, 81, 82, 11, 83, 84, 85, 86, 87, 88, 89, 90, 91, 92, 93, 94, 95, 96, 97, 98, 99, 100, 101, 102, 103, 104, 105, 106, 107, 108, 109, 110, 111, 112, 113, 114, 115, 116, 117, 118, 119, 120, 121, 122, 123, 124, 125, 126, 127, 128, 129, 130, 298, 210, 201, 211, 193, 194, 195, 196, 197, 198, 199, 200, 202, 203, 204, 205, 206, 207, 208, 209, 212, 213, 214, 215, 216, 217, 218, 219, 220, 221, 222, 223, 224, 225, 226, 227, 228, 229, 230, 231, 232, 233, 234, 235, 236, 237, 238, 239, 240, 241, 242, 243, 244, 245, 246, 247, 248, 249, 250, 251, 252, 253, 254, 255, 256, 257, 258, 259, 260, 261, 262, 263, 264, 265, 266, 267, 268, 269, 270, 271, 272, 273, 274, 275, 276, 277, 278, 279, 280, 281, 282, 283, 284, 285, 286, 287, 288, 289, 290, 291, 292, 293, 294, 295, 296, 297, 358, 359, 360, 361, 362, 363, 364, 365, 366, 367, 368, 369, 370, 371, 372, 373, 374, 376, 377, 378, 379, 380, 381, 382, 383, 384, 385, 375, 397, 398, 399, 400, 401, 402, 403, 404, 405, 406, 407, 408] rfl (by decide +kernel)
set_option maxRecDepth 20000 in
theorem gL_balances_X11_most : GoodIn wsL_balances (wsV RL 112 RX11 yX11_most wsX11_most) := goodIn_app (goodIn_of _ (by decide +kernel)) ggL_balances_X11_most
set_option maxRecDepth 20000 in
theorem ggL_balances_X11_parts : GoodIn wsL_balances wsX11_parts := goodIn_r _ [354, 13, 32, 33, 14, 15, 16, 17, 18, 19, 20, 21, 22, 23, 24, 25, 26, 27, 6, 3, 7, 34, 35, 36, 37, 38, 39, 40, 41, 42, 43, 44, 45, 46, 47, 48, 49, 2, 4, 50, 51, 52, 53, 54, 55, 56, 57, 58, 59, 60, 61, 62, 63, 64, 65, 66, 67, 68, 69, 70, 71, 72, 73, 74, 75, 76, 77, 78, 79, 80, 81, 82, 11, 83, 84, 85, 86, 87, 88, 89, 90, 91, 92, 93, 94, 95, 96, 97, 98, 99, 100, 101, 102, 103, 104, 105, 106, 107, 108, 109, 110, 111, 112, 113, 114, 115, 116, 117, 118, 119, 120, 121, 122, 123, 124, 125, 126, 127, 128, 129, 130, 355, 356, 357, 358, 359, 360, 361, 362, 363, 364, 365, 366, 367, 368, 369, 370, 371, 372, 373, 374, 375, 376, 377, 378, 379, 380, 381, 382, 383, 384, 385] rfl (by decide +kernel)
set_option maxRecDepth 20000 in
theorem gL_balances_X11_parts : GoodIn wsL_balances (wsV RL 115 RX11 yX11_parts wsX11_parts) := goodIn_app (goodIn_of _ (by decide +kernel)) ggL_balances_X11_parts
end ZLh
